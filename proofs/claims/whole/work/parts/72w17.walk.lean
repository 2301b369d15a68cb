def tb_X12_friends : gT := [(0, .aload_n 0, 1, 0), (1, .iload_n 1, 1, 0), (2, .invokevirtual 177, 3, 0), (5, .ifCond .eq 34, 3, 0), (8, .aload_n 0, 1, 0), (9, .iload_n 2, 1, 0), (10, .invokevirtual 177, 3, 0), (13, .ifCond .eq 26, 3, 0), (16, .iload_n 1, 1, 0), (17, .iload_n 2, 1, 0), (18, .if_icmp .eq 21, 3, 0), (21, .aload_n 0, 1, 0), (22, .getfield 33, 3, 0), (25, .iload_n 1, 1, 0), (26, .baload, 1, 0), (27, .ifCond .ne 12, 3, 0), (30, .aload_n 0, 1, 0), (31, .getfield 33, 3, 0), (34, .iload_n 2, 1, 0), (35, .baload, 1, 0), (36, .ifCond .eq 5, 3, 0), (39, .iconst 0, 1, 0), (40, .ireturn, 1, 0), (41, .iload_n 3, 1, 0), (42, .ifCond .eq 26, 3, 0), (45, .aload_n 0, 1, 0), (46, .getfield 36, 3, 0), (49, .iload_n 1, 1, 0), (50, .iaload, 1, 0), (51, .iconst (-1), 1, (-1)), (52, .if_icmp .ne 26, 3, 0), (55, .aload_n 0, 1, 0), (56, .getfield 36, 3, 0), (59, .iload_n 2, 1, 0), (60, .iaload, 1, 0), (61, .iconst (-1), 1, (-1)), (62, .if_icmp .eq 18, 3, 0), (65, .goto 13, 3, 0), (68, .aload_n 0, 1, 0), (69, .getfield 36, 3, 0), (72, .iload_n 1, 1, 0), (73, .iaload, 1, 0), (74, .iload_n 2, 1, 0), (75, .if_icmp .eq 5, 3, 0), (78, .iconst 0, 1, 0), (79, .ireturn, 1, 0), (80, .aload_n 0, 1, 0), (81, .getfield 36, 3, 0), (84, .iload_n 1, 1, 0), (85, .iload_n 3, 1, 0), (86, .ifCond .eq 7, 3, 0), (89, .iload_n 2, 1, 0), (90, .goto 4, 3, 0), (93, .iconst (-1), 1, (-1)), (94, .iastore, 1, 0), (95, .aload_n 0, 1, 0), (96, .getfield 36, 3, 0), (99, .iload_n 2, 1, 0), (100, .iload_n 3, 1, 0), (101, .ifCond .eq 7, 3, 0), (104, .iload_n 1, 1, 0), (105, .goto 4, 3, 0), (108, .iconst (-1), 1, (-1)), (109, .iastore, 1, 0), (110, .iconst 1, 1, 1), (111, .ireturn, 1, 0)]
set_option maxRecDepth 100000 in
theorem tk_X12_friends : g_okT cX12_friends tb_X12_friends = true := by decide +kernel
abbrev J_X12_friends (E : gE) (l : Launch) : Prop := g_J E cX12_friends RX12 "friends" (some .boolean) 4 tb_X12_friends 3 0 0 l
set_option maxHeartbeats 4000000 in
set_option maxRecDepth 100000 in
theorem p_X12_friends_109 {l : Launch} {E : gE} (J : J_X12_friends E l) (sx0 : Int32) (sx1 : Int32) (σ : gS) (M : gM) (N : gN) (hL : g_layM σ) : g_H E 0 0 109 [] [vI sx0, vI sx1, vR 48] (σ, M, N) (b_X12_friends_109 sx0 sx1 σ M) (eIM σ N) := by
  unfold b_X12_friends_109
  refine r_iast J rfl (ly_48 hL) (fun i109 => ?_)
  show g_H E 0 0 110 [] [] (σ, (g_up M 48 (sx1.toNatClampNeg) sx0), N) _ _
  refine r_run J 1 (pc' := 111) (lv' := []) (st' := [vI 1]) rfl ?_
  exact r_iret J rfl rfl rfl rfl (by decide) (by decide)
set_option maxHeartbeats 4000000 in
set_option maxRecDepth 100000 in
theorem p_X12_friends_94 {l : Launch} {E : gE} (J : J_X12_friends E l) (x1 : Int32) (x2 : Int32) (x3 : Int32) (sx0 : Int32) (sx1 : Int32) (σ : gS) (M : gM) (N : gN) (hL : g_layM σ) : g_H E 0 0 94 [(0, vR 40), (1, vI x1), (2, vI x2), (3, vI x3)] [vI sx0, vI sx1, vR 48] (σ, M, N) (b_X12_friends_94 x1 x2 x3 sx0 sx1 σ M) (eIM σ N) := by
  unfold b_X12_friends_94
  refine r_iast J rfl (ly_48 hL) (fun i94 => ?_)
  show g_H E 0 0 95 [(0, vR 40), (1, vI x1), (2, vI x2), (3, vI x3)] [] (σ, (g_up M 48 (sx1.toNatClampNeg) sx0), N) _ _
  refine r_run J 1 (pc' := 96) (lv' := [(0, vR 40), (1, vI x1), (2, vI x2), (3, vI x3)]) (st' := [vR 40]) rfl ?_
  refine r_getR J cls12 rfl (k := 9) (t := 14) (by decide) wf_12_36 rfl rfl (ly_40 hL) (lr_40_9 hL) (fun _ => ?_)
  show g_H E 0 0 99 [(0, vR 40), (1, vI x1), (2, vI x2), (3, vI x3)] [vR 48] (σ, (g_up M 48 (sx1.toNatClampNeg) sx0), N) _ _
  refine r_run J 2 (pc' := 101) (lv' := [(0, vR 40), (1, vI x1), (2, vI x2), (3, vI x3)]) (st' := [vI x3, vI x2, vR 48]) rfl ?_
  refine r_if_eq J (tgt := 108) rfl (by decide) (fun c101 => ?_) (fun c101 => ?_)
  · refine r_run J 1 (pc' := 109) (lv' := [(0, vR 40), (1, vI x1), (2, vI x2), (3, vI x3)]) (st' := [vI (-1), vI x2, vR 48]) rfl ?_
    refine r_sub [] (lv' := []) rfl ?_
    exact p_X12_friends_109 J (-1) x2 σ (g_up M 48 (sx1.toNatClampNeg) sx0) N hL
  · refine r_run J 2 (pc' := 109) (lv' := [(0, vR 40), (1, vI x1), (2, vI x2), (3, vI x3)]) (st' := [vI x1, vI x2, vR 48]) rfl ?_
    refine r_sub [] (lv' := []) rfl ?_
    exact p_X12_friends_109 J x1 x2 σ (g_up M 48 (sx1.toNatClampNeg) sx0) N hL
set_option maxHeartbeats 4000000 in
set_option maxRecDepth 100000 in
theorem p_X12_friends_80 {l : Launch} {E : gE} (J : J_X12_friends E l) (x1 : Int32) (x2 : Int32) (x3 : Int32) (σ : gS) (M : gM) (N : gN) (hL : g_layM σ) : g_H E 0 0 80 [(0, vR 40), (1, vI x1), (2, vI x2), (3, vI x3)] [] (σ, M, N) (b_X12_friends_80 x1 x2 x3 σ M) (eIM σ N) := by
  unfold b_X12_friends_80
  refine r_run J 1 (pc' := 81) (lv' := [(0, vR 40), (1, vI x1), (2, vI x2), (3, vI x3)]) (st' := [vR 40]) rfl ?_
  refine r_getR J cls12 rfl (k := 9) (t := 14) (by decide) wf_12_36 rfl rfl (ly_40 hL) (lr_40_9 hL) (fun _ => ?_)
  show g_H E 0 0 84 [(0, vR 40), (1, vI x1), (2, vI x2), (3, vI x3)] [vR 48] (σ, M, N) _ _
  refine r_run J 2 (pc' := 86) (lv' := [(0, vR 40), (1, vI x1), (2, vI x2), (3, vI x3)]) (st' := [vI x3, vI x1, vR 48]) rfl ?_
  refine r_if_eq J (tgt := 93) rfl (by decide) (fun c86 => ?_) (fun c86 => ?_)
  · refine r_run J 1 (pc' := 94) (lv' := [(0, vR 40), (1, vI x1), (2, vI x2), (3, vI x3)]) (st' := [vI (-1), vI x1, vR 48]) rfl ?_
    exact p_X12_friends_94 J x1 x2 x3 (-1) x1 σ M N hL
  · refine r_run J 2 (pc' := 94) (lv' := [(0, vR 40), (1, vI x1), (2, vI x2), (3, vI x3)]) (st' := [vI x2, vI x1, vR 48]) rfl ?_
    exact p_X12_friends_94 J x1 x2 x3 x2 x1 σ M N hL
set_option maxHeartbeats 4000000 in
set_option maxRecDepth 100000 in
theorem p_X12_friends_0 {l : Launch} {E : gE} (J : J_X12_friends E l) (x1 : Int32) (x2 : Int32) (x3 : Int32) (σ : gS) (M : gM) (N : gN) (hL : g_layM σ) : g_H E 0 0 0 [(0, vR 40), (1, vI x1), (2, vI x2), (3, vI x3)] [] (σ, M, N) (b_X12_friends_0 x1 x2 x3 σ M) (eIM σ N) := by
  unfold b_X12_friends_0
  refine r_run J 2 (pc' := 2) (lv' := [(0, vR 40), (1, vI x1), (2, vI x2), (3, vI x3)]) (st' := [vI x1, vR 40]) rfl ?_
  refine r_callV J (As := [vI x1]) (st := []) (fun r hr => c_X12_isPerson x1 σ M N hL r hr) cls12 (ly_40 hL) wm_12_177 wy_X12_isPerson wd_X12_isPerson ⟨by decide, by decide, by decide, by decide, Nat.le_of_ble_eq_true rfl⟩ rfl rfl (fun q2 hq2 => ?_)
  show g_H E 0 0 5 [(0, vR 40), (1, vI x1), (2, vI x2), (3, vI x3)] [vI q2] (σ, M, N) _ _
  refine r_if_eq J (tgt := 39) rfl (by decide) (fun c5 => ?_) (fun c5 => ?_)
  · refine r_run J 1 (pc' := 40) (lv' := [(0, vR 40), (1, vI x1), (2, vI x2), (3, vI x3)]) (st' := [vI 0]) rfl ?_
    exact r_iret J rfl rfl rfl rfl (by decide) (by decide)
  · refine r_run J 2 (pc' := 10) (lv' := [(0, vR 40), (1, vI x1), (2, vI x2), (3, vI x3)]) (st' := [vI x2, vR 40]) rfl ?_
    refine r_callV J (As := [vI x2]) (st := []) (fun r hr => c_X12_isPerson x2 σ M N hL r hr) cls12 (ly_40 hL) wm_12_177 wy_X12_isPerson wd_X12_isPerson ⟨by decide, by decide, by decide, by decide, Nat.le_of_ble_eq_true rfl⟩ rfl rfl (fun q10 hq10 => ?_)
    show g_H E 0 0 13 [(0, vR 40), (1, vI x1), (2, vI x2), (3, vI x3)] [vI q10] (σ, M, N) _ _
    refine r_if_eq J (tgt := 39) rfl (by decide) (fun c13 => ?_) (fun c13 => ?_)
    · refine r_run J 1 (pc' := 40) (lv' := [(0, vR 40), (1, vI x1), (2, vI x2), (3, vI x3)]) (st' := [vI 0]) rfl ?_
      exact r_iret J rfl rfl rfl rfl (by decide) (by decide)
    · refine r_run J 2 (pc' := 18) (lv' := [(0, vR 40), (1, vI x1), (2, vI x2), (3, vI x3)]) (st' := [vI x2, vI x1]) rfl ?_
      refine r_icmp_eq J (tgt := 39) rfl (by decide) (fun c18 => ?_) (fun c18 => ?_)
      · refine r_run J 1 (pc' := 40) (lv' := [(0, vR 40), (1, vI x1), (2, vI x2), (3, vI x3)]) (st' := [vI 0]) rfl ?_
        exact r_iret J rfl rfl rfl rfl (by decide) (by decide)
      · refine r_run J 1 (pc' := 22) (lv' := [(0, vR 40), (1, vI x1), (2, vI x2), (3, vI x3)]) (st' := [vR 40]) rfl ?_
        refine r_getR J cls12 rfl (k := 8) (t := 15) (by decide) wf_12_33 rfl rfl (ly_40 hL) (lr_40_8 hL) (fun _ => ?_)
        show g_H E 0 0 25 [(0, vR 40), (1, vI x1), (2, vI x2), (3, vI x3)] [vR 47] (σ, M, N) _ _
        refine r_run J 1 (pc' := 26) (lv' := [(0, vR 40), (1, vI x1), (2, vI x2), (3, vI x3)]) (st' := [vI x1, vR 47]) rfl ?_
        refine r_zald J rfl (ly_47 hL) (fun i26 => ?_)
        show g_H E 0 0 27 [(0, vR 40), (1, vI x1), (2, vI x2), (3, vI x3)] [vI (M 47 x1.toNatClampNeg)] (σ, M, N) _ _
        refine r_if_ne J (tgt := 39) rfl (by decide) (fun c27 => ?_) (fun c27 => ?_)
        · refine r_run J 1 (pc' := 31) (lv' := [(0, vR 40), (1, vI x1), (2, vI x2), (3, vI x3)]) (st' := [vR 40]) rfl ?_
          refine r_getR J cls12 rfl (k := 8) (t := 15) (by decide) wf_12_33 rfl rfl (ly_40 hL) (lr_40_8 hL) (fun _ => ?_)
          show g_H E 0 0 34 [(0, vR 40), (1, vI x1), (2, vI x2), (3, vI x3)] [vR 47] (σ, M, N) _ _
          refine r_run J 1 (pc' := 35) (lv' := [(0, vR 40), (1, vI x1), (2, vI x2), (3, vI x3)]) (st' := [vI x2, vR 47]) rfl ?_
          refine r_zald J rfl (ly_47 hL) (fun i35 => ?_)
          show g_H E 0 0 36 [(0, vR 40), (1, vI x1), (2, vI x2), (3, vI x3)] [vI (M 47 x2.toNatClampNeg)] (σ, M, N) _ _
          refine r_if_eq J (tgt := 41) rfl (by decide) (fun c36 => ?_) (fun c36 => ?_)
          · refine r_run J 1 (pc' := 42) (lv' := [(0, vR 40), (1, vI x1), (2, vI x2), (3, vI x3)]) (st' := [vI x3]) rfl ?_
            refine r_if_eq J (tgt := 68) rfl (by decide) (fun c42 => ?_) (fun c42 => ?_)
            · refine r_run J 1 (pc' := 69) (lv' := [(0, vR 40), (1, vI x1), (2, vI x2), (3, vI x3)]) (st' := [vR 40]) rfl ?_
              refine r_getR J cls12 rfl (k := 9) (t := 14) (by decide) wf_12_36 rfl rfl (ly_40 hL) (lr_40_9 hL) (fun _ => ?_)
              show g_H E 0 0 72 [(0, vR 40), (1, vI x1), (2, vI x2), (3, vI x3)] [vR 48] (σ, M, N) _ _
              refine r_run J 1 (pc' := 73) (lv' := [(0, vR 40), (1, vI x1), (2, vI x2), (3, vI x3)]) (st' := [vI x1, vR 48]) rfl ?_
              refine r_iald J rfl (ly_48 hL) (fun i73 => ?_)
              show g_H E 0 0 74 [(0, vR 40), (1, vI x1), (2, vI x2), (3, vI x3)] [vI (M 48 x1.toNatClampNeg)] (σ, M, N) _ _
              refine r_run J 1 (pc' := 75) (lv' := [(0, vR 40), (1, vI x1), (2, vI x2), (3, vI x3)]) (st' := [vI x2, vI (M 48 x1.toNatClampNeg)]) rfl ?_
              refine r_icmp_eq J (tgt := 80) rfl (by decide) (fun c75 => ?_) (fun c75 => ?_)
              · exact p_X12_friends_80 J x1 x2 x3 σ M N hL
              · refine r_run J 1 (pc' := 79) (lv' := [(0, vR 40), (1, vI x1), (2, vI x2), (3, vI x3)]) (st' := [vI 0]) rfl ?_
                exact r_iret J rfl rfl rfl rfl (by decide) (by decide)
            · refine r_run J 1 (pc' := 46) (lv' := [(0, vR 40), (1, vI x1), (2, vI x2), (3, vI x3)]) (st' := [vR 40]) rfl ?_
              refine r_getR J cls12 rfl (k := 9) (t := 14) (by decide) wf_12_36 rfl rfl (ly_40 hL) (lr_40_9 hL) (fun _ => ?_)
              show g_H E 0 0 49 [(0, vR 40), (1, vI x1), (2, vI x2), (3, vI x3)] [vR 48] (σ, M, N) _ _
              refine r_run J 1 (pc' := 50) (lv' := [(0, vR 40), (1, vI x1), (2, vI x2), (3, vI x3)]) (st' := [vI x1, vR 48]) rfl ?_
              refine r_iald J rfl (ly_48 hL) (fun i50 => ?_)
              show g_H E 0 0 51 [(0, vR 40), (1, vI x1), (2, vI x2), (3, vI x3)] [vI (M 48 x1.toNatClampNeg)] (σ, M, N) _ _
              refine r_run J 1 (pc' := 52) (lv' := [(0, vR 40), (1, vI x1), (2, vI x2), (3, vI x3)]) (st' := [vI (-1), vI (M 48 x1.toNatClampNeg)]) rfl ?_
              refine r_icmp_ne J (tgt := 78) rfl (by decide) (fun c52 => ?_) (fun c52 => ?_)
              · refine r_run J 1 (pc' := 56) (lv' := [(0, vR 40), (1, vI x1), (2, vI x2), (3, vI x3)]) (st' := [vR 40]) rfl ?_
                refine r_getR J cls12 rfl (k := 9) (t := 14) (by decide) wf_12_36 rfl rfl (ly_40 hL) (lr_40_9 hL) (fun _ => ?_)
                show g_H E 0 0 59 [(0, vR 40), (1, vI x1), (2, vI x2), (3, vI x3)] [vR 48] (σ, M, N) _ _
                refine r_run J 1 (pc' := 60) (lv' := [(0, vR 40), (1, vI x1), (2, vI x2), (3, vI x3)]) (st' := [vI x2, vR 48]) rfl ?_
                refine r_iald J rfl (ly_48 hL) (fun i60 => ?_)
                show g_H E 0 0 61 [(0, vR 40), (1, vI x1), (2, vI x2), (3, vI x3)] [vI (M 48 x2.toNatClampNeg)] (σ, M, N) _ _
                refine r_run J 1 (pc' := 62) (lv' := [(0, vR 40), (1, vI x1), (2, vI x2), (3, vI x3)]) (st' := [vI (-1), vI (M 48 x2.toNatClampNeg)]) rfl ?_
                refine r_icmp_eq J (tgt := 80) rfl (by decide) (fun c62 => ?_) (fun c62 => ?_)
                · exact p_X12_friends_80 J x1 x2 x3 σ M N hL
                · refine r_run J 2 (pc' := 79) (lv' := [(0, vR 40), (1, vI x1), (2, vI x2), (3, vI x3)]) (st' := [vI 0]) rfl ?_
                  exact r_iret J rfl rfl rfl rfl (by decide) (by decide)
              · refine r_run J 1 (pc' := 79) (lv' := [(0, vR 40), (1, vI x1), (2, vI x2), (3, vI x3)]) (st' := [vI 0]) rfl ?_
                exact r_iret J rfl rfl rfl rfl (by decide) (by decide)
          · refine r_run J 1 (pc' := 40) (lv' := [(0, vR 40), (1, vI x1), (2, vI x2), (3, vI x3)]) (st' := [vI 0]) rfl ?_
            exact r_iret J rfl rfl rfl rfl (by decide) (by decide)
        · refine r_run J 1 (pc' := 40) (lv' := [(0, vR 40), (1, vI x1), (2, vI x2), (3, vI x3)]) (st' := [vI 0]) rfl ?_
          exact r_iret J rfl rfl rfl rfl (by decide) (by decide)
theorem c_X12_friends {l : Launch} (x1 : Int32) (x2 : Int32) (x3 : Int32) (σ : gS) (M : gM) (N : gN) (hL : g_layM σ) (r : Int32 × gM) (h : f_X12_friends x1 x2 x3 σ M = some r) : g_Ct l yX12_friends cX12_friends 4 (some .boolean) 3 0 0 [vR 40, vI x1, vI x2, vI x3] (σ, M, N) (eIM σ N r) :=
  g_Ct.of tb_X12_friends (by decide +kernel) tk_X12_friends (Nat.le_of_ble_eq_true rfl) (fun E J => p_X12_friends_0 J x1 x2 x3 σ M N hL r h)
def tb_X12_bar : gT := [(0, .aload_n 0, 1, 0), (1, .iload_n 1, 1, 0), (2, .invokevirtual 177, 3, 0), (5, .ifCond .eq 31, 3, 0), (8, .aload_n 0, 1, 0), (9, .iload_n 2, 1, 0), (10, .invokevirtual 177, 3, 0), (13, .ifCond .eq 23, 3, 0), (16, .iload_n 1, 1, 0), (17, .iload_n 2, 1, 0), (18, .if_icmp .eq 18, 3, 0), (21, .aload_n 0, 1, 0), (22, .getfield 39, 3, 0), (25, .bipush 10, 2, 10), (27, .iload_n 1, 1, 0), (28, .imul, 1, 0), (29, .iload_n 2, 1, 0), (30, .iadd, 1, 0), (31, .baload, 1, 0), (32, .iload_n 3, 1, 0), (33, .if_icmp .ne 5, 3, 0), (36, .iconst 0, 1, 0), (37, .ireturn, 1, 0), (38, .aload_n 0, 1, 0), (39, .getfield 39, 3, 0), (42, .bipush 10, 2, 10), (44, .iload_n 1, 1, 0), (45, .imul, 1, 0), (46, .iload_n 2, 1, 0), (47, .iadd, 1, 0), (48, .iload_n 3, 1, 0), (49, .bastore, 1, 0), (50, .aload_n 0, 1, 0), (51, .getfield 39, 3, 0), (54, .bipush 10, 2, 10), (56, .iload_n 2, 1, 0), (57, .imul, 1, 0), (58, .iload_n 1, 1, 0), (59, .iadd, 1, 0), (60, .iload_n 3, 1, 0), (61, .bastore, 1, 0), (62, .iconst 1, 1, 1), (63, .ireturn, 1, 0)]
set_option maxRecDepth 100000 in
theorem tk_X12_bar : g_okT cX12_bar tb_X12_bar = true := by decide +kernel
abbrev J_X12_bar (E : gE) (l : Launch) : Prop := g_J E cX12_bar RX12 "bar" (some .boolean) 4 tb_X12_bar 3 0 0 l
set_option maxHeartbeats 4000000 in
set_option maxRecDepth 100000 in
theorem p_X12_bar_0 {l : Launch} {E : gE} (J : J_X12_bar E l) (x1 : Int32) (x2 : Int32) (x3 : Int32) (σ : gS) (M : gM) (N : gN) (hL : g_layM σ) : g_H E 0 0 0 [(0, vR 40), (1, vI x1), (2, vI x2), (3, vI x3)] [] (σ, M, N) (b_X12_bar_0 x1 x2 x3 σ M) (eIM σ N) := by
  unfold b_X12_bar_0
  refine r_run J 2 (pc' := 2) (lv' := [(0, vR 40), (1, vI x1), (2, vI x2), (3, vI x3)]) (st' := [vI x1, vR 40]) rfl ?_
  refine r_callV J (As := [vI x1]) (st := []) (fun r hr => c_X12_isPerson x1 σ M N hL r hr) cls12 (ly_40 hL) wm_12_177 wy_X12_isPerson wd_X12_isPerson ⟨by decide, by decide, by decide, by decide, Nat.le_of_ble_eq_true rfl⟩ rfl rfl (fun q2 hq2 => ?_)
  show g_H E 0 0 5 [(0, vR 40), (1, vI x1), (2, vI x2), (3, vI x3)] [vI q2] (σ, M, N) _ _
  refine r_if_eq J (tgt := 36) rfl (by decide) (fun c5 => ?_) (fun c5 => ?_)
  · refine r_run J 1 (pc' := 37) (lv' := [(0, vR 40), (1, vI x1), (2, vI x2), (3, vI x3)]) (st' := [vI 0]) rfl ?_
    exact r_iret J rfl rfl rfl rfl (by decide) (by decide)
  · refine r_run J 2 (pc' := 10) (lv' := [(0, vR 40), (1, vI x1), (2, vI x2), (3, vI x3)]) (st' := [vI x2, vR 40]) rfl ?_
    refine r_callV J (As := [vI x2]) (st := []) (fun r hr => c_X12_isPerson x2 σ M N hL r hr) cls12 (ly_40 hL) wm_12_177 wy_X12_isPerson wd_X12_isPerson ⟨by decide, by decide, by decide, by decide, Nat.le_of_ble_eq_true rfl⟩ rfl rfl (fun q10 hq10 => ?_)
    show g_H E 0 0 13 [(0, vR 40), (1, vI x1), (2, vI x2), (3, vI x3)] [vI q10] (σ, M, N) _ _
    refine r_if_eq J (tgt := 36) rfl (by decide) (fun c13 => ?_) (fun c13 => ?_)
    · refine r_run J 1 (pc' := 37) (lv' := [(0, vR 40), (1, vI x1), (2, vI x2), (3, vI x3)]) (st' := [vI 0]) rfl ?_
      exact r_iret J rfl rfl rfl rfl (by decide) (by decide)
    · refine r_run J 2 (pc' := 18) (lv' := [(0, vR 40), (1, vI x1), (2, vI x2), (3, vI x3)]) (st' := [vI x2, vI x1]) rfl ?_
      refine r_icmp_eq J (tgt := 36) rfl (by decide) (fun c18 => ?_) (fun c18 => ?_)
      · refine r_run J 1 (pc' := 37) (lv' := [(0, vR 40), (1, vI x1), (2, vI x2), (3, vI x3)]) (st' := [vI 0]) rfl ?_
        exact r_iret J rfl rfl rfl rfl (by decide) (by decide)
      · refine r_run J 1 (pc' := 22) (lv' := [(0, vR 40), (1, vI x1), (2, vI x2), (3, vI x3)]) (st' := [vR 40]) rfl ?_
        refine r_getR J cls12 rfl (k := 10) (t := 15) (by decide) wf_12_39 rfl rfl (ly_40 hL) (lr_40_10 hL) (fun _ => ?_)
        show g_H E 0 0 25 [(0, vR 40), (1, vI x1), (2, vI x2), (3, vI x3)] [vR 49] (σ, M, N) _ _
        refine r_run J 5 (pc' := 31) (lv' := [(0, vR 40), (1, vI x1), (2, vI x2), (3, vI x3)]) (st' := [vI (((10 : Int32) * x1) + x2), vR 49]) rfl ?_
        refine r_zald J rfl (ly_49 hL) (fun i31 => ?_)
        show g_H E 0 0 32 [(0, vR 40), (1, vI x1), (2, vI x2), (3, vI x3)] [vI (M 49 (((10 : Int32) * x1) + x2).toNatClampNeg)] (σ, M, N) _ _
        refine r_run J 1 (pc' := 33) (lv' := [(0, vR 40), (1, vI x1), (2, vI x2), (3, vI x3)]) (st' := [vI x3, vI (M 49 (((10 : Int32) * x1) + x2).toNatClampNeg)]) rfl ?_
        refine r_icmp_ne J (tgt := 38) rfl (by decide) (fun c33 => ?_) (fun c33 => ?_)
        · refine r_run J 1 (pc' := 37) (lv' := [(0, vR 40), (1, vI x1), (2, vI x2), (3, vI x3)]) (st' := [vI 0]) rfl ?_
          exact r_iret J rfl rfl rfl rfl (by decide) (by decide)
        · refine r_run J 1 (pc' := 39) (lv' := [(0, vR 40), (1, vI x1), (2, vI x2), (3, vI x3)]) (st' := [vR 40]) rfl ?_
          refine r_getR J cls12 rfl (k := 10) (t := 15) (by decide) wf_12_39 rfl rfl (ly_40 hL) (lr_40_10 hL) (fun _ => ?_)
          show g_H E 0 0 42 [(0, vR 40), (1, vI x1), (2, vI x2), (3, vI x3)] [vR 49] (σ, M, N) _ _
          refine r_run J 6 (pc' := 49) (lv' := [(0, vR 40), (1, vI x1), (2, vI x2), (3, vI x3)]) (st' := [vI x3, vI (((10 : Int32) * x1) + x2), vR 49]) rfl ?_
          refine r_zast J rfl (ly_49 hL) (fun i49 => ?_)
          show g_H E 0 0 50 [(0, vR 40), (1, vI x1), (2, vI x2), (3, vI x3)] [] (σ, (g_up M 49 ((((10 : Int32) * x1) + x2).toNatClampNeg) (vp_nar .boolean x3)), N) _ _
          refine r_run J 1 (pc' := 51) (lv' := [(0, vR 40), (1, vI x1), (2, vI x2), (3, vI x3)]) (st' := [vR 40]) rfl ?_
          refine r_getR J cls12 rfl (k := 10) (t := 15) (by decide) wf_12_39 rfl rfl (ly_40 hL) (lr_40_10 hL) (fun _ => ?_)
          show g_H E 0 0 54 [(0, vR 40), (1, vI x1), (2, vI x2), (3, vI x3)] [vR 49] (σ, (g_up M 49 ((((10 : Int32) * x1) + x2).toNatClampNeg) (vp_nar .boolean x3)), N) _ _
          refine r_run J 6 (pc' := 61) (lv' := [(0, vR 40), (1, vI x1), (2, vI x2), (3, vI x3)]) (st' := [vI x3, vI (((10 : Int32) * x2) + x1), vR 49]) rfl ?_
          refine r_zast J rfl (ly_49 hL) (fun i61 => ?_)
          show g_H E 0 0 62 [(0, vR 40), (1, vI x1), (2, vI x2), (3, vI x3)] [] (σ, (g_up (g_up M 49 ((((10 : Int32) * x1) + x2).toNatClampNeg) (vp_nar .boolean x3)) 49 ((((10 : Int32) * x2) + x1).toNatClampNeg) (vp_nar .boolean x3)), N) _ _
          refine r_run J 1 (pc' := 63) (lv' := [(0, vR 40), (1, vI x1), (2, vI x2), (3, vI x3)]) (st' := [vI 1]) rfl ?_
          exact r_iret J rfl rfl rfl rfl (by decide) (by decide)
theorem c_X12_bar {l : Launch} (x1 : Int32) (x2 : Int32) (x3 : Int32) (σ : gS) (M : gM) (N : gN) (hL : g_layM σ) (r : Int32 × gM) (h : f_X12_bar x1 x2 x3 σ M = some r) : g_Ct l yX12_bar cX12_bar 4 (some .boolean) 3 0 0 [vR 40, vI x1, vI x2, vI x3] (σ, M, N) (eIM σ N r) :=
  g_Ct.of tb_X12_bar (by decide +kernel) tk_X12_bar (Nat.le_of_ble_eq_true rfl) (fun E J => p_X12_bar_0 J x1 x2 x3 σ M N hL r h)
def tb_X12_notes : gT := [(0, .bipush 10, 2, 10), (2, .iload_n 1, 1, 0), (3, .imul, 1, 0), (4, .iload_n 2, 1, 0), (5, .iadd, 1, 0), (6, .istore 4, 2, 0), (8, .aload_n 0, 1, 0), (9, .getfield 66, 3, 0), (12, .iload 4, 2, 0), (14, .iaload, 1, 0), (15, .iload_n 3, 1, 0), (16, .if_icmp .ne 4, 3, 0), (19, .return_, 1, 0), (20, .aload_n 0, 1, 0), (21, .getfield 66, 3, 0), (24, .iload 4, 2, 0), (26, .iload_n 3, 1, 0), (27, .iastore, 1, 0), (28, .aload_n 0, 1, 0), (29, .getfield 69, 3, 0), (32, .aload_n 0, 1, 0), (33, .getfield 180, 3, 0), (36, .aload_n 0, 1, 0), (37, .getfield 183, 3, 0), (40, .iastore, 1, 0), (41, .aload_n 0, 1, 0), (42, .getfield 72, 3, 0), (45, .aload_n 0, 1, 0), (46, .getfield 180, 3, 0), (49, .iload 4, 2, 0), (51, .iastore, 1, 0), (52, .aload_n 0, 1, 0), (53, .getfield 75, 3, 0), (56, .aload_n 0, 1, 0), (57, .getfield 180, 3, 0), (60, .iload_n 3, 1, 0), (61, .iastore, 1, 0), (62, .aload_n 0, 1, 0), (63, .dup, 1, 0), (64, .getfield 180, 3, 0), (67, .iconst 1, 1, 1), (68, .iadd, 1, 0), (69, .putfield 180, 3, 0), (72, .return_, 1, 0)]
set_option maxRecDepth 100000 in
theorem tk_X12_notes : g_okT cX12_notes tb_X12_notes = true := by decide +kernel
abbrev J_X12_notes (E : gE) (l : Launch) : Prop := g_J E cX12_notes RX12 "notes" none 5 tb_X12_notes 1 0 0 l
set_option maxHeartbeats 4000000 in
set_option maxRecDepth 100000 in
theorem p_X12_notes_52 {l : Launch} {E : gE} (J : J_X12_notes E l) (x3 : Int32) (σ : gS) (M : gM) (N : gN) (hL : g_layM σ) : g_H E 0 0 52 [(0, vR 40), (3, vI x3)] [] (σ, M, N) (b_X12_notes_52 x3 σ M) (eVM σ N) := by
  unfold b_X12_notes_52
  refine r_run J 1 (pc' := 53) (lv' := [(0, vR 40), (3, vI x3)]) (st' := [vR 40]) rfl ?_
  refine r_getR J cls12 rfl (k := 29) (t := 14) (by decide) wf_12_75 rfl rfl (ly_40 hL) (lr_40_29 hL) (fun _ => ?_)
  show g_H E 0 0 56 [(0, vR 40), (3, vI x3)] [vR 60] (σ, M, N) _ _
  refine r_run J 1 (pc' := 57) (lv' := [(0, vR 40), (3, vI x3)]) (st' := [vR 40, vR 60]) rfl ?_
  refine r_getI J cls12 rfl (k := 26) (by decide) wf_12_180 rfl (ly_40 hL) ?_
  show g_H E 0 0 60 [(0, vR 40), (3, vI x3)] [vI (M 40 26), vR 60] (σ, M, N) _ _
  refine r_run J 1 (pc' := 61) (lv' := [(0, vR 40), (3, vI x3)]) (st' := [vI x3, vI (M 40 26), vR 60]) rfl ?_
  refine r_iast J rfl (ly_60 hL) (fun i61 => ?_)
  show g_H E 0 0 62 [(0, vR 40), (3, vI x3)] [] (σ, (g_up M 60 ((M 40 26).toNatClampNeg) x3), N) _ _
  refine r_run J 2 (pc' := 64) (lv' := [(0, vR 40), (3, vI x3)]) (st' := [vR 40, vR 40]) rfl ?_
  refine r_getI J cls12 rfl (k := 26) (by decide) wf_12_180 rfl (ly_40 hL) ?_
  show g_H E 0 0 67 [(0, vR 40), (3, vI x3)] [vI ((g_up M 60 ((M 40 26).toNatClampNeg) x3) 40 26), vR 40] (σ, (g_up M 60 ((M 40 26).toNatClampNeg) x3), N) _ _
  refine r_run J 2 (pc' := 69) (lv' := [(0, vR 40), (3, vI x3)]) (st' := [vI (((g_up M 60 ((M 40 26).toNatClampNeg) x3) 40 26) + (1 : Int32)), vR 40]) rfl ?_
  refine r_putI J cls12 rfl (k := 26) (by decide) wf_12_180 rfl (Or.inl rfl) ⟨rfl, rfl⟩ (ly_40 hL) ?_
  show g_H E 0 0 72 [(0, vR 40), (3, vI x3)] [] (σ, (g_up (g_up M 60 ((M 40 26).toNatClampNeg) x3) 40 26 (((g_up M 60 ((M 40 26).toNatClampNeg) x3) 40 26) + (1 : Int32))), N) _ _
  exact r_vret J rfl rfl rfl (by decide) (by decide)
set_option maxHeartbeats 4000000 in
set_option maxRecDepth 100000 in
theorem p_X12_notes_0 {l : Launch} {E : gE} (J : J_X12_notes E l) (x1 : Int32) (x2 : Int32) (x3 : Int32) (σ : gS) (M : gM) (N : gN) (hL : g_layM σ) : g_H E 0 0 0 [(0, vR 40), (1, vI x1), (2, vI x2), (3, vI x3)] [] (σ, M, N) (b_X12_notes_0 x1 x2 x3 σ M) (eVM σ N) := by
  unfold b_X12_notes_0
  refine r_run J 7 (pc' := 9) (lv' := [(4, vI (((10 : Int32) * x1) + x2)), (0, vR 40), (1, vI x1), (2, vI x2), (3, vI x3)]) (st' := [vR 40]) rfl ?_
  refine r_getR J cls12 rfl (k := 25) (t := 14) (by decide) wf_12_66 rfl rfl (ly_40 hL) (lr_40_25 hL) (fun _ => ?_)
  show g_H E 0 0 12 [(4, vI (((10 : Int32) * x1) + x2)), (0, vR 40), (1, vI x1), (2, vI x2), (3, vI x3)] [vR 57] (σ, M, N) _ _
  refine r_run J 1 (pc' := 14) (lv' := [(4, vI (((10 : Int32) * x1) + x2)), (0, vR 40), (1, vI x1), (2, vI x2), (3, vI x3)]) (st' := [vI (((10 : Int32) * x1) + x2), vR 57]) rfl ?_
  refine r_iald J rfl (ly_57 hL) (fun i14 => ?_)
  show g_H E 0 0 15 [(4, vI (((10 : Int32) * x1) + x2)), (0, vR 40), (1, vI x1), (2, vI x2), (3, vI x3)] [vI (M 57 (((10 : Int32) * x1) + x2).toNatClampNeg)] (σ, M, N) _ _
  refine r_run J 1 (pc' := 16) (lv' := [(4, vI (((10 : Int32) * x1) + x2)), (0, vR 40), (1, vI x1), (2, vI x2), (3, vI x3)]) (st' := [vI x3, vI (M 57 (((10 : Int32) * x1) + x2).toNatClampNeg)]) rfl ?_
  refine r_icmp_ne J (tgt := 20) rfl (by decide) (fun c16 => ?_) (fun c16 => ?_)
  · exact r_vret J rfl rfl rfl (by decide) (by decide)
  · refine r_run J 1 (pc' := 21) (lv' := [(4, vI (((10 : Int32) * x1) + x2)), (0, vR 40), (1, vI x1), (2, vI x2), (3, vI x3)]) (st' := [vR 40]) rfl ?_
    refine r_getR J cls12 rfl (k := 25) (t := 14) (by decide) wf_12_66 rfl rfl (ly_40 hL) (lr_40_25 hL) (fun _ => ?_)
    show g_H E 0 0 24 [(4, vI (((10 : Int32) * x1) + x2)), (0, vR 40), (1, vI x1), (2, vI x2), (3, vI x3)] [vR 57] (σ, M, N) _ _
    refine r_run J 2 (pc' := 27) (lv' := [(4, vI (((10 : Int32) * x1) + x2)), (0, vR 40), (1, vI x1), (2, vI x2), (3, vI x3)]) (st' := [vI x3, vI (((10 : Int32) * x1) + x2), vR 57]) rfl ?_
    refine r_iast J rfl (ly_57 hL) (fun i27 => ?_)
    show g_H E 0 0 28 [(4, vI (((10 : Int32) * x1) + x2)), (0, vR 40), (1, vI x1), (2, vI x2), (3, vI x3)] [] (σ, (g_up M 57 ((((10 : Int32) * x1) + x2).toNatClampNeg) x3), N) _ _
    refine r_run J 1 (pc' := 29) (lv' := [(4, vI (((10 : Int32) * x1) + x2)), (0, vR 40), (1, vI x1), (2, vI x2), (3, vI x3)]) (st' := [vR 40]) rfl ?_
    refine r_getR J cls12 rfl (k := 27) (t := 14) (by decide) wf_12_69 rfl rfl (ly_40 hL) (lr_40_27 hL) (fun _ => ?_)
    show g_H E 0 0 32 [(4, vI (((10 : Int32) * x1) + x2)), (0, vR 40), (1, vI x1), (2, vI x2), (3, vI x3)] [vR 58] (σ, (g_up M 57 ((((10 : Int32) * x1) + x2).toNatClampNeg) x3), N) _ _
    refine r_run J 1 (pc' := 33) (lv' := [(4, vI (((10 : Int32) * x1) + x2)), (0, vR 40), (1, vI x1), (2, vI x2), (3, vI x3)]) (st' := [vR 40, vR 58]) rfl ?_
    refine r_getI J cls12 rfl (k := 26) (by decide) wf_12_180 rfl (ly_40 hL) ?_
    show g_H E 0 0 36 [(4, vI (((10 : Int32) * x1) + x2)), (0, vR 40), (1, vI x1), (2, vI x2), (3, vI x3)] [vI ((g_up M 57 ((((10 : Int32) * x1) + x2).toNatClampNeg) x3) 40 26), vR 58] (σ, (g_up M 57 ((((10 : Int32) * x1) + x2).toNatClampNeg) x3), N) _ _
    refine r_run J 1 (pc' := 37) (lv' := [(4, vI (((10 : Int32) * x1) + x2)), (0, vR 40), (1, vI x1), (2, vI x2), (3, vI x3)]) (st' := [vR 40, vI ((g_up M 57 ((((10 : Int32) * x1) + x2).toNatClampNeg) x3) 40 26), vR 58]) rfl ?_
    refine r_getI J cls12 rfl (k := 14) (by decide) wf_12_183 rfl (ly_40 hL) ?_
    show g_H E 0 0 40 [(4, vI (((10 : Int32) * x1) + x2)), (0, vR 40), (1, vI x1), (2, vI x2), (3, vI x3)] [vI ((g_up M 57 ((((10 : Int32) * x1) + x2).toNatClampNeg) x3) 40 14), vI ((g_up M 57 ((((10 : Int32) * x1) + x2).toNatClampNeg) x3) 40 26), vR 58] (σ, (g_up M 57 ((((10 : Int32) * x1) + x2).toNatClampNeg) x3), N) _ _
    refine r_iast J rfl (ly_58 hL) (fun i40 => ?_)
    show g_H E 0 0 41 [(4, vI (((10 : Int32) * x1) + x2)), (0, vR 40), (1, vI x1), (2, vI x2), (3, vI x3)] [] (σ, (g_up (g_up M 57 ((((10 : Int32) * x1) + x2).toNatClampNeg) x3) 58 (((g_up M 57 ((((10 : Int32) * x1) + x2).toNatClampNeg) x3) 40 26).toNatClampNeg) ((g_up M 57 ((((10 : Int32) * x1) + x2).toNatClampNeg) x3) 40 14)), N) _ _
    refine r_run J 1 (pc' := 42) (lv' := [(4, vI (((10 : Int32) * x1) + x2)), (0, vR 40), (1, vI x1), (2, vI x2), (3, vI x3)]) (st' := [vR 40]) rfl ?_
    refine r_getR J cls12 rfl (k := 28) (t := 14) (by decide) wf_12_72 rfl rfl (ly_40 hL) (lr_40_28 hL) (fun _ => ?_)
    show g_H E 0 0 45 [(4, vI (((10 : Int32) * x1) + x2)), (0, vR 40), (1, vI x1), (2, vI x2), (3, vI x3)] [vR 59] (σ, (g_up (g_up M 57 ((((10 : Int32) * x1) + x2).toNatClampNeg) x3) 58 (((g_up M 57 ((((10 : Int32) * x1) + x2).toNatClampNeg) x3) 40 26).toNatClampNeg) ((g_up M 57 ((((10 : Int32) * x1) + x2).toNatClampNeg) x3) 40 14)), N) _ _
    refine r_run J 1 (pc' := 46) (lv' := [(4, vI (((10 : Int32) * x1) + x2)), (0, vR 40), (1, vI x1), (2, vI x2), (3, vI x3)]) (st' := [vR 40, vR 59]) rfl ?_
    refine r_getI J cls12 rfl (k := 26) (by decide) wf_12_180 rfl (ly_40 hL) ?_
    show g_H E 0 0 49 [(4, vI (((10 : Int32) * x1) + x2)), (0, vR 40), (1, vI x1), (2, vI x2), (3, vI x3)] [vI ((g_up (g_up M 57 ((((10 : Int32) * x1) + x2).toNatClampNeg) x3) 58 (((g_up M 57 ((((10 : Int32) * x1) + x2).toNatClampNeg) x3) 40 26).toNatClampNeg) ((g_up M 57 ((((10 : Int32) * x1) + x2).toNatClampNeg) x3) 40 14)) 40 26), vR 59] (σ, (g_up (g_up M 57 ((((10 : Int32) * x1) + x2).toNatClampNeg) x3) 58 (((g_up M 57 ((((10 : Int32) * x1) + x2).toNatClampNeg) x3) 40 26).toNatClampNeg) ((g_up M 57 ((((10 : Int32) * x1) + x2).toNatClampNeg) x3) 40 14)), N) _ _
    refine r_run J 1 (pc' := 51) (lv' := [(4, vI (((10 : Int32) * x1) + x2)), (0, vR 40), (1, vI x1), (2, vI x2), (3, vI x3)]) (st' := [vI (((10 : Int32) * x1) + x2), vI ((g_up (g_up M 57 ((((10 : Int32) * x1) + x2).toNatClampNeg) x3) 58 (((g_up M 57 ((((10 : Int32) * x1) + x2).toNatClampNeg) x3) 40 26).toNatClampNeg) ((g_up M 57 ((((10 : Int32) * x1) + x2).toNatClampNeg) x3) 40 14)) 40 26), vR 59]) rfl ?_
    refine r_iast J rfl (ly_59 hL) (fun i51 => ?_)
    show g_H E 0 0 52 [(4, vI (((10 : Int32) * x1) + x2)), (0, vR 40), (1, vI x1), (2, vI x2), (3, vI x3)] [] (σ, (g_up (g_up (g_up M 57 ((((10 : Int32) * x1) + x2).toNatClampNeg) x3) 58 (((g_up M 57 ((((10 : Int32) * x1) + x2).toNatClampNeg) x3) 40 26).toNatClampNeg) ((g_up M 57 ((((10 : Int32) * x1) + x2).toNatClampNeg) x3) 40 14)) 59 (((g_up (g_up M 57 ((((10 : Int32) * x1) + x2).toNatClampNeg) x3) 58 (((g_up M 57 ((((10 : Int32) * x1) + x2).toNatClampNeg) x3) 40 26).toNatClampNeg) ((g_up M 57 ((((10 : Int32) * x1) + x2).toNatClampNeg) x3) 40 14)) 40 26).toNatClampNeg) (((10 : Int32) * x1) + x2)), N) _ _
    refine r_sub [1, 4] (lv' := [(0, vR 40), (3, vI x3)]) rfl ?_
    exact p_X12_notes_52 J x3 σ (g_up (g_up (g_up M 57 ((((10 : Int32) * x1) + x2).toNatClampNeg) x3) 58 (((g_up M 57 ((((10 : Int32) * x1) + x2).toNatClampNeg) x3) 40 26).toNatClampNeg) ((g_up M 57 ((((10 : Int32) * x1) + x2).toNatClampNeg) x3) 40 14)) 59 (((g_up (g_up M 57 ((((10 : Int32) * x1) + x2).toNatClampNeg) x3) 58 (((g_up M 57 ((((10 : Int32) * x1) + x2).toNatClampNeg) x3) 40 26).toNatClampNeg) ((g_up M 57 ((((10 : Int32) * x1) + x2).toNatClampNeg) x3) 40 14)) 40 26).toNatClampNeg) (((10 : Int32) * x1) + x2)) N hL
theorem c_X12_notes {l : Launch} (x1 : Int32) (x2 : Int32) (x3 : Int32) (σ : gS) (M : gM) (N : gN) (hL : g_layM σ) (r : gM) (h : f_X12_notes x1 x2 x3 σ M = some r) : g_Ct l yX12_notes cX12_notes 5 none 1 0 0 [vR 40, vI x1, vI x2, vI x3] (σ, M, N) (eVM σ N r) :=
  g_Ct.of tb_X12_notes (by decide +kernel) tk_X12_notes (Nat.le_of_ble_eq_true rfl) (fun E J => p_X12_notes_0 J x1 x2 x3 σ M N hL r h)
def tb_X12_leaves : gT := [(0, .iconst 0, 1, 0), (1, .istore 4, 2, 0), (3, .iconst 0, 1, 0), (4, .istore 5, 2, 0), (6, .iload 5, 2, 0), (8, .aload_n 0, 1, 0), (9, .getfield 164, 3, 0), (12, .if_icmp .ge 54, 3, 0), (15, .iload 4, 2, 0), (17, .aload_n 0, 1, 0), (18, .iload 5, 2, 0), (20, .invokevirtual 174, 3, 0), (23, .ifCond .ne 33, 3, 0), (26, .iload 5, 2, 0), (28, .iload_n 2, 1, 0), (29, .iload_n 3, 1, 0), (30, .invokestatic 160, 3, 0), (33, .ifCond .ne 23, 3, 0), (36, .aload_n 0, 1, 0), (37, .getfield 66, 3, 0), (40, .bipush 10, 2, 10), (42, .iload 5, 2, 0), (44, .imul, 1, 0), (45, .iload_n 1, 1, 0), (46, .iadd, 1, 0), (47, .iaload, 1, 0), (48, .iconst (-1), 1, (-1)), (49, .if_icmp .eq 7, 3, 0), (52, .iconst 1, 1, 1), (53, .goto 4, 3, 0), (56, .iconst 0, 1, 0), (57, .iadd, 1, 0), (58, .istore 4, 2, 0), (60, .iinc 5 1, 3, 1), (63, .goto (-57), 3, 0), (66, .aload_n 0, 1, 0), (67, .getfield 180, 3, 0), (70, .iload 4, 2, 0), (72, .iadd, 1, 0), (73, .sipush 500, 3, 500), (76, .if_icmp .le 5, 3, 0), (79, .iconst 0, 1, 0), (80, .ireturn, 1, 0), (81, .iconst 0, 1, 0), (82, .istore 5, 2, 0), (84, .iload 5, 2, 0), (86, .aload_n 0, 1, 0), (87, .getfield 164, 3, 0), (90, .if_icmp .ge 36, 3, 0), (93, .aload_n 0, 1, 0), (94, .iload 5, 2, 0), (96, .invokevirtual 174, 3, 0), (99, .ifCond .ne 21, 3, 0), (102, .iload 5, 2, 0), (104, .iload_n 2, 1, 0), (105, .iload_n 3, 1, 0), (106, .invokestatic 160, 3, 0), (109, .ifCond .ne 11, 3, 0), (112, .aload_n 0, 1, 0), (113, .iload 5, 2, 0), (115, .iload_n 1, 1, 0), (116, .iconst (-1), 1, (-1)), (117, .invokevirtual 186, 3, 0), (120, .iinc 5 1, 3, 1), (123, .goto (-39), 3, 0), (126, .iconst 1, 1, 1), (127, .ireturn, 1, 0)]
set_option maxRecDepth 100000 in
theorem tk_X12_leaves : g_okT cX12_leaves tb_X12_leaves = true := by decide +kernel
abbrev J_X12_leaves (E : gE) (l : Launch) : Prop := g_J E cX12_leaves RX12 "leaves" (some .boolean) 6 tb_X12_leaves 2 0 0 l
set_option maxHeartbeats 4000000 in
set_option maxRecDepth 100000 in
theorem p_X12_leaves_120 {l : Launch} {E : gE} (J : J_X12_leaves E l) {k84 : Int32 → Int32 → Int32 → Int32 → gS → gM → Option (Int32 × gM)} (H84 : ∀ (x1 : Int32) (x2 : Int32) (x3 : Int32) (x5 : Int32) (σ : gS) (M : gM) (N : gN) (_ : g_layM σ), g_H E 0 0 84 [(0, vR 40), (1, vI x1), (2, vI x2), (3, vI x3), (5, vI x5)] [] (σ, M, N) (k84 x1 x2 x3 x5 σ M) (eIM σ N)) (x1 : Int32) (x2 : Int32) (x3 : Int32) (x5 : Int32) (σ : gS) (M : gM) (N : gN) (hL : g_layM σ) : g_H E 0 0 120 [(0, vR 40), (1, vI x1), (2, vI x2), (3, vI x3), (5, vI x5)] [] (σ, M, N) (b_X12_leaves_120 k84 x1 x2 x3 x5 σ M) (eIM σ N) := by
  unfold b_X12_leaves_120
  refine r_run J 2 (pc' := 84) (lv' := [(5, vI (x5 + 1)), (0, vR 40), (1, vI x1), (2, vI x2), (3, vI x3)]) (st' := []) rfl ?_
  refine r_sub [1, 2, 3, 4, 0] (lv' := [(0, vR 40), (1, vI x1), (2, vI x2), (3, vI x3), (5, vI (x5 + 1))]) rfl ?_
  exact H84 x1 x2 x3 (x5 + 1) σ M N hL
set_option maxHeartbeats 4000000 in
set_option maxRecDepth 100000 in
theorem p_X12_leaves_84 {l : Launch} {E : gE} (J : J_X12_leaves E l) : ∀ (n : Nat) (x1 : Int32) (x2 : Int32) (x3 : Int32) (x5 : Int32) (σ : gS) (M : gM) (N : gN) (hL : g_layM σ), g_H E 0 0 84 [(0, vR 40), (1, vI x1), (2, vI x2), (3, vI x3), (5, vI x5)] [] (σ, M, N) (l_X12_leaves_84 n x1 x2 x3 x5 σ M) (eIM σ N) := by
  intro n
  induction n with
  | zero => intros; exact h_none
  | succ n ih =>
    intro x1 x2 x3 x5 σ M N hL
    rw [l_X12_leaves_84]
    refine r_run J 2 (pc' := 87) (lv' := [(0, vR 40), (1, vI x1), (2, vI x2), (3, vI x3), (5, vI x5)]) (st' := [vR 40, vI x5]) rfl ?_
    refine r_getI J cls12 rfl (k := 11) (by decide) wf_12_164 rfl (ly_40 hL) ?_
    show g_H E 0 0 90 [(0, vR 40), (1, vI x1), (2, vI x2), (3, vI x3), (5, vI x5)] [vI (M 40 11), vI x5] (σ, M, N) _ _
    refine r_icmp_ge J (tgt := 126) rfl (by decide) (fun c90 => ?_) (fun c90 => ?_)
    · refine r_run J 2 (pc' := 96) (lv' := [(0, vR 40), (1, vI x1), (2, vI x2), (3, vI x3), (5, vI x5)]) (st' := [vI x5, vR 40]) rfl ?_
      refine r_callV J (As := [vI x5]) (st := []) (fun r hr => c_X12_isOver x5 σ M N hL r hr) cls12 (ly_40 hL) wm_12_174 wy_X12_isOver wd_X12_isOver ⟨by decide, by decide, by decide, by decide, Nat.le_of_ble_eq_true rfl⟩ rfl rfl (fun q96 hq96 => ?_)
      show g_H E 0 0 99 [(0, vR 40), (1, vI x1), (2, vI x2), (3, vI x3), (5, vI x5)] [vI q96] (σ, M, N) _ _
      refine r_if_ne J (tgt := 120) rfl (by decide) (fun c99 => ?_) (fun c99 => ?_)
      · refine r_run J 3 (pc' := 106) (lv' := [(0, vR 40), (1, vI x1), (2, vI x2), (3, vI x3), (5, vI x5)]) (st' := [vI x3, vI x2, vI x5]) rfl ?_
        refine r_callS J (As := [vI x5, vI x2, vI x3]) (st := []) (fun r hr => c_X12_in x5 x2 x3 σ M N hL r hr) wm_12_160 wy_X12_in wd_X12_in ⟨by decide, by decide, by decide, by decide, Nat.le_of_ble_eq_true rfl⟩ rfl rfl (fun q106 hq106 => ?_)
        show g_H E 0 0 109 [(0, vR 40), (1, vI x1), (2, vI x2), (3, vI x3), (5, vI x5)] [vI q106] (σ, M, N) _ _
        refine r_if_ne J (tgt := 120) rfl (by decide) (fun c109 => ?_) (fun c109 => ?_)
        · refine r_run J 4 (pc' := 117) (lv' := [(0, vR 40), (1, vI x1), (2, vI x2), (3, vI x3), (5, vI x5)]) (st' := [vI (-1), vI x1, vI x5, vR 40]) rfl ?_
          refine r_callV J (As := [vI x5, vI x1, vI (-1)]) (st := []) (fun r hr => c_X12_notes x5 x1 (-1) σ M N hL r hr) cls12 (ly_40 hL) wm_12_186 wy_X12_notes wd_X12_notes ⟨by decide, by decide, by decide, by decide, Nat.le_of_ble_eq_true rfl⟩ rfl rfl (fun q117 hq117 => ?_)
          show g_H E 0 0 120 [(0, vR 40), (1, vI x1), (2, vI x2), (3, vI x3), (5, vI x5)] [] (σ, q117, N) _ _
          exact p_X12_leaves_120 J ih x1 x2 x3 x5 σ q117 N hL
        · exact p_X12_leaves_120 J ih x1 x2 x3 x5 σ M N hL
      · exact p_X12_leaves_120 J ih x1 x2 x3 x5 σ M N hL
    · refine r_run J 1 (pc' := 127) (lv' := [(0, vR 40), (1, vI x1), (2, vI x2), (3, vI x3), (5, vI x5)]) (st' := [vI 1]) rfl ?_
      exact r_iret J rfl rfl rfl rfl (by decide) (by decide)
set_option maxHeartbeats 4000000 in
set_option maxRecDepth 100000 in
theorem p_X12_leaves_57 {l : Launch} {E : gE} (J : J_X12_leaves E l) {k6 : Int32 → Int32 → Int32 → Int32 → Int32 → gS → gM → Option (Int32 × gM)} (H6 : ∀ (x1 : Int32) (x2 : Int32) (x3 : Int32) (x4 : Int32) (x5 : Int32) (σ : gS) (M : gM) (N : gN) (_ : g_layM σ), g_H E 0 0 6 [(0, vR 40), (1, vI x1), (2, vI x2), (3, vI x3), (4, vI x4), (5, vI x5)] [] (σ, M, N) (k6 x1 x2 x3 x4 x5 σ M) (eIM σ N)) (x1 : Int32) (x2 : Int32) (x3 : Int32) (x5 : Int32) (sx0 : Int32) (sx1 : Int32) (σ : gS) (M : gM) (N : gN) (hL : g_layM σ) : g_H E 0 0 57 [(0, vR 40), (1, vI x1), (2, vI x2), (3, vI x3), (5, vI x5)] [vI sx0, vI sx1] (σ, M, N) (b_X12_leaves_57 k6 x1 x2 x3 x5 sx0 sx1 σ M) (eIM σ N) := by
  unfold b_X12_leaves_57
  refine r_run J 4 (pc' := 6) (lv' := [(5, vI (x5 + 1)), (4, vI (sx1 + sx0)), (0, vR 40), (1, vI x1), (2, vI x2), (3, vI x3)]) (st' := []) rfl ?_
  refine r_sub [2, 3, 4, 5, 1, 0] (lv' := [(0, vR 40), (1, vI x1), (2, vI x2), (3, vI x3), (4, vI (sx1 + sx0)), (5, vI (x5 + 1))]) rfl ?_
  exact H6 x1 x2 x3 (sx1 + sx0) (x5 + 1) σ M N hL
set_option maxHeartbeats 4000000 in
set_option maxRecDepth 100000 in
theorem p_X12_leaves_56 {l : Launch} {E : gE} (J : J_X12_leaves E l) {k6 : Int32 → Int32 → Int32 → Int32 → Int32 → gS → gM → Option (Int32 × gM)} (H6 : ∀ (x1 : Int32) (x2 : Int32) (x3 : Int32) (x4 : Int32) (x5 : Int32) (σ : gS) (M : gM) (N : gN) (_ : g_layM σ), g_H E 0 0 6 [(0, vR 40), (1, vI x1), (2, vI x2), (3, vI x3), (4, vI x4), (5, vI x5)] [] (σ, M, N) (k6 x1 x2 x3 x4 x5 σ M) (eIM σ N)) (x1 : Int32) (x2 : Int32) (x3 : Int32) (x5 : Int32) (sx0 : Int32) (σ : gS) (M : gM) (N : gN) (hL : g_layM σ) : g_H E 0 0 56 [(0, vR 40), (1, vI x1), (2, vI x2), (3, vI x3), (5, vI x5)] [vI sx0] (σ, M, N) (b_X12_leaves_56 k6 x1 x2 x3 x5 sx0 σ M) (eIM σ N) := by
  unfold b_X12_leaves_56
  refine r_run J 1 (pc' := 57) (lv' := [(0, vR 40), (1, vI x1), (2, vI x2), (3, vI x3), (5, vI x5)]) (st' := [vI 0, vI sx0]) rfl ?_
  exact p_X12_leaves_57 J H6 x1 x2 x3 x5 0 sx0 σ M N hL
set_option maxHeartbeats 4000000 in
set_option maxRecDepth 100000 in
theorem p_X12_leaves_6 {l : Launch} {E : gE} (J : J_X12_leaves E l) : ∀ (n : Nat) (x1 : Int32) (x2 : Int32) (x3 : Int32) (x4 : Int32) (x5 : Int32) (σ : gS) (M : gM) (N : gN) (hL : g_layM σ), g_H E 0 0 6 [(0, vR 40), (1, vI x1), (2, vI x2), (3, vI x3), (4, vI x4), (5, vI x5)] [] (σ, M, N) (l_X12_leaves_6 n x1 x2 x3 x4 x5 σ M) (eIM σ N) := by
  intro n
  induction n with
  | zero => intros; exact h_none
  | succ n ih =>
    intro x1 x2 x3 x4 x5 σ M N hL
    rw [l_X12_leaves_6]
    refine r_run J 2 (pc' := 9) (lv' := [(0, vR 40), (1, vI x1), (2, vI x2), (3, vI x3), (4, vI x4), (5, vI x5)]) (st' := [vR 40, vI x5]) rfl ?_
    refine r_getI J cls12 rfl (k := 11) (by decide) wf_12_164 rfl (ly_40 hL) ?_
    show g_H E 0 0 12 [(0, vR 40), (1, vI x1), (2, vI x2), (3, vI x3), (4, vI x4), (5, vI x5)] [vI (M 40 11), vI x5] (σ, M, N) _ _
    refine r_icmp_ge J (tgt := 66) rfl (by decide) (fun c12 => ?_) (fun c12 => ?_)
    · refine r_run J 3 (pc' := 20) (lv' := [(0, vR 40), (1, vI x1), (2, vI x2), (3, vI x3), (4, vI x4), (5, vI x5)]) (st' := [vI x5, vR 40, vI x4]) rfl ?_
      refine r_callV J (As := [vI x5]) (st := [vI x4]) (fun r hr => c_X12_isOver x5 σ M N hL r hr) cls12 (ly_40 hL) wm_12_174 wy_X12_isOver wd_X12_isOver ⟨by decide, by decide, by decide, by decide, Nat.le_of_ble_eq_true rfl⟩ rfl rfl (fun q20 hq20 => ?_)
      show g_H E 0 0 23 [(0, vR 40), (1, vI x1), (2, vI x2), (3, vI x3), (4, vI x4), (5, vI x5)] [vI q20, vI x4] (σ, M, N) _ _
      refine r_if_ne J (tgt := 56) rfl (by decide) (fun c23 => ?_) (fun c23 => ?_)
      · refine r_run J 3 (pc' := 30) (lv' := [(0, vR 40), (1, vI x1), (2, vI x2), (3, vI x3), (4, vI x4), (5, vI x5)]) (st' := [vI x3, vI x2, vI x5, vI x4]) rfl ?_
        refine r_callS J (As := [vI x5, vI x2, vI x3]) (st := [vI x4]) (fun r hr => c_X12_in x5 x2 x3 σ M N hL r hr) wm_12_160 wy_X12_in wd_X12_in ⟨by decide, by decide, by decide, by decide, Nat.le_of_ble_eq_true rfl⟩ rfl rfl (fun q30 hq30 => ?_)
        show g_H E 0 0 33 [(0, vR 40), (1, vI x1), (2, vI x2), (3, vI x3), (4, vI x4), (5, vI x5)] [vI q30, vI x4] (σ, M, N) _ _
        refine r_if_ne J (tgt := 56) rfl (by decide) (fun c33 => ?_) (fun c33 => ?_)
        · refine r_run J 1 (pc' := 37) (lv' := [(0, vR 40), (1, vI x1), (2, vI x2), (3, vI x3), (4, vI x4), (5, vI x5)]) (st' := [vR 40, vI x4]) rfl ?_
          refine r_getR J cls12 rfl (k := 25) (t := 14) (by decide) wf_12_66 rfl rfl (ly_40 hL) (lr_40_25 hL) (fun _ => ?_)
          show g_H E 0 0 40 [(0, vR 40), (1, vI x1), (2, vI x2), (3, vI x3), (4, vI x4), (5, vI x5)] [vR 57, vI x4] (σ, M, N) _ _
          refine r_run J 5 (pc' := 47) (lv' := [(0, vR 40), (1, vI x1), (2, vI x2), (3, vI x3), (4, vI x4), (5, vI x5)]) (st' := [vI (((10 : Int32) * x5) + x1), vR 57, vI x4]) rfl ?_
          refine r_iald J rfl (ly_57 hL) (fun i47 => ?_)
          show g_H E 0 0 48 [(0, vR 40), (1, vI x1), (2, vI x2), (3, vI x3), (4, vI x4), (5, vI x5)] [vI (M 57 (((10 : Int32) * x5) + x1).toNatClampNeg), vI x4] (σ, M, N) _ _
          refine r_run J 1 (pc' := 49) (lv' := [(0, vR 40), (1, vI x1), (2, vI x2), (3, vI x3), (4, vI x4), (5, vI x5)]) (st' := [vI (-1), vI (M 57 (((10 : Int32) * x5) + x1).toNatClampNeg), vI x4]) rfl ?_
          refine r_icmp_eq J (tgt := 56) rfl (by decide) (fun c49 => ?_) (fun c49 => ?_)
          · refine r_sub [0, 1, 2, 3, 5] (lv' := [(0, vR 40), (1, vI x1), (2, vI x2), (3, vI x3), (5, vI x5)]) rfl ?_
            exact p_X12_leaves_56 J ih x1 x2 x3 x5 x4 σ M N hL
          · refine r_run J 2 (pc' := 57) (lv' := [(0, vR 40), (1, vI x1), (2, vI x2), (3, vI x3), (4, vI x4), (5, vI x5)]) (st' := [vI 1, vI x4]) rfl ?_
            refine r_sub [0, 1, 2, 3, 5] (lv' := [(0, vR 40), (1, vI x1), (2, vI x2), (3, vI x3), (5, vI x5)]) rfl ?_
            exact p_X12_leaves_57 J ih x1 x2 x3 x5 1 x4 σ M N hL
        · refine r_sub [0, 1, 2, 3, 5] (lv' := [(0, vR 40), (1, vI x1), (2, vI x2), (3, vI x3), (5, vI x5)]) rfl ?_
          exact p_X12_leaves_56 J ih x1 x2 x3 x5 x4 σ M N hL
      · refine r_sub [0, 1, 2, 3, 5] (lv' := [(0, vR 40), (1, vI x1), (2, vI x2), (3, vI x3), (5, vI x5)]) rfl ?_
        exact p_X12_leaves_56 J ih x1 x2 x3 x5 x4 σ M N hL
    · refine r_run J 1 (pc' := 67) (lv' := [(0, vR 40), (1, vI x1), (2, vI x2), (3, vI x3), (4, vI x4), (5, vI x5)]) (st' := [vR 40]) rfl ?_
      refine r_getI J cls12 rfl (k := 26) (by decide) wf_12_180 rfl (ly_40 hL) ?_
      show g_H E 0 0 70 [(0, vR 40), (1, vI x1), (2, vI x2), (3, vI x3), (4, vI x4), (5, vI x5)] [vI (M 40 26)] (σ, M, N) _ _
      refine r_run J 3 (pc' := 76) (lv' := [(0, vR 40), (1, vI x1), (2, vI x2), (3, vI x3), (4, vI x4), (5, vI x5)]) (st' := [vI 500, vI ((M 40 26) + x4)]) rfl ?_
      refine r_icmp_le J (tgt := 81) rfl (by decide) (fun c76 => ?_) (fun c76 => ?_)
      · refine r_run J 1 (pc' := 80) (lv' := [(0, vR 40), (1, vI x1), (2, vI x2), (3, vI x3), (4, vI x4), (5, vI x5)]) (st' := [vI 0]) rfl ?_
        exact r_iret J rfl rfl rfl rfl (by decide) (by decide)
      · refine r_run J 2 (pc' := 84) (lv' := [(5, vI 0), (0, vR 40), (1, vI x1), (2, vI x2), (3, vI x3), (4, vI x4)]) (st' := []) rfl ?_
        refine r_sub [1, 2, 3, 4, 0] (lv' := [(0, vR 40), (1, vI x1), (2, vI x2), (3, vI x3), (5, vI 0)]) rfl ?_
        exact p_X12_leaves_84 J g_FU x1 x2 x3 0 σ M N hL
set_option maxHeartbeats 4000000 in
set_option maxRecDepth 100000 in
theorem p_X12_leaves_0 {l : Launch} {E : gE} (J : J_X12_leaves E l) (x1 : Int32) (x2 : Int32) (x3 : Int32) (σ : gS) (M : gM) (N : gN) (hL : g_layM σ) : g_H E 0 0 0 [(0, vR 40), (1, vI x1), (2, vI x2), (3, vI x3)] [] (σ, M, N) (b_X12_leaves_0 x1 x2 x3 σ M) (eIM σ N) := by
  unfold b_X12_leaves_0
  refine r_run J 4 (pc' := 6) (lv' := [(5, vI 0), (4, vI 0), (0, vR 40), (1, vI x1), (2, vI x2), (3, vI x3)]) (st' := []) rfl ?_
  refine r_sub [2, 3, 4, 5, 1, 0] (lv' := [(0, vR 40), (1, vI x1), (2, vI x2), (3, vI x3), (4, vI 0), (5, vI 0)]) rfl ?_
  exact p_X12_leaves_6 J g_FU x1 x2 x3 0 0 σ M N hL
theorem c_X12_leaves {l : Launch} (x1 : Int32) (x2 : Int32) (x3 : Int32) (σ : gS) (M : gM) (N : gN) (hL : g_layM σ) (r : Int32 × gM) (h : f_X12_leaves x1 x2 x3 σ M = some r) : g_Ct l yX12_leaves cX12_leaves 6 (some .boolean) 2 0 0 [vR 40, vI x1, vI x2, vI x3] (σ, M, N) (eIM σ N r) :=
  g_Ct.of tb_X12_leaves (by decide +kernel) tk_X12_leaves (Nat.le_of_ble_eq_true rfl) (fun E J => p_X12_leaves_0 J x1 x2 x3 σ M N hL r h)
def tb_X12_stays : gT := [(0, .aload_n 0, 1, 0), (1, .iload_n 1, 1, 0), (2, .invokevirtual 177, 3, 0), (5, .ifCond .eq 40, 3, 0), (8, .aload_n 0, 1, 0), (9, .getfield 33, 3, 0), (12, .iload_n 1, 1, 0), (13, .baload, 1, 0), (14, .ifCond .ne 31, 3, 0), (17, .iload_n 2, 1, 0), (18, .iconst 0, 1, 0), (19, .iconst 5, 1, 5), (20, .invokestatic 160, 3, 0), (23, .ifCond .eq 22, 3, 0), (26, .iload_n 3, 1, 0), (27, .iload_n 2, 1, 0), (28, .iconst 5, 1, 5), (29, .invokestatic 160, 3, 0), (32, .ifCond .eq 13, 3, 0), (35, .aload_n 0, 1, 0), (36, .iload_n 1, 1, 0), (37, .iload_n 2, 1, 0), (38, .iload_n 3, 1, 0), (39, .invokevirtual 189, 3, 0), (42, .ifCond .ne 5, 3, 0), (45, .iconst 0, 1, 0), (46, .ireturn, 1, 0), (47, .aload_n 0, 1, 0), (48, .getfield 27, 3, 0), (51, .iload_n 1, 1, 0), (52, .iload_n 2, 1, 0), (53, .iastore, 1, 0), (54, .aload_n 0, 1, 0), (55, .getfield 30, 3, 0), (58, .iload_n 1, 1, 0), (59, .iload_n 3, 1, 0), (60, .iastore, 1, 0), (61, .iconst 1, 1, 1), (62, .ireturn, 1, 0)]
set_option maxRecDepth 100000 in
theorem tk_X12_stays : g_okT cX12_stays tb_X12_stays = true := by decide +kernel
abbrev J_X12_stays (E : gE) (l : Launch) : Prop := g_J E cX12_stays RX12 "stays" (some .boolean) 4 tb_X12_stays 3 0 0 l
set_option maxHeartbeats 4000000 in
set_option maxRecDepth 100000 in
theorem p_X12_stays_0 {l : Launch} {E : gE} (J : J_X12_stays E l) (x1 : Int32) (x2 : Int32) (x3 : Int32) (σ : gS) (M : gM) (N : gN) (hL : g_layM σ) : g_H E 0 0 0 [(0, vR 40), (1, vI x1), (2, vI x2), (3, vI x3)] [] (σ, M, N) (b_X12_stays_0 x1 x2 x3 σ M) (eIM σ N) := by
  unfold b_X12_stays_0
  refine r_run J 2 (pc' := 2) (lv' := [(0, vR 40), (1, vI x1), (2, vI x2), (3, vI x3)]) (st' := [vI x1, vR 40]) rfl ?_
  refine r_callV J (As := [vI x1]) (st := []) (fun r hr => c_X12_isPerson x1 σ M N hL r hr) cls12 (ly_40 hL) wm_12_177 wy_X12_isPerson wd_X12_isPerson ⟨by decide, by decide, by decide, by decide, Nat.le_of_ble_eq_true rfl⟩ rfl rfl (fun q2 hq2 => ?_)
  show g_H E 0 0 5 [(0, vR 40), (1, vI x1), (2, vI x2), (3, vI x3)] [vI q2] (σ, M, N) _ _
  refine r_if_eq J (tgt := 45) rfl (by decide) (fun c5 => ?_) (fun c5 => ?_)
  · refine r_run J 1 (pc' := 46) (lv' := [(0, vR 40), (1, vI x1), (2, vI x2), (3, vI x3)]) (st' := [vI 0]) rfl ?_
    exact r_iret J rfl rfl rfl rfl (by decide) (by decide)
  · refine r_run J 1 (pc' := 9) (lv' := [(0, vR 40), (1, vI x1), (2, vI x2), (3, vI x3)]) (st' := [vR 40]) rfl ?_
    refine r_getR J cls12 rfl (k := 8) (t := 15) (by decide) wf_12_33 rfl rfl (ly_40 hL) (lr_40_8 hL) (fun _ => ?_)
    show g_H E 0 0 12 [(0, vR 40), (1, vI x1), (2, vI x2), (3, vI x3)] [vR 47] (σ, M, N) _ _
    refine r_run J 1 (pc' := 13) (lv' := [(0, vR 40), (1, vI x1), (2, vI x2), (3, vI x3)]) (st' := [vI x1, vR 47]) rfl ?_
    refine r_zald J rfl (ly_47 hL) (fun i13 => ?_)
    show g_H E 0 0 14 [(0, vR 40), (1, vI x1), (2, vI x2), (3, vI x3)] [vI (M 47 x1.toNatClampNeg)] (σ, M, N) _ _
    refine r_if_ne J (tgt := 45) rfl (by decide) (fun c14 => ?_) (fun c14 => ?_)
    · refine r_run J 3 (pc' := 20) (lv' := [(0, vR 40), (1, vI x1), (2, vI x2), (3, vI x3)]) (st' := [vI 5, vI 0, vI x2]) rfl ?_
      refine r_callS J (As := [vI x2, vI 0, vI 5]) (st := []) (fun r hr => c_X12_in x2 0 5 σ M N hL r hr) wm_12_160 wy_X12_in wd_X12_in ⟨by decide, by decide, by decide, by decide, Nat.le_of_ble_eq_true rfl⟩ rfl rfl (fun q20 hq20 => ?_)
      show g_H E 0 0 23 [(0, vR 40), (1, vI x1), (2, vI x2), (3, vI x3)] [vI q20] (σ, M, N) _ _
      refine r_if_eq J (tgt := 45) rfl (by decide) (fun c23 => ?_) (fun c23 => ?_)
      · refine r_run J 1 (pc' := 46) (lv' := [(0, vR 40), (1, vI x1), (2, vI x2), (3, vI x3)]) (st' := [vI 0]) rfl ?_
        exact r_iret J rfl rfl rfl rfl (by decide) (by decide)
      · refine r_run J 3 (pc' := 29) (lv' := [(0, vR 40), (1, vI x1), (2, vI x2), (3, vI x3)]) (st' := [vI 5, vI x2, vI x3]) rfl ?_
        refine r_callS J (As := [vI x3, vI x2, vI 5]) (st := []) (fun r hr => c_X12_in x3 x2 5 σ M N hL r hr) wm_12_160 wy_X12_in wd_X12_in ⟨by decide, by decide, by decide, by decide, Nat.le_of_ble_eq_true rfl⟩ rfl rfl (fun q29 hq29 => ?_)
        show g_H E 0 0 32 [(0, vR 40), (1, vI x1), (2, vI x2), (3, vI x3)] [vI q29] (σ, M, N) _ _
        refine r_if_eq J (tgt := 45) rfl (by decide) (fun c32 => ?_) (fun c32 => ?_)
        · refine r_run J 1 (pc' := 46) (lv' := [(0, vR 40), (1, vI x1), (2, vI x2), (3, vI x3)]) (st' := [vI 0]) rfl ?_
          exact r_iret J rfl rfl rfl rfl (by decide) (by decide)
        · refine r_run J 4 (pc' := 39) (lv' := [(0, vR 40), (1, vI x1), (2, vI x2), (3, vI x3)]) (st' := [vI x3, vI x2, vI x1, vR 40]) rfl ?_
          refine r_callV J (As := [vI x1, vI x2, vI x3]) (st := []) (fun r hr => c_X12_leaves x1 x2 x3 σ M N hL r hr) cls12 (ly_40 hL) wm_12_189 wy_X12_leaves wd_X12_leaves ⟨by decide, by decide, by decide, by decide, Nat.le_of_ble_eq_true rfl⟩ rfl rfl (fun q39 hq39 => ?_)
          show g_H E 0 0 42 [(0, vR 40), (1, vI x1), (2, vI x2), (3, vI x3)] [vI q39.1] (σ, q39.2, N) _ _
          refine r_if_ne J (tgt := 47) rfl (by decide) (fun c42 => ?_) (fun c42 => ?_)
          · refine r_run J 1 (pc' := 46) (lv' := [(0, vR 40), (1, vI x1), (2, vI x2), (3, vI x3)]) (st' := [vI 0]) rfl ?_
            exact r_iret J rfl rfl rfl rfl (by decide) (by decide)
          · refine r_run J 1 (pc' := 48) (lv' := [(0, vR 40), (1, vI x1), (2, vI x2), (3, vI x3)]) (st' := [vR 40]) rfl ?_
            refine r_getR J cls12 rfl (k := 6) (t := 14) (by decide) wf_12_27 rfl rfl (ly_40 hL) (lr_40_6 hL) (fun _ => ?_)
            show g_H E 0 0 51 [(0, vR 40), (1, vI x1), (2, vI x2), (3, vI x3)] [vR 45] (σ, q39.2, N) _ _
            refine r_run J 2 (pc' := 53) (lv' := [(0, vR 40), (1, vI x1), (2, vI x2), (3, vI x3)]) (st' := [vI x2, vI x1, vR 45]) rfl ?_
            refine r_iast J rfl (ly_45 hL) (fun i53 => ?_)
            show g_H E 0 0 54 [(0, vR 40), (1, vI x1), (2, vI x2), (3, vI x3)] [] (σ, (g_up q39.2 45 (x1.toNatClampNeg) x2), N) _ _
            refine r_run J 1 (pc' := 55) (lv' := [(0, vR 40), (1, vI x1), (2, vI x2), (3, vI x3)]) (st' := [vR 40]) rfl ?_
            refine r_getR J cls12 rfl (k := 7) (t := 14) (by decide) wf_12_30 rfl rfl (ly_40 hL) (lr_40_7 hL) (fun _ => ?_)
            show g_H E 0 0 58 [(0, vR 40), (1, vI x1), (2, vI x2), (3, vI x3)] [vR 46] (σ, (g_up q39.2 45 (x1.toNatClampNeg) x2), N) _ _
            refine r_run J 2 (pc' := 60) (lv' := [(0, vR 40), (1, vI x1), (2, vI x2), (3, vI x3)]) (st' := [vI x3, vI x1, vR 46]) rfl ?_
            refine r_iast J rfl (ly_46 hL) (fun i60 => ?_)
            show g_H E 0 0 61 [(0, vR 40), (1, vI x1), (2, vI x2), (3, vI x3)] [] (σ, (g_up (g_up q39.2 45 (x1.toNatClampNeg) x2) 46 (x1.toNatClampNeg) x3), N) _ _
            refine r_run J 1 (pc' := 62) (lv' := [(0, vR 40), (1, vI x1), (2, vI x2), (3, vI x3)]) (st' := [vI 1]) rfl ?_
            exact r_iret J rfl rfl rfl rfl (by decide) (by decide)
    · refine r_run J 1 (pc' := 46) (lv' := [(0, vR 40), (1, vI x1), (2, vI x2), (3, vI x3)]) (st' := [vI 0]) rfl ?_
      exact r_iret J rfl rfl rfl rfl (by decide) (by decide)
theorem c_X12_stays {l : Launch} (x1 : Int32) (x2 : Int32) (x3 : Int32) (σ : gS) (M : gM) (N : gN) (hL : g_layM σ) (r : Int32 × gM) (h : f_X12_stays x1 x2 x3 σ M = some r) : g_Ct l yX12_stays cX12_stays 4 (some .boolean) 3 0 0 [vR 40, vI x1, vI x2, vI x3] (σ, M, N) (eIM σ N r) :=
  g_Ct.of tb_X12_stays (by decide +kernel) tk_X12_stays (Nat.le_of_ble_eq_true rfl) (fun E J => p_X12_stays_0 J x1 x2 x3 σ M N hL r h)
def tb_X12_gone : gT := [(0, .aload_n 0, 1, 0), (1, .iload_n 1, 1, 0), (2, .invokevirtual 177, 3, 0), (5, .ifCond .eq 22, 3, 0), (8, .aload_n 0, 1, 0), (9, .getfield 33, 3, 0), (12, .iload_n 1, 1, 0), (13, .baload, 1, 0), (14, .ifCond .ne 13, 3, 0), (17, .aload_n 0, 1, 0), (18, .iload_n 1, 1, 0), (19, .iconst 1, 1, 1), (20, .iconst 0, 1, 0), (21, .invokevirtual 189, 3, 0), (24, .ifCond .ne 5, 3, 0), (27, .iconst 0, 1, 0), (28, .ireturn, 1, 0), (29, .aload_n 0, 1, 0), (30, .getfield 33, 3, 0), (33, .iload_n 1, 1, 0), (34, .iconst 1, 1, 1), (35, .bastore, 1, 0), (36, .aload_n 0, 1, 0), (37, .getfield 36, 3, 0), (40, .iload_n 1, 1, 0), (41, .iaload, 1, 0), (42, .iconst (-1), 1, (-1)), (43, .if_icmp .eq 15, 3, 0), (46, .aload_n 0, 1, 0), (47, .getfield 36, 3, 0), (50, .aload_n 0, 1, 0), (51, .getfield 36, 3, 0), (54, .iload_n 1, 1, 0), (55, .iaload, 1, 0), (56, .iconst (-1), 1, (-1)), (57, .iastore, 1, 0), (58, .aload_n 0, 1, 0), (59, .getfield 36, 3, 0), (62, .iload_n 1, 1, 0), (63, .iconst (-1), 1, (-1)), (64, .iastore, 1, 0), (65, .iconst 1, 1, 1), (66, .ireturn, 1, 0)]
set_option maxRecDepth 100000 in
theorem tk_X12_gone : g_okT cX12_gone tb_X12_gone = true := by decide +kernel
abbrev J_X12_gone (E : gE) (l : Launch) : Prop := g_J E cX12_gone RX12 "gone" (some .boolean) 2 tb_X12_gone 3 0 0 l
set_option maxHeartbeats 4000000 in
set_option maxRecDepth 100000 in
theorem p_X12_gone_58 {l : Launch} {E : gE} (J : J_X12_gone E l) (x1 : Int32) (σ : gS) (M : gM) (N : gN) (hL : g_layM σ) : g_H E 0 0 58 [(0, vR 40), (1, vI x1)] [] (σ, M, N) (b_X12_gone_58 x1 σ M) (eIM σ N) := by
  unfold b_X12_gone_58
  refine r_run J 1 (pc' := 59) (lv' := [(0, vR 40), (1, vI x1)]) (st' := [vR 40]) rfl ?_
  refine r_getR J cls12 rfl (k := 9) (t := 14) (by decide) wf_12_36 rfl rfl (ly_40 hL) (lr_40_9 hL) (fun _ => ?_)
  show g_H E 0 0 62 [(0, vR 40), (1, vI x1)] [vR 48] (σ, M, N) _ _
  refine r_run J 2 (pc' := 64) (lv' := [(0, vR 40), (1, vI x1)]) (st' := [vI (-1), vI x1, vR 48]) rfl ?_
  refine r_iast J rfl (ly_48 hL) (fun i64 => ?_)
  show g_H E 0 0 65 [(0, vR 40), (1, vI x1)] [] (σ, (g_up M 48 (x1.toNatClampNeg) (-1)), N) _ _
  refine r_run J 1 (pc' := 66) (lv' := [(0, vR 40), (1, vI x1)]) (st' := [vI 1]) rfl ?_
  exact r_iret J rfl rfl rfl rfl (by decide) (by decide)
set_option maxHeartbeats 4000000 in
set_option maxRecDepth 100000 in
theorem p_X12_gone_0 {l : Launch} {E : gE} (J : J_X12_gone E l) (x1 : Int32) (σ : gS) (M : gM) (N : gN) (hL : g_layM σ) : g_H E 0 0 0 [(0, vR 40), (1, vI x1)] [] (σ, M, N) (b_X12_gone_0 x1 σ M) (eIM σ N) := by
  unfold b_X12_gone_0
  refine r_run J 2 (pc' := 2) (lv' := [(0, vR 40), (1, vI x1)]) (st' := [vI x1, vR 40]) rfl ?_
  refine r_callV J (As := [vI x1]) (st := []) (fun r hr => c_X12_isPerson x1 σ M N hL r hr) cls12 (ly_40 hL) wm_12_177 wy_X12_isPerson wd_X12_isPerson ⟨by decide, by decide, by decide, by decide, Nat.le_of_ble_eq_true rfl⟩ rfl rfl (fun q2 hq2 => ?_)
  show g_H E 0 0 5 [(0, vR 40), (1, vI x1)] [vI q2] (σ, M, N) _ _
  refine r_if_eq J (tgt := 27) rfl (by decide) (fun c5 => ?_) (fun c5 => ?_)
  · refine r_run J 1 (pc' := 28) (lv' := [(0, vR 40), (1, vI x1)]) (st' := [vI 0]) rfl ?_
    exact r_iret J rfl rfl rfl rfl (by decide) (by decide)
  · refine r_run J 1 (pc' := 9) (lv' := [(0, vR 40), (1, vI x1)]) (st' := [vR 40]) rfl ?_
    refine r_getR J cls12 rfl (k := 8) (t := 15) (by decide) wf_12_33 rfl rfl (ly_40 hL) (lr_40_8 hL) (fun _ => ?_)
    show g_H E 0 0 12 [(0, vR 40), (1, vI x1)] [vR 47] (σ, M, N) _ _
    refine r_run J 1 (pc' := 13) (lv' := [(0, vR 40), (1, vI x1)]) (st' := [vI x1, vR 47]) rfl ?_
    refine r_zald J rfl (ly_47 hL) (fun i13 => ?_)
    show g_H E 0 0 14 [(0, vR 40), (1, vI x1)] [vI (M 47 x1.toNatClampNeg)] (σ, M, N) _ _
    refine r_if_ne J (tgt := 27) rfl (by decide) (fun c14 => ?_) (fun c14 => ?_)
    · refine r_run J 4 (pc' := 21) (lv' := [(0, vR 40), (1, vI x1)]) (st' := [vI 0, vI 1, vI x1, vR 40]) rfl ?_
      refine r_callV J (As := [vI x1, vI 1, vI 0]) (st := []) (fun r hr => c_X12_leaves x1 1 0 σ M N hL r hr) cls12 (ly_40 hL) wm_12_189 wy_X12_leaves wd_X12_leaves ⟨by decide, by decide, by decide, by decide, Nat.le_of_ble_eq_true rfl⟩ rfl rfl (fun q21 hq21 => ?_)
      show g_H E 0 0 24 [(0, vR 40), (1, vI x1)] [vI q21.1] (σ, q21.2, N) _ _
      refine r_if_ne J (tgt := 29) rfl (by decide) (fun c24 => ?_) (fun c24 => ?_)
      · refine r_run J 1 (pc' := 28) (lv' := [(0, vR 40), (1, vI x1)]) (st' := [vI 0]) rfl ?_
        exact r_iret J rfl rfl rfl rfl (by decide) (by decide)
      · refine r_run J 1 (pc' := 30) (lv' := [(0, vR 40), (1, vI x1)]) (st' := [vR 40]) rfl ?_
        refine r_getR J cls12 rfl (k := 8) (t := 15) (by decide) wf_12_33 rfl rfl (ly_40 hL) (lr_40_8 hL) (fun _ => ?_)
        show g_H E 0 0 33 [(0, vR 40), (1, vI x1)] [vR 47] (σ, q21.2, N) _ _
        refine r_run J 2 (pc' := 35) (lv' := [(0, vR 40), (1, vI x1)]) (st' := [vI 1, vI x1, vR 47]) rfl ?_
        refine r_zast J rfl (ly_47 hL) (fun i35 => ?_)
        show g_H E 0 0 36 [(0, vR 40), (1, vI x1)] [] (σ, (g_up q21.2 47 (x1.toNatClampNeg) (vp_nar .boolean 1)), N) _ _
        refine r_run J 1 (pc' := 37) (lv' := [(0, vR 40), (1, vI x1)]) (st' := [vR 40]) rfl ?_
        refine r_getR J cls12 rfl (k := 9) (t := 14) (by decide) wf_12_36 rfl rfl (ly_40 hL) (lr_40_9 hL) (fun _ => ?_)
        show g_H E 0 0 40 [(0, vR 40), (1, vI x1)] [vR 48] (σ, (g_up q21.2 47 (x1.toNatClampNeg) (vp_nar .boolean 1)), N) _ _
        refine r_run J 1 (pc' := 41) (lv' := [(0, vR 40), (1, vI x1)]) (st' := [vI x1, vR 48]) rfl ?_
        refine r_iald J rfl (ly_48 hL) (fun i41 => ?_)
        show g_H E 0 0 42 [(0, vR 40), (1, vI x1)] [vI ((g_up q21.2 47 (x1.toNatClampNeg) (vp_nar .boolean 1)) 48 x1.toNatClampNeg)] (σ, (g_up q21.2 47 (x1.toNatClampNeg) (vp_nar .boolean 1)), N) _ _
        refine r_run J 1 (pc' := 43) (lv' := [(0, vR 40), (1, vI x1)]) (st' := [vI (-1), vI ((g_up q21.2 47 (x1.toNatClampNeg) (vp_nar .boolean 1)) 48 x1.toNatClampNeg)]) rfl ?_
        refine r_icmp_eq J (tgt := 58) rfl (by decide) (fun c43 => ?_) (fun c43 => ?_)
        · exact p_X12_gone_58 J x1 σ (g_up q21.2 47 (x1.toNatClampNeg) (vp_nar .boolean 1)) N hL
        · refine r_run J 1 (pc' := 47) (lv' := [(0, vR 40), (1, vI x1)]) (st' := [vR 40]) rfl ?_
          refine r_getR J cls12 rfl (k := 9) (t := 14) (by decide) wf_12_36 rfl rfl (ly_40 hL) (lr_40_9 hL) (fun _ => ?_)
          show g_H E 0 0 50 [(0, vR 40), (1, vI x1)] [vR 48] (σ, (g_up q21.2 47 (x1.toNatClampNeg) (vp_nar .boolean 1)), N) _ _
          refine r_run J 1 (pc' := 51) (lv' := [(0, vR 40), (1, vI x1)]) (st' := [vR 40, vR 48]) rfl ?_
          refine r_getR J cls12 rfl (k := 9) (t := 14) (by decide) wf_12_36 rfl rfl (ly_40 hL) (lr_40_9 hL) (fun _ => ?_)
          show g_H E 0 0 54 [(0, vR 40), (1, vI x1)] [vR 48, vR 48] (σ, (g_up q21.2 47 (x1.toNatClampNeg) (vp_nar .boolean 1)), N) _ _
          refine r_run J 1 (pc' := 55) (lv' := [(0, vR 40), (1, vI x1)]) (st' := [vI x1, vR 48, vR 48]) rfl ?_
          refine r_iald J rfl (ly_48 hL) (fun i55 => ?_)
          show g_H E 0 0 56 [(0, vR 40), (1, vI x1)] [vI ((g_up q21.2 47 (x1.toNatClampNeg) (vp_nar .boolean 1)) 48 x1.toNatClampNeg), vR 48] (σ, (g_up q21.2 47 (x1.toNatClampNeg) (vp_nar .boolean 1)), N) _ _
          refine r_run J 1 (pc' := 57) (lv' := [(0, vR 40), (1, vI x1)]) (st' := [vI (-1), vI ((g_up q21.2 47 (x1.toNatClampNeg) (vp_nar .boolean 1)) 48 x1.toNatClampNeg), vR 48]) rfl ?_
          refine r_iast J rfl (ly_48 hL) (fun i57 => ?_)
          show g_H E 0 0 58 [(0, vR 40), (1, vI x1)] [] (σ, (g_up (g_up q21.2 47 (x1.toNatClampNeg) (vp_nar .boolean 1)) 48 (((g_up q21.2 47 (x1.toNatClampNeg) (vp_nar .boolean 1)) 48 x1.toNatClampNeg).toNatClampNeg) (-1)), N) _ _
          exact p_X12_gone_58 J x1 σ (g_up (g_up q21.2 47 (x1.toNatClampNeg) (vp_nar .boolean 1)) 48 (((g_up q21.2 47 (x1.toNatClampNeg) (vp_nar .boolean 1)) 48 x1.toNatClampNeg).toNatClampNeg) (-1)) N hL
    · refine r_run J 1 (pc' := 28) (lv' := [(0, vR 40), (1, vI x1)]) (st' := [vI 0]) rfl ?_
      exact r_iret J rfl rfl rfl rfl (by decide) (by decide)
theorem c_X12_gone {l : Launch} (x1 : Int32) (σ : gS) (M : gM) (N : gN) (hL : g_layM σ) (r : Int32 × gM) (h : f_X12_gone x1 σ M = some r) : g_Ct l yX12_gone cX12_gone 2 (some .boolean) 3 0 0 [vR 40, vI x1] (σ, M, N) (eIM σ N r) :=
  g_Ct.of tb_X12_gone (by decide +kernel) tk_X12_gone (Nat.le_of_ble_eq_true rfl) (fun E J => p_X12_gone_0 J x1 σ M N hL r h)
def tb_X12_absent : gT := [(0, .aload_n 0, 1, 0), (1, .iload_n 1, 1, 0), (2, .invokevirtual 177, 3, 0), (5, .ifCond .eq 20, 3, 0), (8, .iload_n 2, 1, 0), (9, .aload_n 0, 1, 0), (10, .getfield 167, 3, 0), (13, .aload_n 0, 1, 0), (14, .getfield 192, 3, 0), (17, .iconst 1, 1, 1), (18, .isub, 1, 0), (19, .invokestatic 160, 3, 0), (22, .ifCond .ne 5, 3, 0), (25, .iconst 0, 1, 0), (26, .ireturn, 1, 0), (27, .aload_n 0, 1, 0), (28, .getfield 78, 3, 0), (31, .bipush 10, 2, 10), (33, .iload_n 2, 1, 0), (34, .imul, 1, 0), (35, .iload_n 1, 1, 0), (36, .iadd, 1, 0), (37, .iload_n 3, 1, 0), (38, .bastore, 1, 0), (39, .iconst 1, 1, 1), (40, .ireturn, 1, 0)]
set_option maxRecDepth 100000 in
theorem tk_X12_absent : g_okT cX12_absent tb_X12_absent = true := by decide +kernel
abbrev J_X12_absent (E : gE) (l : Launch) : Prop := g_J E cX12_absent RX12 "absent" (some .boolean) 4 tb_X12_absent 3 0 0 l
set_option maxHeartbeats 4000000 in
set_option maxRecDepth 100000 in
theorem p_X12_absent_0 {l : Launch} {E : gE} (J : J_X12_absent E l) (x1 : Int32) (x2 : Int32) (x3 : Int32) (σ : gS) (M : gM) (N : gN) (hL : g_layM σ) : g_H E 0 0 0 [(0, vR 40), (1, vI x1), (2, vI x2), (3, vI x3)] [] (σ, M, N) (b_X12_absent_0 x1 x2 x3 σ M) (eIM σ N) := by
  unfold b_X12_absent_0
  refine r_run J 2 (pc' := 2) (lv' := [(0, vR 40), (1, vI x1), (2, vI x2), (3, vI x3)]) (st' := [vI x1, vR 40]) rfl ?_
  refine r_callV J (As := [vI x1]) (st := []) (fun r hr => c_X12_isPerson x1 σ M N hL r hr) cls12 (ly_40 hL) wm_12_177 wy_X12_isPerson wd_X12_isPerson ⟨by decide, by decide, by decide, by decide, Nat.le_of_ble_eq_true rfl⟩ rfl rfl (fun q2 hq2 => ?_)
  show g_H E 0 0 5 [(0, vR 40), (1, vI x1), (2, vI x2), (3, vI x3)] [vI q2] (σ, M, N) _ _
  refine r_if_eq J (tgt := 25) rfl (by decide) (fun c5 => ?_) (fun c5 => ?_)
  · refine r_run J 1 (pc' := 26) (lv' := [(0, vR 40), (1, vI x1), (2, vI x2), (3, vI x3)]) (st' := [vI 0]) rfl ?_
    exact r_iret J rfl rfl rfl rfl (by decide) (by decide)
  · refine r_run J 2 (pc' := 10) (lv' := [(0, vR 40), (1, vI x1), (2, vI x2), (3, vI x3)]) (st' := [vR 40, vI x2]) rfl ?_
    refine r_getI J cls12 rfl (k := 13) (by decide) wf_12_167 rfl (ly_40 hL) ?_
    show g_H E 0 0 13 [(0, vR 40), (1, vI x1), (2, vI x2), (3, vI x3)] [vI (M 40 13), vI x2] (σ, M, N) _ _
    refine r_run J 1 (pc' := 14) (lv' := [(0, vR 40), (1, vI x1), (2, vI x2), (3, vI x3)]) (st' := [vR 40, vI (M 40 13), vI x2]) rfl ?_
    refine r_getI J cls12 rfl (k := 12) (by decide) wf_12_192 rfl (ly_40 hL) ?_
    show g_H E 0 0 17 [(0, vR 40), (1, vI x1), (2, vI x2), (3, vI x3)] [vI (M 40 12), vI (M 40 13), vI x2] (σ, M, N) _ _
    refine r_run J 2 (pc' := 19) (lv' := [(0, vR 40), (1, vI x1), (2, vI x2), (3, vI x3)]) (st' := [vI ((M 40 12) - (1 : Int32)), vI (M 40 13), vI x2]) rfl ?_
    refine r_callS J (As := [vI x2, vI (M 40 13), vI ((M 40 12) - (1 : Int32))]) (st := []) (fun r hr => c_X12_in x2 (M 40 13) ((M 40 12) - (1 : Int32)) σ M N hL r hr) wm_12_160 wy_X12_in wd_X12_in ⟨by decide, by decide, by decide, by decide, Nat.le_of_ble_eq_true rfl⟩ rfl rfl (fun q19 hq19 => ?_)
    show g_H E 0 0 22 [(0, vR 40), (1, vI x1), (2, vI x2), (3, vI x3)] [vI q19] (σ, M, N) _ _
    refine r_if_ne J (tgt := 27) rfl (by decide) (fun c22 => ?_) (fun c22 => ?_)
    · refine r_run J 1 (pc' := 26) (lv' := [(0, vR 40), (1, vI x1), (2, vI x2), (3, vI x3)]) (st' := [vI 0]) rfl ?_
      exact r_iret J rfl rfl rfl rfl (by decide) (by decide)
    · refine r_run J 1 (pc' := 28) (lv' := [(0, vR 40), (1, vI x1), (2, vI x2), (3, vI x3)]) (st' := [vR 40]) rfl ?_
      refine r_getR J cls12 rfl (k := 30) (t := 15) (by decide) wf_12_78 rfl rfl (ly_40 hL) (lr_40_30 hL) (fun _ => ?_)
      show g_H E 0 0 31 [(0, vR 40), (1, vI x1), (2, vI x2), (3, vI x3)] [vR 61] (σ, M, N) _ _
      refine r_run J 6 (pc' := 38) (lv' := [(0, vR 40), (1, vI x1), (2, vI x2), (3, vI x3)]) (st' := [vI x3, vI (((10 : Int32) * x2) + x1), vR 61]) rfl ?_
      refine r_zast J rfl (ly_61 hL) (fun i38 => ?_)
      show g_H E 0 0 39 [(0, vR 40), (1, vI x1), (2, vI x2), (3, vI x3)] [] (σ, (g_up M 61 ((((10 : Int32) * x2) + x1).toNatClampNeg) (vp_nar .boolean x3)), N) _ _
      refine r_run J 1 (pc' := 40) (lv' := [(0, vR 40), (1, vI x1), (2, vI x2), (3, vI x3)]) (st' := [vI 1]) rfl ?_
      exact r_iret J rfl rfl rfl rfl (by decide) (by decide)
theorem c_X12_absent {l : Launch} (x1 : Int32) (x2 : Int32) (x3 : Int32) (σ : gS) (M : gM) (N : gN) (hL : g_layM σ) (r : Int32 × gM) (h : f_X12_absent x1 x2 x3 σ M = some r) : g_Ct l yX12_absent cX12_absent 4 (some .boolean) 3 0 0 [vR 40, vI x1, vI x2, vI x3] (σ, M, N) (eIM σ N r) :=
  g_Ct.of tb_X12_absent (by decide +kernel) tk_X12_absent (Nat.le_of_ble_eq_true rfl) (fun E J => p_X12_absent_0 J x1 x2 x3 σ M N hL r h)
def tb_X12_town : gT := [(0, .iload_n 1, 1, 0), (1, .iconst 1, 1, 1), (2, .iconst 5, 1, 5), (3, .invokestatic 160, 3, 0), (6, .ifCond .eq 19, 3, 0), (9, .aload_n 0, 1, 0), (10, .getfield 164, 3, 0), (13, .bipush 6, 2, 6), (15, .if_icmp .eq 10, 3, 0), (18, .aload_n 0, 1, 0), (19, .getfield 167, 3, 0), (22, .ifCond .le 5, 3, 0), (25, .iconst (-1), 1, (-1)), (26, .ireturn, 1, 0), (27, .aload_n 0, 1, 0), (28, .getfield 45, 3, 0), (31, .aload_n 0, 1, 0), (32, .getfield 164, 3, 0), (35, .iload_n 1, 1, 0), (36, .iastore, 1, 0), (37, .aload_n 0, 1, 0), (38, .getfield 48, 3, 0), (41, .aload_n 0, 1, 0), (42, .getfield 164, 3, 0), (45, .aload_n 0, 1, 0), (46, .getfield 192, 3, 0), (49, .iastore, 1, 0), (50, .aload_n 0, 1, 0), (51, .dup, 1, 0), (52, .getfield 192, 3, 0), (55, .iload_n 1, 1, 0), (56, .iadd, 1, 0), (57, .putfield 192, 3, 0), (60, .aload_n 0, 1, 0), (61, .dup, 1, 0), (62, .getfield 164, 3, 0), (65, .iconst 1, 1, 1), (66, .iadd, 1, 0), (67, .putfield 164, 3, 0), (70, .aload_n 0, 1, 0), (71, .getfield 164, 3, 0), (74, .iconst 1, 1, 1), (75, .isub, 1, 0), (76, .ireturn, 1, 0)]
set_option maxRecDepth 100000 in
theorem tk_X12_town : g_okT cX12_town tb_X12_town = true := by decide +kernel
abbrev J_X12_town (E : gE) (l : Launch) : Prop := g_J E cX12_town RX12 "town" (some .int) 2 tb_X12_town 2 0 0 l
set_option maxHeartbeats 4000000 in
set_option maxRecDepth 100000 in
theorem p_X12_town_60 {l : Launch} {E : gE} (J : J_X12_town E l) (σ : gS) (M : gM) (N : gN) (hL : g_layM σ) : g_H E 0 0 60 [(0, vR 40)] [] (σ, M, N) (b_X12_town_60 σ M) (eIM σ N) := by
  unfold b_X12_town_60
  refine r_run J 2 (pc' := 62) (lv' := [(0, vR 40)]) (st' := [vR 40, vR 40]) rfl ?_
  refine r_getI J cls12 rfl (k := 11) (by decide) wf_12_164 rfl (ly_40 hL) ?_
  show g_H E 0 0 65 [(0, vR 40)] [vI (M 40 11), vR 40] (σ, M, N) _ _
  refine r_run J 2 (pc' := 67) (lv' := [(0, vR 40)]) (st' := [vI ((M 40 11) + (1 : Int32)), vR 40]) rfl ?_
  refine r_putI J cls12 rfl (k := 11) (by decide) wf_12_164 rfl (Or.inl rfl) ⟨rfl, rfl⟩ (ly_40 hL) ?_
  show g_H E 0 0 70 [(0, vR 40)] [] (σ, (g_up M 40 11 ((M 40 11) + (1 : Int32))), N) _ _
  refine r_run J 1 (pc' := 71) (lv' := [(0, vR 40)]) (st' := [vR 40]) rfl ?_
  refine r_getI J cls12 rfl (k := 11) (by decide) wf_12_164 rfl (ly_40 hL) ?_
  show g_H E 0 0 74 [(0, vR 40)] [vI ((g_up M 40 11 ((M 40 11) + (1 : Int32))) 40 11)] (σ, (g_up M 40 11 ((M 40 11) + (1 : Int32))), N) _ _
  refine r_run J 2 (pc' := 76) (lv' := [(0, vR 40)]) (st' := [vI (((g_up M 40 11 ((M 40 11) + (1 : Int32))) 40 11) - (1 : Int32))]) rfl ?_
  exact r_iret J rfl rfl rfl rfl (by decide) (by decide)
set_option maxHeartbeats 4000000 in
set_option maxRecDepth 100000 in
theorem p_X12_town_0 {l : Launch} {E : gE} (J : J_X12_town E l) (x1 : Int32) (σ : gS) (M : gM) (N : gN) (hL : g_layM σ) : g_H E 0 0 0 [(0, vR 40), (1, vI x1)] [] (σ, M, N) (b_X12_town_0 x1 σ M) (eIM σ N) := by
  unfold b_X12_town_0
  refine r_run J 3 (pc' := 3) (lv' := [(0, vR 40), (1, vI x1)]) (st' := [vI 5, vI 1, vI x1]) rfl ?_
  refine r_callS J (As := [vI x1, vI 1, vI 5]) (st := []) (fun r hr => c_X12_in x1 1 5 σ M N hL r hr) wm_12_160 wy_X12_in wd_X12_in ⟨by decide, by decide, by decide, by decide, Nat.le_of_ble_eq_true rfl⟩ rfl rfl (fun q3 hq3 => ?_)
  show g_H E 0 0 6 [(0, vR 40), (1, vI x1)] [vI q3] (σ, M, N) _ _
  refine r_if_eq J (tgt := 25) rfl (by decide) (fun c6 => ?_) (fun c6 => ?_)
  · refine r_run J 1 (pc' := 26) (lv' := [(0, vR 40), (1, vI x1)]) (st' := [vI (-1)]) rfl ?_
    exact r_iret J rfl rfl rfl rfl (by decide) (by decide)
  · refine r_run J 1 (pc' := 10) (lv' := [(0, vR 40), (1, vI x1)]) (st' := [vR 40]) rfl ?_
    refine r_getI J cls12 rfl (k := 11) (by decide) wf_12_164 rfl (ly_40 hL) ?_
    show g_H E 0 0 13 [(0, vR 40), (1, vI x1)] [vI (M 40 11)] (σ, M, N) _ _
    refine r_run J 1 (pc' := 15) (lv' := [(0, vR 40), (1, vI x1)]) (st' := [vI 6, vI (M 40 11)]) rfl ?_
    refine r_icmp_eq J (tgt := 25) rfl (by decide) (fun c15 => ?_) (fun c15 => ?_)
    · refine r_run J 1 (pc' := 26) (lv' := [(0, vR 40), (1, vI x1)]) (st' := [vI (-1)]) rfl ?_
      exact r_iret J rfl rfl rfl rfl (by decide) (by decide)
    · refine r_run J 1 (pc' := 19) (lv' := [(0, vR 40), (1, vI x1)]) (st' := [vR 40]) rfl ?_
      refine r_getI J cls12 rfl (k := 13) (by decide) wf_12_167 rfl (ly_40 hL) ?_
      show g_H E 0 0 22 [(0, vR 40), (1, vI x1)] [vI (M 40 13)] (σ, M, N) _ _
      refine r_if_le J (tgt := 27) rfl (by decide) (fun c22 => ?_) (fun c22 => ?_)
      · refine r_run J 1 (pc' := 26) (lv' := [(0, vR 40), (1, vI x1)]) (st' := [vI (-1)]) rfl ?_
        exact r_iret J rfl rfl rfl rfl (by decide) (by decide)
      · refine r_run J 1 (pc' := 28) (lv' := [(0, vR 40), (1, vI x1)]) (st' := [vR 40]) rfl ?_
        refine r_getR J cls12 rfl (k := 18) (t := 14) (by decide) wf_12_45 rfl rfl (ly_40 hL) (lr_40_18 hL) (fun _ => ?_)
        show g_H E 0 0 31 [(0, vR 40), (1, vI x1)] [vR 50] (σ, M, N) _ _
        refine r_run J 1 (pc' := 32) (lv' := [(0, vR 40), (1, vI x1)]) (st' := [vR 40, vR 50]) rfl ?_
        refine r_getI J cls12 rfl (k := 11) (by decide) wf_12_164 rfl (ly_40 hL) ?_
        show g_H E 0 0 35 [(0, vR 40), (1, vI x1)] [vI (M 40 11), vR 50] (σ, M, N) _ _
        refine r_run J 1 (pc' := 36) (lv' := [(0, vR 40), (1, vI x1)]) (st' := [vI x1, vI (M 40 11), vR 50]) rfl ?_
        refine r_iast J rfl (ly_50 hL) (fun i36 => ?_)
        show g_H E 0 0 37 [(0, vR 40), (1, vI x1)] [] (σ, (g_up M 50 ((M 40 11).toNatClampNeg) x1), N) _ _
        refine r_run J 1 (pc' := 38) (lv' := [(0, vR 40), (1, vI x1)]) (st' := [vR 40]) rfl ?_
        refine r_getR J cls12 rfl (k := 19) (t := 14) (by decide) wf_12_48 rfl rfl (ly_40 hL) (lr_40_19 hL) (fun _ => ?_)
        show g_H E 0 0 41 [(0, vR 40), (1, vI x1)] [vR 51] (σ, (g_up M 50 ((M 40 11).toNatClampNeg) x1), N) _ _
        refine r_run J 1 (pc' := 42) (lv' := [(0, vR 40), (1, vI x1)]) (st' := [vR 40, vR 51]) rfl ?_
        refine r_getI J cls12 rfl (k := 11) (by decide) wf_12_164 rfl (ly_40 hL) ?_
        show g_H E 0 0 45 [(0, vR 40), (1, vI x1)] [vI ((g_up M 50 ((M 40 11).toNatClampNeg) x1) 40 11), vR 51] (σ, (g_up M 50 ((M 40 11).toNatClampNeg) x1), N) _ _
        refine r_run J 1 (pc' := 46) (lv' := [(0, vR 40), (1, vI x1)]) (st' := [vR 40, vI ((g_up M 50 ((M 40 11).toNatClampNeg) x1) 40 11), vR 51]) rfl ?_
        refine r_getI J cls12 rfl (k := 12) (by decide) wf_12_192 rfl (ly_40 hL) ?_
        show g_H E 0 0 49 [(0, vR 40), (1, vI x1)] [vI ((g_up M 50 ((M 40 11).toNatClampNeg) x1) 40 12), vI ((g_up M 50 ((M 40 11).toNatClampNeg) x1) 40 11), vR 51] (σ, (g_up M 50 ((M 40 11).toNatClampNeg) x1), N) _ _
        refine r_iast J rfl (ly_51 hL) (fun i49 => ?_)
        show g_H E 0 0 50 [(0, vR 40), (1, vI x1)] [] (σ, (g_up (g_up M 50 ((M 40 11).toNatClampNeg) x1) 51 (((g_up M 50 ((M 40 11).toNatClampNeg) x1) 40 11).toNatClampNeg) ((g_up M 50 ((M 40 11).toNatClampNeg) x1) 40 12)), N) _ _
        refine r_run J 2 (pc' := 52) (lv' := [(0, vR 40), (1, vI x1)]) (st' := [vR 40, vR 40]) rfl ?_
        refine r_getI J cls12 rfl (k := 12) (by decide) wf_12_192 rfl (ly_40 hL) ?_
        show g_H E 0 0 55 [(0, vR 40), (1, vI x1)] [vI ((g_up (g_up M 50 ((M 40 11).toNatClampNeg) x1) 51 (((g_up M 50 ((M 40 11).toNatClampNeg) x1) 40 11).toNatClampNeg) ((g_up M 50 ((M 40 11).toNatClampNeg) x1) 40 12)) 40 12), vR 40] (σ, (g_up (g_up M 50 ((M 40 11).toNatClampNeg) x1) 51 (((g_up M 50 ((M 40 11).toNatClampNeg) x1) 40 11).toNatClampNeg) ((g_up M 50 ((M 40 11).toNatClampNeg) x1) 40 12)), N) _ _
        refine r_run J 2 (pc' := 57) (lv' := [(0, vR 40), (1, vI x1)]) (st' := [vI (((g_up (g_up M 50 ((M 40 11).toNatClampNeg) x1) 51 (((g_up M 50 ((M 40 11).toNatClampNeg) x1) 40 11).toNatClampNeg) ((g_up M 50 ((M 40 11).toNatClampNeg) x1) 40 12)) 40 12) + x1), vR 40]) rfl ?_
        refine r_putI J cls12 rfl (k := 12) (by decide) wf_12_192 rfl (Or.inl rfl) ⟨rfl, rfl⟩ (ly_40 hL) ?_
        show g_H E 0 0 60 [(0, vR 40), (1, vI x1)] [] (σ, (g_up (g_up (g_up M 50 ((M 40 11).toNatClampNeg) x1) 51 (((g_up M 50 ((M 40 11).toNatClampNeg) x1) 40 11).toNatClampNeg) ((g_up M 50 ((M 40 11).toNatClampNeg) x1) 40 12)) 40 12 (((g_up (g_up M 50 ((M 40 11).toNatClampNeg) x1) 51 (((g_up M 50 ((M 40 11).toNatClampNeg) x1) 40 11).toNatClampNeg) ((g_up M 50 ((M 40 11).toNatClampNeg) x1) 40 12)) 40 12) + x1)), N) _ _
        refine r_sub [0] (lv' := [(0, vR 40)]) rfl ?_
        exact p_X12_town_60 J σ (g_up (g_up (g_up M 50 ((M 40 11).toNatClampNeg) x1) 51 (((g_up M 50 ((M 40 11).toNatClampNeg) x1) 40 11).toNatClampNeg) ((g_up M 50 ((M 40 11).toNatClampNeg) x1) 40 12)) 40 12 (((g_up (g_up M 50 ((M 40 11).toNatClampNeg) x1) 51 (((g_up M 50 ((M 40 11).toNatClampNeg) x1) 40 11).toNatClampNeg) ((g_up M 50 ((M 40 11).toNatClampNeg) x1) 40 12)) 40 12) + x1)) N hL
theorem c_X12_town {l : Launch} (x1 : Int32) (σ : gS) (M : gM) (N : gN) (hL : g_layM σ) (r : Int32 × gM) (h : f_X12_town x1 σ M = some r) : g_Ct l yX12_town cX12_town 2 (some .int) 2 0 0 [vR 40, vI x1] (σ, M, N) (eIM σ N r) :=
  g_Ct.of tb_X12_town (by decide +kernel) tk_X12_town (Nat.le_of_ble_eq_true rfl) (fun E J => p_X12_town_0 J x1 σ M N hL r h)
def tb_X12_start : gT := [(0, .iload_n 1, 1, 0), (1, .iconst 0, 1, 0), (2, .sipush 400, 3, 400), (5, .invokestatic 160, 3, 0), (8, .ifCond .eq 10, 3, 0), (11, .aload_n 0, 1, 0), (12, .getfield 167, 3, 0), (15, .ifCond .le 5, 3, 0), (18, .iconst 0, 1, 0), (19, .ireturn, 1, 0), (20, .aload_n 0, 1, 0), (21, .iload_n 1, 1, 0), (22, .putfield 42, 3, 0), (25, .iconst 1, 1, 1), (26, .ireturn, 1, 0)]
set_option maxRecDepth 100000 in
theorem tk_X12_start : g_okT cX12_start tb_X12_start = true := by decide +kernel
abbrev J_X12_start (E : gE) (l : Launch) : Prop := g_J E cX12_start RX12 "start" (some .boolean) 2 tb_X12_start 2 0 0 l
set_option maxHeartbeats 4000000 in
set_option maxRecDepth 100000 in
theorem p_X12_start_0 {l : Launch} {E : gE} (J : J_X12_start E l) (x1 : Int32) (σ : gS) (M : gM) (N : gN) (hL : g_layM σ) : g_H E 0 0 0 [(0, vR 40), (1, vI x1)] [] (σ, M, N) (b_X12_start_0 x1 σ M) (eIM σ N) := by
  unfold b_X12_start_0
  refine r_run J 3 (pc' := 5) (lv' := [(0, vR 40), (1, vI x1)]) (st' := [vI 400, vI 0, vI x1]) rfl ?_
  refine r_callS J (As := [vI x1, vI 0, vI 400]) (st := []) (fun r hr => c_X12_in x1 0 400 σ M N hL r hr) wm_12_160 wy_X12_in wd_X12_in ⟨by decide, by decide, by decide, by decide, Nat.le_of_ble_eq_true rfl⟩ rfl rfl (fun q5 hq5 => ?_)
  show g_H E 0 0 8 [(0, vR 40), (1, vI x1)] [vI q5] (σ, M, N) _ _
  refine r_if_eq J (tgt := 18) rfl (by decide) (fun c8 => ?_) (fun c8 => ?_)
  · refine r_run J 1 (pc' := 19) (lv' := [(0, vR 40), (1, vI x1)]) (st' := [vI 0]) rfl ?_
    exact r_iret J rfl rfl rfl rfl (by decide) (by decide)
  · refine r_run J 1 (pc' := 12) (lv' := [(0, vR 40), (1, vI x1)]) (st' := [vR 40]) rfl ?_
    refine r_getI J cls12 rfl (k := 13) (by decide) wf_12_167 rfl (ly_40 hL) ?_
    show g_H E 0 0 15 [(0, vR 40), (1, vI x1)] [vI (M 40 13)] (σ, M, N) _ _
    refine r_if_le J (tgt := 20) rfl (by decide) (fun c15 => ?_) (fun c15 => ?_)
    · refine r_run J 1 (pc' := 19) (lv' := [(0, vR 40), (1, vI x1)]) (st' := [vI 0]) rfl ?_
      exact r_iret J rfl rfl rfl rfl (by decide) (by decide)
    · refine r_run J 2 (pc' := 22) (lv' := [(0, vR 40), (1, vI x1)]) (st' := [vI x1, vR 40]) rfl ?_
      refine r_putI J cls12 rfl (k := 15) (by decide) wf_12_42 rfl (Or.inl rfl) ⟨rfl, rfl⟩ (ly_40 hL) ?_
      show g_H E 0 0 25 [(0, vR 40), (1, vI x1)] [] (σ, (g_up M 40 15 x1), N) _ _
      refine r_run J 1 (pc' := 26) (lv' := [(0, vR 40), (1, vI x1)]) (st' := [vI 1]) rfl ?_
      exact r_iret J rfl rfl rfl rfl (by decide) (by decide)
theorem c_X12_start {l : Launch} (x1 : Int32) (σ : gS) (M : gM) (N : gN) (hL : g_layM σ) (r : Int32 × gM) (h : f_X12_start x1 σ M = some r) : g_Ct l yX12_start cX12_start 2 (some .boolean) 2 0 0 [vR 40, vI x1] (σ, M, N) (eIM σ N r) :=
  g_Ct.of tb_X12_start (by decide +kernel) tk_X12_start (Nat.le_of_ble_eq_true rfl) (fun E J => p_X12_start_0 J x1 σ M N hL r h)
def tb_X12_season : gT := [(0, .iload_n 1, 1, 0), (1, .iconst 0, 1, 0), (2, .iconst 3, 1, 3), (3, .invokestatic 160, 3, 0), (6, .ifCond .ne 5, 3, 0), (9, .iconst 0, 1, 0), (10, .ireturn, 1, 0), (11, .aload_n 0, 1, 0), (12, .iload_n 1, 1, 0), (13, .putfield 195, 3, 0), (16, .iconst 1, 1, 1), (17, .ireturn, 1, 0)]
set_option maxRecDepth 100000 in
theorem tk_X12_season : g_okT cX12_season tb_X12_season = true := by decide +kernel
abbrev J_X12_season (E : gE) (l : Launch) : Prop := g_J E cX12_season RX12 "season" (some .boolean) 2 tb_X12_season 2 0 0 l
set_option maxHeartbeats 4000000 in
set_option maxRecDepth 100000 in
theorem p_X12_season_0 {l : Launch} {E : gE} (J : J_X12_season E l) (x1 : Int32) (σ : gS) (M : gM) (N : gN) (hL : g_layM σ) : g_H E 0 0 0 [(0, vR 40), (1, vI x1)] [] (σ, M, N) (b_X12_season_0 x1 σ M) (eIM σ N) := by
  unfold b_X12_season_0
  refine r_run J 3 (pc' := 3) (lv' := [(0, vR 40), (1, vI x1)]) (st' := [vI 3, vI 0, vI x1]) rfl ?_
  refine r_callS J (As := [vI x1, vI 0, vI 3]) (st := []) (fun r hr => c_X12_in x1 0 3 σ M N hL r hr) wm_12_160 wy_X12_in wd_X12_in ⟨by decide, by decide, by decide, by decide, Nat.le_of_ble_eq_true rfl⟩ rfl rfl (fun q3 hq3 => ?_)
  show g_H E 0 0 6 [(0, vR 40), (1, vI x1)] [vI q3] (σ, M, N) _ _
  refine r_if_ne J (tgt := 11) rfl (by decide) (fun c6 => ?_) (fun c6 => ?_)
  · refine r_run J 1 (pc' := 10) (lv' := [(0, vR 40), (1, vI x1)]) (st' := [vI 0]) rfl ?_
    exact r_iret J rfl rfl rfl rfl (by decide) (by decide)
  · refine r_run J 2 (pc' := 13) (lv' := [(0, vR 40), (1, vI x1)]) (st' := [vI x1, vR 40]) rfl ?_
    refine r_putI J cls12 rfl (k := 16) (by decide) wf_12_195 rfl (Or.inl rfl) ⟨rfl, rfl⟩ (ly_40 hL) ?_
    show g_H E 0 0 16 [(0, vR 40), (1, vI x1)] [] (σ, (g_up M 40 16 x1), N) _ _
    refine r_run J 1 (pc' := 17) (lv' := [(0, vR 40), (1, vI x1)]) (st' := [vI 1]) rfl ?_
    exact r_iret J rfl rfl rfl rfl (by decide) (by decide)
theorem c_X12_season {l : Launch} (x1 : Int32) (σ : gS) (M : gM) (N : gN) (hL : g_layM σ) (r : Int32 × gM) (h : f_X12_season x1 σ M = some r) : g_Ct l yX12_season cX12_season 2 (some .boolean) 2 0 0 [vR 40, vI x1] (σ, M, N) (eIM σ N r) :=
  g_Ct.of tb_X12_season (by decide +kernel) tk_X12_season (Nat.le_of_ble_eq_true rfl) (fun E J => p_X12_season_0 J x1 σ M N hL r h)
def tb_X12_day : gT := [(0, .iload_n 1, 1, 0), (1, .iconst 0, 1, 0), (2, .bipush 100, 2, 100), (4, .invokestatic 160, 3, 0), (7, .ifCond .eq 15, 3, 0), (10, .aload_n 0, 1, 0), (11, .getfield 183, 3, 0), (14, .iload_n 1, 1, 0), (15, .iadd, 1, 0), (16, .sipush 1000, 3, 1000), (19, .if_icmp .le 5, 3, 0), (22, .iconst (-1), 1, (-1)), (23, .ireturn, 1, 0), (24, .aload_n 0, 1, 0), (25, .dup, 1, 0), (26, .getfield 183, 3, 0), (29, .iload_n 1, 1, 0), (30, .iadd, 1, 0), (31, .putfield 183, 3, 0), (34, .aload_n 0, 1, 0), (35, .getfield 183, 3, 0), (38, .ireturn, 1, 0)]
set_option maxRecDepth 100000 in
theorem tk_X12_day : g_okT cX12_day tb_X12_day = true := by decide +kernel
abbrev J_X12_day (E : gE) (l : Launch) : Prop := g_J E cX12_day RX12 "day" (some .int) 2 tb_X12_day 2 0 0 l
set_option maxHeartbeats 4000000 in
set_option maxRecDepth 100000 in
theorem p_X12_day_0 {l : Launch} {E : gE} (J : J_X12_day E l) (x1 : Int32) (σ : gS) (M : gM) (N : gN) (hL : g_layM σ) : g_H E 0 0 0 [(0, vR 40), (1, vI x1)] [] (σ, M, N) (b_X12_day_0 x1 σ M) (eIM σ N) := by
  unfold b_X12_day_0
  refine r_run J 3 (pc' := 4) (lv' := [(0, vR 40), (1, vI x1)]) (st' := [vI 100, vI 0, vI x1]) rfl ?_
  refine r_callS J (As := [vI x1, vI 0, vI 100]) (st := []) (fun r hr => c_X12_in x1 0 100 σ M N hL r hr) wm_12_160 wy_X12_in wd_X12_in ⟨by decide, by decide, by decide, by decide, Nat.le_of_ble_eq_true rfl⟩ rfl rfl (fun q4 hq4 => ?_)
  show g_H E 0 0 7 [(0, vR 40), (1, vI x1)] [vI q4] (σ, M, N) _ _
  refine r_if_eq J (tgt := 22) rfl (by decide) (fun c7 => ?_) (fun c7 => ?_)
  · refine r_run J 1 (pc' := 23) (lv' := [(0, vR 40), (1, vI x1)]) (st' := [vI (-1)]) rfl ?_
    exact r_iret J rfl rfl rfl rfl (by decide) (by decide)
  · refine r_run J 1 (pc' := 11) (lv' := [(0, vR 40), (1, vI x1)]) (st' := [vR 40]) rfl ?_
    refine r_getI J cls12 rfl (k := 14) (by decide) wf_12_183 rfl (ly_40 hL) ?_
    show g_H E 0 0 14 [(0, vR 40), (1, vI x1)] [vI (M 40 14)] (σ, M, N) _ _
    refine r_run J 3 (pc' := 19) (lv' := [(0, vR 40), (1, vI x1)]) (st' := [vI 1000, vI ((M 40 14) + x1)]) rfl ?_
    refine r_icmp_le J (tgt := 24) rfl (by decide) (fun c19 => ?_) (fun c19 => ?_)
    · refine r_run J 1 (pc' := 23) (lv' := [(0, vR 40), (1, vI x1)]) (st' := [vI (-1)]) rfl ?_
      exact r_iret J rfl rfl rfl rfl (by decide) (by decide)
    · refine r_run J 2 (pc' := 26) (lv' := [(0, vR 40), (1, vI x1)]) (st' := [vR 40, vR 40]) rfl ?_
      refine r_getI J cls12 rfl (k := 14) (by decide) wf_12_183 rfl (ly_40 hL) ?_
      show g_H E 0 0 29 [(0, vR 40), (1, vI x1)] [vI (M 40 14), vR 40] (σ, M, N) _ _
      refine r_run J 2 (pc' := 31) (lv' := [(0, vR 40), (1, vI x1)]) (st' := [vI ((M 40 14) + x1), vR 40]) rfl ?_
      refine r_putI J cls12 rfl (k := 14) (by decide) wf_12_183 rfl (Or.inl rfl) ⟨rfl, rfl⟩ (ly_40 hL) ?_
      show g_H E 0 0 34 [(0, vR 40), (1, vI x1)] [] (σ, (g_up M 40 14 ((M 40 14) + x1)), N) _ _
      refine r_run J 1 (pc' := 35) (lv' := [(0, vR 40), (1, vI x1)]) (st' := [vR 40]) rfl ?_
      refine r_getI J cls12 rfl (k := 14) (by decide) wf_12_183 rfl (ly_40 hL) ?_
      show g_H E 0 0 38 [(0, vR 40), (1, vI x1)] [vI ((g_up M 40 14 ((M 40 14) + x1)) 40 14)] (σ, (g_up M 40 14 ((M 40 14) + x1)), N) _ _
      exact r_iret J rfl rfl rfl rfl (by decide) (by decide)
theorem c_X12_day {l : Launch} (x1 : Int32) (σ : gS) (M : gM) (N : gN) (hL : g_layM σ) (r : Int32 × gM) (h : f_X12_day x1 σ M = some r) : g_Ct l yX12_day cX12_day 2 (some .int) 2 0 0 [vR 40, vI x1] (σ, M, N) (eIM σ N r) :=
  g_Ct.of tb_X12_day (by decide +kernel) tk_X12_day (Nat.le_of_ble_eq_true rfl) (fun E J => p_X12_day_0 J x1 σ M N hL r h)
def tb_X12_room : gT := [(0, .aload_n 0, 1, 0), (1, .iload_n 1, 1, 0), (2, .invokevirtual 198, 3, 0), (5, .ifCond .eq 35, 3, 0), (8, .iload_n 2, 1, 0), (9, .iconst 1, 1, 1), (10, .iconst 2, 1, 2), (11, .invokestatic 160, 3, 0), (14, .ifCond .eq 26, 3, 0), (17, .iload 4, 2, 0), (19, .iconst 1, 1, 1), (20, .sipush 1000, 3, 1000), (23, .invokestatic 160, 3, 0), (26, .ifCond .eq 14, 3, 0), (29, .aload_n 0, 1, 0), (30, .getfield 51, 3, 0), (33, .iload_n 1, 1, 0), (34, .iaload, 1, 0), (35, .bipush 10, 2, 10), (37, .if_icmp .ne 5, 3, 0), (40, .iconst (-1), 1, (-1)), (41, .ireturn, 1, 0), (42, .bipush 10, 2, 10), (44, .iload_n 1, 1, 0), (45, .imul, 1, 0), (46, .aload_n 0, 1, 0), (47, .getfield 51, 3, 0), (50, .iload_n 1, 1, 0), (51, .iaload, 1, 0), (52, .iadd, 1, 0), (53, .istore 5, 2, 0), (55, .aload_n 0, 1, 0), (56, .getfield 54, 3, 0), (59, .iload 5, 2, 0), (61, .iload_n 2, 1, 0), (62, .iastore, 1, 0), (63, .aload_n 0, 1, 0), (64, .getfield 57, 3, 0), (67, .iload 5, 2, 0), (69, .iload_n 3, 1, 0), (70, .bastore, 1, 0), (71, .aload_n 0, 1, 0), (72, .getfield 60, 3, 0), (75, .iload 5, 2, 0), (77, .iload 4, 2, 0), (79, .iastore, 1, 0), (80, .aload_n 0, 1, 0), (81, .getfield 63, 3, 0), (84, .iload 5, 2, 0), (86, .iconst 1, 1, 1), (87, .bastore, 1, 0), (88, .aload_n 0, 1, 0), (89, .getfield 51, 3, 0), (92, .iload_n 1, 1, 0), (93, .dup2, 1, 0), (94, .iaload, 1, 0), (95, .iconst 1, 1, 1), (96, .iadd, 1, 0), (97, .iastore, 1, 0), (98, .aload_n 0, 1, 0), (99, .getfield 51, 3, 0), (102, .iload_n 1, 1, 0), (103, .iaload, 1, 0), (104, .iconst 1, 1, 1), (105, .isub, 1, 0), (106, .ireturn, 1, 0)]
set_option maxRecDepth 100000 in
theorem tk_X12_room : g_okT cX12_room tb_X12_room = true := by decide +kernel
abbrev J_X12_room (E : gE) (l : Launch) : Prop := g_J E cX12_room RX12 "room" (some .int) 6 tb_X12_room 4 0 0 l
set_option maxHeartbeats 4000000 in
set_option maxRecDepth 100000 in
theorem p_X12_room_80 {l : Launch} {E : gE} (J : J_X12_room E l) (x1 : Int32) (x5 : Int32) (σ : gS) (M : gM) (N : gN) (hL : g_layM σ) : g_H E 0 0 80 [(0, vR 40), (1, vI x1), (5, vI x5)] [] (σ, M, N) (b_X12_room_80 x1 x5 σ M) (eIM σ N) := by
  unfold b_X12_room_80
  refine r_run J 1 (pc' := 81) (lv' := [(0, vR 40), (1, vI x1), (5, vI x5)]) (st' := [vR 40]) rfl ?_
  refine r_getR J cls12 rfl (k := 24) (t := 15) (by decide) wf_12_63 rfl rfl (ly_40 hL) (lr_40_24 hL) (fun _ => ?_)
  show g_H E 0 0 84 [(0, vR 40), (1, vI x1), (5, vI x5)] [vR 56] (σ, M, N) _ _
  refine r_run J 2 (pc' := 87) (lv' := [(0, vR 40), (1, vI x1), (5, vI x5)]) (st' := [vI 1, vI x5, vR 56]) rfl ?_
  refine r_zast J rfl (ly_56 hL) (fun i87 => ?_)
  show g_H E 0 0 88 [(0, vR 40), (1, vI x1), (5, vI x5)] [] (σ, (g_up M 56 (x5.toNatClampNeg) (vp_nar .boolean 1)), N) _ _
  refine r_run J 1 (pc' := 89) (lv' := [(0, vR 40), (1, vI x1), (5, vI x5)]) (st' := [vR 40]) rfl ?_
  refine r_getR J cls12 rfl (k := 20) (t := 14) (by decide) wf_12_51 rfl rfl (ly_40 hL) (lr_40_20 hL) (fun _ => ?_)
  show g_H E 0 0 92 [(0, vR 40), (1, vI x1), (5, vI x5)] [vR 52] (σ, (g_up M 56 (x5.toNatClampNeg) (vp_nar .boolean 1)), N) _ _
  refine r_run J 2 (pc' := 94) (lv' := [(0, vR 40), (1, vI x1), (5, vI x5)]) (st' := [vI x1, vR 52, vI x1, vR 52]) rfl ?_
  refine r_iald J rfl (ly_52 hL) (fun i94 => ?_)
  show g_H E 0 0 95 [(0, vR 40), (1, vI x1), (5, vI x5)] [vI ((g_up M 56 (x5.toNatClampNeg) (vp_nar .boolean 1)) 52 x1.toNatClampNeg), vI x1, vR 52] (σ, (g_up M 56 (x5.toNatClampNeg) (vp_nar .boolean 1)), N) _ _
  refine r_run J 2 (pc' := 97) (lv' := [(0, vR 40), (1, vI x1), (5, vI x5)]) (st' := [vI (((g_up M 56 (x5.toNatClampNeg) (vp_nar .boolean 1)) 52 x1.toNatClampNeg) + (1 : Int32)), vI x1, vR 52]) rfl ?_
  refine r_iast J rfl (ly_52 hL) (fun i97 => ?_)
  show g_H E 0 0 98 [(0, vR 40), (1, vI x1), (5, vI x5)] [] (σ, (g_up (g_up M 56 (x5.toNatClampNeg) (vp_nar .boolean 1)) 52 (x1.toNatClampNeg) (((g_up M 56 (x5.toNatClampNeg) (vp_nar .boolean 1)) 52 x1.toNatClampNeg) + (1 : Int32))), N) _ _
  refine r_run J 1 (pc' := 99) (lv' := [(0, vR 40), (1, vI x1), (5, vI x5)]) (st' := [vR 40]) rfl ?_
  refine r_getR J cls12 rfl (k := 20) (t := 14) (by decide) wf_12_51 rfl rfl (ly_40 hL) (lr_40_20 hL) (fun _ => ?_)
  show g_H E 0 0 102 [(0, vR 40), (1, vI x1), (5, vI x5)] [vR 52] (σ, (g_up (g_up M 56 (x5.toNatClampNeg) (vp_nar .boolean 1)) 52 (x1.toNatClampNeg) (((g_up M 56 (x5.toNatClampNeg) (vp_nar .boolean 1)) 52 x1.toNatClampNeg) + (1 : Int32))), N) _ _
  refine r_run J 1 (pc' := 103) (lv' := [(0, vR 40), (1, vI x1), (5, vI x5)]) (st' := [vI x1, vR 52]) rfl ?_
  refine r_iald J rfl (ly_52 hL) (fun i103 => ?_)
  show g_H E 0 0 104 [(0, vR 40), (1, vI x1), (5, vI x5)] [vI ((g_up (g_up M 56 (x5.toNatClampNeg) (vp_nar .boolean 1)) 52 (x1.toNatClampNeg) (((g_up M 56 (x5.toNatClampNeg) (vp_nar .boolean 1)) 52 x1.toNatClampNeg) + (1 : Int32))) 52 x1.toNatClampNeg)] (σ, (g_up (g_up M 56 (x5.toNatClampNeg) (vp_nar .boolean 1)) 52 (x1.toNatClampNeg) (((g_up M 56 (x5.toNatClampNeg) (vp_nar .boolean 1)) 52 x1.toNatClampNeg) + (1 : Int32))), N) _ _
  refine r_run J 2 (pc' := 106) (lv' := [(0, vR 40), (1, vI x1), (5, vI x5)]) (st' := [vI (((g_up (g_up M 56 (x5.toNatClampNeg) (vp_nar .boolean 1)) 52 (x1.toNatClampNeg) (((g_up M 56 (x5.toNatClampNeg) (vp_nar .boolean 1)) 52 x1.toNatClampNeg) + (1 : Int32))) 52 x1.toNatClampNeg) - (1 : Int32))]) rfl ?_
  exact r_iret J rfl rfl rfl rfl (by decide) (by decide)
set_option maxHeartbeats 4000000 in
set_option maxRecDepth 100000 in
theorem p_X12_room_0 {l : Launch} {E : gE} (J : J_X12_room E l) (x1 : Int32) (x2 : Int32) (x3 : Int32) (x4 : Int32) (σ : gS) (M : gM) (N : gN) (hL : g_layM σ) : g_H E 0 0 0 [(0, vR 40), (1, vI x1), (2, vI x2), (3, vI x3), (4, vI x4)] [] (σ, M, N) (b_X12_room_0 x1 x2 x3 x4 σ M) (eIM σ N) := by
  unfold b_X12_room_0
  refine r_run J 2 (pc' := 2) (lv' := [(0, vR 40), (1, vI x1), (2, vI x2), (3, vI x3), (4, vI x4)]) (st' := [vI x1, vR 40]) rfl ?_
  refine r_callV J (As := [vI x1]) (st := []) (fun r hr => c_X12_isOpen x1 σ M N hL r hr) cls12 (ly_40 hL) wm_12_198 wy_X12_isOpen wd_X12_isOpen ⟨by decide, by decide, by decide, by decide, Nat.le_of_ble_eq_true rfl⟩ rfl rfl (fun q2 hq2 => ?_)
  show g_H E 0 0 5 [(0, vR 40), (1, vI x1), (2, vI x2), (3, vI x3), (4, vI x4)] [vI q2] (σ, M, N) _ _
  refine r_if_eq J (tgt := 40) rfl (by decide) (fun c5 => ?_) (fun c5 => ?_)
  · refine r_run J 1 (pc' := 41) (lv' := [(0, vR 40), (1, vI x1), (2, vI x2), (3, vI x3), (4, vI x4)]) (st' := [vI (-1)]) rfl ?_
    exact r_iret J rfl rfl rfl rfl (by decide) (by decide)
  · refine r_run J 3 (pc' := 11) (lv' := [(0, vR 40), (1, vI x1), (2, vI x2), (3, vI x3), (4, vI x4)]) (st' := [vI 2, vI 1, vI x2]) rfl ?_
    refine r_callS J (As := [vI x2, vI 1, vI 2]) (st := []) (fun r hr => c_X12_in x2 1 2 σ M N hL r hr) wm_12_160 wy_X12_in wd_X12_in ⟨by decide, by decide, by decide, by decide, Nat.le_of_ble_eq_true rfl⟩ rfl rfl (fun q11 hq11 => ?_)
    show g_H E 0 0 14 [(0, vR 40), (1, vI x1), (2, vI x2), (3, vI x3), (4, vI x4)] [vI q11] (σ, M, N) _ _
    refine r_if_eq J (tgt := 40) rfl (by decide) (fun c14 => ?_) (fun c14 => ?_)
    · refine r_run J 1 (pc' := 41) (lv' := [(0, vR 40), (1, vI x1), (2, vI x2), (3, vI x3), (4, vI x4)]) (st' := [vI (-1)]) rfl ?_
      exact r_iret J rfl rfl rfl rfl (by decide) (by decide)
    · refine r_run J 3 (pc' := 23) (lv' := [(0, vR 40), (1, vI x1), (2, vI x2), (3, vI x3), (4, vI x4)]) (st' := [vI 1000, vI 1, vI x4]) rfl ?_
      refine r_callS J (As := [vI x4, vI 1, vI 1000]) (st := []) (fun r hr => c_X12_in x4 1 1000 σ M N hL r hr) wm_12_160 wy_X12_in wd_X12_in ⟨by decide, by decide, by decide, by decide, Nat.le_of_ble_eq_true rfl⟩ rfl rfl (fun q23 hq23 => ?_)
      show g_H E 0 0 26 [(0, vR 40), (1, vI x1), (2, vI x2), (3, vI x3), (4, vI x4)] [vI q23] (σ, M, N) _ _
      refine r_if_eq J (tgt := 40) rfl (by decide) (fun c26 => ?_) (fun c26 => ?_)
      · refine r_run J 1 (pc' := 41) (lv' := [(0, vR 40), (1, vI x1), (2, vI x2), (3, vI x3), (4, vI x4)]) (st' := [vI (-1)]) rfl ?_
        exact r_iret J rfl rfl rfl rfl (by decide) (by decide)
      · refine r_run J 1 (pc' := 30) (lv' := [(0, vR 40), (1, vI x1), (2, vI x2), (3, vI x3), (4, vI x4)]) (st' := [vR 40]) rfl ?_
        refine r_getR J cls12 rfl (k := 20) (t := 14) (by decide) wf_12_51 rfl rfl (ly_40 hL) (lr_40_20 hL) (fun _ => ?_)
        show g_H E 0 0 33 [(0, vR 40), (1, vI x1), (2, vI x2), (3, vI x3), (4, vI x4)] [vR 52] (σ, M, N) _ _
        refine r_run J 1 (pc' := 34) (lv' := [(0, vR 40), (1, vI x1), (2, vI x2), (3, vI x3), (4, vI x4)]) (st' := [vI x1, vR 52]) rfl ?_
        refine r_iald J rfl (ly_52 hL) (fun i34 => ?_)
        show g_H E 0 0 35 [(0, vR 40), (1, vI x1), (2, vI x2), (3, vI x3), (4, vI x4)] [vI (M 52 x1.toNatClampNeg)] (σ, M, N) _ _
        refine r_run J 1 (pc' := 37) (lv' := [(0, vR 40), (1, vI x1), (2, vI x2), (3, vI x3), (4, vI x4)]) (st' := [vI 10, vI (M 52 x1.toNatClampNeg)]) rfl ?_
        refine r_icmp_ne J (tgt := 42) rfl (by decide) (fun c37 => ?_) (fun c37 => ?_)
        · refine r_run J 1 (pc' := 41) (lv' := [(0, vR 40), (1, vI x1), (2, vI x2), (3, vI x3), (4, vI x4)]) (st' := [vI (-1)]) rfl ?_
          exact r_iret J rfl rfl rfl rfl (by decide) (by decide)
        · refine r_run J 4 (pc' := 47) (lv' := [(0, vR 40), (1, vI x1), (2, vI x2), (3, vI x3), (4, vI x4)]) (st' := [vR 40, vI ((10 : Int32) * x1)]) rfl ?_
          refine r_getR J cls12 rfl (k := 20) (t := 14) (by decide) wf_12_51 rfl rfl (ly_40 hL) (lr_40_20 hL) (fun _ => ?_)
          show g_H E 0 0 50 [(0, vR 40), (1, vI x1), (2, vI x2), (3, vI x3), (4, vI x4)] [vR 52, vI ((10 : Int32) * x1)] (σ, M, N) _ _
          refine r_run J 1 (pc' := 51) (lv' := [(0, vR 40), (1, vI x1), (2, vI x2), (3, vI x3), (4, vI x4)]) (st' := [vI x1, vR 52, vI ((10 : Int32) * x1)]) rfl ?_
          refine r_iald J rfl (ly_52 hL) (fun i51 => ?_)
          show g_H E 0 0 52 [(0, vR 40), (1, vI x1), (2, vI x2), (3, vI x3), (4, vI x4)] [vI (M 52 x1.toNatClampNeg), vI ((10 : Int32) * x1)] (σ, M, N) _ _
          refine r_run J 3 (pc' := 56) (lv' := [(5, vI (((10 : Int32) * x1) + (M 52 x1.toNatClampNeg))), (0, vR 40), (1, vI x1), (2, vI x2), (3, vI x3), (4, vI x4)]) (st' := [vR 40]) rfl ?_
          refine r_getR J cls12 rfl (k := 21) (t := 14) (by decide) wf_12_54 rfl rfl (ly_40 hL) (lr_40_21 hL) (fun _ => ?_)
          show g_H E 0 0 59 [(5, vI (((10 : Int32) * x1) + (M 52 x1.toNatClampNeg))), (0, vR 40), (1, vI x1), (2, vI x2), (3, vI x3), (4, vI x4)] [vR 53] (σ, M, N) _ _
          refine r_run J 2 (pc' := 62) (lv' := [(5, vI (((10 : Int32) * x1) + (M 52 x1.toNatClampNeg))), (0, vR 40), (1, vI x1), (2, vI x2), (3, vI x3), (4, vI x4)]) (st' := [vI x2, vI (((10 : Int32) * x1) + (M 52 x1.toNatClampNeg)), vR 53]) rfl ?_
          refine r_iast J rfl (ly_53 hL) (fun i62 => ?_)
          show g_H E 0 0 63 [(5, vI (((10 : Int32) * x1) + (M 52 x1.toNatClampNeg))), (0, vR 40), (1, vI x1), (2, vI x2), (3, vI x3), (4, vI x4)] [] (σ, (g_up M 53 ((((10 : Int32) * x1) + (M 52 x1.toNatClampNeg)).toNatClampNeg) x2), N) _ _
          refine r_run J 1 (pc' := 64) (lv' := [(5, vI (((10 : Int32) * x1) + (M 52 x1.toNatClampNeg))), (0, vR 40), (1, vI x1), (2, vI x2), (3, vI x3), (4, vI x4)]) (st' := [vR 40]) rfl ?_
          refine r_getR J cls12 rfl (k := 22) (t := 15) (by decide) wf_12_57 rfl rfl (ly_40 hL) (lr_40_22 hL) (fun _ => ?_)
          show g_H E 0 0 67 [(5, vI (((10 : Int32) * x1) + (M 52 x1.toNatClampNeg))), (0, vR 40), (1, vI x1), (2, vI x2), (3, vI x3), (4, vI x4)] [vR 54] (σ, (g_up M 53 ((((10 : Int32) * x1) + (M 52 x1.toNatClampNeg)).toNatClampNeg) x2), N) _ _
          refine r_run J 2 (pc' := 70) (lv' := [(5, vI (((10 : Int32) * x1) + (M 52 x1.toNatClampNeg))), (0, vR 40), (1, vI x1), (2, vI x2), (3, vI x3), (4, vI x4)]) (st' := [vI x3, vI (((10 : Int32) * x1) + (M 52 x1.toNatClampNeg)), vR 54]) rfl ?_
          refine r_zast J rfl (ly_54 hL) (fun i70 => ?_)
          show g_H E 0 0 71 [(5, vI (((10 : Int32) * x1) + (M 52 x1.toNatClampNeg))), (0, vR 40), (1, vI x1), (2, vI x2), (3, vI x3), (4, vI x4)] [] (σ, (g_up (g_up M 53 ((((10 : Int32) * x1) + (M 52 x1.toNatClampNeg)).toNatClampNeg) x2) 54 ((((10 : Int32) * x1) + (M 52 x1.toNatClampNeg)).toNatClampNeg) (vp_nar .boolean x3)), N) _ _
          refine r_run J 1 (pc' := 72) (lv' := [(5, vI (((10 : Int32) * x1) + (M 52 x1.toNatClampNeg))), (0, vR 40), (1, vI x1), (2, vI x2), (3, vI x3), (4, vI x4)]) (st' := [vR 40]) rfl ?_
          refine r_getR J cls12 rfl (k := 23) (t := 14) (by decide) wf_12_60 rfl rfl (ly_40 hL) (lr_40_23 hL) (fun _ => ?_)
          show g_H E 0 0 75 [(5, vI (((10 : Int32) * x1) + (M 52 x1.toNatClampNeg))), (0, vR 40), (1, vI x1), (2, vI x2), (3, vI x3), (4, vI x4)] [vR 55] (σ, (g_up (g_up M 53 ((((10 : Int32) * x1) + (M 52 x1.toNatClampNeg)).toNatClampNeg) x2) 54 ((((10 : Int32) * x1) + (M 52 x1.toNatClampNeg)).toNatClampNeg) (vp_nar .boolean x3)), N) _ _
          refine r_run J 2 (pc' := 79) (lv' := [(5, vI (((10 : Int32) * x1) + (M 52 x1.toNatClampNeg))), (0, vR 40), (1, vI x1), (2, vI x2), (3, vI x3), (4, vI x4)]) (st' := [vI x4, vI (((10 : Int32) * x1) + (M 52 x1.toNatClampNeg)), vR 55]) rfl ?_
          refine r_iast J rfl (ly_55 hL) (fun i79 => ?_)
          show g_H E 0 0 80 [(5, vI (((10 : Int32) * x1) + (M 52 x1.toNatClampNeg))), (0, vR 40), (1, vI x1), (2, vI x2), (3, vI x3), (4, vI x4)] [] (σ, (g_up (g_up (g_up M 53 ((((10 : Int32) * x1) + (M 52 x1.toNatClampNeg)).toNatClampNeg) x2) 54 ((((10 : Int32) * x1) + (M 52 x1.toNatClampNeg)).toNatClampNeg) (vp_nar .boolean x3)) 55 ((((10 : Int32) * x1) + (M 52 x1.toNatClampNeg)).toNatClampNeg) x4), N) _ _
          refine r_sub [1, 2, 0] (lv' := [(0, vR 40), (1, vI x1), (5, vI (((10 : Int32) * x1) + (M 52 x1.toNatClampNeg)))]) rfl ?_
          exact p_X12_room_80 J x1 (((10 : Int32) * x1) + (M 52 x1.toNatClampNeg)) σ (g_up (g_up (g_up M 53 ((((10 : Int32) * x1) + (M 52 x1.toNatClampNeg)).toNatClampNeg) x2) 54 ((((10 : Int32) * x1) + (M 52 x1.toNatClampNeg)).toNatClampNeg) (vp_nar .boolean x3)) 55 ((((10 : Int32) * x1) + (M 52 x1.toNatClampNeg)).toNatClampNeg) x4) N hL
theorem c_X12_room {l : Launch} (x1 : Int32) (x2 : Int32) (x3 : Int32) (x4 : Int32) (σ : gS) (M : gM) (N : gN) (hL : g_layM σ) (r : Int32 × gM) (h : f_X12_room x1 x2 x3 x4 σ M = some r) : g_Ct l yX12_room cX12_room 6 (some .int) 4 0 0 [vR 40, vI x1, vI x2, vI x3, vI x4] (σ, M, N) (eIM σ N r) :=
  g_Ct.of tb_X12_room (by decide +kernel) tk_X12_room (Nat.le_of_ble_eq_true rfl) (fun E J => p_X12_room_0 J x1 x2 x3 x4 σ M N hL r h)
def tb_X12_setIn : gT := [(0, .iconst 0, 1, 0), (1, .istore_n 3, 1, 0), (2, .iconst 0, 1, 0), (3, .istore 4, 2, 0), (5, .iload 4, 2, 0), (7, .aload_n 0, 1, 0), (8, .getfield 157, 3, 0), (11, .if_icmp .ge 36, 3, 0), (14, .iload_n 3, 1, 0), (15, .aload_n 0, 1, 0), (16, .getfield 66, 3, 0), (19, .bipush 10, 2, 10), (21, .iload_n 1, 1, 0), (22, .imul, 1, 0), (23, .iload 4, 2, 0), (25, .iadd, 1, 0), (26, .iaload, 1, 0), (27, .iload_n 2, 1, 0), (28, .if_icmp .ne 10, 3, 0), (31, .iconst 1, 1, 1), (32, .iload 4, 2, 0), (34, .ishl, 1, 0), (35, .goto 4, 3, 0), (38, .iconst 0, 1, 0), (39, .ior, 1, 0), (40, .istore_n 3, 1, 0), (41, .iinc 4 1, 3, 1), (44, .goto (-39), 3, 0), (47, .iload_n 3, 1, 0), (48, .ireturn, 1, 0)]
set_option maxRecDepth 100000 in
theorem tk_X12_setIn : g_okT cX12_setIn tb_X12_setIn = true := by decide +kernel
abbrev J_X12_setIn (E : gE) (l : Launch) : Prop := g_J E cX12_setIn RX12 "setIn" (some .int) 5 tb_X12_setIn 1 0 0 l
set_option maxHeartbeats 4000000 in
set_option maxRecDepth 100000 in
theorem p_X12_setIn_39 {l : Launch} {E : gE} (J : J_X12_setIn E l) {k5 : Int32 → Int32 → Int32 → Int32 → gS → gM → Option (Int32)} (H5 : ∀ (x1 : Int32) (x2 : Int32) (x3 : Int32) (x4 : Int32) (σ : gS) (M : gM) (N : gN) (_ : g_layM σ), g_H E 0 0 5 [(0, vR 40), (1, vI x1), (2, vI x2), (3, vI x3), (4, vI x4)] [] (σ, M, N) (k5 x1 x2 x3 x4 σ M) (eI σ M N)) (x1 : Int32) (x2 : Int32) (x4 : Int32) (sx0 : Int32) (sx1 : Int32) (σ : gS) (M : gM) (N : gN) (hL : g_layM σ) : g_H E 0 0 39 [(0, vR 40), (1, vI x1), (2, vI x2), (4, vI x4)] [vI sx0, vI sx1] (σ, M, N) (b_X12_setIn_39 k5 x1 x2 x4 sx0 sx1 σ M) (eI σ M N) := by
  unfold b_X12_setIn_39
  refine r_run J 4 (pc' := 5) (lv' := [(4, vI (x4 + 1)), (3, vI (sx1 ||| sx0)), (0, vR 40), (1, vI x1), (2, vI x2)]) (st' := []) rfl ?_
  refine r_sub [2, 3, 4, 1, 0] (lv' := [(0, vR 40), (1, vI x1), (2, vI x2), (3, vI (sx1 ||| sx0)), (4, vI (x4 + 1))]) rfl ?_
  exact H5 x1 x2 (sx1 ||| sx0) (x4 + 1) σ M N hL
set_option maxHeartbeats 4000000 in
set_option maxRecDepth 100000 in
theorem p_X12_setIn_5 {l : Launch} {E : gE} (J : J_X12_setIn E l) : ∀ (n : Nat) (x1 : Int32) (x2 : Int32) (x3 : Int32) (x4 : Int32) (σ : gS) (M : gM) (N : gN) (hL : g_layM σ), g_H E 0 0 5 [(0, vR 40), (1, vI x1), (2, vI x2), (3, vI x3), (4, vI x4)] [] (σ, M, N) (l_X12_setIn_5 n x1 x2 x3 x4 σ M) (eI σ M N) := by
  intro n
  induction n with
  | zero => intros; exact h_none
  | succ n ih =>
    intro x1 x2 x3 x4 σ M N hL
    rw [l_X12_setIn_5]
    refine r_run J 2 (pc' := 8) (lv' := [(0, vR 40), (1, vI x1), (2, vI x2), (3, vI x3), (4, vI x4)]) (st' := [vR 40, vI x4]) rfl ?_
    refine r_getI J cls12 rfl (k := 1) (by decide) wf_12_157 rfl (ly_40 hL) ?_
    show g_H E 0 0 11 [(0, vR 40), (1, vI x1), (2, vI x2), (3, vI x3), (4, vI x4)] [vI (M 40 1), vI x4] (σ, M, N) _ _
    refine r_icmp_ge J (tgt := 47) rfl (by decide) (fun c11 => ?_) (fun c11 => ?_)
    · refine r_run J 2 (pc' := 16) (lv' := [(0, vR 40), (1, vI x1), (2, vI x2), (3, vI x3), (4, vI x4)]) (st' := [vR 40, vI x3]) rfl ?_
      refine r_getR J cls12 rfl (k := 25) (t := 14) (by decide) wf_12_66 rfl rfl (ly_40 hL) (lr_40_25 hL) (fun _ => ?_)
      show g_H E 0 0 19 [(0, vR 40), (1, vI x1), (2, vI x2), (3, vI x3), (4, vI x4)] [vR 57, vI x3] (σ, M, N) _ _
      refine r_run J 5 (pc' := 26) (lv' := [(0, vR 40), (1, vI x1), (2, vI x2), (3, vI x3), (4, vI x4)]) (st' := [vI (((10 : Int32) * x1) + x4), vR 57, vI x3]) rfl ?_
      refine r_iald J rfl (ly_57 hL) (fun i26 => ?_)
      show g_H E 0 0 27 [(0, vR 40), (1, vI x1), (2, vI x2), (3, vI x3), (4, vI x4)] [vI (M 57 (((10 : Int32) * x1) + x4).toNatClampNeg), vI x3] (σ, M, N) _ _
      refine r_run J 1 (pc' := 28) (lv' := [(0, vR 40), (1, vI x1), (2, vI x2), (3, vI x3), (4, vI x4)]) (st' := [vI x2, vI (M 57 (((10 : Int32) * x1) + x4).toNatClampNeg), vI x3]) rfl ?_
      refine r_icmp_ne J (tgt := 38) rfl (by decide) (fun c28 => ?_) (fun c28 => ?_)
      · refine r_run J 4 (pc' := 39) (lv' := [(0, vR 40), (1, vI x1), (2, vI x2), (3, vI x3), (4, vI x4)]) (st' := [vI ((1 : Int32) <<< (x4 &&& 31)), vI x3]) rfl ?_
        refine r_sub [0, 1, 2, 4] (lv' := [(0, vR 40), (1, vI x1), (2, vI x2), (4, vI x4)]) rfl ?_
        exact p_X12_setIn_39 J ih x1 x2 x4 ((1 : Int32) <<< (x4 &&& 31)) x3 σ M N hL
      · refine r_run J 1 (pc' := 39) (lv' := [(0, vR 40), (1, vI x1), (2, vI x2), (3, vI x3), (4, vI x4)]) (st' := [vI 0, vI x3]) rfl ?_
        refine r_sub [0, 1, 2, 4] (lv' := [(0, vR 40), (1, vI x1), (2, vI x2), (4, vI x4)]) rfl ?_
        exact p_X12_setIn_39 J ih x1 x2 x4 0 x3 σ M N hL
    · refine r_run J 1 (pc' := 48) (lv' := [(0, vR 40), (1, vI x1), (2, vI x2), (3, vI x3), (4, vI x4)]) (st' := [vI x3]) rfl ?_
      exact r_iret J rfl rfl rfl rfl (by decide) (by decide)
set_option maxHeartbeats 4000000 in
set_option maxRecDepth 100000 in
theorem p_X12_setIn_0 {l : Launch} {E : gE} (J : J_X12_setIn E l) (x1 : Int32) (x2 : Int32) (σ : gS) (M : gM) (N : gN) (hL : g_layM σ) : g_H E 0 0 0 [(0, vR 40), (1, vI x1), (2, vI x2)] [] (σ, M, N) (b_X12_setIn_0 x1 x2 σ M) (eI σ M N) := by
  unfold b_X12_setIn_0
  refine r_run J 4 (pc' := 5) (lv' := [(4, vI 0), (3, vI 0), (0, vR 40), (1, vI x1), (2, vI x2)]) (st' := []) rfl ?_
  refine r_sub [2, 3, 4, 1, 0] (lv' := [(0, vR 40), (1, vI x1), (2, vI x2), (3, vI 0), (4, vI 0)]) rfl ?_
  exact p_X12_setIn_5 J g_FU x1 x2 0 0 σ M N hL
theorem c_X12_setIn {l : Launch} (x1 : Int32) (x2 : Int32) (σ : gS) (M : gM) (N : gN) (hL : g_layM σ) (r : Int32) (h : f_X12_setIn x1 x2 σ M = some r) : g_Ct l yX12_setIn cX12_setIn 5 (some .int) 1 0 0 [vR 40, vI x1, vI x2] (σ, M, N) (eI σ M N r) :=
  g_Ct.of tb_X12_setIn (by decide +kernel) tk_X12_setIn (Nat.le_of_ble_eq_true rfl) (fun E J => p_X12_setIn_0 J x1 x2 σ M N hL r h)
def tb_X12_mayBe : gT := [(0, .bipush 10, 2, 10), (2, .iload_n 1, 1, 0), (3, .imul, 1, 0), (4, .iload_n 2, 1, 0), (5, .iadd, 1, 0), (6, .istore 4, 2, 0), (8, .iconst 0, 1, 0), (9, .istore 5, 2, 0), (11, .iconst (-1), 1, (-1)), (12, .istore 6, 2, 0), (14, .iconst 0, 1, 0), (15, .istore 7, 2, 0), (17, .iload 7, 2, 0), (19, .aload_n 0, 1, 0), (20, .getfield 157, 3, 0), (23, .if_icmp .ge 89, 3, 0), (26, .iload_n 3, 1, 0), (27, .iload 7, 2, 0), (29, .ishr, 1, 0), (30, .iconst 1, 1, 1), (31, .iand, 1, 0), (32, .ifCond .ne 6, 3, 0), (35, .goto 71, 3, 0), (38, .aload_n 0, 1, 0), (39, .getfield 63, 3, 0), (42, .iload 4, 2, 0), (44, .baload, 1, 0), (45, .ifCond .eq 52, 3, 0), (48, .aload_n 0, 1, 0), (49, .getfield 21, 3, 0), (52, .iload 7, 2, 0), (54, .baload, 1, 0), (55, .ifCond .eq 13, 3, 0), (58, .aload_n 0, 1, 0), (59, .getfield 57, 3, 0), (62, .iload 4, 2, 0), (64, .baload, 1, 0), (65, .ifCond .eq 32, 3, 0), (68, .iload 5, 2, 0), (70, .aload_n 0, 1, 0), (71, .getfield 54, 3, 0), (74, .iload 4, 2, 0), (76, .iaload, 1, 0), (77, .if_icmp .eq 20, 3, 0), (80, .iload 5, 2, 0), (82, .iconst 1, 1, 1), (83, .if_icmp .ne 16, 3, 0), (86, .aload_n 0, 1, 0), (87, .iload 6, 2, 0), (89, .iload 7, 2, 0), (91, .invokevirtual 201, 3, 0), (94, .ifCond .ne 5, 3, 0), (97, .iconst 0, 1, 0), (98, .ireturn, 1, 0), (99, .iload 7, 2, 0), (101, .istore 6, 2, 0), (103, .iinc 5 1, 3, 1), (106, .iinc 7 1, 3, 1), (109, .goto (-92), 3, 0), (112, .iconst 1, 1, 1), (113, .ireturn, 1, 0)]
set_option maxRecDepth 100000 in
theorem tk_X12_mayBe : g_okT cX12_mayBe tb_X12_mayBe = true := by decide +kernel
abbrev J_X12_mayBe (E : gE) (l : Launch) : Prop := g_J E cX12_mayBe RX12 "mayBe" (some .boolean) 8 tb_X12_mayBe 2 0 0 l
set_option maxHeartbeats 4000000 in
set_option maxRecDepth 100000 in
theorem p_X12_mayBe_106 {l : Launch} {E : gE} (J : J_X12_mayBe E l) {k17 : Int32 → Int32 → Int32 → Int32 → Int32 → gS → gM → Option (Int32)} (H17 : ∀ (x3 : Int32) (x4 : Int32) (x5 : Int32) (x6 : Int32) (x7 : Int32) (σ : gS) (M : gM) (N : gN) (_ : g_layM σ), g_H E 0 0 17 [(0, vR 40), (3, vI x3), (4, vI x4), (5, vI x5), (6, vI x6), (7, vI x7)] [] (σ, M, N) (k17 x3 x4 x5 x6 x7 σ M) (eI σ M N)) (x3 : Int32) (x4 : Int32) (x5 : Int32) (x6 : Int32) (x7 : Int32) (σ : gS) (M : gM) (N : gN) (hL : g_layM σ) : g_H E 0 0 106 [(0, vR 40), (3, vI x3), (4, vI x4), (5, vI x5), (6, vI x6), (7, vI x7)] [] (σ, M, N) (b_X12_mayBe_106 k17 x3 x4 x5 x6 x7 σ M) (eI σ M N) := by
  unfold b_X12_mayBe_106
  refine r_run J 2 (pc' := 17) (lv' := [(7, vI (x7 + 1)), (0, vR 40), (3, vI x3), (4, vI x4), (5, vI x5), (6, vI x6)]) (st' := []) rfl ?_
  refine r_sub [1, 2, 3, 4, 5, 0] (lv' := [(0, vR 40), (3, vI x3), (4, vI x4), (5, vI x5), (6, vI x6), (7, vI (x7 + 1))]) rfl ?_
  exact H17 x3 x4 x5 x6 (x7 + 1) σ M N hL
set_option maxHeartbeats 4000000 in
set_option maxRecDepth 100000 in
theorem p_X12_mayBe_99 {l : Launch} {E : gE} (J : J_X12_mayBe E l) {k17 : Int32 → Int32 → Int32 → Int32 → Int32 → gS → gM → Option (Int32)} (H17 : ∀ (x3 : Int32) (x4 : Int32) (x5 : Int32) (x6 : Int32) (x7 : Int32) (σ : gS) (M : gM) (N : gN) (_ : g_layM σ), g_H E 0 0 17 [(0, vR 40), (3, vI x3), (4, vI x4), (5, vI x5), (6, vI x6), (7, vI x7)] [] (σ, M, N) (k17 x3 x4 x5 x6 x7 σ M) (eI σ M N)) (x3 : Int32) (x4 : Int32) (x5 : Int32) (x7 : Int32) (σ : gS) (M : gM) (N : gN) (hL : g_layM σ) : g_H E 0 0 99 [(0, vR 40), (3, vI x3), (4, vI x4), (5, vI x5), (7, vI x7)] [] (σ, M, N) (b_X12_mayBe_99 k17 x3 x4 x5 x7 σ M) (eI σ M N) := by
  unfold b_X12_mayBe_99
  refine r_run J 3 (pc' := 106) (lv' := [(5, vI (x5 + 1)), (6, vI x7), (0, vR 40), (3, vI x3), (4, vI x4), (7, vI x7)]) (st' := []) rfl ?_
  refine r_sub [2, 3, 4, 0, 1, 5] (lv' := [(0, vR 40), (3, vI x3), (4, vI x4), (5, vI (x5 + 1)), (6, vI x7), (7, vI x7)]) rfl ?_
  exact p_X12_mayBe_106 J H17 x3 x4 (x5 + 1) x7 x7 σ M N hL
set_option maxHeartbeats 4000000 in
set_option maxRecDepth 100000 in
theorem p_X12_mayBe_68 {l : Launch} {E : gE} (J : J_X12_mayBe E l) {k17 : Int32 → Int32 → Int32 → Int32 → Int32 → gS → gM → Option (Int32)} (H17 : ∀ (x3 : Int32) (x4 : Int32) (x5 : Int32) (x6 : Int32) (x7 : Int32) (σ : gS) (M : gM) (N : gN) (_ : g_layM σ), g_H E 0 0 17 [(0, vR 40), (3, vI x3), (4, vI x4), (5, vI x5), (6, vI x6), (7, vI x7)] [] (σ, M, N) (k17 x3 x4 x5 x6 x7 σ M) (eI σ M N)) (x3 : Int32) (x4 : Int32) (x5 : Int32) (x6 : Int32) (x7 : Int32) (σ : gS) (M : gM) (N : gN) (hL : g_layM σ) : g_H E 0 0 68 [(0, vR 40), (3, vI x3), (4, vI x4), (5, vI x5), (6, vI x6), (7, vI x7)] [] (σ, M, N) (b_X12_mayBe_68 k17 x3 x4 x5 x6 x7 σ M) (eI σ M N) := by
  unfold b_X12_mayBe_68
  refine r_run J 2 (pc' := 71) (lv' := [(0, vR 40), (3, vI x3), (4, vI x4), (5, vI x5), (6, vI x6), (7, vI x7)]) (st' := [vR 40, vI x5]) rfl ?_
  refine r_getR J cls12 rfl (k := 21) (t := 14) (by decide) wf_12_54 rfl rfl (ly_40 hL) (lr_40_21 hL) (fun _ => ?_)
  show g_H E 0 0 74 [(0, vR 40), (3, vI x3), (4, vI x4), (5, vI x5), (6, vI x6), (7, vI x7)] [vR 53, vI x5] (σ, M, N) _ _
  refine r_run J 1 (pc' := 76) (lv' := [(0, vR 40), (3, vI x3), (4, vI x4), (5, vI x5), (6, vI x6), (7, vI x7)]) (st' := [vI x4, vR 53, vI x5]) rfl ?_
  refine r_iald J rfl (ly_53 hL) (fun i76 => ?_)
  show g_H E 0 0 77 [(0, vR 40), (3, vI x3), (4, vI x4), (5, vI x5), (6, vI x6), (7, vI x7)] [vI (M 53 x4.toNatClampNeg), vI x5] (σ, M, N) _ _
  refine r_icmp_eq J (tgt := 97) rfl (by decide) (fun c77 => ?_) (fun c77 => ?_)
  · refine r_run J 1 (pc' := 98) (lv' := [(0, vR 40), (3, vI x3), (4, vI x4), (5, vI x5), (6, vI x6), (7, vI x7)]) (st' := [vI 0]) rfl ?_
    exact r_iret J rfl rfl rfl rfl (by decide) (by decide)
  · refine r_run J 2 (pc' := 83) (lv' := [(0, vR 40), (3, vI x3), (4, vI x4), (5, vI x5), (6, vI x6), (7, vI x7)]) (st' := [vI 1, vI x5]) rfl ?_
    refine r_icmp_ne J (tgt := 99) rfl (by decide) (fun c83 => ?_) (fun c83 => ?_)
    · refine r_run J 3 (pc' := 91) (lv' := [(0, vR 40), (3, vI x3), (4, vI x4), (5, vI x5), (6, vI x6), (7, vI x7)]) (st' := [vI x7, vI x6, vR 40]) rfl ?_
      refine r_callV J (As := [vI x6, vI x7]) (st := []) (fun r hr => c_X12_mayShare x6 x7 σ M N hL r hr) cls12 (ly_40 hL) wm_12_201 wy_X12_mayShare wd_X12_mayShare ⟨by decide, by decide, by decide, by decide, Nat.le_of_ble_eq_true rfl⟩ rfl rfl (fun q91 hq91 => ?_)
      show g_H E 0 0 94 [(0, vR 40), (3, vI x3), (4, vI x4), (5, vI x5), (6, vI x6), (7, vI x7)] [vI q91] (σ, M, N) _ _
      refine r_if_ne J (tgt := 99) rfl (by decide) (fun c94 => ?_) (fun c94 => ?_)
      · refine r_run J 1 (pc' := 98) (lv' := [(0, vR 40), (3, vI x3), (4, vI x4), (5, vI x5), (6, vI x6), (7, vI x7)]) (st' := [vI 0]) rfl ?_
        exact r_iret J rfl rfl rfl rfl (by decide) (by decide)
      · refine r_sub [0, 1, 2, 3, 5] (lv' := [(0, vR 40), (3, vI x3), (4, vI x4), (5, vI x5), (7, vI x7)]) rfl ?_
        exact p_X12_mayBe_99 J H17 x3 x4 x5 x7 σ M N hL
    · refine r_sub [0, 1, 2, 3, 5] (lv' := [(0, vR 40), (3, vI x3), (4, vI x4), (5, vI x5), (7, vI x7)]) rfl ?_
      exact p_X12_mayBe_99 J H17 x3 x4 x5 x7 σ M N hL
set_option maxHeartbeats 4000000 in
set_option maxRecDepth 100000 in
theorem p_X12_mayBe_17 {l : Launch} {E : gE} (J : J_X12_mayBe E l) : ∀ (n : Nat) (x3 : Int32) (x4 : Int32) (x5 : Int32) (x6 : Int32) (x7 : Int32) (σ : gS) (M : gM) (N : gN) (hL : g_layM σ), g_H E 0 0 17 [(0, vR 40), (3, vI x3), (4, vI x4), (5, vI x5), (6, vI x6), (7, vI x7)] [] (σ, M, N) (l_X12_mayBe_17 n x3 x4 x5 x6 x7 σ M) (eI σ M N) := by
  intro n
  induction n with
  | zero => intros; exact h_none
  | succ n ih =>
    intro x3 x4 x5 x6 x7 σ M N hL
    rw [l_X12_mayBe_17]
    refine r_run J 2 (pc' := 20) (lv' := [(0, vR 40), (3, vI x3), (4, vI x4), (5, vI x5), (6, vI x6), (7, vI x7)]) (st' := [vR 40, vI x7]) rfl ?_
    refine r_getI J cls12 rfl (k := 1) (by decide) wf_12_157 rfl (ly_40 hL) ?_
    show g_H E 0 0 23 [(0, vR 40), (3, vI x3), (4, vI x4), (5, vI x5), (6, vI x6), (7, vI x7)] [vI (M 40 1), vI x7] (σ, M, N) _ _
    refine r_icmp_ge J (tgt := 112) rfl (by decide) (fun c23 => ?_) (fun c23 => ?_)
    · refine r_run J 5 (pc' := 32) (lv' := [(0, vR 40), (3, vI x3), (4, vI x4), (5, vI x5), (6, vI x6), (7, vI x7)]) (st' := [vI ((x3 >>> (x7 &&& 31)) &&& (1 : Int32))]) rfl ?_
      refine r_if_ne J (tgt := 38) rfl (by decide) (fun c32 => ?_) (fun c32 => ?_)
      · refine r_run J 1 (pc' := 106) (lv' := [(0, vR 40), (3, vI x3), (4, vI x4), (5, vI x5), (6, vI x6), (7, vI x7)]) (st' := []) rfl ?_
        exact p_X12_mayBe_106 J ih x3 x4 x5 x6 x7 σ M N hL
      · refine r_run J 1 (pc' := 39) (lv' := [(0, vR 40), (3, vI x3), (4, vI x4), (5, vI x5), (6, vI x6), (7, vI x7)]) (st' := [vR 40]) rfl ?_
        refine r_getR J cls12 rfl (k := 24) (t := 15) (by decide) wf_12_63 rfl rfl (ly_40 hL) (lr_40_24 hL) (fun _ => ?_)
        show g_H E 0 0 42 [(0, vR 40), (3, vI x3), (4, vI x4), (5, vI x5), (6, vI x6), (7, vI x7)] [vR 56] (σ, M, N) _ _
        refine r_run J 1 (pc' := 44) (lv' := [(0, vR 40), (3, vI x3), (4, vI x4), (5, vI x5), (6, vI x6), (7, vI x7)]) (st' := [vI x4, vR 56]) rfl ?_
        refine r_zald J rfl (ly_56 hL) (fun i44 => ?_)
        show g_H E 0 0 45 [(0, vR 40), (3, vI x3), (4, vI x4), (5, vI x5), (6, vI x6), (7, vI x7)] [vI (M 56 x4.toNatClampNeg)] (σ, M, N) _ _
        refine r_if_eq J (tgt := 97) rfl (by decide) (fun c45 => ?_) (fun c45 => ?_)
        · refine r_run J 1 (pc' := 98) (lv' := [(0, vR 40), (3, vI x3), (4, vI x4), (5, vI x5), (6, vI x6), (7, vI x7)]) (st' := [vI 0]) rfl ?_
          exact r_iret J rfl rfl rfl rfl (by decide) (by decide)
        · refine r_run J 1 (pc' := 49) (lv' := [(0, vR 40), (3, vI x3), (4, vI x4), (5, vI x5), (6, vI x6), (7, vI x7)]) (st' := [vR 40]) rfl ?_
          refine r_getR J cls12 rfl (k := 4) (t := 15) (by decide) wf_12_21 rfl rfl (ly_40 hL) (lr_40_4 hL) (fun _ => ?_)
          show g_H E 0 0 52 [(0, vR 40), (3, vI x3), (4, vI x4), (5, vI x5), (6, vI x6), (7, vI x7)] [vR 43] (σ, M, N) _ _
          refine r_run J 1 (pc' := 54) (lv' := [(0, vR 40), (3, vI x3), (4, vI x4), (5, vI x5), (6, vI x6), (7, vI x7)]) (st' := [vI x7, vR 43]) rfl ?_
          refine r_zald J rfl (ly_43 hL) (fun i54 => ?_)
          show g_H E 0 0 55 [(0, vR 40), (3, vI x3), (4, vI x4), (5, vI x5), (6, vI x6), (7, vI x7)] [vI (M 43 x7.toNatClampNeg)] (σ, M, N) _ _
          refine r_if_eq J (tgt := 68) rfl (by decide) (fun c55 => ?_) (fun c55 => ?_)
          · exact p_X12_mayBe_68 J ih x3 x4 x5 x6 x7 σ M N hL
          · refine r_run J 1 (pc' := 59) (lv' := [(0, vR 40), (3, vI x3), (4, vI x4), (5, vI x5), (6, vI x6), (7, vI x7)]) (st' := [vR 40]) rfl ?_
            refine r_getR J cls12 rfl (k := 22) (t := 15) (by decide) wf_12_57 rfl rfl (ly_40 hL) (lr_40_22 hL) (fun _ => ?_)
            show g_H E 0 0 62 [(0, vR 40), (3, vI x3), (4, vI x4), (5, vI x5), (6, vI x6), (7, vI x7)] [vR 54] (σ, M, N) _ _
            refine r_run J 1 (pc' := 64) (lv' := [(0, vR 40), (3, vI x3), (4, vI x4), (5, vI x5), (6, vI x6), (7, vI x7)]) (st' := [vI x4, vR 54]) rfl ?_
            refine r_zald J rfl (ly_54 hL) (fun i64 => ?_)
            show g_H E 0 0 65 [(0, vR 40), (3, vI x3), (4, vI x4), (5, vI x5), (6, vI x6), (7, vI x7)] [vI (M 54 x4.toNatClampNeg)] (σ, M, N) _ _
            refine r_if_eq J (tgt := 97) rfl (by decide) (fun c65 => ?_) (fun c65 => ?_)
            · refine r_run J 1 (pc' := 98) (lv' := [(0, vR 40), (3, vI x3), (4, vI x4), (5, vI x5), (6, vI x6), (7, vI x7)]) (st' := [vI 0]) rfl ?_
              exact r_iret J rfl rfl rfl rfl (by decide) (by decide)
            · exact p_X12_mayBe_68 J ih x3 x4 x5 x6 x7 σ M N hL
    · refine r_run J 1 (pc' := 113) (lv' := [(0, vR 40), (3, vI x3), (4, vI x4), (5, vI x5), (6, vI x6), (7, vI x7)]) (st' := [vI 1]) rfl ?_
      exact r_iret J rfl rfl rfl rfl (by decide) (by decide)
set_option maxHeartbeats 4000000 in
set_option maxRecDepth 100000 in
theorem p_X12_mayBe_0 {l : Launch} {E : gE} (J : J_X12_mayBe E l) (x1 : Int32) (x2 : Int32) (x3 : Int32) (σ : gS) (M : gM) (N : gN) (hL : g_layM σ) : g_H E 0 0 0 [(0, vR 40), (1, vI x1), (2, vI x2), (3, vI x3)] [] (σ, M, N) (b_X12_mayBe_0 x1 x2 x3 σ M) (eI σ M N) := by
  unfold b_X12_mayBe_0
  refine r_run J 12 (pc' := 17) (lv' := [(7, vI 0), (6, vI (-1)), (5, vI 0), (4, vI (((10 : Int32) * x1) + x2)), (0, vR 40), (1, vI x1), (2, vI x2), (3, vI x3)]) (st' := []) rfl ?_
  refine r_sub [4, 7, 3, 2, 1, 0] (lv' := [(0, vR 40), (3, vI x3), (4, vI (((10 : Int32) * x1) + x2)), (5, vI 0), (6, vI (-1)), (7, vI 0)]) rfl ?_
  exact p_X12_mayBe_17 J g_FU x3 (((10 : Int32) * x1) + x2) 0 (-1) 0 σ M N hL
theorem c_X12_mayBe {l : Launch} (x1 : Int32) (x2 : Int32) (x3 : Int32) (σ : gS) (M : gM) (N : gN) (hL : g_layM σ) (r : Int32) (h : f_X12_mayBe x1 x2 x3 σ M = some r) : g_Ct l yX12_mayBe cX12_mayBe 8 (some .boolean) 2 0 0 [vR 40, vI x1, vI x2, vI x3] (σ, M, N) (eI σ M N r) :=
  g_Ct.of tb_X12_mayBe (by decide +kernel) tk_X12_mayBe (Nat.le_of_ble_eq_true rfl) (fun E J => p_X12_mayBe_0 J x1 x2 x3 σ M N hL r h)
def tb_X12_put : gT := [(0, .aload_n 0, 1, 0), (1, .iload_n 1, 1, 0), (2, .invokevirtual 198, 3, 0), (5, .ifCond .eq 34, 3, 0), (8, .aload_n 0, 1, 0), (9, .iload_n 2, 1, 0), (10, .invokevirtual 177, 3, 0), (13, .ifCond .eq 26, 3, 0), (16, .aload_n 0, 1, 0), (17, .iload_n 2, 1, 0), (18, .iload_n 1, 1, 0), (19, .invokevirtual 205, 3, 0), (22, .ifCond .eq 17, 3, 0), (25, .iload_n 3, 1, 0), (26, .iconst (-1), 1, (-1)), (27, .if_icmp .eq 14, 3, 0), (30, .aload_n 0, 1, 0), (31, .iload_n 1, 1, 0), (32, .iload_n 3, 1, 0), (33, .invokevirtual 208, 3, 0), (36, .ifCond .ne 5, 3, 0), (39, .iconst 0, 1, 0), (40, .ireturn, 1, 0), (41, .iconst 1, 1, 1), (42, .iload_n 2, 1, 0), (43, .ishl, 1, 0), (44, .istore 4, 2, 0), (46, .iload_n 3, 1, 0), (47, .iconst (-1), 1, (-1)), (48, .if_icmp .eq 118, 3, 0), (51, .aload_n 0, 1, 0), (52, .iload_n 1, 1, 0), (53, .iload_n 3, 1, 0), (54, .invokevirtual 211, 3, 0), (57, .iload 4, 2, 0), (59, .iconst (-1), 1, (-1)), (60, .ixor, 1, 0), (61, .iand, 1, 0), (62, .istore 5, 2, 0), (64, .bipush 10, 2, 10), (66, .iload_n 1, 1, 0), (67, .imul, 1, 0), (68, .iload_n 3, 1, 0), (69, .iadd, 1, 0), (70, .istore 6, 2, 0), (72, .aload_n 0, 1, 0), (73, .getfield 63, 3, 0), (76, .iload 6, 2, 0), (78, .baload, 1, 0), (79, .ifCond .eq 22, 3, 0), (82, .aload_n 0, 1, 0), (83, .getfield 21, 3, 0), (86, .iload_n 2, 1, 0), (87, .baload, 1, 0), (88, .ifCond .eq 15, 3, 0), (91, .aload_n 0, 1, 0), (92, .getfield 57, 3, 0), (95, .iload 6, 2, 0), (97, .baload, 1, 0), (98, .ifCond .ne 5, 3, 0), (101, .iconst 0, 1, 0), (102, .ireturn, 1, 0), (103, .iconst 0, 1, 0), (104, .istore 7, 2, 0), (106, .iconst 0, 1, 0), (107, .istore 8, 2, 0), (109, .iload 8, 2, 0), (111, .aload_n 0, 1, 0), (112, .getfield 157, 3, 0), (115, .if_icmp .ge 37, 3, 0), (118, .iload 5, 2, 0), (120, .iload 8, 2, 0), (122, .ishr, 1, 0), (123, .iconst 1, 1, 1), (124, .iand, 1, 0), (125, .ifCond .ne 6, 3, 0), (128, .goto 18, 3, 0), (131, .iinc 7 1, 3, 1), (134, .aload_n 0, 1, 0), (135, .iload 8, 2, 0), (137, .iload_n 2, 1, 0), (138, .invokevirtual 201, 3, 0), (141, .ifCond .ne 5, 3, 0), (144, .iconst 0, 1, 0), (145, .ireturn, 1, 0), (146, .iinc 8 1, 3, 1), (149, .goto (-40), 3, 0), (152, .iload 7, 2, 0), (154, .aload_n 0, 1, 0), (155, .getfield 54, 3, 0), (158, .iload 6, 2, 0), (160, .iaload, 1, 0), (161, .if_icmp .lt 5, 3, 0), (164, .iconst 0, 1, 0), (165, .ireturn, 1, 0), (166, .aload_n 0, 1, 0), (167, .getfield 66, 3, 0), (170, .bipush 10, 2, 10), (172, .iload_n 1, 1, 0), (173, .imul, 1, 0), (174, .iload_n 2, 1, 0), (175, .iadd, 1, 0), (176, .iaload, 1, 0), (177, .iload_n 3, 1, 0), (178, .if_icmp .eq 15, 3, 0), (181, .aload_n 0, 1, 0), (182, .getfield 180, 3, 0), (185, .sipush 500, 3, 500), (188, .if_icmp .ne 5, 3, 0), (191, .iconst 0, 1, 0), (192, .ireturn, 1, 0), (193, .aload_n 0, 1, 0), (194, .iload_n 1, 1, 0), (195, .iload_n 2, 1, 0), (196, .iload_n 3, 1, 0), (197, .invokevirtual 186, 3, 0), (200, .iconst 1, 1, 1), (201, .ireturn, 1, 0)]
set_option maxRecDepth 100000 in
theorem tk_X12_put : g_okT cX12_put tb_X12_put = true := by decide +kernel
abbrev J_X12_put (E : gE) (l : Launch) : Prop := g_J E cX12_put RX12 "put" (some .boolean) 9 tb_X12_put 4 0 0 l
set_option maxHeartbeats 4000000 in
set_option maxRecDepth 100000 in
theorem p_X12_put_193 {l : Launch} {E : gE} (J : J_X12_put E l) (x1 : Int32) (x2 : Int32) (x3 : Int32) (σ : gS) (M : gM) (N : gN) (hL : g_layM σ) : g_H E 0 0 193 [(0, vR 40), (1, vI x1), (2, vI x2), (3, vI x3)] [] (σ, M, N) (b_X12_put_193 x1 x2 x3 σ M) (eIM σ N) := by
  unfold b_X12_put_193
  refine r_run J 4 (pc' := 197) (lv' := [(0, vR 40), (1, vI x1), (2, vI x2), (3, vI x3)]) (st' := [vI x3, vI x2, vI x1, vR 40]) rfl ?_
  refine r_callV J (As := [vI x1, vI x2, vI x3]) (st := []) (fun r hr => c_X12_notes x1 x2 x3 σ M N hL r hr) cls12 (ly_40 hL) wm_12_186 wy_X12_notes wd_X12_notes ⟨by decide, by decide, by decide, by decide, Nat.le_of_ble_eq_true rfl⟩ rfl rfl (fun q197 hq197 => ?_)
  show g_H E 0 0 200 [(0, vR 40), (1, vI x1), (2, vI x2), (3, vI x3)] [] (σ, q197, N) _ _
  refine r_run J 1 (pc' := 201) (lv' := [(0, vR 40), (1, vI x1), (2, vI x2), (3, vI x3)]) (st' := [vI 1]) rfl ?_
  exact r_iret J rfl rfl rfl rfl (by decide) (by decide)
set_option maxHeartbeats 4000000 in
set_option maxRecDepth 100000 in
theorem p_X12_put_166 {l : Launch} {E : gE} (J : J_X12_put E l) (x1 : Int32) (x2 : Int32) (x3 : Int32) (σ : gS) (M : gM) (N : gN) (hL : g_layM σ) : g_H E 0 0 166 [(0, vR 40), (1, vI x1), (2, vI x2), (3, vI x3)] [] (σ, M, N) (b_X12_put_166 x1 x2 x3 σ M) (eIM σ N) := by
  unfold b_X12_put_166
  refine r_run J 1 (pc' := 167) (lv' := [(0, vR 40), (1, vI x1), (2, vI x2), (3, vI x3)]) (st' := [vR 40]) rfl ?_
  refine r_getR J cls12 rfl (k := 25) (t := 14) (by decide) wf_12_66 rfl rfl (ly_40 hL) (lr_40_25 hL) (fun _ => ?_)
  show g_H E 0 0 170 [(0, vR 40), (1, vI x1), (2, vI x2), (3, vI x3)] [vR 57] (σ, M, N) _ _
  refine r_run J 5 (pc' := 176) (lv' := [(0, vR 40), (1, vI x1), (2, vI x2), (3, vI x3)]) (st' := [vI (((10 : Int32) * x1) + x2), vR 57]) rfl ?_
  refine r_iald J rfl (ly_57 hL) (fun i176 => ?_)
  show g_H E 0 0 177 [(0, vR 40), (1, vI x1), (2, vI x2), (3, vI x3)] [vI (M 57 (((10 : Int32) * x1) + x2).toNatClampNeg)] (σ, M, N) _ _
  refine r_run J 1 (pc' := 178) (lv' := [(0, vR 40), (1, vI x1), (2, vI x2), (3, vI x3)]) (st' := [vI x3, vI (M 57 (((10 : Int32) * x1) + x2).toNatClampNeg)]) rfl ?_
  refine r_icmp_eq J (tgt := 193) rfl (by decide) (fun c178 => ?_) (fun c178 => ?_)
  · exact p_X12_put_193 J x1 x2 x3 σ M N hL
  · refine r_run J 1 (pc' := 182) (lv' := [(0, vR 40), (1, vI x1), (2, vI x2), (3, vI x3)]) (st' := [vR 40]) rfl ?_
    refine r_getI J cls12 rfl (k := 26) (by decide) wf_12_180 rfl (ly_40 hL) ?_
    show g_H E 0 0 185 [(0, vR 40), (1, vI x1), (2, vI x2), (3, vI x3)] [vI (M 40 26)] (σ, M, N) _ _
    refine r_run J 1 (pc' := 188) (lv' := [(0, vR 40), (1, vI x1), (2, vI x2), (3, vI x3)]) (st' := [vI 500, vI (M 40 26)]) rfl ?_
    refine r_icmp_ne J (tgt := 193) rfl (by decide) (fun c188 => ?_) (fun c188 => ?_)
    · refine r_run J 1 (pc' := 192) (lv' := [(0, vR 40), (1, vI x1), (2, vI x2), (3, vI x3)]) (st' := [vI 0]) rfl ?_
      exact r_iret J rfl rfl rfl rfl (by decide) (by decide)
    · exact p_X12_put_193 J x1 x2 x3 σ M N hL
set_option maxHeartbeats 4000000 in
set_option maxRecDepth 100000 in
theorem p_X12_put_146 {l : Launch} {E : gE} (J : J_X12_put E l) {k109 : Int32 → Int32 → Int32 → Int32 → Int32 → Int32 → Int32 → gS → gM → Option (Int32 × gM)} (H109 : ∀ (x1 : Int32) (x2 : Int32) (x3 : Int32) (x5 : Int32) (x6 : Int32) (x7 : Int32) (x8 : Int32) (σ : gS) (M : gM) (N : gN) (_ : g_layM σ), g_H E 0 0 109 [(0, vR 40), (1, vI x1), (2, vI x2), (3, vI x3), (5, vI x5), (6, vI x6), (7, vI x7), (8, vI x8)] [] (σ, M, N) (k109 x1 x2 x3 x5 x6 x7 x8 σ M) (eIM σ N)) (x1 : Int32) (x2 : Int32) (x3 : Int32) (x5 : Int32) (x6 : Int32) (x7 : Int32) (x8 : Int32) (σ : gS) (M : gM) (N : gN) (hL : g_layM σ) : g_H E 0 0 146 [(0, vR 40), (1, vI x1), (2, vI x2), (3, vI x3), (5, vI x5), (6, vI x6), (7, vI x7), (8, vI x8)] [] (σ, M, N) (b_X12_put_146 k109 x1 x2 x3 x5 x6 x7 x8 σ M) (eIM σ N) := by
  unfold b_X12_put_146
  refine r_run J 2 (pc' := 109) (lv' := [(8, vI (x8 + 1)), (0, vR 40), (1, vI x1), (2, vI x2), (3, vI x3), (5, vI x5), (6, vI x6), (7, vI x7)]) (st' := []) rfl ?_
  refine r_sub [1, 2, 3, 4, 5, 6, 7, 0] (lv' := [(0, vR 40), (1, vI x1), (2, vI x2), (3, vI x3), (5, vI x5), (6, vI x6), (7, vI x7), (8, vI (x8 + 1))]) rfl ?_
  exact H109 x1 x2 x3 x5 x6 x7 (x8 + 1) σ M N hL
set_option maxHeartbeats 4000000 in
set_option maxRecDepth 100000 in
theorem p_X12_put_109 {l : Launch} {E : gE} (J : J_X12_put E l) : ∀ (n : Nat) (x1 : Int32) (x2 : Int32) (x3 : Int32) (x5 : Int32) (x6 : Int32) (x7 : Int32) (x8 : Int32) (σ : gS) (M : gM) (N : gN) (hL : g_layM σ), g_H E 0 0 109 [(0, vR 40), (1, vI x1), (2, vI x2), (3, vI x3), (5, vI x5), (6, vI x6), (7, vI x7), (8, vI x8)] [] (σ, M, N) (l_X12_put_109 n x1 x2 x3 x5 x6 x7 x8 σ M) (eIM σ N) := by
  intro n
  induction n with
  | zero => intros; exact h_none
  | succ n ih =>
    intro x1 x2 x3 x5 x6 x7 x8 σ M N hL
    rw [l_X12_put_109]
    refine r_run J 2 (pc' := 112) (lv' := [(0, vR 40), (1, vI x1), (2, vI x2), (3, vI x3), (5, vI x5), (6, vI x6), (7, vI x7), (8, vI x8)]) (st' := [vR 40, vI x8]) rfl ?_
    refine r_getI J cls12 rfl (k := 1) (by decide) wf_12_157 rfl (ly_40 hL) ?_
    show g_H E 0 0 115 [(0, vR 40), (1, vI x1), (2, vI x2), (3, vI x3), (5, vI x5), (6, vI x6), (7, vI x7), (8, vI x8)] [vI (M 40 1), vI x8] (σ, M, N) _ _
    refine r_icmp_ge J (tgt := 152) rfl (by decide) (fun c115 => ?_) (fun c115 => ?_)
    · refine r_run J 5 (pc' := 125) (lv' := [(0, vR 40), (1, vI x1), (2, vI x2), (3, vI x3), (5, vI x5), (6, vI x6), (7, vI x7), (8, vI x8)]) (st' := [vI ((x5 >>> (x8 &&& 31)) &&& (1 : Int32))]) rfl ?_
      refine r_if_ne J (tgt := 131) rfl (by decide) (fun c125 => ?_) (fun c125 => ?_)
      · refine r_run J 1 (pc' := 146) (lv' := [(0, vR 40), (1, vI x1), (2, vI x2), (3, vI x3), (5, vI x5), (6, vI x6), (7, vI x7), (8, vI x8)]) (st' := []) rfl ?_
        exact p_X12_put_146 J ih x1 x2 x3 x5 x6 x7 x8 σ M N hL
      · refine r_run J 4 (pc' := 138) (lv' := [(7, vI (x7 + 1)), (0, vR 40), (1, vI x1), (2, vI x2), (3, vI x3), (5, vI x5), (6, vI x6), (8, vI x8)]) (st' := [vI x2, vI x8, vR 40]) rfl ?_
        refine r_callV J (As := [vI x8, vI x2]) (st := []) (fun r hr => c_X12_mayShare x8 x2 σ M N hL r hr) cls12 (ly_40 hL) wm_12_201 wy_X12_mayShare wd_X12_mayShare ⟨by decide, by decide, by decide, by decide, Nat.le_of_ble_eq_true rfl⟩ rfl rfl (fun q138 hq138 => ?_)
        show g_H E 0 0 141 [(7, vI (x7 + 1)), (0, vR 40), (1, vI x1), (2, vI x2), (3, vI x3), (5, vI x5), (6, vI x6), (8, vI x8)] [vI q138] (σ, M, N) _ _
        refine r_if_ne J (tgt := 146) rfl (by decide) (fun c141 => ?_) (fun c141 => ?_)
        · refine r_run J 1 (pc' := 145) (lv' := [(7, vI (x7 + 1)), (0, vR 40), (1, vI x1), (2, vI x2), (3, vI x3), (5, vI x5), (6, vI x6), (8, vI x8)]) (st' := [vI 0]) rfl ?_
          exact r_iret J rfl rfl rfl rfl (by decide) (by decide)
        · refine r_sub [1, 2, 3, 4, 5, 6, 0, 7] (lv' := [(0, vR 40), (1, vI x1), (2, vI x2), (3, vI x3), (5, vI x5), (6, vI x6), (7, vI (x7 + 1)), (8, vI x8)]) rfl ?_
          exact p_X12_put_146 J ih x1 x2 x3 x5 x6 (x7 + 1) x8 σ M N hL
    · refine r_run J 2 (pc' := 155) (lv' := [(0, vR 40), (1, vI x1), (2, vI x2), (3, vI x3), (5, vI x5), (6, vI x6), (7, vI x7), (8, vI x8)]) (st' := [vR 40, vI x7]) rfl ?_
      refine r_getR J cls12 rfl (k := 21) (t := 14) (by decide) wf_12_54 rfl rfl (ly_40 hL) (lr_40_21 hL) (fun _ => ?_)
      show g_H E 0 0 158 [(0, vR 40), (1, vI x1), (2, vI x2), (3, vI x3), (5, vI x5), (6, vI x6), (7, vI x7), (8, vI x8)] [vR 53, vI x7] (σ, M, N) _ _
      refine r_run J 1 (pc' := 160) (lv' := [(0, vR 40), (1, vI x1), (2, vI x2), (3, vI x3), (5, vI x5), (6, vI x6), (7, vI x7), (8, vI x8)]) (st' := [vI x6, vR 53, vI x7]) rfl ?_
      refine r_iald J rfl (ly_53 hL) (fun i160 => ?_)
      show g_H E 0 0 161 [(0, vR 40), (1, vI x1), (2, vI x2), (3, vI x3), (5, vI x5), (6, vI x6), (7, vI x7), (8, vI x8)] [vI (M 53 x6.toNatClampNeg), vI x7] (σ, M, N) _ _
      refine r_icmp_lt J (tgt := 166) rfl (by decide) (fun c161 => ?_) (fun c161 => ?_)
      · refine r_sub [0, 1, 2, 3] (lv' := [(0, vR 40), (1, vI x1), (2, vI x2), (3, vI x3)]) rfl ?_
        exact p_X12_put_166 J x1 x2 x3 σ M N hL
      · refine r_run J 1 (pc' := 165) (lv' := [(0, vR 40), (1, vI x1), (2, vI x2), (3, vI x3), (5, vI x5), (6, vI x6), (7, vI x7), (8, vI x8)]) (st' := [vI 0]) rfl ?_
        exact r_iret J rfl rfl rfl rfl (by decide) (by decide)
set_option maxHeartbeats 4000000 in
set_option maxRecDepth 100000 in
theorem p_X12_put_103 {l : Launch} {E : gE} (J : J_X12_put E l) (x1 : Int32) (x2 : Int32) (x3 : Int32) (x5 : Int32) (x6 : Int32) (σ : gS) (M : gM) (N : gN) (hL : g_layM σ) : g_H E 0 0 103 [(0, vR 40), (1, vI x1), (2, vI x2), (3, vI x3), (5, vI x5), (6, vI x6)] [] (σ, M, N) (b_X12_put_103 x1 x2 x3 x5 x6 σ M) (eIM σ N) := by
  unfold b_X12_put_103
  refine r_run J 4 (pc' := 109) (lv' := [(8, vI 0), (7, vI 0), (0, vR 40), (1, vI x1), (2, vI x2), (3, vI x3), (5, vI x5), (6, vI x6)]) (st' := []) rfl ?_
  refine r_sub [2, 3, 4, 5, 6, 7, 1, 0] (lv' := [(0, vR 40), (1, vI x1), (2, vI x2), (3, vI x3), (5, vI x5), (6, vI x6), (7, vI 0), (8, vI 0)]) rfl ?_
  exact p_X12_put_109 J g_FU x1 x2 x3 x5 x6 0 0 σ M N hL
set_option maxHeartbeats 4000000 in
set_option maxRecDepth 100000 in
theorem p_X12_put_41 {l : Launch} {E : gE} (J : J_X12_put E l) (x1 : Int32) (x2 : Int32) (x3 : Int32) (σ : gS) (M : gM) (N : gN) (hL : g_layM σ) : g_H E 0 0 41 [(0, vR 40), (1, vI x1), (2, vI x2), (3, vI x3)] [] (σ, M, N) (b_X12_put_41 x1 x2 x3 σ M) (eIM σ N) := by
  unfold b_X12_put_41
  refine r_run J 6 (pc' := 48) (lv' := [(4, vI ((1 : Int32) <<< (x2 &&& 31))), (0, vR 40), (1, vI x1), (2, vI x2), (3, vI x3)]) (st' := [vI (-1), vI x3]) rfl ?_
  refine r_icmp_eq J (tgt := 166) rfl (by decide) (fun c48 => ?_) (fun c48 => ?_)
  · refine r_sub [1, 2, 3, 4] (lv' := [(0, vR 40), (1, vI x1), (2, vI x2), (3, vI x3)]) rfl ?_
    exact p_X12_put_166 J x1 x2 x3 σ M N hL
  · refine r_run J 3 (pc' := 54) (lv' := [(4, vI ((1 : Int32) <<< (x2 &&& 31))), (0, vR 40), (1, vI x1), (2, vI x2), (3, vI x3)]) (st' := [vI x3, vI x1, vR 40]) rfl ?_
    refine r_callV J (As := [vI x1, vI x3]) (st := []) (fun r hr => c_X12_setIn x1 x3 σ M N hL r hr) cls12 (ly_40 hL) wm_12_211 wy_X12_setIn wd_X12_setIn ⟨by decide, by decide, by decide, by decide, Nat.le_of_ble_eq_true rfl⟩ rfl rfl (fun q54 hq54 => ?_)
    show g_H E 0 0 57 [(4, vI ((1 : Int32) <<< (x2 &&& 31))), (0, vR 40), (1, vI x1), (2, vI x2), (3, vI x3)] [vI q54] (σ, M, N) _ _
    refine r_run J 12 (pc' := 73) (lv' := [(6, vI (((10 : Int32) * x1) + x3)), (5, vI (q54 &&& (((1 : Int32) <<< (x2 &&& 31)) ^^^ (-1 : Int32)))), (4, vI ((1 : Int32) <<< (x2 &&& 31))), (0, vR 40), (1, vI x1), (2, vI x2), (3, vI x3)]) (st' := [vR 40]) rfl ?_
    refine r_getR J cls12 rfl (k := 24) (t := 15) (by decide) wf_12_63 rfl rfl (ly_40 hL) (lr_40_24 hL) (fun _ => ?_)
    show g_H E 0 0 76 [(6, vI (((10 : Int32) * x1) + x3)), (5, vI (q54 &&& (((1 : Int32) <<< (x2 &&& 31)) ^^^ (-1 : Int32)))), (4, vI ((1 : Int32) <<< (x2 &&& 31))), (0, vR 40), (1, vI x1), (2, vI x2), (3, vI x3)] [vR 56] (σ, M, N) _ _
    refine r_run J 1 (pc' := 78) (lv' := [(6, vI (((10 : Int32) * x1) + x3)), (5, vI (q54 &&& (((1 : Int32) <<< (x2 &&& 31)) ^^^ (-1 : Int32)))), (4, vI ((1 : Int32) <<< (x2 &&& 31))), (0, vR 40), (1, vI x1), (2, vI x2), (3, vI x3)]) (st' := [vI (((10 : Int32) * x1) + x3), vR 56]) rfl ?_
    refine r_zald J rfl (ly_56 hL) (fun i78 => ?_)
    show g_H E 0 0 79 [(6, vI (((10 : Int32) * x1) + x3)), (5, vI (q54 &&& (((1 : Int32) <<< (x2 &&& 31)) ^^^ (-1 : Int32)))), (4, vI ((1 : Int32) <<< (x2 &&& 31))), (0, vR 40), (1, vI x1), (2, vI x2), (3, vI x3)] [vI (M 56 (((10 : Int32) * x1) + x3).toNatClampNeg)] (σ, M, N) _ _
    refine r_if_eq J (tgt := 101) rfl (by decide) (fun c79 => ?_) (fun c79 => ?_)
    · refine r_run J 1 (pc' := 102) (lv' := [(6, vI (((10 : Int32) * x1) + x3)), (5, vI (q54 &&& (((1 : Int32) <<< (x2 &&& 31)) ^^^ (-1 : Int32)))), (4, vI ((1 : Int32) <<< (x2 &&& 31))), (0, vR 40), (1, vI x1), (2, vI x2), (3, vI x3)]) (st' := [vI 0]) rfl ?_
      exact r_iret J rfl rfl rfl rfl (by decide) (by decide)
    · refine r_run J 1 (pc' := 83) (lv' := [(6, vI (((10 : Int32) * x1) + x3)), (5, vI (q54 &&& (((1 : Int32) <<< (x2 &&& 31)) ^^^ (-1 : Int32)))), (4, vI ((1 : Int32) <<< (x2 &&& 31))), (0, vR 40), (1, vI x1), (2, vI x2), (3, vI x3)]) (st' := [vR 40]) rfl ?_
      refine r_getR J cls12 rfl (k := 4) (t := 15) (by decide) wf_12_21 rfl rfl (ly_40 hL) (lr_40_4 hL) (fun _ => ?_)
      show g_H E 0 0 86 [(6, vI (((10 : Int32) * x1) + x3)), (5, vI (q54 &&& (((1 : Int32) <<< (x2 &&& 31)) ^^^ (-1 : Int32)))), (4, vI ((1 : Int32) <<< (x2 &&& 31))), (0, vR 40), (1, vI x1), (2, vI x2), (3, vI x3)] [vR 43] (σ, M, N) _ _
      refine r_run J 1 (pc' := 87) (lv' := [(6, vI (((10 : Int32) * x1) + x3)), (5, vI (q54 &&& (((1 : Int32) <<< (x2 &&& 31)) ^^^ (-1 : Int32)))), (4, vI ((1 : Int32) <<< (x2 &&& 31))), (0, vR 40), (1, vI x1), (2, vI x2), (3, vI x3)]) (st' := [vI x2, vR 43]) rfl ?_
      refine r_zald J rfl (ly_43 hL) (fun i87 => ?_)
      show g_H E 0 0 88 [(6, vI (((10 : Int32) * x1) + x3)), (5, vI (q54 &&& (((1 : Int32) <<< (x2 &&& 31)) ^^^ (-1 : Int32)))), (4, vI ((1 : Int32) <<< (x2 &&& 31))), (0, vR 40), (1, vI x1), (2, vI x2), (3, vI x3)] [vI (M 43 x2.toNatClampNeg)] (σ, M, N) _ _
      refine r_if_eq J (tgt := 103) rfl (by decide) (fun c88 => ?_) (fun c88 => ?_)
      · refine r_sub [3, 4, 5, 6, 1, 0] (lv' := [(0, vR 40), (1, vI x1), (2, vI x2), (3, vI x3), (5, vI (q54 &&& (((1 : Int32) <<< (x2 &&& 31)) ^^^ (-1 : Int32)))), (6, vI (((10 : Int32) * x1) + x3))]) rfl ?_
        exact p_X12_put_103 J x1 x2 x3 (q54 &&& (((1 : Int32) <<< (x2 &&& 31)) ^^^ (-1 : Int32))) (((10 : Int32) * x1) + x3) σ M N hL
      · refine r_run J 1 (pc' := 92) (lv' := [(6, vI (((10 : Int32) * x1) + x3)), (5, vI (q54 &&& (((1 : Int32) <<< (x2 &&& 31)) ^^^ (-1 : Int32)))), (4, vI ((1 : Int32) <<< (x2 &&& 31))), (0, vR 40), (1, vI x1), (2, vI x2), (3, vI x3)]) (st' := [vR 40]) rfl ?_
        refine r_getR J cls12 rfl (k := 22) (t := 15) (by decide) wf_12_57 rfl rfl (ly_40 hL) (lr_40_22 hL) (fun _ => ?_)
        show g_H E 0 0 95 [(6, vI (((10 : Int32) * x1) + x3)), (5, vI (q54 &&& (((1 : Int32) <<< (x2 &&& 31)) ^^^ (-1 : Int32)))), (4, vI ((1 : Int32) <<< (x2 &&& 31))), (0, vR 40), (1, vI x1), (2, vI x2), (3, vI x3)] [vR 54] (σ, M, N) _ _
        refine r_run J 1 (pc' := 97) (lv' := [(6, vI (((10 : Int32) * x1) + x3)), (5, vI (q54 &&& (((1 : Int32) <<< (x2 &&& 31)) ^^^ (-1 : Int32)))), (4, vI ((1 : Int32) <<< (x2 &&& 31))), (0, vR 40), (1, vI x1), (2, vI x2), (3, vI x3)]) (st' := [vI (((10 : Int32) * x1) + x3), vR 54]) rfl ?_
        refine r_zald J rfl (ly_54 hL) (fun i97 => ?_)
        show g_H E 0 0 98 [(6, vI (((10 : Int32) * x1) + x3)), (5, vI (q54 &&& (((1 : Int32) <<< (x2 &&& 31)) ^^^ (-1 : Int32)))), (4, vI ((1 : Int32) <<< (x2 &&& 31))), (0, vR 40), (1, vI x1), (2, vI x2), (3, vI x3)] [vI (M 54 (((10 : Int32) * x1) + x3).toNatClampNeg)] (σ, M, N) _ _
        refine r_if_ne J (tgt := 103) rfl (by decide) (fun c98 => ?_) (fun c98 => ?_)
        · refine r_run J 1 (pc' := 102) (lv' := [(6, vI (((10 : Int32) * x1) + x3)), (5, vI (q54 &&& (((1 : Int32) <<< (x2 &&& 31)) ^^^ (-1 : Int32)))), (4, vI ((1 : Int32) <<< (x2 &&& 31))), (0, vR 40), (1, vI x1), (2, vI x2), (3, vI x3)]) (st' := [vI 0]) rfl ?_
          exact r_iret J rfl rfl rfl rfl (by decide) (by decide)
        · refine r_sub [3, 4, 5, 6, 1, 0] (lv' := [(0, vR 40), (1, vI x1), (2, vI x2), (3, vI x3), (5, vI (q54 &&& (((1 : Int32) <<< (x2 &&& 31)) ^^^ (-1 : Int32)))), (6, vI (((10 : Int32) * x1) + x3))]) rfl ?_
          exact p_X12_put_103 J x1 x2 x3 (q54 &&& (((1 : Int32) <<< (x2 &&& 31)) ^^^ (-1 : Int32))) (((10 : Int32) * x1) + x3) σ M N hL
set_option maxHeartbeats 4000000 in
set_option maxRecDepth 100000 in
theorem p_X12_put_0 {l : Launch} {E : gE} (J : J_X12_put E l) (x1 : Int32) (x2 : Int32) (x3 : Int32) (σ : gS) (M : gM) (N : gN) (hL : g_layM σ) : g_H E 0 0 0 [(0, vR 40), (1, vI x1), (2, vI x2), (3, vI x3)] [] (σ, M, N) (b_X12_put_0 x1 x2 x3 σ M) (eIM σ N) := by
  unfold b_X12_put_0
  refine r_run J 2 (pc' := 2) (lv' := [(0, vR 40), (1, vI x1), (2, vI x2), (3, vI x3)]) (st' := [vI x1, vR 40]) rfl ?_
  refine r_callV J (As := [vI x1]) (st := []) (fun r hr => c_X12_isOpen x1 σ M N hL r hr) cls12 (ly_40 hL) wm_12_198 wy_X12_isOpen wd_X12_isOpen ⟨by decide, by decide, by decide, by decide, Nat.le_of_ble_eq_true rfl⟩ rfl rfl (fun q2 hq2 => ?_)
  show g_H E 0 0 5 [(0, vR 40), (1, vI x1), (2, vI x2), (3, vI x3)] [vI q2] (σ, M, N) _ _
  refine r_if_eq J (tgt := 39) rfl (by decide) (fun c5 => ?_) (fun c5 => ?_)
  · refine r_run J 1 (pc' := 40) (lv' := [(0, vR 40), (1, vI x1), (2, vI x2), (3, vI x3)]) (st' := [vI 0]) rfl ?_
    exact r_iret J rfl rfl rfl rfl (by decide) (by decide)
  · refine r_run J 2 (pc' := 10) (lv' := [(0, vR 40), (1, vI x1), (2, vI x2), (3, vI x3)]) (st' := [vI x2, vR 40]) rfl ?_
    refine r_callV J (As := [vI x2]) (st := []) (fun r hr => c_X12_isPerson x2 σ M N hL r hr) cls12 (ly_40 hL) wm_12_177 wy_X12_isPerson wd_X12_isPerson ⟨by decide, by decide, by decide, by decide, Nat.le_of_ble_eq_true rfl⟩ rfl rfl (fun q10 hq10 => ?_)
    show g_H E 0 0 13 [(0, vR 40), (1, vI x1), (2, vI x2), (3, vI x3)] [vI q10] (σ, M, N) _ _
    refine r_if_eq J (tgt := 39) rfl (by decide) (fun c13 => ?_) (fun c13 => ?_)
    · refine r_run J 1 (pc' := 40) (lv' := [(0, vR 40), (1, vI x1), (2, vI x2), (3, vI x3)]) (st' := [vI 0]) rfl ?_
      exact r_iret J rfl rfl rfl rfl (by decide) (by decide)
    · refine r_run J 3 (pc' := 19) (lv' := [(0, vR 40), (1, vI x1), (2, vI x2), (3, vI x3)]) (st' := [vI x1, vI x2, vR 40]) rfl ?_
      refine r_callV J (As := [vI x2, vI x1]) (st := []) (fun r hr => c_X12_isThere x2 x1 σ M N hL r hr) cls12 (ly_40 hL) wm_12_205 wy_X12_isThere wd_X12_isThere ⟨by decide, by decide, by decide, by decide, Nat.le_of_ble_eq_true rfl⟩ rfl rfl (fun q19 hq19 => ?_)
      show g_H E 0 0 22 [(0, vR 40), (1, vI x1), (2, vI x2), (3, vI x3)] [vI q19] (σ, M, N) _ _
      refine r_if_eq J (tgt := 39) rfl (by decide) (fun c22 => ?_) (fun c22 => ?_)
      · refine r_run J 1 (pc' := 40) (lv' := [(0, vR 40), (1, vI x1), (2, vI x2), (3, vI x3)]) (st' := [vI 0]) rfl ?_
        exact r_iret J rfl rfl rfl rfl (by decide) (by decide)
      · refine r_run J 2 (pc' := 27) (lv' := [(0, vR 40), (1, vI x1), (2, vI x2), (3, vI x3)]) (st' := [vI (-1), vI x3]) rfl ?_
        refine r_icmp_eq J (tgt := 41) rfl (by decide) (fun c27 => ?_) (fun c27 => ?_)
        · exact p_X12_put_41 J x1 x2 x3 σ M N hL
        · refine r_run J 3 (pc' := 33) (lv' := [(0, vR 40), (1, vI x1), (2, vI x2), (3, vI x3)]) (st' := [vI x3, vI x1, vR 40]) rfl ?_
          refine r_callV J (As := [vI x1, vI x3]) (st := []) (fun r hr => c_X12_isRoom x1 x3 σ M N hL r hr) cls12 (ly_40 hL) wm_12_208 wy_X12_isRoom wd_X12_isRoom ⟨by decide, by decide, by decide, by decide, Nat.le_of_ble_eq_true rfl⟩ rfl rfl (fun q33 hq33 => ?_)
          show g_H E 0 0 36 [(0, vR 40), (1, vI x1), (2, vI x2), (3, vI x3)] [vI q33] (σ, M, N) _ _
          refine r_if_ne J (tgt := 41) rfl (by decide) (fun c36 => ?_) (fun c36 => ?_)
          · refine r_run J 1 (pc' := 40) (lv' := [(0, vR 40), (1, vI x1), (2, vI x2), (3, vI x3)]) (st' := [vI 0]) rfl ?_
            exact r_iret J rfl rfl rfl rfl (by decide) (by decide)
          · exact p_X12_put_41 J x1 x2 x3 σ M N hL
theorem c_X12_put {l : Launch} (x1 : Int32) (x2 : Int32) (x3 : Int32) (σ : gS) (M : gM) (N : gN) (hL : g_layM σ) (r : Int32 × gM) (h : f_X12_put x1 x2 x3 σ M = some r) : g_Ct l yX12_put cX12_put 9 (some .boolean) 4 0 0 [vR 40, vI x1, vI x2, vI x3] (σ, M, N) (eIM σ N r) :=
  g_Ct.of tb_X12_put (by decide +kernel) tk_X12_put (Nat.le_of_ble_eq_true rfl) (fun E J => p_X12_put_0 J x1 x2 x3 σ M N hL r h)
def tb_X12_there : gT := [(0, .iconst 0, 1, 0), (1, .istore_n 2, 1, 0), (2, .iconst 0, 1, 0), (3, .istore_n 3, 1, 0), (4, .iload_n 3, 1, 0), (5, .aload_n 0, 1, 0), (6, .getfield 157, 3, 0), (9, .if_icmp .ge 28, 3, 0), (12, .iload_n 2, 1, 0), (13, .aload_n 0, 1, 0), (14, .iload_n 3, 1, 0), (15, .iload_n 1, 1, 0), (16, .invokevirtual 205, 3, 0), (19, .ifCond .eq 9, 3, 0), (22, .iconst 1, 1, 1), (23, .iload_n 3, 1, 0), (24, .ishl, 1, 0), (25, .goto 4, 3, 0), (28, .iconst 0, 1, 0), (29, .ior, 1, 0), (30, .istore_n 2, 1, 0), (31, .iinc 3 1, 3, 1), (34, .goto (-30), 3, 0), (37, .iload_n 2, 1, 0), (38, .ireturn, 1, 0)]
set_option maxRecDepth 100000 in
theorem tk_X12_there : g_okT cX12_there tb_X12_there = true := by decide +kernel
abbrev J_X12_there (E : gE) (l : Launch) : Prop := g_J E cX12_there RX12 "there" (some .int) 4 tb_X12_there 2 0 0 l
set_option maxHeartbeats 4000000 in
set_option maxRecDepth 100000 in
theorem p_X12_there_29 {l : Launch} {E : gE} (J : J_X12_there E l) {k4 : Int32 → Int32 → Int32 → gS → gM → Option (Int32)} (H4 : ∀ (x1 : Int32) (x2 : Int32) (x3 : Int32) (σ : gS) (M : gM) (N : gN) (_ : g_layM σ), g_H E 0 0 4 [(0, vR 40), (1, vI x1), (2, vI x2), (3, vI x3)] [] (σ, M, N) (k4 x1 x2 x3 σ M) (eI σ M N)) (x1 : Int32) (x3 : Int32) (sx0 : Int32) (sx1 : Int32) (σ : gS) (M : gM) (N : gN) (hL : g_layM σ) : g_H E 0 0 29 [(0, vR 40), (1, vI x1), (3, vI x3)] [vI sx0, vI sx1] (σ, M, N) (b_X12_there_29 k4 x1 x3 sx0 sx1 σ M) (eI σ M N) := by
  unfold b_X12_there_29
  refine r_run J 4 (pc' := 4) (lv' := [(3, vI (x3 + 1)), (2, vI (sx1 ||| sx0)), (0, vR 40), (1, vI x1)]) (st' := []) rfl ?_
  refine r_sub [2, 3, 1, 0] (lv' := [(0, vR 40), (1, vI x1), (2, vI (sx1 ||| sx0)), (3, vI (x3 + 1))]) rfl ?_
  exact H4 x1 (sx1 ||| sx0) (x3 + 1) σ M N hL
set_option maxHeartbeats 4000000 in
set_option maxRecDepth 100000 in
theorem p_X12_there_4 {l : Launch} {E : gE} (J : J_X12_there E l) : ∀ (n : Nat) (x1 : Int32) (x2 : Int32) (x3 : Int32) (σ : gS) (M : gM) (N : gN) (hL : g_layM σ), g_H E 0 0 4 [(0, vR 40), (1, vI x1), (2, vI x2), (3, vI x3)] [] (σ, M, N) (l_X12_there_4 n x1 x2 x3 σ M) (eI σ M N) := by
  intro n
  induction n with
  | zero => intros; exact h_none
  | succ n ih =>
    intro x1 x2 x3 σ M N hL
    rw [l_X12_there_4]
    refine r_run J 2 (pc' := 6) (lv' := [(0, vR 40), (1, vI x1), (2, vI x2), (3, vI x3)]) (st' := [vR 40, vI x3]) rfl ?_
    refine r_getI J cls12 rfl (k := 1) (by decide) wf_12_157 rfl (ly_40 hL) ?_
    show g_H E 0 0 9 [(0, vR 40), (1, vI x1), (2, vI x2), (3, vI x3)] [vI (M 40 1), vI x3] (σ, M, N) _ _
    refine r_icmp_ge J (tgt := 37) rfl (by decide) (fun c9 => ?_) (fun c9 => ?_)
    · refine r_run J 4 (pc' := 16) (lv' := [(0, vR 40), (1, vI x1), (2, vI x2), (3, vI x3)]) (st' := [vI x1, vI x3, vR 40, vI x2]) rfl ?_
      refine r_callV J (As := [vI x3, vI x1]) (st := [vI x2]) (fun r hr => c_X12_isThere x3 x1 σ M N hL r hr) cls12 (ly_40 hL) wm_12_205 wy_X12_isThere wd_X12_isThere ⟨by decide, by decide, by decide, by decide, Nat.le_of_ble_eq_true rfl⟩ rfl rfl (fun q16 hq16 => ?_)
      show g_H E 0 0 19 [(0, vR 40), (1, vI x1), (2, vI x2), (3, vI x3)] [vI q16, vI x2] (σ, M, N) _ _
      refine r_if_eq J (tgt := 28) rfl (by decide) (fun c19 => ?_) (fun c19 => ?_)
      · refine r_run J 1 (pc' := 29) (lv' := [(0, vR 40), (1, vI x1), (2, vI x2), (3, vI x3)]) (st' := [vI 0, vI x2]) rfl ?_
        refine r_sub [0, 1, 3] (lv' := [(0, vR 40), (1, vI x1), (3, vI x3)]) rfl ?_
        exact p_X12_there_29 J ih x1 x3 0 x2 σ M N hL
      · refine r_run J 4 (pc' := 29) (lv' := [(0, vR 40), (1, vI x1), (2, vI x2), (3, vI x3)]) (st' := [vI ((1 : Int32) <<< (x3 &&& 31)), vI x2]) rfl ?_
        refine r_sub [0, 1, 3] (lv' := [(0, vR 40), (1, vI x1), (3, vI x3)]) rfl ?_
        exact p_X12_there_29 J ih x1 x3 ((1 : Int32) <<< (x3 &&& 31)) x2 σ M N hL
    · refine r_run J 1 (pc' := 38) (lv' := [(0, vR 40), (1, vI x1), (2, vI x2), (3, vI x3)]) (st' := [vI x2]) rfl ?_
      exact r_iret J rfl rfl rfl rfl (by decide) (by decide)
set_option maxHeartbeats 4000000 in
set_option maxRecDepth 100000 in
theorem p_X12_there_0 {l : Launch} {E : gE} (J : J_X12_there E l) (x1 : Int32) (σ : gS) (M : gM) (N : gN) (hL : g_layM σ) : g_H E 0 0 0 [(0, vR 40), (1, vI x1)] [] (σ, M, N) (b_X12_there_0 x1 σ M) (eI σ M N) := by
  unfold b_X12_there_0
  refine r_run J 4 (pc' := 4) (lv' := [(3, vI 0), (2, vI 0), (0, vR 40), (1, vI x1)]) (st' := []) rfl ?_
  refine r_sub [2, 3, 1, 0] (lv' := [(0, vR 40), (1, vI x1), (2, vI 0), (3, vI 0)]) rfl ?_
  exact p_X12_there_4 J g_FU x1 0 0 σ M N hL
theorem c_X12_there {l : Launch} (x1 : Int32) (σ : gS) (M : gM) (N : gN) (hL : g_layM σ) (r : Int32) (h : f_X12_there x1 σ M = some r) : g_Ct l yX12_there cX12_there 4 (some .int) 2 0 0 [vR 40, vI x1] (σ, M, N) (eI σ M N r) :=
  g_Ct.of tb_X12_there (by decide +kernel) tk_X12_there (Nat.le_of_ble_eq_true rfl) (fun E J => p_X12_there_0 J x1 σ M N hL r h)
def tb_X12_findSets : gT := [(0, .aload_n 0, 1, 0), (1, .iload_n 1, 1, 0), (2, .invokevirtual 215, 3, 0), (5, .istore_n 2, 1, 0), (6, .iconst 0, 1, 0), (7, .istore_n 3, 1, 0), (8, .iload_n 3, 1, 0), (9, .aload_n 0, 1, 0), (10, .getfield 51, 3, 0), (13, .iload_n 1, 1, 0), (14, .iaload, 1, 0), (15, .if_icmp .ge 84, 3, 0), (18, .aload_n 0, 1, 0), (19, .getfield 93, 3, 0), (22, .iload_n 3, 1, 0), (23, .iconst 0, 1, 0), (24, .iastore, 1, 0), (25, .iconst 0, 1, 0), (26, .istore 4, 2, 0), (28, .iload 4, 2, 0), (30, .sipush 1024, 3, 1024), (33, .if_icmp .ge 60, 3, 0), (36, .iload 4, 2, 0), (38, .iload_n 2, 1, 0), (39, .iconst (-1), 1, (-1)), (40, .ixor, 1, 0), (41, .iand, 1, 0), (42, .ifCond .ne 45, 3, 0), (45, .aload_n 0, 1, 0), (46, .iload_n 1, 1, 0), (47, .iload_n 3, 1, 0), (48, .iload 4, 2, 0), (50, .invokevirtual 219, 3, 0), (53, .ifCond .ne 6, 3, 0), (56, .goto 31, 3, 0), (59, .aload_n 0, 1, 0), (60, .getfield 90, 3, 0), (63, .bipush 64, 2, 64), (65, .iload_n 3, 1, 0), (66, .imul, 1, 0), (67, .aload_n 0, 1, 0), (68, .getfield 93, 3, 0), (71, .iload_n 3, 1, 0), (72, .iaload, 1, 0), (73, .iadd, 1, 0), (74, .iload 4, 2, 0), (76, .iastore, 1, 0), (77, .aload_n 0, 1, 0), (78, .getfield 93, 3, 0), (81, .iload_n 3, 1, 0), (82, .dup2, 1, 0), (83, .iaload, 1, 0), (84, .iconst 1, 1, 1), (85, .iadd, 1, 0), (86, .iastore, 1, 0), (87, .iinc 4 1, 3, 1), (90, .goto (-62), 3, 0), (93, .iinc 3 1, 3, 1), (96, .goto (-88), 3, 0), (99, .return_, 1, 0)]
set_option maxRecDepth 100000 in
theorem tk_X12_findSets : g_okT cX12_findSets tb_X12_findSets = true := by decide +kernel
abbrev J_X12_findSets (E : gE) (l : Launch) : Prop := g_J E cX12_findSets RX12 "findSets" none 5 tb_X12_findSets 3 0 0 l
set_option maxHeartbeats 4000000 in
set_option maxRecDepth 100000 in
theorem p_X12_findSets_87 {l : Launch} {E : gE} (J : J_X12_findSets E l) {k8 : Int32 → Int32 → Int32 → gS → gM → Option (gM)} (H8 : ∀ (x1 : Int32) (x2 : Int32) (x3 : Int32) (σ : gS) (M : gM) (N : gN) (_ : g_layM σ), g_H E 0 0 8 [(0, vR 40), (1, vI x1), (2, vI x2), (3, vI x3)] [] (σ, M, N) (k8 x1 x2 x3 σ M) (eVM σ N)) {k28 : Int32 → Int32 → Int32 → Int32 → gS → gM → Option (gM)} (H28 : ∀ (x1 : Int32) (x2 : Int32) (x3 : Int32) (x4 : Int32) (σ : gS) (M : gM) (N : gN) (_ : g_layM σ), g_H E 0 0 28 [(0, vR 40), (1, vI x1), (2, vI x2), (3, vI x3), (4, vI x4)] [] (σ, M, N) (k28 x1 x2 x3 x4 σ M) (eVM σ N)) (x1 : Int32) (x2 : Int32) (x3 : Int32) (x4 : Int32) (σ : gS) (M : gM) (N : gN) (hL : g_layM σ) : g_H E 0 0 87 [(0, vR 40), (1, vI x1), (2, vI x2), (3, vI x3), (4, vI x4)] [] (σ, M, N) (b_X12_findSets_87 k8 k28 x1 x2 x3 x4 σ M) (eVM σ N) := by
  unfold b_X12_findSets_87
  refine r_run J 2 (pc' := 28) (lv' := [(4, vI (x4 + 1)), (0, vR 40), (1, vI x1), (2, vI x2), (3, vI x3)]) (st' := []) rfl ?_
  refine r_sub [1, 2, 3, 4, 0] (lv' := [(0, vR 40), (1, vI x1), (2, vI x2), (3, vI x3), (4, vI (x4 + 1))]) rfl ?_
  exact H28 x1 x2 x3 (x4 + 1) σ M N hL
set_option maxHeartbeats 4000000 in
set_option maxRecDepth 100000 in
theorem p_X12_findSets_28 {l : Launch} {E : gE} (J : J_X12_findSets E l) {k8 : Int32 → Int32 → Int32 → gS → gM → Option (gM)} (H8 : ∀ (x1 : Int32) (x2 : Int32) (x3 : Int32) (σ : gS) (M : gM) (N : gN) (_ : g_layM σ), g_H E 0 0 8 [(0, vR 40), (1, vI x1), (2, vI x2), (3, vI x3)] [] (σ, M, N) (k8 x1 x2 x3 σ M) (eVM σ N)) : ∀ (n : Nat) (x1 : Int32) (x2 : Int32) (x3 : Int32) (x4 : Int32) (σ : gS) (M : gM) (N : gN) (hL : g_layM σ), g_H E 0 0 28 [(0, vR 40), (1, vI x1), (2, vI x2), (3, vI x3), (4, vI x4)] [] (σ, M, N) (l_X12_findSets_28 k8 n x1 x2 x3 x4 σ M) (eVM σ N) := by
  intro n
  induction n with
  | zero => intros; exact h_none
  | succ n ih =>
    intro x1 x2 x3 x4 σ M N hL
    rw [l_X12_findSets_28]
    refine r_run J 2 (pc' := 33) (lv' := [(0, vR 40), (1, vI x1), (2, vI x2), (3, vI x3), (4, vI x4)]) (st' := [vI 1024, vI x4]) rfl ?_
    refine r_icmp_ge J (tgt := 93) rfl (by decide) (fun c33 => ?_) (fun c33 => ?_)
    · refine r_run J 5 (pc' := 42) (lv' := [(0, vR 40), (1, vI x1), (2, vI x2), (3, vI x3), (4, vI x4)]) (st' := [vI (x4 &&& (x2 ^^^ (-1 : Int32)))]) rfl ?_
      refine r_if_ne J (tgt := 87) rfl (by decide) (fun c42 => ?_) (fun c42 => ?_)
      · refine r_run J 4 (pc' := 50) (lv' := [(0, vR 40), (1, vI x1), (2, vI x2), (3, vI x3), (4, vI x4)]) (st' := [vI x4, vI x3, vI x1, vR 40]) rfl ?_
        refine r_callV J (As := [vI x1, vI x3, vI x4]) (st := []) (fun r hr => c_X12_mayBe x1 x3 x4 σ M N hL r hr) cls12 (ly_40 hL) wm_12_219 wy_X12_mayBe wd_X12_mayBe ⟨by decide, by decide, by decide, by decide, Nat.le_of_ble_eq_true rfl⟩ rfl rfl (fun q50 hq50 => ?_)
        show g_H E 0 0 53 [(0, vR 40), (1, vI x1), (2, vI x2), (3, vI x3), (4, vI x4)] [vI q50] (σ, M, N) _ _
        refine r_if_ne J (tgt := 59) rfl (by decide) (fun c53 => ?_) (fun c53 => ?_)
        · refine r_run J 1 (pc' := 87) (lv' := [(0, vR 40), (1, vI x1), (2, vI x2), (3, vI x3), (4, vI x4)]) (st' := []) rfl ?_
          exact p_X12_findSets_87 J H8 ih x1 x2 x3 x4 σ M N hL
        · refine r_run J 1 (pc' := 60) (lv' := [(0, vR 40), (1, vI x1), (2, vI x2), (3, vI x3), (4, vI x4)]) (st' := [vR 40]) rfl ?_
          refine r_getR J cls12 rfl (k := 34) (t := 14) (by decide) wf_12_90 rfl rfl (ly_40 hL) (lr_40_34 hL) (fun _ => ?_)
          show g_H E 0 0 63 [(0, vR 40), (1, vI x1), (2, vI x2), (3, vI x3), (4, vI x4)] [vR 65] (σ, M, N) _ _
          refine r_run J 4 (pc' := 68) (lv' := [(0, vR 40), (1, vI x1), (2, vI x2), (3, vI x3), (4, vI x4)]) (st' := [vR 40, vI ((64 : Int32) * x3), vR 65]) rfl ?_
          refine r_getR J cls12 rfl (k := 35) (t := 14) (by decide) wf_12_93 rfl rfl (ly_40 hL) (lr_40_35 hL) (fun _ => ?_)
          show g_H E 0 0 71 [(0, vR 40), (1, vI x1), (2, vI x2), (3, vI x3), (4, vI x4)] [vR 66, vI ((64 : Int32) * x3), vR 65] (σ, M, N) _ _
          refine r_run J 1 (pc' := 72) (lv' := [(0, vR 40), (1, vI x1), (2, vI x2), (3, vI x3), (4, vI x4)]) (st' := [vI x3, vR 66, vI ((64 : Int32) * x3), vR 65]) rfl ?_
          refine r_iald J rfl (ly_66 hL) (fun i72 => ?_)
          show g_H E 0 0 73 [(0, vR 40), (1, vI x1), (2, vI x2), (3, vI x3), (4, vI x4)] [vI (M 66 x3.toNatClampNeg), vI ((64 : Int32) * x3), vR 65] (σ, M, N) _ _
          refine r_run J 2 (pc' := 76) (lv' := [(0, vR 40), (1, vI x1), (2, vI x2), (3, vI x3), (4, vI x4)]) (st' := [vI x4, vI (((64 : Int32) * x3) + (M 66 x3.toNatClampNeg)), vR 65]) rfl ?_
          refine r_iast J rfl (ly_65 hL) (fun i76 => ?_)
          show g_H E 0 0 77 [(0, vR 40), (1, vI x1), (2, vI x2), (3, vI x3), (4, vI x4)] [] (σ, (g_up M 65 ((((64 : Int32) * x3) + (M 66 x3.toNatClampNeg)).toNatClampNeg) x4), N) _ _
          refine r_run J 1 (pc' := 78) (lv' := [(0, vR 40), (1, vI x1), (2, vI x2), (3, vI x3), (4, vI x4)]) (st' := [vR 40]) rfl ?_
          refine r_getR J cls12 rfl (k := 35) (t := 14) (by decide) wf_12_93 rfl rfl (ly_40 hL) (lr_40_35 hL) (fun _ => ?_)
          show g_H E 0 0 81 [(0, vR 40), (1, vI x1), (2, vI x2), (3, vI x3), (4, vI x4)] [vR 66] (σ, (g_up M 65 ((((64 : Int32) * x3) + (M 66 x3.toNatClampNeg)).toNatClampNeg) x4), N) _ _
          refine r_run J 2 (pc' := 83) (lv' := [(0, vR 40), (1, vI x1), (2, vI x2), (3, vI x3), (4, vI x4)]) (st' := [vI x3, vR 66, vI x3, vR 66]) rfl ?_
          refine r_iald J rfl (ly_66 hL) (fun i83 => ?_)
          show g_H E 0 0 84 [(0, vR 40), (1, vI x1), (2, vI x2), (3, vI x3), (4, vI x4)] [vI ((g_up M 65 ((((64 : Int32) * x3) + (M 66 x3.toNatClampNeg)).toNatClampNeg) x4) 66 x3.toNatClampNeg), vI x3, vR 66] (σ, (g_up M 65 ((((64 : Int32) * x3) + (M 66 x3.toNatClampNeg)).toNatClampNeg) x4), N) _ _
          refine r_run J 2 (pc' := 86) (lv' := [(0, vR 40), (1, vI x1), (2, vI x2), (3, vI x3), (4, vI x4)]) (st' := [vI (((g_up M 65 ((((64 : Int32) * x3) + (M 66 x3.toNatClampNeg)).toNatClampNeg) x4) 66 x3.toNatClampNeg) + (1 : Int32)), vI x3, vR 66]) rfl ?_
          refine r_iast J rfl (ly_66 hL) (fun i86 => ?_)
          show g_H E 0 0 87 [(0, vR 40), (1, vI x1), (2, vI x2), (3, vI x3), (4, vI x4)] [] (σ, (g_up (g_up M 65 ((((64 : Int32) * x3) + (M 66 x3.toNatClampNeg)).toNatClampNeg) x4) 66 (x3.toNatClampNeg) (((g_up M 65 ((((64 : Int32) * x3) + (M 66 x3.toNatClampNeg)).toNatClampNeg) x4) 66 x3.toNatClampNeg) + (1 : Int32))), N) _ _
          exact p_X12_findSets_87 J H8 ih x1 x2 x3 x4 σ (g_up (g_up M 65 ((((64 : Int32) * x3) + (M 66 x3.toNatClampNeg)).toNatClampNeg) x4) 66 (x3.toNatClampNeg) (((g_up M 65 ((((64 : Int32) * x3) + (M 66 x3.toNatClampNeg)).toNatClampNeg) x4) 66 x3.toNatClampNeg) + (1 : Int32))) N hL
      · exact p_X12_findSets_87 J H8 ih x1 x2 x3 x4 σ M N hL
    · refine r_run J 2 (pc' := 8) (lv' := [(3, vI (x3 + 1)), (0, vR 40), (1, vI x1), (2, vI x2), (4, vI x4)]) (st' := []) rfl ?_
      refine r_sub [1, 2, 3, 0] (lv' := [(0, vR 40), (1, vI x1), (2, vI x2), (3, vI (x3 + 1))]) rfl ?_
      exact H8 x1 x2 (x3 + 1) σ M N hL
set_option maxHeartbeats 4000000 in
set_option maxRecDepth 100000 in
theorem p_X12_findSets_8 {l : Launch} {E : gE} (J : J_X12_findSets E l) : ∀ (n : Nat) (x1 : Int32) (x2 : Int32) (x3 : Int32) (σ : gS) (M : gM) (N : gN) (hL : g_layM σ), g_H E 0 0 8 [(0, vR 40), (1, vI x1), (2, vI x2), (3, vI x3)] [] (σ, M, N) (l_X12_findSets_8 n x1 x2 x3 σ M) (eVM σ N) := by
  intro n
  induction n with
  | zero => intros; exact h_none
  | succ n ih =>
    intro x1 x2 x3 σ M N hL
    rw [l_X12_findSets_8]
    refine r_run J 2 (pc' := 10) (lv' := [(0, vR 40), (1, vI x1), (2, vI x2), (3, vI x3)]) (st' := [vR 40, vI x3]) rfl ?_
    refine r_getR J cls12 rfl (k := 20) (t := 14) (by decide) wf_12_51 rfl rfl (ly_40 hL) (lr_40_20 hL) (fun _ => ?_)
    show g_H E 0 0 13 [(0, vR 40), (1, vI x1), (2, vI x2), (3, vI x3)] [vR 52, vI x3] (σ, M, N) _ _
    refine r_run J 1 (pc' := 14) (lv' := [(0, vR 40), (1, vI x1), (2, vI x2), (3, vI x3)]) (st' := [vI x1, vR 52, vI x3]) rfl ?_
    refine r_iald J rfl (ly_52 hL) (fun i14 => ?_)
    show g_H E 0 0 15 [(0, vR 40), (1, vI x1), (2, vI x2), (3, vI x3)] [vI (M 52 x1.toNatClampNeg), vI x3] (σ, M, N) _ _
    refine r_icmp_ge J (tgt := 99) rfl (by decide) (fun c15 => ?_) (fun c15 => ?_)
    · refine r_run J 1 (pc' := 19) (lv' := [(0, vR 40), (1, vI x1), (2, vI x2), (3, vI x3)]) (st' := [vR 40]) rfl ?_
      refine r_getR J cls12 rfl (k := 35) (t := 14) (by decide) wf_12_93 rfl rfl (ly_40 hL) (lr_40_35 hL) (fun _ => ?_)
      show g_H E 0 0 22 [(0, vR 40), (1, vI x1), (2, vI x2), (3, vI x3)] [vR 66] (σ, M, N) _ _
      refine r_run J 2 (pc' := 24) (lv' := [(0, vR 40), (1, vI x1), (2, vI x2), (3, vI x3)]) (st' := [vI 0, vI x3, vR 66]) rfl ?_
      refine r_iast J rfl (ly_66 hL) (fun i24 => ?_)
      show g_H E 0 0 25 [(0, vR 40), (1, vI x1), (2, vI x2), (3, vI x3)] [] (σ, (g_up M 66 (x3.toNatClampNeg) 0), N) _ _
      refine r_run J 2 (pc' := 28) (lv' := [(4, vI 0), (0, vR 40), (1, vI x1), (2, vI x2), (3, vI x3)]) (st' := []) rfl ?_
      refine r_sub [1, 2, 3, 4, 0] (lv' := [(0, vR 40), (1, vI x1), (2, vI x2), (3, vI x3), (4, vI 0)]) rfl ?_
      exact p_X12_findSets_28 J ih g_FU x1 x2 x3 0 σ (g_up M 66 (x3.toNatClampNeg) 0) N hL
    · exact r_vret J rfl rfl rfl (by decide) (by decide)
set_option maxHeartbeats 4000000 in
set_option maxRecDepth 100000 in
theorem p_X12_findSets_0 {l : Launch} {E : gE} (J : J_X12_findSets E l) (x1 : Int32) (σ : gS) (M : gM) (N : gN) (hL : g_layM σ) : g_H E 0 0 0 [(0, vR 40), (1, vI x1)] [] (σ, M, N) (b_X12_findSets_0 x1 σ M) (eVM σ N) := by
  unfold b_X12_findSets_0
  refine r_run J 2 (pc' := 2) (lv' := [(0, vR 40), (1, vI x1)]) (st' := [vI x1, vR 40]) rfl ?_
  refine r_callV J (As := [vI x1]) (st := []) (fun r hr => c_X12_there x1 σ M N hL r hr) cls12 (ly_40 hL) wm_12_215 wy_X12_there wd_X12_there ⟨by decide, by decide, by decide, by decide, Nat.le_of_ble_eq_true rfl⟩ rfl rfl (fun q2 hq2 => ?_)
  show g_H E 0 0 5 [(0, vR 40), (1, vI x1)] [vI q2] (σ, M, N) _ _
  refine r_run J 3 (pc' := 8) (lv' := [(3, vI 0), (2, vI q2), (0, vR 40), (1, vI x1)]) (st' := []) rfl ?_
  refine r_sub [2, 3, 1, 0] (lv' := [(0, vR 40), (1, vI x1), (2, vI q2), (3, vI 0)]) rfl ?_
  exact p_X12_findSets_8 J g_FU x1 q2 0 σ M N hL
theorem c_X12_findSets {l : Launch} (x1 : Int32) (σ : gS) (M : gM) (N : gN) (hL : g_layM σ) (r : gM) (h : f_X12_findSets x1 σ M = some r) : g_Ct l yX12_findSets cX12_findSets 5 none 3 0 0 [vR 40, vI x1] (σ, M, N) (eVM σ N r) :=
  g_Ct.of tb_X12_findSets (by decide +kernel) tk_X12_findSets (Nat.le_of_ble_eq_true rfl) (fun E J => p_X12_findSets_0 J x1 σ M N hL r h)
def tb_X12_movedBy : gT := [(0, .iconst 0, 1, 0), (1, .istore 4, 2, 0), (3, .iconst 0, 1, 0), (4, .istore 5, 2, 0), (6, .iload 5, 2, 0), (8, .aload_n 0, 1, 0), (9, .getfield 157, 3, 0), (12, .if_icmp .ge 61, 3, 0), (15, .iload 4, 2, 0), (17, .iload_n 3, 1, 0), (18, .iload 5, 2, 0), (20, .ishr, 1, 0), (21, .iconst 1, 1, 1), (22, .iand, 1, 0), (23, .iconst 1, 1, 1), (24, .if_icmp .ne 39, 3, 0), (27, .aload_n 0, 1, 0), (28, .getfield 66, 3, 0), (31, .bipush 10, 2, 10), (33, .iload_n 1, 1, 0), (34, .imul, 1, 0), (35, .iload 5, 2, 0), (37, .iadd, 1, 0), (38, .iaload, 1, 0), (39, .iconst (-1), 1, (-1)), (40, .if_icmp .eq 23, 3, 0), (43, .aload_n 0, 1, 0), (44, .getfield 66, 3, 0), (47, .bipush 10, 2, 10), (49, .iload_n 1, 1, 0), (50, .imul, 1, 0), (51, .iload 5, 2, 0), (53, .iadd, 1, 0), (54, .iaload, 1, 0), (55, .iload_n 2, 1, 0), (56, .if_icmp .eq 7, 3, 0), (59, .iconst 1, 1, 1), (60, .goto 4, 3, 0), (63, .iconst 0, 1, 0), (64, .iadd, 1, 0), (65, .istore 4, 2, 0), (67, .iinc 5 1, 3, 1), (70, .goto (-64), 3, 0), (73, .iload 4, 2, 0), (75, .ireturn, 1, 0)]
set_option maxRecDepth 100000 in
theorem tk_X12_movedBy : g_okT cX12_movedBy tb_X12_movedBy = true := by decide +kernel
abbrev J_X12_movedBy (E : gE) (l : Launch) : Prop := g_J E cX12_movedBy RX12 "movedBy" (some .int) 6 tb_X12_movedBy 1 0 0 l
set_option maxHeartbeats 4000000 in
set_option maxRecDepth 100000 in
theorem p_X12_movedBy_64 {l : Launch} {E : gE} (J : J_X12_movedBy E l) {k6 : Int32 → Int32 → Int32 → Int32 → Int32 → gS → gM → Option (Int32)} (H6 : ∀ (x1 : Int32) (x2 : Int32) (x3 : Int32) (x4 : Int32) (x5 : Int32) (σ : gS) (M : gM) (N : gN) (_ : g_layM σ), g_H E 0 0 6 [(0, vR 40), (1, vI x1), (2, vI x2), (3, vI x3), (4, vI x4), (5, vI x5)] [] (σ, M, N) (k6 x1 x2 x3 x4 x5 σ M) (eI σ M N)) (x1 : Int32) (x2 : Int32) (x3 : Int32) (x5 : Int32) (sx0 : Int32) (sx1 : Int32) (σ : gS) (M : gM) (N : gN) (hL : g_layM σ) : g_H E 0 0 64 [(0, vR 40), (1, vI x1), (2, vI x2), (3, vI x3), (5, vI x5)] [vI sx0, vI sx1] (σ, M, N) (b_X12_movedBy_64 k6 x1 x2 x3 x5 sx0 sx1 σ M) (eI σ M N) := by
  unfold b_X12_movedBy_64
  refine r_run J 4 (pc' := 6) (lv' := [(5, vI (x5 + 1)), (4, vI (sx1 + sx0)), (0, vR 40), (1, vI x1), (2, vI x2), (3, vI x3)]) (st' := []) rfl ?_
  refine r_sub [2, 3, 4, 5, 1, 0] (lv' := [(0, vR 40), (1, vI x1), (2, vI x2), (3, vI x3), (4, vI (sx1 + sx0)), (5, vI (x5 + 1))]) rfl ?_
  exact H6 x1 x2 x3 (sx1 + sx0) (x5 + 1) σ M N hL
set_option maxHeartbeats 4000000 in
set_option maxRecDepth 100000 in
theorem p_X12_movedBy_63 {l : Launch} {E : gE} (J : J_X12_movedBy E l) {k6 : Int32 → Int32 → Int32 → Int32 → Int32 → gS → gM → Option (Int32)} (H6 : ∀ (x1 : Int32) (x2 : Int32) (x3 : Int32) (x4 : Int32) (x5 : Int32) (σ : gS) (M : gM) (N : gN) (_ : g_layM σ), g_H E 0 0 6 [(0, vR 40), (1, vI x1), (2, vI x2), (3, vI x3), (4, vI x4), (5, vI x5)] [] (σ, M, N) (k6 x1 x2 x3 x4 x5 σ M) (eI σ M N)) (x1 : Int32) (x2 : Int32) (x3 : Int32) (x5 : Int32) (sx0 : Int32) (σ : gS) (M : gM) (N : gN) (hL : g_layM σ) : g_H E 0 0 63 [(0, vR 40), (1, vI x1), (2, vI x2), (3, vI x3), (5, vI x5)] [vI sx0] (σ, M, N) (b_X12_movedBy_63 k6 x1 x2 x3 x5 sx0 σ M) (eI σ M N) := by
  unfold b_X12_movedBy_63
  refine r_run J 1 (pc' := 64) (lv' := [(0, vR 40), (1, vI x1), (2, vI x2), (3, vI x3), (5, vI x5)]) (st' := [vI 0, vI sx0]) rfl ?_
  exact p_X12_movedBy_64 J H6 x1 x2 x3 x5 0 sx0 σ M N hL
set_option maxHeartbeats 4000000 in
set_option maxRecDepth 100000 in
theorem p_X12_movedBy_6 {l : Launch} {E : gE} (J : J_X12_movedBy E l) : ∀ (n : Nat) (x1 : Int32) (x2 : Int32) (x3 : Int32) (x4 : Int32) (x5 : Int32) (σ : gS) (M : gM) (N : gN) (hL : g_layM σ), g_H E 0 0 6 [(0, vR 40), (1, vI x1), (2, vI x2), (3, vI x3), (4, vI x4), (5, vI x5)] [] (σ, M, N) (l_X12_movedBy_6 n x1 x2 x3 x4 x5 σ M) (eI σ M N) := by
  intro n
  induction n with
  | zero => intros; exact h_none
  | succ n ih =>
    intro x1 x2 x3 x4 x5 σ M N hL
    rw [l_X12_movedBy_6]
    refine r_run J 2 (pc' := 9) (lv' := [(0, vR 40), (1, vI x1), (2, vI x2), (3, vI x3), (4, vI x4), (5, vI x5)]) (st' := [vR 40, vI x5]) rfl ?_
    refine r_getI J cls12 rfl (k := 1) (by decide) wf_12_157 rfl (ly_40 hL) ?_
    show g_H E 0 0 12 [(0, vR 40), (1, vI x1), (2, vI x2), (3, vI x3), (4, vI x4), (5, vI x5)] [vI (M 40 1), vI x5] (σ, M, N) _ _
    refine r_icmp_ge J (tgt := 73) rfl (by decide) (fun c12 => ?_) (fun c12 => ?_)
    · refine r_run J 7 (pc' := 24) (lv' := [(0, vR 40), (1, vI x1), (2, vI x2), (3, vI x3), (4, vI x4), (5, vI x5)]) (st' := [vI 1, vI ((x3 >>> (x5 &&& 31)) &&& (1 : Int32)), vI x4]) rfl ?_
      refine r_icmp_ne J (tgt := 63) rfl (by decide) (fun c24 => ?_) (fun c24 => ?_)
      · refine r_run J 1 (pc' := 28) (lv' := [(0, vR 40), (1, vI x1), (2, vI x2), (3, vI x3), (4, vI x4), (5, vI x5)]) (st' := [vR 40, vI x4]) rfl ?_
        refine r_getR J cls12 rfl (k := 25) (t := 14) (by decide) wf_12_66 rfl rfl (ly_40 hL) (lr_40_25 hL) (fun _ => ?_)
        show g_H E 0 0 31 [(0, vR 40), (1, vI x1), (2, vI x2), (3, vI x3), (4, vI x4), (5, vI x5)] [vR 57, vI x4] (σ, M, N) _ _
        refine r_run J 5 (pc' := 38) (lv' := [(0, vR 40), (1, vI x1), (2, vI x2), (3, vI x3), (4, vI x4), (5, vI x5)]) (st' := [vI (((10 : Int32) * x1) + x5), vR 57, vI x4]) rfl ?_
        refine r_iald J rfl (ly_57 hL) (fun i38 => ?_)
        show g_H E 0 0 39 [(0, vR 40), (1, vI x1), (2, vI x2), (3, vI x3), (4, vI x4), (5, vI x5)] [vI (M 57 (((10 : Int32) * x1) + x5).toNatClampNeg), vI x4] (σ, M, N) _ _
        refine r_run J 1 (pc' := 40) (lv' := [(0, vR 40), (1, vI x1), (2, vI x2), (3, vI x3), (4, vI x4), (5, vI x5)]) (st' := [vI (-1), vI (M 57 (((10 : Int32) * x1) + x5).toNatClampNeg), vI x4]) rfl ?_
        refine r_icmp_eq J (tgt := 63) rfl (by decide) (fun c40 => ?_) (fun c40 => ?_)
        · refine r_sub [0, 1, 2, 3, 5] (lv' := [(0, vR 40), (1, vI x1), (2, vI x2), (3, vI x3), (5, vI x5)]) rfl ?_
          exact p_X12_movedBy_63 J ih x1 x2 x3 x5 x4 σ M N hL
        · refine r_run J 1 (pc' := 44) (lv' := [(0, vR 40), (1, vI x1), (2, vI x2), (3, vI x3), (4, vI x4), (5, vI x5)]) (st' := [vR 40, vI x4]) rfl ?_
          refine r_getR J cls12 rfl (k := 25) (t := 14) (by decide) wf_12_66 rfl rfl (ly_40 hL) (lr_40_25 hL) (fun _ => ?_)
          show g_H E 0 0 47 [(0, vR 40), (1, vI x1), (2, vI x2), (3, vI x3), (4, vI x4), (5, vI x5)] [vR 57, vI x4] (σ, M, N) _ _
          refine r_run J 5 (pc' := 54) (lv' := [(0, vR 40), (1, vI x1), (2, vI x2), (3, vI x3), (4, vI x4), (5, vI x5)]) (st' := [vI (((10 : Int32) * x1) + x5), vR 57, vI x4]) rfl ?_
          refine r_iald J rfl (ly_57 hL) (fun i54 => ?_)
          show g_H E 0 0 55 [(0, vR 40), (1, vI x1), (2, vI x2), (3, vI x3), (4, vI x4), (5, vI x5)] [vI (M 57 (((10 : Int32) * x1) + x5).toNatClampNeg), vI x4] (σ, M, N) _ _
          refine r_run J 1 (pc' := 56) (lv' := [(0, vR 40), (1, vI x1), (2, vI x2), (3, vI x3), (4, vI x4), (5, vI x5)]) (st' := [vI x2, vI (M 57 (((10 : Int32) * x1) + x5).toNatClampNeg), vI x4]) rfl ?_
          refine r_icmp_eq J (tgt := 63) rfl (by decide) (fun c56 => ?_) (fun c56 => ?_)
          · refine r_sub [0, 1, 2, 3, 5] (lv' := [(0, vR 40), (1, vI x1), (2, vI x2), (3, vI x3), (5, vI x5)]) rfl ?_
            exact p_X12_movedBy_63 J ih x1 x2 x3 x5 x4 σ M N hL
          · refine r_run J 2 (pc' := 64) (lv' := [(0, vR 40), (1, vI x1), (2, vI x2), (3, vI x3), (4, vI x4), (5, vI x5)]) (st' := [vI 1, vI x4]) rfl ?_
            refine r_sub [0, 1, 2, 3, 5] (lv' := [(0, vR 40), (1, vI x1), (2, vI x2), (3, vI x3), (5, vI x5)]) rfl ?_
            exact p_X12_movedBy_64 J ih x1 x2 x3 x5 1 x4 σ M N hL
      · refine r_sub [0, 1, 2, 3, 5] (lv' := [(0, vR 40), (1, vI x1), (2, vI x2), (3, vI x3), (5, vI x5)]) rfl ?_
        exact p_X12_movedBy_63 J ih x1 x2 x3 x5 x4 σ M N hL
    · refine r_run J 1 (pc' := 75) (lv' := [(0, vR 40), (1, vI x1), (2, vI x2), (3, vI x3), (4, vI x4), (5, vI x5)]) (st' := [vI x4]) rfl ?_
      exact r_iret J rfl rfl rfl rfl (by decide) (by decide)
set_option maxHeartbeats 4000000 in
set_option maxRecDepth 100000 in
theorem p_X12_movedBy_0 {l : Launch} {E : gE} (J : J_X12_movedBy E l) (x1 : Int32) (x2 : Int32) (x3 : Int32) (σ : gS) (M : gM) (N : gN) (hL : g_layM σ) : g_H E 0 0 0 [(0, vR 40), (1, vI x1), (2, vI x2), (3, vI x3)] [] (σ, M, N) (b_X12_movedBy_0 x1 x2 x3 σ M) (eI σ M N) := by
  unfold b_X12_movedBy_0
  refine r_run J 4 (pc' := 6) (lv' := [(5, vI 0), (4, vI 0), (0, vR 40), (1, vI x1), (2, vI x2), (3, vI x3)]) (st' := []) rfl ?_
  refine r_sub [2, 3, 4, 5, 1, 0] (lv' := [(0, vR 40), (1, vI x1), (2, vI x2), (3, vI x3), (4, vI 0), (5, vI 0)]) rfl ?_
  exact p_X12_movedBy_6 J g_FU x1 x2 x3 0 0 σ M N hL
theorem c_X12_movedBy {l : Launch} (x1 : Int32) (x2 : Int32) (x3 : Int32) (σ : gS) (M : gM) (N : gN) (hL : g_layM σ) (r : Int32) (h : f_X12_movedBy x1 x2 x3 σ M = some r) : g_Ct l yX12_movedBy cX12_movedBy 6 (some .int) 1 0 0 [vR 40, vI x1, vI x2, vI x3] (σ, M, N) (eI σ M N r) :=
  g_Ct.of tb_X12_movedBy (by decide +kernel) tk_X12_movedBy (Nat.le_of_ble_eq_true rfl) (fun E J => p_X12_movedBy_0 J x1 x2 x3 σ M N hL r h)
def tb_X12_weight : gT := [(0, .iload_n 3, 1, 0), (1, .ifCond .ne 5, 3, 0), (4, .iconst 0, 1, 0), (5, .ireturn, 1, 0), (6, .aload_n 0, 1, 0), (7, .getfield 60, 3, 0), (10, .bipush 10, 2, 10), (12, .iload_n 1, 1, 0), (13, .imul, 1, 0), (14, .iload_n 2, 1, 0), (15, .iadd, 1, 0), (16, .iaload, 1, 0), (17, .istore 5, 2, 0), (19, .aload_n 0, 1, 0), (20, .iload_n 1, 1, 0), (21, .iload_n 2, 1, 0), (22, .iload_n 3, 1, 0), (23, .invokevirtual 222, 3, 0), (26, .istore 6, 2, 0), (28, .iload 4, 2, 0), (30, .ifCond .ne 14, 3, 0), (33, .bipush 32, 2, 32), (35, .iload 5, 2, 0), (37, .imul, 1, 0), (38, .iload 6, 2, 0), (40, .iadd, 1, 0), (41, .goto 11, 3, 0), (44, .ldc 226, 2, 0), (46, .iload 6, 2, 0), (48, .imul, 1, 0), (49, .iload 5, 2, 0), (51, .iadd, 1, 0), (52, .ireturn, 1, 0)]
set_option maxRecDepth 100000 in
theorem tk_X12_weight : g_okT cX12_weight tb_X12_weight = true := by decide +kernel
abbrev J_X12_weight (E : gE) (l : Launch) : Prop := g_J E cX12_weight RX12 "weight" (some .int) 7 tb_X12_weight 2 0 0 l
set_option maxHeartbeats 4000000 in
set_option maxRecDepth 100000 in
theorem p_X12_weight_0 {l : Launch} {E : gE} (J : J_X12_weight E l) (x1 : Int32) (x2 : Int32) (x3 : Int32) (x4 : Int32) (σ : gS) (M : gM) (N : gN) (hL : g_layM σ) : g_H E 0 0 0 [(0, vR 40), (1, vI x1), (2, vI x2), (3, vI x3), (4, vI x4)] [] (σ, M, N) (b_X12_weight_0 x1 x2 x3 x4 σ M) (eI σ M N) := by
  unfold b_X12_weight_0
  refine r_run J 1 (pc' := 1) (lv' := [(0, vR 40), (1, vI x1), (2, vI x2), (3, vI x3), (4, vI x4)]) (st' := [vI x3]) rfl ?_
  refine r_if_ne J (tgt := 6) rfl (by decide) (fun c1 => ?_) (fun c1 => ?_)
  · refine r_run J 1 (pc' := 5) (lv' := [(0, vR 40), (1, vI x1), (2, vI x2), (3, vI x3), (4, vI x4)]) (st' := [vI 0]) rfl ?_
    exact r_iret J rfl rfl rfl rfl (by decide) (by decide)
  · refine r_run J 1 (pc' := 7) (lv' := [(0, vR 40), (1, vI x1), (2, vI x2), (3, vI x3), (4, vI x4)]) (st' := [vR 40]) rfl ?_
    refine r_getR J cls12 rfl (k := 23) (t := 14) (by decide) wf_12_60 rfl rfl (ly_40 hL) (lr_40_23 hL) (fun _ => ?_)
    show g_H E 0 0 10 [(0, vR 40), (1, vI x1), (2, vI x2), (3, vI x3), (4, vI x4)] [vR 55] (σ, M, N) _ _
    refine r_run J 5 (pc' := 16) (lv' := [(0, vR 40), (1, vI x1), (2, vI x2), (3, vI x3), (4, vI x4)]) (st' := [vI (((10 : Int32) * x1) + x2), vR 55]) rfl ?_
    refine r_iald J rfl (ly_55 hL) (fun i16 => ?_)
    show g_H E 0 0 17 [(0, vR 40), (1, vI x1), (2, vI x2), (3, vI x3), (4, vI x4)] [vI (M 55 (((10 : Int32) * x1) + x2).toNatClampNeg)] (σ, M, N) _ _
    refine r_run J 5 (pc' := 23) (lv' := [(5, vI (M 55 (((10 : Int32) * x1) + x2).toNatClampNeg)), (0, vR 40), (1, vI x1), (2, vI x2), (3, vI x3), (4, vI x4)]) (st' := [vI x3, vI x2, vI x1, vR 40]) rfl ?_
    refine r_callV J (As := [vI x1, vI x2, vI x3]) (st := []) (fun r hr => c_X12_movedBy x1 x2 x3 σ M N hL r hr) cls12 (ly_40 hL) wm_12_222 wy_X12_movedBy wd_X12_movedBy ⟨by decide, by decide, by decide, by decide, Nat.le_of_ble_eq_true rfl⟩ rfl rfl (fun q23 hq23 => ?_)
    show g_H E 0 0 26 [(5, vI (M 55 (((10 : Int32) * x1) + x2).toNatClampNeg)), (0, vR 40), (1, vI x1), (2, vI x2), (3, vI x3), (4, vI x4)] [vI q23] (σ, M, N) _ _
    refine r_run J 2 (pc' := 30) (lv' := [(6, vI q23), (5, vI (M 55 (((10 : Int32) * x1) + x2).toNatClampNeg)), (0, vR 40), (1, vI x1), (2, vI x2), (3, vI x3), (4, vI x4)]) (st' := [vI x4]) rfl ?_
    refine r_if_ne J (tgt := 44) rfl (by decide) (fun c30 => ?_) (fun c30 => ?_)
    · refine r_run J 6 (pc' := 52) (lv' := [(6, vI q23), (5, vI (M 55 (((10 : Int32) * x1) + x2).toNatClampNeg)), (0, vR 40), (1, vI x1), (2, vI x2), (3, vI x3), (4, vI x4)]) (st' := [vI (((32 : Int32) * (M 55 (((10 : Int32) * x1) + x2).toNatClampNeg)) + q23)]) rfl ?_
      exact r_iret J rfl rfl rfl rfl (by decide) (by decide)
    · refine r_ldc J rfl wc_12_226 ?_
      refine r_run J 4 (pc' := 52) (lv' := [(6, vI q23), (5, vI (M 55 (((10 : Int32) * x1) + x2).toNatClampNeg)), (0, vR 40), (1, vI x1), (2, vI x2), (3, vI x3), (4, vI x4)]) (st' := [vI (((32768 : Int32) * q23) + (M 55 (((10 : Int32) * x1) + x2).toNatClampNeg))]) rfl ?_
      exact r_iret J rfl rfl rfl rfl (by decide) (by decide)
theorem c_X12_weight {l : Launch} (x1 : Int32) (x2 : Int32) (x3 : Int32) (x4 : Int32) (σ : gS) (M : gM) (N : gN) (hL : g_layM σ) (r : Int32) (h : f_X12_weight x1 x2 x3 x4 σ M = some r) : g_Ct l yX12_weight cX12_weight 7 (some .int) 2 0 0 [vR 40, vI x1, vI x2, vI x3, vI x4] (σ, M, N) (eI σ M N r) :=
  g_Ct.of tb_X12_weight (by decide +kernel) tk_X12_weight (Nat.le_of_ble_eq_true rfl) (fun E J => p_X12_weight_0 J x1 x2 x3 x4 σ M N hL r h)
def tb_X12_isLeast : gT := [(0, .iload 4, 2, 0), (2, .iload_n 3, 1, 0), (3, .iconst (-1), 1, (-1)), (4, .ixor, 1, 0), (5, .iand, 1, 0), (6, .ifCond .eq 5, 3, 0), (9, .iconst 0, 1, 0), (10, .ireturn, 1, 0), (11, .aload_n 0, 1, 0), (12, .getfield 96, 3, 0), (15, .sipush 1024, 3, 1024), (18, .iload_n 2, 1, 0), (19, .iconst 1, 1, 1), (20, .iadd, 1, 0), (21, .imul, 1, 0), (22, .iload_n 3, 1, 0), (23, .iload 4, 2, 0), (25, .iconst (-1), 1, (-1)), (26, .ixor, 1, 0), (27, .iand, 1, 0), (28, .iadd, 1, 0), (29, .iaload, 1, 0), (30, .istore 6, 2, 0), (32, .iload 6, 2, 0), (34, .ldc 231, 2, 0), (36, .if_icmp .eq 35, 3, 0), (39, .iload 6, 2, 0), (41, .aload_n 0, 1, 0), (42, .iload_n 1, 1, 0), (43, .iload_n 2, 1, 0), (44, .iload 4, 2, 0), (46, .iload 5, 2, 0), (48, .invokevirtual 232, 3, 0), (51, .iadd, 1, 0), (52, .aload_n 0, 1, 0), (53, .getfield 96, 3, 0), (56, .sipush 1024, 3, 1024), (59, .iload_n 2, 1, 0), (60, .imul, 1, 0), (61, .iload_n 3, 1, 0), (62, .iadd, 1, 0), (63, .iaload, 1, 0), (64, .if_icmp .ne 7, 3, 0), (67, .iconst 1, 1, 1), (68, .goto 4, 3, 0), (71, .iconst 0, 1, 0), (72, .ireturn, 1, 0)]
set_option maxRecDepth 100000 in
theorem tk_X12_isLeast : g_okT cX12_isLeast tb_X12_isLeast = true := by decide +kernel
abbrev J_X12_isLeast (E : gE) (l : Launch) : Prop := g_J E cX12_isLeast RX12 "isLeast" (some .boolean) 7 tb_X12_isLeast 3 0 0 l
set_option maxHeartbeats 4000000 in
set_option maxRecDepth 100000 in
theorem p_X12_isLeast_0 {l : Launch} {E : gE} (J : J_X12_isLeast E l) (x1 : Int32) (x2 : Int32) (x3 : Int32) (x4 : Int32) (x5 : Int32) (σ : gS) (M : gM) (N : gN) (hL : g_layM σ) : g_H E 0 0 0 [(0, vR 40), (1, vI x1), (2, vI x2), (3, vI x3), (4, vI x4), (5, vI x5)] [] (σ, M, N) (b_X12_isLeast_0 x1 x2 x3 x4 x5 σ M) (eI σ M N) := by
  unfold b_X12_isLeast_0
  refine r_run J 5 (pc' := 6) (lv' := [(0, vR 40), (1, vI x1), (2, vI x2), (3, vI x3), (4, vI x4), (5, vI x5)]) (st' := [vI (x4 &&& (x3 ^^^ (-1 : Int32)))]) rfl ?_
  refine r_if_eq J (tgt := 11) rfl (by decide) (fun c6 => ?_) (fun c6 => ?_)
  · refine r_run J 1 (pc' := 12) (lv' := [(0, vR 40), (1, vI x1), (2, vI x2), (3, vI x3), (4, vI x4), (5, vI x5)]) (st' := [vR 40]) rfl ?_
    refine r_getR J cls12 rfl (k := 36) (t := 14) (by decide) wf_12_96 rfl rfl (ly_40 hL) (lr_40_36 hL) (fun _ => ?_)
    show g_H E 0 0 15 [(0, vR 40), (1, vI x1), (2, vI x2), (3, vI x3), (4, vI x4), (5, vI x5)] [vR 67] (σ, M, N) _ _
    refine r_run J 11 (pc' := 29) (lv' := [(0, vR 40), (1, vI x1), (2, vI x2), (3, vI x3), (4, vI x4), (5, vI x5)]) (st' := [vI (((1024 : Int32) * (x2 + (1 : Int32))) + (x3 &&& (x4 ^^^ (-1 : Int32)))), vR 67]) rfl ?_
    refine r_iald J rfl (ly_67 hL) (fun i29 => ?_)
    show g_H E 0 0 30 [(0, vR 40), (1, vI x1), (2, vI x2), (3, vI x3), (4, vI x4), (5, vI x5)] [vI (M 67 (((1024 : Int32) * (x2 + (1 : Int32))) + (x3 &&& (x4 ^^^ (-1 : Int32)))).toNatClampNeg)] (σ, M, N) _ _
    refine r_run J 2 (pc' := 34) (lv' := [(6, vI (M 67 (((1024 : Int32) * (x2 + (1 : Int32))) + (x3 &&& (x4 ^^^ (-1 : Int32)))).toNatClampNeg)), (0, vR 40), (1, vI x1), (2, vI x2), (3, vI x3), (4, vI x4), (5, vI x5)]) (st' := [vI (M 67 (((1024 : Int32) * (x2 + (1 : Int32))) + (x3 &&& (x4 ^^^ (-1 : Int32)))).toNatClampNeg)]) rfl ?_
    refine r_ldc J rfl wc_12_231 ?_
    refine r_icmp_eq J (tgt := 71) rfl (by decide) (fun c36 => ?_) (fun c36 => ?_)
    · refine r_run J 1 (pc' := 72) (lv' := [(6, vI (M 67 (((1024 : Int32) * (x2 + (1 : Int32))) + (x3 &&& (x4 ^^^ (-1 : Int32)))).toNatClampNeg)), (0, vR 40), (1, vI x1), (2, vI x2), (3, vI x3), (4, vI x4), (5, vI x5)]) (st' := [vI 0]) rfl ?_
      exact r_iret J rfl rfl rfl rfl (by decide) (by decide)
    · refine r_run J 6 (pc' := 48) (lv' := [(6, vI (M 67 (((1024 : Int32) * (x2 + (1 : Int32))) + (x3 &&& (x4 ^^^ (-1 : Int32)))).toNatClampNeg)), (0, vR 40), (1, vI x1), (2, vI x2), (3, vI x3), (4, vI x4), (5, vI x5)]) (st' := [vI x5, vI x4, vI x2, vI x1, vR 40, vI (M 67 (((1024 : Int32) * (x2 + (1 : Int32))) + (x3 &&& (x4 ^^^ (-1 : Int32)))).toNatClampNeg)]) rfl ?_
      refine r_callV J (As := [vI x1, vI x2, vI x4, vI x5]) (st := [vI (M 67 (((1024 : Int32) * (x2 + (1 : Int32))) + (x3 &&& (x4 ^^^ (-1 : Int32)))).toNatClampNeg)]) (fun r hr => c_X12_weight x1 x2 x4 x5 σ M N hL r hr) cls12 (ly_40 hL) wm_12_232 wy_X12_weight wd_X12_weight ⟨by decide, by decide, by decide, by decide, Nat.le_of_ble_eq_true rfl⟩ rfl rfl (fun q48 hq48 => ?_)
      show g_H E 0 0 51 [(6, vI (M 67 (((1024 : Int32) * (x2 + (1 : Int32))) + (x3 &&& (x4 ^^^ (-1 : Int32)))).toNatClampNeg)), (0, vR 40), (1, vI x1), (2, vI x2), (3, vI x3), (4, vI x4), (5, vI x5)] [vI q48, vI (M 67 (((1024 : Int32) * (x2 + (1 : Int32))) + (x3 &&& (x4 ^^^ (-1 : Int32)))).toNatClampNeg)] (σ, M, N) _ _
      refine r_run J 2 (pc' := 53) (lv' := [(6, vI (M 67 (((1024 : Int32) * (x2 + (1 : Int32))) + (x3 &&& (x4 ^^^ (-1 : Int32)))).toNatClampNeg)), (0, vR 40), (1, vI x1), (2, vI x2), (3, vI x3), (4, vI x4), (5, vI x5)]) (st' := [vR 40, vI ((M 67 (((1024 : Int32) * (x2 + (1 : Int32))) + (x3 &&& (x4 ^^^ (-1 : Int32)))).toNatClampNeg) + q48)]) rfl ?_
      refine r_getR J cls12 rfl (k := 36) (t := 14) (by decide) wf_12_96 rfl rfl (ly_40 hL) (lr_40_36 hL) (fun _ => ?_)
      show g_H E 0 0 56 [(6, vI (M 67 (((1024 : Int32) * (x2 + (1 : Int32))) + (x3 &&& (x4 ^^^ (-1 : Int32)))).toNatClampNeg)), (0, vR 40), (1, vI x1), (2, vI x2), (3, vI x3), (4, vI x4), (5, vI x5)] [vR 67, vI ((M 67 (((1024 : Int32) * (x2 + (1 : Int32))) + (x3 &&& (x4 ^^^ (-1 : Int32)))).toNatClampNeg) + q48)] (σ, M, N) _ _
      refine r_run J 5 (pc' := 63) (lv' := [(6, vI (M 67 (((1024 : Int32) * (x2 + (1 : Int32))) + (x3 &&& (x4 ^^^ (-1 : Int32)))).toNatClampNeg)), (0, vR 40), (1, vI x1), (2, vI x2), (3, vI x3), (4, vI x4), (5, vI x5)]) (st' := [vI (((1024 : Int32) * x2) + x3), vR 67, vI ((M 67 (((1024 : Int32) * (x2 + (1 : Int32))) + (x3 &&& (x4 ^^^ (-1 : Int32)))).toNatClampNeg) + q48)]) rfl ?_
      refine r_iald J rfl (ly_67 hL) (fun i63 => ?_)
      show g_H E 0 0 64 [(6, vI (M 67 (((1024 : Int32) * (x2 + (1 : Int32))) + (x3 &&& (x4 ^^^ (-1 : Int32)))).toNatClampNeg)), (0, vR 40), (1, vI x1), (2, vI x2), (3, vI x3), (4, vI x4), (5, vI x5)] [vI (M 67 (((1024 : Int32) * x2) + x3).toNatClampNeg), vI ((M 67 (((1024 : Int32) * (x2 + (1 : Int32))) + (x3 &&& (x4 ^^^ (-1 : Int32)))).toNatClampNeg) + q48)] (σ, M, N) _ _
      refine r_icmp_ne J (tgt := 71) rfl (by decide) (fun c64 => ?_) (fun c64 => ?_)
      · refine r_run J 2 (pc' := 72) (lv' := [(6, vI (M 67 (((1024 : Int32) * (x2 + (1 : Int32))) + (x3 &&& (x4 ^^^ (-1 : Int32)))).toNatClampNeg)), (0, vR 40), (1, vI x1), (2, vI x2), (3, vI x3), (4, vI x4), (5, vI x5)]) (st' := [vI 1]) rfl ?_
        exact r_iret J rfl rfl rfl rfl (by decide) (by decide)
      · refine r_run J 1 (pc' := 72) (lv' := [(6, vI (M 67 (((1024 : Int32) * (x2 + (1 : Int32))) + (x3 &&& (x4 ^^^ (-1 : Int32)))).toNatClampNeg)), (0, vR 40), (1, vI x1), (2, vI x2), (3, vI x3), (4, vI x4), (5, vI x5)]) (st' := [vI 0]) rfl ?_
        exact r_iret J rfl rfl rfl rfl (by decide) (by decide)
  · refine r_run J 1 (pc' := 10) (lv' := [(0, vR 40), (1, vI x1), (2, vI x2), (3, vI x3), (4, vI x4), (5, vI x5)]) (st' := [vI 0]) rfl ?_
    exact r_iret J rfl rfl rfl rfl (by decide) (by decide)
theorem c_X12_isLeast {l : Launch} (x1 : Int32) (x2 : Int32) (x3 : Int32) (x4 : Int32) (x5 : Int32) (σ : gS) (M : gM) (N : gN) (hL : g_layM σ) (r : Int32) (h : f_X12_isLeast x1 x2 x3 x4 x5 σ M = some r) : g_Ct l yX12_isLeast cX12_isLeast 7 (some .boolean) 3 0 0 [vR 40, vI x1, vI x2, vI x3, vI x4, vI x5] (σ, M, N) (eI σ M N r) :=
  g_Ct.of tb_X12_isLeast (by decide +kernel) tk_X12_isLeast (Nat.le_of_ble_eq_true rfl) (fun E J => p_X12_isLeast_0 J x1 x2 x3 x4 x5 σ M N hL r h)
def tb_X12_takes : gT := [(0, .iload_n 3, 1, 0), (1, .istore 4, 2, 0), (3, .iconst 0, 1, 0), (4, .istore 5, 2, 0), (6, .iconst 0, 1, 0), (7, .istore 6, 2, 0), (9, .iconst 0, 1, 0), (10, .istore 7, 2, 0), (12, .iload 7, 2, 0), (14, .aload_n 0, 1, 0), (15, .getfield 157, 3, 0), (18, .if_icmp .ge 17, 3, 0), (21, .aload_n 0, 1, 0), (22, .getfield 102, 3, 0), (25, .iload 7, 2, 0), (27, .iconst (-1), 1, (-1)), (28, .iastore, 1, 0), (29, .iinc 7 1, 3, 1), (32, .goto (-20), 3, 0), (35, .iconst 0, 1, 0), (36, .istore 7, 2, 0), (38, .iload 7, 2, 0), (40, .aload_n 0, 1, 0), (41, .getfield 51, 3, 0), (44, .iload_n 1, 1, 0), (45, .iaload, 1, 0), (46, .if_icmp .ge 156, 3, 0), (49, .iconst 0, 1, 0), (50, .istore 8, 2, 0), (52, .aload_n 0, 1, 0), (53, .iload_n 1, 1, 0), (54, .iload 7, 2, 0), (56, .iload 4, 2, 0), (58, .aload_n 0, 1, 0), (59, .getfield 90, 3, 0), (62, .bipush 64, 2, 64), (64, .iload 7, 2, 0), (66, .imul, 1, 0), (67, .iload 8, 2, 0), (69, .iadd, 1, 0), (70, .iaload, 1, 0), (71, .iload_n 2, 1, 0), (72, .invokevirtual 239, 3, 0), (75, .ifCond .ne 9, 3, 0), (78, .iinc 8 1, 3, 1), (81, .goto (-29), 3, 0), (84, .aload_n 0, 1, 0), (85, .getfield 90, 3, 0), (88, .bipush 64, 2, 64), (90, .iload 7, 2, 0), (92, .imul, 1, 0), (93, .iload 8, 2, 0), (95, .iadd, 1, 0), (96, .iaload, 1, 0), (97, .istore 9, 2, 0), (99, .iconst 0, 1, 0), (100, .istore 10, 2, 0), (102, .iload 10, 2, 0), (104, .aload_n 0, 1, 0), (105, .getfield 157, 3, 0), (108, .if_icmp .ge 39, 3, 0), (111, .aload_n 0, 1, 0), (112, .getfield 102, 3, 0), (115, .iload 10, 2, 0), (117, .iload 9, 2, 0), (119, .iload 10, 2, 0), (121, .ishr, 1, 0), (122, .iconst 1, 1, 1), (123, .iand, 1, 0), (124, .iconst 1, 1, 1), (125, .if_icmp .ne 8, 3, 0), (128, .iload 7, 2, 0), (130, .goto 10, 3, 0), (133, .aload_n 0, 1, 0), (134, .getfield 102, 3, 0), (137, .iload 10, 2, 0), (139, .iaload, 1, 0), (140, .iastore, 1, 0), (141, .iinc 10 1, 3, 1), (144, .goto (-42), 3, 0), (147, .iload 5, 2, 0), (149, .iload 9, 2, 0), (151, .ifCond .ne 7, 3, 0), (154, .iconst 0, 1, 0), (155, .goto 15, 3, 0), (158, .aload_n 0, 1, 0), (159, .getfield 60, 3, 0), (162, .bipush 10, 2, 10), (164, .iload_n 1, 1, 0), (165, .imul, 1, 0), (166, .iload 7, 2, 0), (168, .iadd, 1, 0), (169, .iaload, 1, 0), (170, .iadd, 1, 0), (171, .istore 5, 2, 0), (173, .iload 6, 2, 0), (175, .aload_n 0, 1, 0), (176, .iload_n 1, 1, 0), (177, .iload 7, 2, 0), (179, .iload 9, 2, 0), (181, .invokevirtual 222, 3, 0), (184, .iadd, 1, 0), (185, .istore 6, 2, 0), (187, .iload 4, 2, 0), (189, .iload 9, 2, 0), (191, .iconst (-1), 1, (-1)), (192, .ixor, 1, 0), (193, .iand, 1, 0), (194, .istore 4, 2, 0), (196, .iinc 7 1, 3, 1), (199, .goto (-161), 3, 0), (202, .iconst 0, 1, 0), (203, .istore 7, 2, 0), (205, .iconst 0, 1, 0), (206, .istore 8, 2, 0), (208, .iload 8, 2, 0), (210, .aload_n 0, 1, 0), (211, .getfield 157, 3, 0), (214, .if_icmp .ge 41, 3, 0), (217, .iload 7, 2, 0), (219, .aload_n 0, 1, 0), (220, .getfield 102, 3, 0), (223, .iload 8, 2, 0), (225, .iaload, 1, 0), (226, .aload_n 0, 1, 0), (227, .getfield 66, 3, 0), (230, .bipush 10, 2, 10), (232, .iload_n 1, 1, 0), (233, .imul, 1, 0), (234, .iload 8, 2, 0), (236, .iadd, 1, 0), (237, .iaload, 1, 0), (238, .if_icmp .eq 7, 3, 0), (241, .iconst 1, 1, 1), (242, .goto 4, 3, 0), (245, .iconst 0, 1, 0), (246, .iadd, 1, 0), (247, .istore 7, 2, 0), (249, .iinc 8 1, 3, 1), (252, .goto (-44), 3, 0), (255, .aload_n 0, 1, 0), (256, .getfield 180, 3, 0), (259, .iload 7, 2, 0), (261, .iadd, 1, 0), (262, .sipush 500, 3, 500), (265, .if_icmp .le 5, 3, 0), (268, .iconst (-1), 1, (-1)), (269, .ireturn, 1, 0), (270, .iconst 0, 1, 0), (271, .istore 8, 2, 0), (273, .iload 8, 2, 0), (275, .aload_n 0, 1, 0), (276, .getfield 157, 3, 0), (279, .if_icmp .ge 23, 3, 0), (282, .aload_n 0, 1, 0), (283, .iload_n 1, 1, 0), (284, .iload 8, 2, 0), (286, .aload_n 0, 1, 0), (287, .getfield 102, 3, 0), (290, .iload 8, 2, 0), (292, .iaload, 1, 0), (293, .invokevirtual 186, 3, 0), (296, .iinc 8 1, 3, 1), (299, .goto (-26), 3, 0), (302, .aload_n 0, 1, 0), (303, .iload 6, 2, 0), (305, .putfield 99, 3, 0), (308, .iload 5, 2, 0), (310, .ireturn, 1, 0)]
set_option maxRecDepth 100000 in
theorem tk_X12_takes : g_okT cX12_takes tb_X12_takes = true := by decide +kernel
abbrev J_X12_takes (E : gE) (l : Launch) : Prop := g_J E cX12_takes RX12 "takes" (some .int) 11 tb_X12_takes 4 0 0 l
set_option maxHeartbeats 4000000 in
set_option maxRecDepth 100000 in
theorem p_X12_takes_273 {l : Launch} {E : gE} (J : J_X12_takes E l) : ∀ (n : Nat) (x1 : Int32) (x5 : Int32) (x6 : Int32) (x8 : Int32) (σ : gS) (M : gM) (N : gN) (hL : g_layM σ), g_H E 0 0 273 [(0, vR 40), (1, vI x1), (5, vI x5), (6, vI x6), (8, vI x8)] [] (σ, M, N) (l_X12_takes_273 n x1 x5 x6 x8 σ M) (eIM σ N) := by
  intro n
  induction n with
  | zero => intros; exact h_none
  | succ n ih =>
    intro x1 x5 x6 x8 σ M N hL
    rw [l_X12_takes_273]
    refine r_run J 2 (pc' := 276) (lv' := [(0, vR 40), (1, vI x1), (5, vI x5), (6, vI x6), (8, vI x8)]) (st' := [vR 40, vI x8]) rfl ?_
    refine r_getI J cls12 rfl (k := 1) (by decide) wf_12_157 rfl (ly_40 hL) ?_
    show g_H E 0 0 279 [(0, vR 40), (1, vI x1), (5, vI x5), (6, vI x6), (8, vI x8)] [vI (M 40 1), vI x8] (σ, M, N) _ _
    refine r_icmp_ge J (tgt := 302) rfl (by decide) (fun c279 => ?_) (fun c279 => ?_)
    · refine r_run J 4 (pc' := 287) (lv' := [(0, vR 40), (1, vI x1), (5, vI x5), (6, vI x6), (8, vI x8)]) (st' := [vR 40, vI x8, vI x1, vR 40]) rfl ?_
      refine r_getR J cls12 rfl (k := 38) (t := 14) (by decide) wf_12_102 rfl rfl (ly_40 hL) (lr_40_38 hL) (fun _ => ?_)
      show g_H E 0 0 290 [(0, vR 40), (1, vI x1), (5, vI x5), (6, vI x6), (8, vI x8)] [vR 68, vI x8, vI x1, vR 40] (σ, M, N) _ _
      refine r_run J 1 (pc' := 292) (lv' := [(0, vR 40), (1, vI x1), (5, vI x5), (6, vI x6), (8, vI x8)]) (st' := [vI x8, vR 68, vI x8, vI x1, vR 40]) rfl ?_
      refine r_iald J rfl (ly_68 hL) (fun i292 => ?_)
      show g_H E 0 0 293 [(0, vR 40), (1, vI x1), (5, vI x5), (6, vI x6), (8, vI x8)] [vI (M 68 x8.toNatClampNeg), vI x8, vI x1, vR 40] (σ, M, N) _ _
      refine r_callV J (As := [vI x1, vI x8, vI (M 68 x8.toNatClampNeg)]) (st := []) (fun r hr => c_X12_notes x1 x8 (M 68 x8.toNatClampNeg) σ M N hL r hr) cls12 (ly_40 hL) wm_12_186 wy_X12_notes wd_X12_notes ⟨by decide, by decide, by decide, by decide, Nat.le_of_ble_eq_true rfl⟩ rfl rfl (fun q293 hq293 => ?_)
      show g_H E 0 0 296 [(0, vR 40), (1, vI x1), (5, vI x5), (6, vI x6), (8, vI x8)] [] (σ, q293, N) _ _
      refine r_run J 2 (pc' := 273) (lv' := [(8, vI (x8 + 1)), (0, vR 40), (1, vI x1), (5, vI x5), (6, vI x6)]) (st' := []) rfl ?_
      refine r_sub [1, 2, 3, 4, 0] (lv' := [(0, vR 40), (1, vI x1), (5, vI x5), (6, vI x6), (8, vI (x8 + 1))]) rfl ?_
      exact ih x1 x5 x6 (x8 + 1) σ q293 N hL
    · refine r_run J 2 (pc' := 305) (lv' := [(0, vR 40), (1, vI x1), (5, vI x5), (6, vI x6), (8, vI x8)]) (st' := [vI x6, vR 40]) rfl ?_
      refine r_putI J cls12 rfl (k := 37) (by decide) wf_12_99 rfl (Or.inl rfl) ⟨rfl, rfl⟩ (ly_40 hL) ?_
      show g_H E 0 0 308 [(0, vR 40), (1, vI x1), (5, vI x5), (6, vI x6), (8, vI x8)] [] (σ, (g_up M 40 37 x6), N) _ _
      refine r_run J 1 (pc' := 310) (lv' := [(0, vR 40), (1, vI x1), (5, vI x5), (6, vI x6), (8, vI x8)]) (st' := [vI x5]) rfl ?_
      exact r_iret J rfl rfl rfl rfl (by decide) (by decide)
set_option maxHeartbeats 4000000 in
set_option maxRecDepth 100000 in
theorem p_X12_takes_246 {l : Launch} {E : gE} (J : J_X12_takes E l) {k208 : Int32 → Int32 → Int32 → Int32 → Int32 → gS → gM → Option (Int32 × gM)} (H208 : ∀ (x1 : Int32) (x5 : Int32) (x6 : Int32) (x7 : Int32) (x8 : Int32) (σ : gS) (M : gM) (N : gN) (_ : g_layM σ), g_H E 0 0 208 [(0, vR 40), (1, vI x1), (5, vI x5), (6, vI x6), (7, vI x7), (8, vI x8)] [] (σ, M, N) (k208 x1 x5 x6 x7 x8 σ M) (eIM σ N)) (x1 : Int32) (x5 : Int32) (x6 : Int32) (x8 : Int32) (sx0 : Int32) (sx1 : Int32) (σ : gS) (M : gM) (N : gN) (hL : g_layM σ) : g_H E 0 0 246 [(0, vR 40), (1, vI x1), (5, vI x5), (6, vI x6), (8, vI x8)] [vI sx0, vI sx1] (σ, M, N) (b_X12_takes_246 k208 x1 x5 x6 x8 sx0 sx1 σ M) (eIM σ N) := by
  unfold b_X12_takes_246
  refine r_run J 4 (pc' := 208) (lv' := [(8, vI (x8 + 1)), (7, vI (sx1 + sx0)), (0, vR 40), (1, vI x1), (5, vI x5), (6, vI x6)]) (st' := []) rfl ?_
  refine r_sub [2, 3, 4, 5, 1, 0] (lv' := [(0, vR 40), (1, vI x1), (5, vI x5), (6, vI x6), (7, vI (sx1 + sx0)), (8, vI (x8 + 1))]) rfl ?_
  exact H208 x1 x5 x6 (sx1 + sx0) (x8 + 1) σ M N hL
set_option maxHeartbeats 4000000 in
set_option maxRecDepth 100000 in
theorem p_X12_takes_208 {l : Launch} {E : gE} (J : J_X12_takes E l) : ∀ (n : Nat) (x1 : Int32) (x5 : Int32) (x6 : Int32) (x7 : Int32) (x8 : Int32) (σ : gS) (M : gM) (N : gN) (hL : g_layM σ), g_H E 0 0 208 [(0, vR 40), (1, vI x1), (5, vI x5), (6, vI x6), (7, vI x7), (8, vI x8)] [] (σ, M, N) (l_X12_takes_208 n x1 x5 x6 x7 x8 σ M) (eIM σ N) := by
  intro n
  induction n with
  | zero => intros; exact h_none
  | succ n ih =>
    intro x1 x5 x6 x7 x8 σ M N hL
    rw [l_X12_takes_208]
    refine r_run J 2 (pc' := 211) (lv' := [(0, vR 40), (1, vI x1), (5, vI x5), (6, vI x6), (7, vI x7), (8, vI x8)]) (st' := [vR 40, vI x8]) rfl ?_
    refine r_getI J cls12 rfl (k := 1) (by decide) wf_12_157 rfl (ly_40 hL) ?_
    show g_H E 0 0 214 [(0, vR 40), (1, vI x1), (5, vI x5), (6, vI x6), (7, vI x7), (8, vI x8)] [vI (M 40 1), vI x8] (σ, M, N) _ _
    refine r_icmp_ge J (tgt := 255) rfl (by decide) (fun c214 => ?_) (fun c214 => ?_)
    · refine r_run J 2 (pc' := 220) (lv' := [(0, vR 40), (1, vI x1), (5, vI x5), (6, vI x6), (7, vI x7), (8, vI x8)]) (st' := [vR 40, vI x7]) rfl ?_
      refine r_getR J cls12 rfl (k := 38) (t := 14) (by decide) wf_12_102 rfl rfl (ly_40 hL) (lr_40_38 hL) (fun _ => ?_)
      show g_H E 0 0 223 [(0, vR 40), (1, vI x1), (5, vI x5), (6, vI x6), (7, vI x7), (8, vI x8)] [vR 68, vI x7] (σ, M, N) _ _
      refine r_run J 1 (pc' := 225) (lv' := [(0, vR 40), (1, vI x1), (5, vI x5), (6, vI x6), (7, vI x7), (8, vI x8)]) (st' := [vI x8, vR 68, vI x7]) rfl ?_
      refine r_iald J rfl (ly_68 hL) (fun i225 => ?_)
      show g_H E 0 0 226 [(0, vR 40), (1, vI x1), (5, vI x5), (6, vI x6), (7, vI x7), (8, vI x8)] [vI (M 68 x8.toNatClampNeg), vI x7] (σ, M, N) _ _
      refine r_run J 1 (pc' := 227) (lv' := [(0, vR 40), (1, vI x1), (5, vI x5), (6, vI x6), (7, vI x7), (8, vI x8)]) (st' := [vR 40, vI (M 68 x8.toNatClampNeg), vI x7]) rfl ?_
      refine r_getR J cls12 rfl (k := 25) (t := 14) (by decide) wf_12_66 rfl rfl (ly_40 hL) (lr_40_25 hL) (fun _ => ?_)
      show g_H E 0 0 230 [(0, vR 40), (1, vI x1), (5, vI x5), (6, vI x6), (7, vI x7), (8, vI x8)] [vR 57, vI (M 68 x8.toNatClampNeg), vI x7] (σ, M, N) _ _
      refine r_run J 5 (pc' := 237) (lv' := [(0, vR 40), (1, vI x1), (5, vI x5), (6, vI x6), (7, vI x7), (8, vI x8)]) (st' := [vI (((10 : Int32) * x1) + x8), vR 57, vI (M 68 x8.toNatClampNeg), vI x7]) rfl ?_
      refine r_iald J rfl (ly_57 hL) (fun i237 => ?_)
      show g_H E 0 0 238 [(0, vR 40), (1, vI x1), (5, vI x5), (6, vI x6), (7, vI x7), (8, vI x8)] [vI (M 57 (((10 : Int32) * x1) + x8).toNatClampNeg), vI (M 68 x8.toNatClampNeg), vI x7] (σ, M, N) _ _
      refine r_icmp_eq J (tgt := 245) rfl (by decide) (fun c238 => ?_) (fun c238 => ?_)
      · refine r_run J 1 (pc' := 246) (lv' := [(0, vR 40), (1, vI x1), (5, vI x5), (6, vI x6), (7, vI x7), (8, vI x8)]) (st' := [vI 0, vI x7]) rfl ?_
        refine r_sub [0, 1, 2, 3, 5] (lv' := [(0, vR 40), (1, vI x1), (5, vI x5), (6, vI x6), (8, vI x8)]) rfl ?_
        exact p_X12_takes_246 J ih x1 x5 x6 x8 0 x7 σ M N hL
      · refine r_run J 2 (pc' := 246) (lv' := [(0, vR 40), (1, vI x1), (5, vI x5), (6, vI x6), (7, vI x7), (8, vI x8)]) (st' := [vI 1, vI x7]) rfl ?_
        refine r_sub [0, 1, 2, 3, 5] (lv' := [(0, vR 40), (1, vI x1), (5, vI x5), (6, vI x6), (8, vI x8)]) rfl ?_
        exact p_X12_takes_246 J ih x1 x5 x6 x8 1 x7 σ M N hL
    · refine r_run J 1 (pc' := 256) (lv' := [(0, vR 40), (1, vI x1), (5, vI x5), (6, vI x6), (7, vI x7), (8, vI x8)]) (st' := [vR 40]) rfl ?_
      refine r_getI J cls12 rfl (k := 26) (by decide) wf_12_180 rfl (ly_40 hL) ?_
      show g_H E 0 0 259 [(0, vR 40), (1, vI x1), (5, vI x5), (6, vI x6), (7, vI x7), (8, vI x8)] [vI (M 40 26)] (σ, M, N) _ _
      refine r_run J 3 (pc' := 265) (lv' := [(0, vR 40), (1, vI x1), (5, vI x5), (6, vI x6), (7, vI x7), (8, vI x8)]) (st' := [vI 500, vI ((M 40 26) + x7)]) rfl ?_
      refine r_icmp_le J (tgt := 270) rfl (by decide) (fun c265 => ?_) (fun c265 => ?_)
      · refine r_run J 1 (pc' := 269) (lv' := [(0, vR 40), (1, vI x1), (5, vI x5), (6, vI x6), (7, vI x7), (8, vI x8)]) (st' := [vI (-1)]) rfl ?_
        exact r_iret J rfl rfl rfl rfl (by decide) (by decide)
      · refine r_run J 2 (pc' := 273) (lv' := [(8, vI 0), (0, vR 40), (1, vI x1), (5, vI x5), (6, vI x6), (7, vI x7)]) (st' := []) rfl ?_
        refine r_sub [1, 2, 3, 4, 0] (lv' := [(0, vR 40), (1, vI x1), (5, vI x5), (6, vI x6), (8, vI 0)]) rfl ?_
        exact p_X12_takes_273 J g_FU x1 x5 x6 0 σ M N hL
set_option maxHeartbeats 4000000 in
set_option maxRecDepth 100000 in
theorem p_X12_takes_170 {l : Launch} {E : gE} (J : J_X12_takes E l) {k38 : Int32 → Int32 → Int32 → Int32 → Int32 → Int32 → gS → gM → Option (Int32 × gM)} (H38 : ∀ (x1 : Int32) (x2 : Int32) (x4 : Int32) (x5 : Int32) (x6 : Int32) (x7 : Int32) (σ : gS) (M : gM) (N : gN) (_ : g_layM σ), g_H E 0 0 38 [(0, vR 40), (1, vI x1), (2, vI x2), (4, vI x4), (5, vI x5), (6, vI x6), (7, vI x7)] [] (σ, M, N) (k38 x1 x2 x4 x5 x6 x7 σ M) (eIM σ N)) (x1 : Int32) (x2 : Int32) (x4 : Int32) (x6 : Int32) (x7 : Int32) (x9 : Int32) (sx0 : Int32) (sx1 : Int32) (σ : gS) (M : gM) (N : gN) (hL : g_layM σ) : g_H E 0 0 170 [(0, vR 40), (1, vI x1), (2, vI x2), (4, vI x4), (6, vI x6), (7, vI x7), (9, vI x9)] [vI sx0, vI sx1] (σ, M, N) (b_X12_takes_170 k38 x1 x2 x4 x6 x7 x9 sx0 sx1 σ M) (eIM σ N) := by
  unfold b_X12_takes_170
  refine r_run J 7 (pc' := 181) (lv' := [(5, vI (sx1 + sx0)), (0, vR 40), (1, vI x1), (2, vI x2), (4, vI x4), (6, vI x6), (7, vI x7), (9, vI x9)]) (st' := [vI x9, vI x7, vI x1, vR 40, vI x6]) rfl ?_
  refine r_callV J (As := [vI x1, vI x7, vI x9]) (st := [vI x6]) (fun r hr => c_X12_movedBy x1 x7 x9 σ M N hL r hr) cls12 (ly_40 hL) wm_12_222 wy_X12_movedBy wd_X12_movedBy ⟨by decide, by decide, by decide, by decide, Nat.le_of_ble_eq_true rfl⟩ rfl rfl (fun q181 hq181 => ?_)
  show g_H E 0 0 184 [(5, vI (sx1 + sx0)), (0, vR 40), (1, vI x1), (2, vI x2), (4, vI x4), (6, vI x6), (7, vI x7), (9, vI x9)] [vI q181, vI x6] (σ, M, N) _ _
  refine r_run J 10 (pc' := 38) (lv' := [(7, vI (x7 + 1)), (4, vI (x4 &&& (x9 ^^^ (-1 : Int32)))), (6, vI (x6 + q181)), (5, vI (sx1 + sx0)), (0, vR 40), (1, vI x1), (2, vI x2), (9, vI x9)]) (st' := []) rfl ?_
  refine r_sub [4, 5, 6, 1, 3, 2, 0] (lv' := [(0, vR 40), (1, vI x1), (2, vI x2), (4, vI (x4 &&& (x9 ^^^ (-1 : Int32)))), (5, vI (sx1 + sx0)), (6, vI (x6 + q181)), (7, vI (x7 + 1))]) rfl ?_
  exact H38 x1 x2 (x4 &&& (x9 ^^^ (-1 : Int32))) (sx1 + sx0) (x6 + q181) (x7 + 1) σ M N hL
set_option maxHeartbeats 4000000 in
set_option maxRecDepth 100000 in
theorem p_X12_takes_140 {l : Launch} {E : gE} (J : J_X12_takes E l) {k38 : Int32 → Int32 → Int32 → Int32 → Int32 → Int32 → gS → gM → Option (Int32 × gM)} (H38 : ∀ (x1 : Int32) (x2 : Int32) (x4 : Int32) (x5 : Int32) (x6 : Int32) (x7 : Int32) (σ : gS) (M : gM) (N : gN) (_ : g_layM σ), g_H E 0 0 38 [(0, vR 40), (1, vI x1), (2, vI x2), (4, vI x4), (5, vI x5), (6, vI x6), (7, vI x7)] [] (σ, M, N) (k38 x1 x2 x4 x5 x6 x7 σ M) (eIM σ N)) {k102 : Int32 → Int32 → Int32 → Int32 → Int32 → Int32 → Int32 → Int32 → gS → gM → Option (Int32 × gM)} (H102 : ∀ (x1 : Int32) (x2 : Int32) (x4 : Int32) (x5 : Int32) (x6 : Int32) (x7 : Int32) (x9 : Int32) (x10 : Int32) (σ : gS) (M : gM) (N : gN) (_ : g_layM σ), g_H E 0 0 102 [(0, vR 40), (1, vI x1), (2, vI x2), (4, vI x4), (5, vI x5), (6, vI x6), (7, vI x7), (9, vI x9), (10, vI x10)] [] (σ, M, N) (k102 x1 x2 x4 x5 x6 x7 x9 x10 σ M) (eIM σ N)) (x1 : Int32) (x2 : Int32) (x4 : Int32) (x5 : Int32) (x6 : Int32) (x7 : Int32) (x9 : Int32) (x10 : Int32) (sx0 : Int32) (sx1 : Int32) (σ : gS) (M : gM) (N : gN) (hL : g_layM σ) : g_H E 0 0 140 [(0, vR 40), (1, vI x1), (2, vI x2), (4, vI x4), (5, vI x5), (6, vI x6), (7, vI x7), (9, vI x9), (10, vI x10)] [vI sx0, vI sx1, vR 68] (σ, M, N) (b_X12_takes_140 k38 k102 x1 x2 x4 x5 x6 x7 x9 x10 sx0 sx1 σ M) (eIM σ N) := by
  unfold b_X12_takes_140
  refine r_iast J rfl (ly_68 hL) (fun i140 => ?_)
  show g_H E 0 0 141 [(0, vR 40), (1, vI x1), (2, vI x2), (4, vI x4), (5, vI x5), (6, vI x6), (7, vI x7), (9, vI x9), (10, vI x10)] [] (σ, (g_up M 68 (sx1.toNatClampNeg) sx0), N) _ _
  refine r_run J 2 (pc' := 102) (lv' := [(10, vI (x10 + 1)), (0, vR 40), (1, vI x1), (2, vI x2), (4, vI x4), (5, vI x5), (6, vI x6), (7, vI x7), (9, vI x9)]) (st' := []) rfl ?_
  refine r_sub [1, 2, 3, 4, 5, 6, 7, 8, 0] (lv' := [(0, vR 40), (1, vI x1), (2, vI x2), (4, vI x4), (5, vI x5), (6, vI x6), (7, vI x7), (9, vI x9), (10, vI (x10 + 1))]) rfl ?_
  exact H102 x1 x2 x4 x5 x6 x7 x9 (x10 + 1) σ (g_up M 68 (sx1.toNatClampNeg) sx0) N hL
set_option maxHeartbeats 4000000 in
set_option maxRecDepth 100000 in
theorem p_X12_takes_102 {l : Launch} {E : gE} (J : J_X12_takes E l) {k38 : Int32 → Int32 → Int32 → Int32 → Int32 → Int32 → gS → gM → Option (Int32 × gM)} (H38 : ∀ (x1 : Int32) (x2 : Int32) (x4 : Int32) (x5 : Int32) (x6 : Int32) (x7 : Int32) (σ : gS) (M : gM) (N : gN) (_ : g_layM σ), g_H E 0 0 38 [(0, vR 40), (1, vI x1), (2, vI x2), (4, vI x4), (5, vI x5), (6, vI x6), (7, vI x7)] [] (σ, M, N) (k38 x1 x2 x4 x5 x6 x7 σ M) (eIM σ N)) : ∀ (n : Nat) (x1 : Int32) (x2 : Int32) (x4 : Int32) (x5 : Int32) (x6 : Int32) (x7 : Int32) (x9 : Int32) (x10 : Int32) (σ : gS) (M : gM) (N : gN) (hL : g_layM σ), g_H E 0 0 102 [(0, vR 40), (1, vI x1), (2, vI x2), (4, vI x4), (5, vI x5), (6, vI x6), (7, vI x7), (9, vI x9), (10, vI x10)] [] (σ, M, N) (l_X12_takes_102 k38 n x1 x2 x4 x5 x6 x7 x9 x10 σ M) (eIM σ N) := by
  intro n
  induction n with
  | zero => intros; exact h_none
  | succ n ih =>
    intro x1 x2 x4 x5 x6 x7 x9 x10 σ M N hL
    rw [l_X12_takes_102]
    refine r_run J 2 (pc' := 105) (lv' := [(0, vR 40), (1, vI x1), (2, vI x2), (4, vI x4), (5, vI x5), (6, vI x6), (7, vI x7), (9, vI x9), (10, vI x10)]) (st' := [vR 40, vI x10]) rfl ?_
    refine r_getI J cls12 rfl (k := 1) (by decide) wf_12_157 rfl (ly_40 hL) ?_
    show g_H E 0 0 108 [(0, vR 40), (1, vI x1), (2, vI x2), (4, vI x4), (5, vI x5), (6, vI x6), (7, vI x7), (9, vI x9), (10, vI x10)] [vI (M 40 1), vI x10] (σ, M, N) _ _
    refine r_icmp_ge J (tgt := 147) rfl (by decide) (fun c108 => ?_) (fun c108 => ?_)
    · refine r_run J 1 (pc' := 112) (lv' := [(0, vR 40), (1, vI x1), (2, vI x2), (4, vI x4), (5, vI x5), (6, vI x6), (7, vI x7), (9, vI x9), (10, vI x10)]) (st' := [vR 40]) rfl ?_
      refine r_getR J cls12 rfl (k := 38) (t := 14) (by decide) wf_12_102 rfl rfl (ly_40 hL) (lr_40_38 hL) (fun _ => ?_)
      show g_H E 0 0 115 [(0, vR 40), (1, vI x1), (2, vI x2), (4, vI x4), (5, vI x5), (6, vI x6), (7, vI x7), (9, vI x9), (10, vI x10)] [vR 68] (σ, M, N) _ _
      refine r_run J 7 (pc' := 125) (lv' := [(0, vR 40), (1, vI x1), (2, vI x2), (4, vI x4), (5, vI x5), (6, vI x6), (7, vI x7), (9, vI x9), (10, vI x10)]) (st' := [vI 1, vI ((x9 >>> (x10 &&& 31)) &&& (1 : Int32)), vI x10, vR 68]) rfl ?_
      refine r_icmp_ne J (tgt := 133) rfl (by decide) (fun c125 => ?_) (fun c125 => ?_)
      · refine r_run J 2 (pc' := 140) (lv' := [(0, vR 40), (1, vI x1), (2, vI x2), (4, vI x4), (5, vI x5), (6, vI x6), (7, vI x7), (9, vI x9), (10, vI x10)]) (st' := [vI x7, vI x10, vR 68]) rfl ?_
        exact p_X12_takes_140 J H38 ih x1 x2 x4 x5 x6 x7 x9 x10 x7 x10 σ M N hL
      · refine r_run J 1 (pc' := 134) (lv' := [(0, vR 40), (1, vI x1), (2, vI x2), (4, vI x4), (5, vI x5), (6, vI x6), (7, vI x7), (9, vI x9), (10, vI x10)]) (st' := [vR 40, vI x10, vR 68]) rfl ?_
        refine r_getR J cls12 rfl (k := 38) (t := 14) (by decide) wf_12_102 rfl rfl (ly_40 hL) (lr_40_38 hL) (fun _ => ?_)
        show g_H E 0 0 137 [(0, vR 40), (1, vI x1), (2, vI x2), (4, vI x4), (5, vI x5), (6, vI x6), (7, vI x7), (9, vI x9), (10, vI x10)] [vR 68, vI x10, vR 68] (σ, M, N) _ _
        refine r_run J 1 (pc' := 139) (lv' := [(0, vR 40), (1, vI x1), (2, vI x2), (4, vI x4), (5, vI x5), (6, vI x6), (7, vI x7), (9, vI x9), (10, vI x10)]) (st' := [vI x10, vR 68, vI x10, vR 68]) rfl ?_
        refine r_iald J rfl (ly_68 hL) (fun i139 => ?_)
        show g_H E 0 0 140 [(0, vR 40), (1, vI x1), (2, vI x2), (4, vI x4), (5, vI x5), (6, vI x6), (7, vI x7), (9, vI x9), (10, vI x10)] [vI (M 68 x10.toNatClampNeg), vI x10, vR 68] (σ, M, N) _ _
        exact p_X12_takes_140 J H38 ih x1 x2 x4 x5 x6 x7 x9 x10 (M 68 x10.toNatClampNeg) x10 σ M N hL
    · refine r_run J 2 (pc' := 151) (lv' := [(0, vR 40), (1, vI x1), (2, vI x2), (4, vI x4), (5, vI x5), (6, vI x6), (7, vI x7), (9, vI x9), (10, vI x10)]) (st' := [vI x9, vI x5]) rfl ?_
      refine r_if_ne J (tgt := 158) rfl (by decide) (fun c151 => ?_) (fun c151 => ?_)
      · refine r_run J 2 (pc' := 170) (lv' := [(0, vR 40), (1, vI x1), (2, vI x2), (4, vI x4), (5, vI x5), (6, vI x6), (7, vI x7), (9, vI x9), (10, vI x10)]) (st' := [vI 0, vI x5]) rfl ?_
        refine r_sub [0, 1, 2, 3, 5, 6, 7] (lv' := [(0, vR 40), (1, vI x1), (2, vI x2), (4, vI x4), (6, vI x6), (7, vI x7), (9, vI x9)]) rfl ?_
        exact p_X12_takes_170 J H38 x1 x2 x4 x6 x7 x9 0 x5 σ M N hL
      · refine r_run J 1 (pc' := 159) (lv' := [(0, vR 40), (1, vI x1), (2, vI x2), (4, vI x4), (5, vI x5), (6, vI x6), (7, vI x7), (9, vI x9), (10, vI x10)]) (st' := [vR 40, vI x5]) rfl ?_
        refine r_getR J cls12 rfl (k := 23) (t := 14) (by decide) wf_12_60 rfl rfl (ly_40 hL) (lr_40_23 hL) (fun _ => ?_)
        show g_H E 0 0 162 [(0, vR 40), (1, vI x1), (2, vI x2), (4, vI x4), (5, vI x5), (6, vI x6), (7, vI x7), (9, vI x9), (10, vI x10)] [vR 55, vI x5] (σ, M, N) _ _
        refine r_run J 5 (pc' := 169) (lv' := [(0, vR 40), (1, vI x1), (2, vI x2), (4, vI x4), (5, vI x5), (6, vI x6), (7, vI x7), (9, vI x9), (10, vI x10)]) (st' := [vI (((10 : Int32) * x1) + x7), vR 55, vI x5]) rfl ?_
        refine r_iald J rfl (ly_55 hL) (fun i169 => ?_)
        show g_H E 0 0 170 [(0, vR 40), (1, vI x1), (2, vI x2), (4, vI x4), (5, vI x5), (6, vI x6), (7, vI x7), (9, vI x9), (10, vI x10)] [vI (M 55 (((10 : Int32) * x1) + x7).toNatClampNeg), vI x5] (σ, M, N) _ _
        refine r_sub [0, 1, 2, 3, 5, 6, 7] (lv' := [(0, vR 40), (1, vI x1), (2, vI x2), (4, vI x4), (6, vI x6), (7, vI x7), (9, vI x9)]) rfl ?_
        exact p_X12_takes_170 J H38 x1 x2 x4 x6 x7 x9 (M 55 (((10 : Int32) * x1) + x7).toNatClampNeg) x5 σ M N hL
set_option maxHeartbeats 4000000 in
set_option maxRecDepth 100000 in
theorem p_X12_takes_52 {l : Launch} {E : gE} (J : J_X12_takes E l) {k38 : Int32 → Int32 → Int32 → Int32 → Int32 → Int32 → gS → gM → Option (Int32 × gM)} (H38 : ∀ (x1 : Int32) (x2 : Int32) (x4 : Int32) (x5 : Int32) (x6 : Int32) (x7 : Int32) (σ : gS) (M : gM) (N : gN) (_ : g_layM σ), g_H E 0 0 38 [(0, vR 40), (1, vI x1), (2, vI x2), (4, vI x4), (5, vI x5), (6, vI x6), (7, vI x7)] [] (σ, M, N) (k38 x1 x2 x4 x5 x6 x7 σ M) (eIM σ N)) : ∀ (n : Nat) (x1 : Int32) (x2 : Int32) (x4 : Int32) (x5 : Int32) (x6 : Int32) (x7 : Int32) (x8 : Int32) (σ : gS) (M : gM) (N : gN) (hL : g_layM σ), g_H E 0 0 52 [(0, vR 40), (1, vI x1), (2, vI x2), (4, vI x4), (5, vI x5), (6, vI x6), (7, vI x7), (8, vI x8)] [] (σ, M, N) (l_X12_takes_52 k38 n x1 x2 x4 x5 x6 x7 x8 σ M) (eIM σ N) := by
  intro n
  induction n with
  | zero => intros; exact h_none
  | succ n ih =>
    intro x1 x2 x4 x5 x6 x7 x8 σ M N hL
    rw [l_X12_takes_52]
    refine r_run J 5 (pc' := 59) (lv' := [(0, vR 40), (1, vI x1), (2, vI x2), (4, vI x4), (5, vI x5), (6, vI x6), (7, vI x7), (8, vI x8)]) (st' := [vR 40, vI x4, vI x7, vI x1, vR 40]) rfl ?_
    refine r_getR J cls12 rfl (k := 34) (t := 14) (by decide) wf_12_90 rfl rfl (ly_40 hL) (lr_40_34 hL) (fun _ => ?_)
    show g_H E 0 0 62 [(0, vR 40), (1, vI x1), (2, vI x2), (4, vI x4), (5, vI x5), (6, vI x6), (7, vI x7), (8, vI x8)] [vR 65, vI x4, vI x7, vI x1, vR 40] (σ, M, N) _ _
    refine r_run J 5 (pc' := 70) (lv' := [(0, vR 40), (1, vI x1), (2, vI x2), (4, vI x4), (5, vI x5), (6, vI x6), (7, vI x7), (8, vI x8)]) (st' := [vI (((64 : Int32) * x7) + x8), vR 65, vI x4, vI x7, vI x1, vR 40]) rfl ?_
    refine r_iald J rfl (ly_65 hL) (fun i70 => ?_)
    show g_H E 0 0 71 [(0, vR 40), (1, vI x1), (2, vI x2), (4, vI x4), (5, vI x5), (6, vI x6), (7, vI x7), (8, vI x8)] [vI (M 65 (((64 : Int32) * x7) + x8).toNatClampNeg), vI x4, vI x7, vI x1, vR 40] (σ, M, N) _ _
    refine r_run J 1 (pc' := 72) (lv' := [(0, vR 40), (1, vI x1), (2, vI x2), (4, vI x4), (5, vI x5), (6, vI x6), (7, vI x7), (8, vI x8)]) (st' := [vI x2, vI (M 65 (((64 : Int32) * x7) + x8).toNatClampNeg), vI x4, vI x7, vI x1, vR 40]) rfl ?_
    refine r_callV J (As := [vI x1, vI x7, vI x4, vI (M 65 (((64 : Int32) * x7) + x8).toNatClampNeg), vI x2]) (st := []) (fun r hr => c_X12_isLeast x1 x7 x4 (M 65 (((64 : Int32) * x7) + x8).toNatClampNeg) x2 σ M N hL r hr) cls12 (ly_40 hL) wm_12_239 wy_X12_isLeast wd_X12_isLeast ⟨by decide, by decide, by decide, by decide, Nat.le_of_ble_eq_true rfl⟩ rfl rfl (fun q72 hq72 => ?_)
    show g_H E 0 0 75 [(0, vR 40), (1, vI x1), (2, vI x2), (4, vI x4), (5, vI x5), (6, vI x6), (7, vI x7), (8, vI x8)] [vI q72] (σ, M, N) _ _
    refine r_if_ne J (tgt := 84) rfl (by decide) (fun c75 => ?_) (fun c75 => ?_)
    · refine r_run J 2 (pc' := 52) (lv' := [(8, vI (x8 + 1)), (0, vR 40), (1, vI x1), (2, vI x2), (4, vI x4), (5, vI x5), (6, vI x6), (7, vI x7)]) (st' := []) rfl ?_
      refine r_sub [1, 2, 3, 4, 5, 6, 7, 0] (lv' := [(0, vR 40), (1, vI x1), (2, vI x2), (4, vI x4), (5, vI x5), (6, vI x6), (7, vI x7), (8, vI (x8 + 1))]) rfl ?_
      exact ih x1 x2 x4 x5 x6 x7 (x8 + 1) σ M N hL
    · refine r_run J 1 (pc' := 85) (lv' := [(0, vR 40), (1, vI x1), (2, vI x2), (4, vI x4), (5, vI x5), (6, vI x6), (7, vI x7), (8, vI x8)]) (st' := [vR 40]) rfl ?_
      refine r_getR J cls12 rfl (k := 34) (t := 14) (by decide) wf_12_90 rfl rfl (ly_40 hL) (lr_40_34 hL) (fun _ => ?_)
      show g_H E 0 0 88 [(0, vR 40), (1, vI x1), (2, vI x2), (4, vI x4), (5, vI x5), (6, vI x6), (7, vI x7), (8, vI x8)] [vR 65] (σ, M, N) _ _
      refine r_run J 5 (pc' := 96) (lv' := [(0, vR 40), (1, vI x1), (2, vI x2), (4, vI x4), (5, vI x5), (6, vI x6), (7, vI x7), (8, vI x8)]) (st' := [vI (((64 : Int32) * x7) + x8), vR 65]) rfl ?_
      refine r_iald J rfl (ly_65 hL) (fun i96 => ?_)
      show g_H E 0 0 97 [(0, vR 40), (1, vI x1), (2, vI x2), (4, vI x4), (5, vI x5), (6, vI x6), (7, vI x7), (8, vI x8)] [vI (M 65 (((64 : Int32) * x7) + x8).toNatClampNeg)] (σ, M, N) _ _
      refine r_run J 3 (pc' := 102) (lv' := [(10, vI 0), (9, vI (M 65 (((64 : Int32) * x7) + x8).toNatClampNeg)), (0, vR 40), (1, vI x1), (2, vI x2), (4, vI x4), (5, vI x5), (6, vI x6), (7, vI x7), (8, vI x8)]) (st' := []) rfl ?_
      refine r_sub [2, 3, 4, 5, 6, 7, 8, 1, 0] (lv' := [(0, vR 40), (1, vI x1), (2, vI x2), (4, vI x4), (5, vI x5), (6, vI x6), (7, vI x7), (9, vI (M 65 (((64 : Int32) * x7) + x8).toNatClampNeg)), (10, vI 0)]) rfl ?_
      exact p_X12_takes_102 J H38 g_FU x1 x2 x4 x5 x6 x7 (M 65 (((64 : Int32) * x7) + x8).toNatClampNeg) 0 σ M N hL
set_option maxHeartbeats 4000000 in
set_option maxRecDepth 100000 in
theorem p_X12_takes_38 {l : Launch} {E : gE} (J : J_X12_takes E l) : ∀ (n : Nat) (x1 : Int32) (x2 : Int32) (x4 : Int32) (x5 : Int32) (x6 : Int32) (x7 : Int32) (σ : gS) (M : gM) (N : gN) (hL : g_layM σ), g_H E 0 0 38 [(0, vR 40), (1, vI x1), (2, vI x2), (4, vI x4), (5, vI x5), (6, vI x6), (7, vI x7)] [] (σ, M, N) (l_X12_takes_38 n x1 x2 x4 x5 x6 x7 σ M) (eIM σ N) := by
  intro n
  induction n with
  | zero => intros; exact h_none
  | succ n ih =>
    intro x1 x2 x4 x5 x6 x7 σ M N hL
    rw [l_X12_takes_38]
    refine r_run J 2 (pc' := 41) (lv' := [(0, vR 40), (1, vI x1), (2, vI x2), (4, vI x4), (5, vI x5), (6, vI x6), (7, vI x7)]) (st' := [vR 40, vI x7]) rfl ?_
    refine r_getR J cls12 rfl (k := 20) (t := 14) (by decide) wf_12_51 rfl rfl (ly_40 hL) (lr_40_20 hL) (fun _ => ?_)
    show g_H E 0 0 44 [(0, vR 40), (1, vI x1), (2, vI x2), (4, vI x4), (5, vI x5), (6, vI x6), (7, vI x7)] [vR 52, vI x7] (σ, M, N) _ _
    refine r_run J 1 (pc' := 45) (lv' := [(0, vR 40), (1, vI x1), (2, vI x2), (4, vI x4), (5, vI x5), (6, vI x6), (7, vI x7)]) (st' := [vI x1, vR 52, vI x7]) rfl ?_
    refine r_iald J rfl (ly_52 hL) (fun i45 => ?_)
    show g_H E 0 0 46 [(0, vR 40), (1, vI x1), (2, vI x2), (4, vI x4), (5, vI x5), (6, vI x6), (7, vI x7)] [vI (M 52 x1.toNatClampNeg), vI x7] (σ, M, N) _ _
    refine r_icmp_ge J (tgt := 202) rfl (by decide) (fun c46 => ?_) (fun c46 => ?_)
    · refine r_run J 2 (pc' := 52) (lv' := [(8, vI 0), (0, vR 40), (1, vI x1), (2, vI x2), (4, vI x4), (5, vI x5), (6, vI x6), (7, vI x7)]) (st' := []) rfl ?_
      refine r_sub [1, 2, 3, 4, 5, 6, 7, 0] (lv' := [(0, vR 40), (1, vI x1), (2, vI x2), (4, vI x4), (5, vI x5), (6, vI x6), (7, vI x7), (8, vI 0)]) rfl ?_
      exact p_X12_takes_52 J ih g_FU x1 x2 x4 x5 x6 x7 0 σ M N hL
    · refine r_run J 4 (pc' := 208) (lv' := [(8, vI 0), (7, vI 0), (0, vR 40), (1, vI x1), (2, vI x2), (4, vI x4), (5, vI x5), (6, vI x6)]) (st' := []) rfl ?_
      refine r_sub [2, 3, 6, 7, 1, 0] (lv' := [(0, vR 40), (1, vI x1), (5, vI x5), (6, vI x6), (7, vI 0), (8, vI 0)]) rfl ?_
      exact p_X12_takes_208 J g_FU x1 x5 x6 0 0 σ M N hL
set_option maxHeartbeats 4000000 in
set_option maxRecDepth 100000 in
theorem p_X12_takes_12 {l : Launch} {E : gE} (J : J_X12_takes E l) : ∀ (n : Nat) (x1 : Int32) (x2 : Int32) (x4 : Int32) (x5 : Int32) (x6 : Int32) (x7 : Int32) (σ : gS) (M : gM) (N : gN) (hL : g_layM σ), g_H E 0 0 12 [(0, vR 40), (1, vI x1), (2, vI x2), (4, vI x4), (5, vI x5), (6, vI x6), (7, vI x7)] [] (σ, M, N) (l_X12_takes_12 n x1 x2 x4 x5 x6 x7 σ M) (eIM σ N) := by
  intro n
  induction n with
  | zero => intros; exact h_none
  | succ n ih =>
    intro x1 x2 x4 x5 x6 x7 σ M N hL
    rw [l_X12_takes_12]
    refine r_run J 2 (pc' := 15) (lv' := [(0, vR 40), (1, vI x1), (2, vI x2), (4, vI x4), (5, vI x5), (6, vI x6), (7, vI x7)]) (st' := [vR 40, vI x7]) rfl ?_
    refine r_getI J cls12 rfl (k := 1) (by decide) wf_12_157 rfl (ly_40 hL) ?_
    show g_H E 0 0 18 [(0, vR 40), (1, vI x1), (2, vI x2), (4, vI x4), (5, vI x5), (6, vI x6), (7, vI x7)] [vI (M 40 1), vI x7] (σ, M, N) _ _
    refine r_icmp_ge J (tgt := 35) rfl (by decide) (fun c18 => ?_) (fun c18 => ?_)
    · refine r_run J 1 (pc' := 22) (lv' := [(0, vR 40), (1, vI x1), (2, vI x2), (4, vI x4), (5, vI x5), (6, vI x6), (7, vI x7)]) (st' := [vR 40]) rfl ?_
      refine r_getR J cls12 rfl (k := 38) (t := 14) (by decide) wf_12_102 rfl rfl (ly_40 hL) (lr_40_38 hL) (fun _ => ?_)
      show g_H E 0 0 25 [(0, vR 40), (1, vI x1), (2, vI x2), (4, vI x4), (5, vI x5), (6, vI x6), (7, vI x7)] [vR 68] (σ, M, N) _ _
      refine r_run J 2 (pc' := 28) (lv' := [(0, vR 40), (1, vI x1), (2, vI x2), (4, vI x4), (5, vI x5), (6, vI x6), (7, vI x7)]) (st' := [vI (-1), vI x7, vR 68]) rfl ?_
      refine r_iast J rfl (ly_68 hL) (fun i28 => ?_)
      show g_H E 0 0 29 [(0, vR 40), (1, vI x1), (2, vI x2), (4, vI x4), (5, vI x5), (6, vI x6), (7, vI x7)] [] (σ, (g_up M 68 (x7.toNatClampNeg) (-1)), N) _ _
      refine r_run J 2 (pc' := 12) (lv' := [(7, vI (x7 + 1)), (0, vR 40), (1, vI x1), (2, vI x2), (4, vI x4), (5, vI x5), (6, vI x6)]) (st' := []) rfl ?_
      refine r_sub [1, 2, 3, 4, 5, 6, 0] (lv' := [(0, vR 40), (1, vI x1), (2, vI x2), (4, vI x4), (5, vI x5), (6, vI x6), (7, vI (x7 + 1))]) rfl ?_
      exact ih x1 x2 x4 x5 x6 (x7 + 1) σ (g_up M 68 (x7.toNatClampNeg) (-1)) N hL
    · refine r_run J 2 (pc' := 38) (lv' := [(7, vI 0), (0, vR 40), (1, vI x1), (2, vI x2), (4, vI x4), (5, vI x5), (6, vI x6)]) (st' := []) rfl ?_
      refine r_sub [1, 2, 3, 4, 5, 6, 0] (lv' := [(0, vR 40), (1, vI x1), (2, vI x2), (4, vI x4), (5, vI x5), (6, vI x6), (7, vI 0)]) rfl ?_
      exact p_X12_takes_38 J g_FU x1 x2 x4 x5 x6 0 σ M N hL
set_option maxHeartbeats 4000000 in
set_option maxRecDepth 100000 in
theorem p_X12_takes_0 {l : Launch} {E : gE} (J : J_X12_takes E l) (x1 : Int32) (x2 : Int32) (x3 : Int32) (σ : gS) (M : gM) (N : gN) (hL : g_layM σ) : g_H E 0 0 0 [(0, vR 40), (1, vI x1), (2, vI x2), (3, vI x3)] [] (σ, M, N) (b_X12_takes_0 x1 x2 x3 σ M) (eIM σ N) := by
  unfold b_X12_takes_0
  refine r_run J 8 (pc' := 12) (lv' := [(7, vI 0), (6, vI 0), (5, vI 0), (4, vI x3), (0, vR 40), (1, vI x1), (2, vI x2), (3, vI x3)]) (st' := []) rfl ?_
  refine r_sub [4, 5, 6, 3, 2, 1, 0] (lv' := [(0, vR 40), (1, vI x1), (2, vI x2), (4, vI x3), (5, vI 0), (6, vI 0), (7, vI 0)]) rfl ?_
  exact p_X12_takes_12 J g_FU x1 x2 x3 0 0 0 σ M N hL
theorem c_X12_takes {l : Launch} (x1 : Int32) (x2 : Int32) (x3 : Int32) (σ : gS) (M : gM) (N : gN) (hL : g_layM σ) (r : Int32 × gM) (h : f_X12_takes x1 x2 x3 σ M = some r) : g_Ct l yX12_takes cX12_takes 11 (some .int) 4 0 0 [vR 40, vI x1, vI x2, vI x3] (σ, M, N) (eIM σ N r) :=
  g_Ct.of tb_X12_takes (by decide +kernel) tk_X12_takes (Nat.le_of_ble_eq_true rfl) (fun E J => p_X12_takes_0 J x1 x2 x3 σ M N hL r h)
