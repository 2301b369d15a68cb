def tb_X11_stays : gT := [(0, .aload_n 0, 1, 0), (1, .getfield 10, 3, 0), (4, .iload_n 1, 1, 0), (5, .invokevirtual 106, 3, 0), (8, .astore 4, 2, 0), (10, .aload 4, 2, 0), (12, .ifnull 29, 3, 0), (15, .aload 4, 2, 0), (17, .getfield 110, 3, 0), (20, .ifCond .ne 21, 3, 0), (23, .iload_n 2, 1, 0), (24, .iload_n 3, 1, 0), (25, .invokestatic 90, 3, 0), (28, .ifCond .eq 13, 3, 0), (31, .aload_n 0, 1, 0), (32, .iload_n 1, 1, 0), (33, .iload_n 2, 1, 0), (34, .iload_n 3, 1, 0), (35, .invokevirtual 124, 3, 0), (38, .ifCond .ne 5, 3, 0), (41, .iconst 0, 1, 0), (42, .ireturn, 1, 0), (43, .aload 4, 2, 0), (45, .iload_n 2, 1, 0), (46, .putfield 127, 3, 0), (49, .aload 4, 2, 0), (51, .iload_n 3, 1, 0), (52, .putfield 130, 3, 0), (55, .iconst 1, 1, 1), (56, .ireturn, 1, 0)]
set_option maxRecDepth 100000 in
theorem tk_X11_stays : g_okT cX11_stays tb_X11_stays = true := by decide +kernel
abbrev J_X11_stays (E : gE) (l : Launch) : Prop := g_J E cX11_stays RX11 "stays" (some .boolean) 5 tb_X11_stays 4 0 0 l
set_option maxHeartbeats 4000000 in
set_option maxRecDepth 100000 in
theorem p_X11_stays_0 {l : Launch} {E : gE} (J : J_X11_stays E l) (x1 : Int32) (x2 : Int32) (x3 : Int32) (σ : gS) (M : gM) (N : gN) (hL : g_layC σ) : g_H E 0 0 0 [(0, vR 1), (1, vI x1), (2, vI x2), (3, vI x3)] [] (σ, M, N) (b_X11_stays_0 x1 x2 x3 σ M) (eIM σ N) := by
  unfold b_X11_stays_0
  refine r_run J 1 (pc' := 1) (lv' := [(0, vR 1), (1, vI x1), (2, vI x2), (3, vI x3)]) (st' := [vR 1]) rfl ?_
  refine r_getR J cls11 rfl (k := 0) (t := 5) (by decide) wf_11_10 rfl rfl (ly_1 hL) (lr_1_0 hL) (fun _ => ?_)
  show g_H E 0 0 4 [(0, vR 1), (1, vI x1), (2, vI x2), (3, vI x3)] [vR 2] (σ, M, N) _ _
  refine r_run J 1 (pc' := 5) (lv' := [(0, vR 1), (1, vI x1), (2, vI x2), (3, vI x3)]) (st' := [vI x1, vR 2]) rfl ?_
  refine r_callV J (As := [vI x1]) (st := []) (fun r hr => c_X5_at x1 σ M N hL r hr) cls5 (ly_2 hL) wm_11_106 wy_X5_at wd_X5_at ⟨by decide, by decide, by decide, by decide, Nat.le_of_ble_eq_true rfl⟩ rfl rfl (fun q5 hq5 => ?_)
  show g_H E 0 0 8 [(0, vR 1), (1, vI x1), (2, vI x2), (3, vI x3)] [vR q5] (σ, M, N) _ _
  refine r_run J 2 (pc' := 12) (lv' := [(4, vR q5), (0, vR 1), (1, vI x1), (2, vI x2), (3, vI x3)]) (st' := [vR q5]) rfl ?_
  refine r_ifnull J (tgt := 41) rfl (by decide) (fun c12 => ?_) (fun c12 => ?_)
  · refine r_run J 1 (pc' := 42) (lv' := [(4, vR q5), (0, vR 1), (1, vI x1), (2, vI x2), (3, vI x3)]) (st' := [vI 0]) rfl ?_
    exact r_iret J rfl rfl rfl rfl (by decide) (by decide)
  · refine r_run J 1 (pc' := 17) (lv' := [(4, vR q5), (0, vR 1), (1, vI x1), (2, vI x2), (3, vI x3)]) (st' := [vR q5]) rfl ?_
    refine r_chk (fun hs17 => ?_)
    refine r_getI J cls6 rfl (k := 6) (by decide) wf_11_110 rfl (g_is_at hs17) ?_
    show g_H E 0 0 20 [(4, vR q5), (0, vR 1), (1, vI x1), (2, vI x2), (3, vI x3)] [vI (M q5 6)] (σ, M, N) _ _
    refine r_if_ne J (tgt := 41) rfl (by decide) (fun c20 => ?_) (fun c20 => ?_)
    · refine r_run J 2 (pc' := 25) (lv' := [(4, vR q5), (0, vR 1), (1, vI x1), (2, vI x2), (3, vI x3)]) (st' := [vI x3, vI x2]) rfl ?_
      refine r_callS J (As := [vI x2, vI x3]) (st := []) (fun r hr => c_X11_isStay x2 x3 σ M N hL r hr) wm_11_90 wy_X11_isStay wd_X11_isStay ⟨by decide, by decide, by decide, by decide, Nat.le_of_ble_eq_true rfl⟩ rfl rfl (fun q25 hq25 => ?_)
      show g_H E 0 0 28 [(4, vR q5), (0, vR 1), (1, vI x1), (2, vI x2), (3, vI x3)] [vI q25] (σ, M, N) _ _
      refine r_if_eq J (tgt := 41) rfl (by decide) (fun c28 => ?_) (fun c28 => ?_)
      · refine r_run J 1 (pc' := 42) (lv' := [(4, vR q5), (0, vR 1), (1, vI x1), (2, vI x2), (3, vI x3)]) (st' := [vI 0]) rfl ?_
        exact r_iret J rfl rfl rfl rfl (by decide) (by decide)
      · refine r_run J 4 (pc' := 35) (lv' := [(4, vR q5), (0, vR 1), (1, vI x1), (2, vI x2), (3, vI x3)]) (st' := [vI x3, vI x2, vI x1, vR 1]) rfl ?_
        refine r_callV J (As := [vI x1, vI x2, vI x3]) (st := []) (fun r hr => c_X11_leave x1 x2 x3 σ M N hL r hr) cls11 (ly_1 hL) wm_11_124 wy_X11_leave wd_X11_leave ⟨by decide, by decide, by decide, by decide, Nat.le_of_ble_eq_true rfl⟩ rfl rfl (fun q35 hq35 => ?_)
        show g_H E 0 0 38 [(4, vR q5), (0, vR 1), (1, vI x1), (2, vI x2), (3, vI x3)] [vI q35.1] (σ, q35.2, N) _ _
        refine r_if_ne J (tgt := 43) rfl (by decide) (fun c38 => ?_) (fun c38 => ?_)
        · refine r_run J 1 (pc' := 42) (lv' := [(4, vR q5), (0, vR 1), (1, vI x1), (2, vI x2), (3, vI x3)]) (st' := [vI 0]) rfl ?_
          exact r_iret J rfl rfl rfl rfl (by decide) (by decide)
        · refine r_run J 2 (pc' := 46) (lv' := [(4, vR q5), (0, vR 1), (1, vI x1), (2, vI x2), (3, vI x3)]) (st' := [vI x2, vR q5]) rfl ?_
          refine r_putI J cls6 rfl (k := 4) (by decide) wf_11_127 rfl (Or.inl rfl) ⟨rfl, rfl⟩ (g_is_at hs17) ?_
          show g_H E 0 0 49 [(4, vR q5), (0, vR 1), (1, vI x1), (2, vI x2), (3, vI x3)] [] (σ, (g_up q35.2 q5 4 x2), N) _ _
          refine r_run J 2 (pc' := 52) (lv' := [(4, vR q5), (0, vR 1), (1, vI x1), (2, vI x2), (3, vI x3)]) (st' := [vI x3, vR q5]) rfl ?_
          refine r_putI J cls6 rfl (k := 5) (by decide) wf_11_130 rfl (Or.inl rfl) ⟨rfl, rfl⟩ (g_is_at hs17) ?_
          show g_H E 0 0 55 [(4, vR q5), (0, vR 1), (1, vI x1), (2, vI x2), (3, vI x3)] [] (σ, (g_up (g_up q35.2 q5 4 x2) q5 5 x3), N) _ _
          refine r_run J 1 (pc' := 56) (lv' := [(4, vR q5), (0, vR 1), (1, vI x1), (2, vI x2), (3, vI x3)]) (st' := [vI 1]) rfl ?_
          exact r_iret J rfl rfl rfl rfl (by decide) (by decide)
    · refine r_run J 1 (pc' := 42) (lv' := [(4, vR q5), (0, vR 1), (1, vI x1), (2, vI x2), (3, vI x3)]) (st' := [vI 0]) rfl ?_
      exact r_iret J rfl rfl rfl rfl (by decide) (by decide)
theorem c_X11_stays {l : Launch} (x1 : Int32) (x2 : Int32) (x3 : Int32) (σ : gS) (M : gM) (N : gN) (hL : g_layC σ) (r : Int32 × gM) (h : f_X11_stays x1 x2 x3 σ M = some r) : g_Ct l yX11_stays cX11_stays 5 (some .boolean) 4 0 0 [vR 1, vI x1, vI x2, vI x3] (σ, M, N) (eIM σ N r) :=
  g_Ct.of tb_X11_stays (by decide +kernel) tk_X11_stays (Nat.le_of_ble_eq_true rfl) (fun E J => p_X11_stays_0 J x1 x2 x3 σ M N hL r h)
def tb_X11_gone : gT := [(0, .aload_n 0, 1, 0), (1, .getfield 10, 3, 0), (4, .iload_n 1, 1, 0), (5, .invokevirtual 106, 3, 0), (8, .astore_n 2, 1, 0), (9, .aload_n 2, 1, 0), (10, .ifnull 21, 3, 0), (13, .aload_n 2, 1, 0), (14, .getfield 110, 3, 0), (17, .ifCond .ne 14, 3, 0), (20, .aload_n 0, 1, 0), (21, .iload_n 1, 1, 0), (22, .bipush 6, 2, 6), (24, .iconst (-1), 1, (-1)), (25, .invokevirtual 124, 3, 0), (28, .ifCond .ne 5, 3, 0), (31, .iconst 0, 1, 0), (32, .ireturn, 1, 0), (33, .aload_n 0, 1, 0), (34, .getfield 10, 3, 0), (37, .aload_n 2, 1, 0), (38, .getfield 114, 3, 0), (41, .invokevirtual 106, 3, 0), (44, .astore_n 3, 1, 0), (45, .aload_n 3, 1, 0), (46, .ifnull 8, 3, 0), (49, .aload_n 3, 1, 0), (50, .iconst (-1), 1, (-1)), (51, .putfield 114, 3, 0), (54, .aload_n 2, 1, 0), (55, .iconst (-1), 1, (-1)), (56, .putfield 114, 3, 0), (59, .aload_n 2, 1, 0), (60, .iconst 1, 1, 1), (61, .putfield 110, 3, 0), (64, .iconst 1, 1, 1), (65, .ireturn, 1, 0)]
set_option maxRecDepth 100000 in
theorem tk_X11_gone : g_okT cX11_gone tb_X11_gone = true := by decide +kernel
abbrev J_X11_gone (E : gE) (l : Launch) : Prop := g_J E cX11_gone RX11 "gone" (some .boolean) 4 tb_X11_gone 4 0 0 l
set_option maxHeartbeats 4000000 in
set_option maxRecDepth 100000 in
theorem p_X11_gone_54 {l : Launch} {E : gE} (J : J_X11_gone E l) (r2 : Nat) (σ : gS) (M : gM) (N : gN) (hL : g_layC σ) : g_H E 0 0 54 [(2, vR r2)] [] (σ, M, N) (b_X11_gone_54 r2 σ M) (eIM σ N) := by
  unfold b_X11_gone_54
  refine r_run J 2 (pc' := 56) (lv' := [(2, vR r2)]) (st' := [vI (-1), vR r2]) rfl ?_
  refine r_chk (fun hs56 => ?_)
  refine r_putI J cls6 rfl (k := 7) (by decide) wf_11_114 rfl (Or.inl rfl) ⟨rfl, rfl⟩ (g_is_at hs56) ?_
  show g_H E 0 0 59 [(2, vR r2)] [] (σ, (g_up M r2 7 (-1)), N) _ _
  refine r_run J 2 (pc' := 61) (lv' := [(2, vR r2)]) (st' := [vI 1, vR r2]) rfl ?_
  refine r_putI J cls6 rfl (k := 6) (by decide) wf_11_110 rfl (Or.inl rfl) ⟨rfl, rfl⟩ (g_is_at hs56) ?_
  show g_H E 0 0 64 [(2, vR r2)] [] (σ, (g_up (g_up M r2 7 (-1)) r2 6 1), N) _ _
  refine r_run J 1 (pc' := 65) (lv' := [(2, vR r2)]) (st' := [vI 1]) rfl ?_
  exact r_iret J rfl rfl rfl rfl (by decide) (by decide)
set_option maxHeartbeats 4000000 in
set_option maxRecDepth 100000 in
theorem p_X11_gone_0 {l : Launch} {E : gE} (J : J_X11_gone E l) (x1 : Int32) (σ : gS) (M : gM) (N : gN) (hL : g_layC σ) : g_H E 0 0 0 [(0, vR 1), (1, vI x1)] [] (σ, M, N) (b_X11_gone_0 x1 σ M) (eIM σ N) := by
  unfold b_X11_gone_0
  refine r_run J 1 (pc' := 1) (lv' := [(0, vR 1), (1, vI x1)]) (st' := [vR 1]) rfl ?_
  refine r_getR J cls11 rfl (k := 0) (t := 5) (by decide) wf_11_10 rfl rfl (ly_1 hL) (lr_1_0 hL) (fun _ => ?_)
  show g_H E 0 0 4 [(0, vR 1), (1, vI x1)] [vR 2] (σ, M, N) _ _
  refine r_run J 1 (pc' := 5) (lv' := [(0, vR 1), (1, vI x1)]) (st' := [vI x1, vR 2]) rfl ?_
  refine r_callV J (As := [vI x1]) (st := []) (fun r hr => c_X5_at x1 σ M N hL r hr) cls5 (ly_2 hL) wm_11_106 wy_X5_at wd_X5_at ⟨by decide, by decide, by decide, by decide, Nat.le_of_ble_eq_true rfl⟩ rfl rfl (fun q5 hq5 => ?_)
  show g_H E 0 0 8 [(0, vR 1), (1, vI x1)] [vR q5] (σ, M, N) _ _
  refine r_run J 2 (pc' := 10) (lv' := [(2, vR q5), (0, vR 1), (1, vI x1)]) (st' := [vR q5]) rfl ?_
  refine r_ifnull J (tgt := 31) rfl (by decide) (fun c10 => ?_) (fun c10 => ?_)
  · refine r_run J 1 (pc' := 32) (lv' := [(2, vR q5), (0, vR 1), (1, vI x1)]) (st' := [vI 0]) rfl ?_
    exact r_iret J rfl rfl rfl rfl (by decide) (by decide)
  · refine r_run J 1 (pc' := 14) (lv' := [(2, vR q5), (0, vR 1), (1, vI x1)]) (st' := [vR q5]) rfl ?_
    refine r_chk (fun hs14 => ?_)
    refine r_getI J cls6 rfl (k := 6) (by decide) wf_11_110 rfl (g_is_at hs14) ?_
    show g_H E 0 0 17 [(2, vR q5), (0, vR 1), (1, vI x1)] [vI (M q5 6)] (σ, M, N) _ _
    refine r_if_ne J (tgt := 31) rfl (by decide) (fun c17 => ?_) (fun c17 => ?_)
    · refine r_run J 4 (pc' := 25) (lv' := [(2, vR q5), (0, vR 1), (1, vI x1)]) (st' := [vI (-1), vI 6, vI x1, vR 1]) rfl ?_
      refine r_callV J (As := [vI x1, vI 6, vI (-1)]) (st := []) (fun r hr => c_X11_leave x1 6 (-1) σ M N hL r hr) cls11 (ly_1 hL) wm_11_124 wy_X11_leave wd_X11_leave ⟨by decide, by decide, by decide, by decide, Nat.le_of_ble_eq_true rfl⟩ rfl rfl (fun q25 hq25 => ?_)
      show g_H E 0 0 28 [(2, vR q5), (0, vR 1), (1, vI x1)] [vI q25.1] (σ, q25.2, N) _ _
      refine r_if_ne J (tgt := 33) rfl (by decide) (fun c28 => ?_) (fun c28 => ?_)
      · refine r_run J 1 (pc' := 32) (lv' := [(2, vR q5), (0, vR 1), (1, vI x1)]) (st' := [vI 0]) rfl ?_
        exact r_iret J rfl rfl rfl rfl (by decide) (by decide)
      · refine r_run J 1 (pc' := 34) (lv' := [(2, vR q5), (0, vR 1), (1, vI x1)]) (st' := [vR 1]) rfl ?_
        refine r_getR J cls11 rfl (k := 0) (t := 5) (by decide) wf_11_10 rfl rfl (ly_1 hL) (lr_1_0 hL) (fun _ => ?_)
        show g_H E 0 0 37 [(2, vR q5), (0, vR 1), (1, vI x1)] [vR 2] (σ, q25.2, N) _ _
        refine r_run J 1 (pc' := 38) (lv' := [(2, vR q5), (0, vR 1), (1, vI x1)]) (st' := [vR q5, vR 2]) rfl ?_
        refine r_getI J cls6 rfl (k := 7) (by decide) wf_11_114 rfl (g_is_at hs14) ?_
        show g_H E 0 0 41 [(2, vR q5), (0, vR 1), (1, vI x1)] [vI (q25.2 q5 7), vR 2] (σ, q25.2, N) _ _
        refine r_callV J (As := [vI (q25.2 q5 7)]) (st := []) (fun r hr => c_X5_at (q25.2 q5 7) σ q25.2 N hL r hr) cls5 (ly_2 hL) wm_11_106 wy_X5_at wd_X5_at ⟨by decide, by decide, by decide, by decide, Nat.le_of_ble_eq_true rfl⟩ rfl rfl (fun q41 hq41 => ?_)
        show g_H E 0 0 44 [(2, vR q5), (0, vR 1), (1, vI x1)] [vR q41] (σ, q25.2, N) _ _
        refine r_run J 2 (pc' := 46) (lv' := [(3, vR q41), (2, vR q5), (0, vR 1), (1, vI x1)]) (st' := [vR q41]) rfl ?_
        refine r_ifnull J (tgt := 54) rfl (by decide) (fun c46 => ?_) (fun c46 => ?_)
        · refine r_sub [1] (lv' := [(2, vR q5)]) rfl ?_
          exact p_X11_gone_54 J q5 σ q25.2 N hL
        · refine r_run J 2 (pc' := 51) (lv' := [(3, vR q41), (2, vR q5), (0, vR 1), (1, vI x1)]) (st' := [vI (-1), vR q41]) rfl ?_
          refine r_chk (fun hs51 => ?_)
          refine r_putI J cls6 rfl (k := 7) (by decide) wf_11_114 rfl (Or.inl rfl) ⟨rfl, rfl⟩ (g_is_at hs51) ?_
          show g_H E 0 0 54 [(3, vR q41), (2, vR q5), (0, vR 1), (1, vI x1)] [] (σ, (g_up q25.2 q41 7 (-1)), N) _ _
          refine r_sub [1] (lv' := [(2, vR q5)]) rfl ?_
          exact p_X11_gone_54 J q5 σ (g_up q25.2 q41 7 (-1)) N hL
    · refine r_run J 1 (pc' := 32) (lv' := [(2, vR q5), (0, vR 1), (1, vI x1)]) (st' := [vI 0]) rfl ?_
      exact r_iret J rfl rfl rfl rfl (by decide) (by decide)
theorem c_X11_gone {l : Launch} (x1 : Int32) (σ : gS) (M : gM) (N : gN) (hL : g_layC σ) (r : Int32 × gM) (h : f_X11_gone x1 σ M = some r) : g_Ct l yX11_gone cX11_gone 4 (some .boolean) 4 0 0 [vR 1, vI x1] (σ, M, N) (eIM σ N r) :=
  g_Ct.of tb_X11_gone (by decide +kernel) tk_X11_gone (Nat.le_of_ble_eq_true rfl) (fun E J => p_X11_gone_0 J x1 σ M N hL r h)
def tb_X11_absent : gT := [(0, .aload_n 0, 1, 0), (1, .getfield 10, 3, 0), (4, .iload_n 1, 1, 0), (5, .invokevirtual 106, 3, 0), (8, .astore 4, 2, 0), (10, .aload 4, 2, 0), (12, .ifnull 23, 3, 0), (15, .iload_n 2, 1, 0), (16, .aload_n 0, 1, 0), (17, .getfield 60, 3, 0), (20, .getfield 133, 3, 0), (23, .aload_n 0, 1, 0), (24, .getfield 68, 3, 0), (27, .iconst 1, 1, 1), (28, .isub, 1, 0), (29, .invokestatic 86, 3, 0), (32, .ifCond .ne 5, 3, 0), (35, .iconst 0, 1, 0), (36, .ireturn, 1, 0), (37, .iconst 1, 1, 1), (38, .iload_n 2, 1, 0), (39, .ishl, 1, 0), (40, .istore 5, 2, 0), (42, .aload 4, 2, 0), (44, .iload_n 3, 1, 0), (45, .ifCond .eq 14, 3, 0), (48, .aload 4, 2, 0), (50, .getfield 136, 3, 0), (53, .iload 5, 2, 0), (55, .ior, 1, 0), (56, .goto 13, 3, 0), (59, .aload 4, 2, 0), (61, .getfield 136, 3, 0), (64, .iload 5, 2, 0), (66, .iconst (-1), 1, (-1)), (67, .ixor, 1, 0), (68, .iand, 1, 0), (69, .putfield 136, 3, 0), (72, .iconst 1, 1, 1), (73, .ireturn, 1, 0)]
set_option maxRecDepth 100000 in
theorem tk_X11_absent : g_okT cX11_absent tb_X11_absent = true := by decide +kernel
abbrev J_X11_absent (E : gE) (l : Launch) : Prop := g_J E cX11_absent RX11 "absent" (some .boolean) 6 tb_X11_absent 2 0 0 l
set_option maxHeartbeats 4000000 in
set_option maxRecDepth 100000 in
theorem p_X11_absent_69 {l : Launch} {E : gE} (J : J_X11_absent E l) (sx0 : Int32) (sr1 : Nat) (σ : gS) (M : gM) (N : gN) (hL : g_layC σ) : g_H E 0 0 69 [] [vI sx0, vR sr1] (σ, M, N) (b_X11_absent_69 sx0 sr1 σ M) (eIM σ N) := by
  unfold b_X11_absent_69
  refine r_chk (fun hs69 => ?_)
  refine r_putI J cls6 rfl (k := 9) (by decide) wf_11_136 rfl (Or.inl rfl) ⟨rfl, rfl⟩ (g_is_at hs69) ?_
  show g_H E 0 0 72 [] [] (σ, (g_up M sr1 9 sx0), N) _ _
  refine r_run J 1 (pc' := 73) (lv' := []) (st' := [vI 1]) rfl ?_
  exact r_iret J rfl rfl rfl rfl (by decide) (by decide)
set_option maxHeartbeats 4000000 in
set_option maxRecDepth 100000 in
theorem p_X11_absent_0 {l : Launch} {E : gE} (J : J_X11_absent E l) (x1 : Int32) (x2 : Int32) (x3 : Int32) (σ : gS) (M : gM) (N : gN) (hL : g_layC σ) : g_H E 0 0 0 [(0, vR 1), (1, vI x1), (2, vI x2), (3, vI x3)] [] (σ, M, N) (b_X11_absent_0 x1 x2 x3 σ M) (eIM σ N) := by
  unfold b_X11_absent_0
  refine r_run J 1 (pc' := 1) (lv' := [(0, vR 1), (1, vI x1), (2, vI x2), (3, vI x3)]) (st' := [vR 1]) rfl ?_
  refine r_getR J cls11 rfl (k := 0) (t := 5) (by decide) wf_11_10 rfl rfl (ly_1 hL) (lr_1_0 hL) (fun _ => ?_)
  show g_H E 0 0 4 [(0, vR 1), (1, vI x1), (2, vI x2), (3, vI x3)] [vR 2] (σ, M, N) _ _
  refine r_run J 1 (pc' := 5) (lv' := [(0, vR 1), (1, vI x1), (2, vI x2), (3, vI x3)]) (st' := [vI x1, vR 2]) rfl ?_
  refine r_callV J (As := [vI x1]) (st := []) (fun r hr => c_X5_at x1 σ M N hL r hr) cls5 (ly_2 hL) wm_11_106 wy_X5_at wd_X5_at ⟨by decide, by decide, by decide, by decide, Nat.le_of_ble_eq_true rfl⟩ rfl rfl (fun q5 hq5 => ?_)
  show g_H E 0 0 8 [(0, vR 1), (1, vI x1), (2, vI x2), (3, vI x3)] [vR q5] (σ, M, N) _ _
  refine r_run J 2 (pc' := 12) (lv' := [(4, vR q5), (0, vR 1), (1, vI x1), (2, vI x2), (3, vI x3)]) (st' := [vR q5]) rfl ?_
  refine r_ifnull J (tgt := 35) rfl (by decide) (fun c12 => ?_) (fun c12 => ?_)
  · refine r_run J 1 (pc' := 36) (lv' := [(4, vR q5), (0, vR 1), (1, vI x1), (2, vI x2), (3, vI x3)]) (st' := [vI 0]) rfl ?_
    exact r_iret J rfl rfl rfl rfl (by decide) (by decide)
  · refine r_run J 2 (pc' := 17) (lv' := [(4, vR q5), (0, vR 1), (1, vI x1), (2, vI x2), (3, vI x3)]) (st' := [vR 1, vI x2]) rfl ?_
    refine r_getR J cls11 rfl (k := 7) (t := 0) (by decide) wf_11_60 rfl rfl (ly_1 hL) (lr_1_7 hL) (fun _ => ?_)
    show g_H E 0 0 20 [(4, vR q5), (0, vR 1), (1, vI x1), (2, vI x2), (3, vI x3)] [vR 33, vI x2] (σ, M, N) _ _
    refine r_getI J cls0 rfl (k := 0) (by decide) wf_11_133 rfl (ly_33 hL) ?_
    show g_H E 0 0 23 [(4, vR q5), (0, vR 1), (1, vI x1), (2, vI x2), (3, vI x3)] [vI (M 33 0), vI x2] (σ, M, N) _ _
    refine r_run J 1 (pc' := 24) (lv' := [(4, vR q5), (0, vR 1), (1, vI x1), (2, vI x2), (3, vI x3)]) (st' := [vR 1, vI (M 33 0), vI x2]) rfl ?_
    refine r_getI J cls11 rfl (k := 9) (by decide) wf_11_68 rfl (ly_1 hL) ?_
    show g_H E 0 0 27 [(4, vR q5), (0, vR 1), (1, vI x1), (2, vI x2), (3, vI x3)] [vI (M 1 9), vI (M 33 0), vI x2] (σ, M, N) _ _
    refine r_run J 2 (pc' := 29) (lv' := [(4, vR q5), (0, vR 1), (1, vI x1), (2, vI x2), (3, vI x3)]) (st' := [vI ((M 1 9) - (1 : Int32)), vI (M 33 0), vI x2]) rfl ?_
    refine r_callS J (As := [vI x2, vI (M 33 0), vI ((M 1 9) - (1 : Int32))]) (st := []) (fun r hr => c_X11_isWithin x2 (M 33 0) ((M 1 9) - (1 : Int32)) σ M N hL r hr) wm_11_86 wy_X11_isWithin wd_X11_isWithin ⟨by decide, by decide, by decide, by decide, Nat.le_of_ble_eq_true rfl⟩ rfl rfl (fun q29 hq29 => ?_)
    show g_H E 0 0 32 [(4, vR q5), (0, vR 1), (1, vI x1), (2, vI x2), (3, vI x3)] [vI q29] (σ, M, N) _ _
    refine r_if_ne J (tgt := 37) rfl (by decide) (fun c32 => ?_) (fun c32 => ?_)
    · refine r_run J 1 (pc' := 36) (lv' := [(4, vR q5), (0, vR 1), (1, vI x1), (2, vI x2), (3, vI x3)]) (st' := [vI 0]) rfl ?_
      exact r_iret J rfl rfl rfl rfl (by decide) (by decide)
    · refine r_run J 6 (pc' := 45) (lv' := [(5, vI ((1 : Int32) <<< (x2 &&& 31))), (4, vR q5), (0, vR 1), (1, vI x1), (2, vI x2), (3, vI x3)]) (st' := [vI x3, vR q5]) rfl ?_
      refine r_if_eq J (tgt := 59) rfl (by decide) (fun c45 => ?_) (fun c45 => ?_)
      · refine r_run J 1 (pc' := 61) (lv' := [(5, vI ((1 : Int32) <<< (x2 &&& 31))), (4, vR q5), (0, vR 1), (1, vI x1), (2, vI x2), (3, vI x3)]) (st' := [vR q5, vR q5]) rfl ?_
        refine r_chk (fun hs61 => ?_)
        refine r_getI J cls6 rfl (k := 9) (by decide) wf_11_136 rfl (g_is_at hs61) ?_
        show g_H E 0 0 64 [(5, vI ((1 : Int32) <<< (x2 &&& 31))), (4, vR q5), (0, vR 1), (1, vI x1), (2, vI x2), (3, vI x3)] [vI (M q5 9), vR q5] (σ, M, N) _ _
        refine r_run J 4 (pc' := 69) (lv' := [(5, vI ((1 : Int32) <<< (x2 &&& 31))), (4, vR q5), (0, vR 1), (1, vI x1), (2, vI x2), (3, vI x3)]) (st' := [vI ((M q5 9) &&& (((1 : Int32) <<< (x2 &&& 31)) ^^^ (-1 : Int32))), vR q5]) rfl ?_
        refine r_sub [] (lv' := []) rfl ?_
        exact p_X11_absent_69 J ((M q5 9) &&& (((1 : Int32) <<< (x2 &&& 31)) ^^^ (-1 : Int32))) q5 σ M N hL
      · refine r_run J 1 (pc' := 50) (lv' := [(5, vI ((1 : Int32) <<< (x2 &&& 31))), (4, vR q5), (0, vR 1), (1, vI x1), (2, vI x2), (3, vI x3)]) (st' := [vR q5, vR q5]) rfl ?_
        refine r_chk (fun hs50 => ?_)
        refine r_getI J cls6 rfl (k := 9) (by decide) wf_11_136 rfl (g_is_at hs50) ?_
        show g_H E 0 0 53 [(5, vI ((1 : Int32) <<< (x2 &&& 31))), (4, vR q5), (0, vR 1), (1, vI x1), (2, vI x2), (3, vI x3)] [vI (M q5 9), vR q5] (σ, M, N) _ _
        refine r_run J 3 (pc' := 69) (lv' := [(5, vI ((1 : Int32) <<< (x2 &&& 31))), (4, vR q5), (0, vR 1), (1, vI x1), (2, vI x2), (3, vI x3)]) (st' := [vI ((M q5 9) ||| ((1 : Int32) <<< (x2 &&& 31))), vR q5]) rfl ?_
        refine r_sub [] (lv' := []) rfl ?_
        exact p_X11_absent_69 J ((M q5 9) ||| ((1 : Int32) <<< (x2 &&& 31))) q5 σ M N hL
theorem c_X11_absent {l : Launch} (x1 : Int32) (x2 : Int32) (x3 : Int32) (σ : gS) (M : gM) (N : gN) (hL : g_layC σ) (r : Int32 × gM) (h : f_X11_absent x1 x2 x3 σ M = some r) : g_Ct l yX11_absent cX11_absent 6 (some .boolean) 2 0 0 [vR 1, vI x1, vI x2, vI x3] (σ, M, N) (eIM σ N r) :=
  g_Ct.of tb_X11_absent (by decide +kernel) tk_X11_absent (Nat.le_of_ble_eq_true rfl) (fun E J => p_X11_absent_0 J x1 x2 x3 σ M N hL r h)
def tb_X11_town : gT := [(0, .iload_n 1, 1, 0), (1, .iconst 1, 1, 1), (2, .iconst 5, 1, 5), (3, .invokestatic 86, 3, 0), (6, .ifCond .eq 22, 3, 0), (9, .aload_n 0, 1, 0), (10, .getfield 64, 3, 0), (13, .bipush 6, 2, 6), (15, .if_icmp .ge 13, 3, 0), (18, .aload_n 0, 1, 0), (19, .getfield 60, 3, 0), (22, .getfield 133, 3, 0), (25, .ifCond .le 5, 3, 0), (28, .iconst (-1), 1, (-1)), (29, .ireturn, 1, 0), (30, .aload_n 0, 1, 0), (31, .getfield 18, 3, 0), (34, .aload_n 0, 1, 0), (35, .getfield 64, 3, 0), (38, .new 16, 3, 0), (41, .dup, 1, 0), (42, .aload_n 0, 1, 0), (43, .getfield 64, 3, 0), (46, .iload_n 1, 1, 0), (47, .aload_n 0, 1, 0), (48, .getfield 68, 3, 0), (51, .invokespecial 139, 3, 0), (54, .aastore, 1, 0), (55, .aload_n 0, 1, 0), (56, .dup, 1, 0), (57, .getfield 68, 3, 0), (60, .iload_n 1, 1, 0), (61, .iadd, 1, 0), (62, .putfield 68, 3, 0), (65, .aload_n 0, 1, 0), (66, .dup, 1, 0), (67, .getfield 64, 3, 0), (70, .iconst 1, 1, 1), (71, .iadd, 1, 0), (72, .putfield 64, 3, 0), (75, .aload_n 0, 1, 0), (76, .getfield 64, 3, 0), (79, .iconst 1, 1, 1), (80, .isub, 1, 0), (81, .ireturn, 1, 0)]
set_option maxRecDepth 100000 in
theorem tk_X11_town : g_okT cX11_town tb_X11_town = true := by decide +kernel
abbrev J_X11_town (E : gE) (l : Launch) : Prop := g_J E cX11_town RX11 "town" (some .int) 2 tb_X11_town 3 9 106 l
set_option maxHeartbeats 4000000 in
set_option maxRecDepth 100000 in
theorem p_X11_town_75 {l : Launch} {E : gE} (J : J_X11_town E l) (σ : gS) (M : gM) (N : gN) (hL : g_layC σ) : g_H E 9 106 75 [(0, vR 1)] [] (σ, M, N) (b_X11_town_75 σ M N) (eISMN) := by
  unfold b_X11_town_75
  refine r_run J 1 (pc' := 76) (lv' := [(0, vR 1)]) (st' := [vR 1]) rfl ?_
  refine r_getI J cls11 rfl (k := 8) (by decide) wf_11_64 rfl (ly_1 hL) ?_
  show g_H E 9 106 79 [(0, vR 1)] [vI (M 1 8)] (σ, M, N) _ _
  refine r_run J 2 (pc' := 81) (lv' := [(0, vR 1)]) (st' := [vI ((M 1 8) - (1 : Int32))]) rfl ?_
  exact r_iret J rfl rfl rfl rfl (by decide) (by decide)
set_option maxHeartbeats 4000000 in
set_option maxRecDepth 100000 in
theorem p_X11_town_0 {l : Launch} {E : gE} (J : J_X11_town E l) (x1 : Int32) (σ : gS) (M : gM) (N : gN) (hL : g_layC σ) : g_H E 0 0 0 [(0, vR 1), (1, vI x1)] [] (σ, M, N) (b_X11_town_0 x1 σ M N) (eISMN) := by
  unfold b_X11_town_0
  refine r_run J 3 (pc' := 3) (lv' := [(0, vR 1), (1, vI x1)]) (st' := [vI 5, vI 1, vI x1]) rfl ?_
  refine r_callS J (As := [vI x1, vI 1, vI 5]) (st := []) (fun r hr => c_X11_isWithin x1 1 5 σ M N hL r hr) wm_11_86 wy_X11_isWithin wd_X11_isWithin ⟨by decide, by decide, by decide, by decide, Nat.le_of_ble_eq_true rfl⟩ rfl rfl (fun q3 hq3 => ?_)
  show g_H E 0 0 6 [(0, vR 1), (1, vI x1)] [vI q3] (σ, M, N) _ _
  refine r_if_eq J (tgt := 28) rfl (by decide) (fun c6 => ?_) (fun c6 => ?_)
  · refine r_run J 1 (pc' := 29) (lv' := [(0, vR 1), (1, vI x1)]) (st' := [vI (-1)]) rfl ?_
    exact r_iret J rfl rfl rfl rfl (by decide) (by decide)
  · refine r_run J 1 (pc' := 10) (lv' := [(0, vR 1), (1, vI x1)]) (st' := [vR 1]) rfl ?_
    refine r_getI J cls11 rfl (k := 8) (by decide) wf_11_64 rfl (ly_1 hL) ?_
    show g_H E 0 0 13 [(0, vR 1), (1, vI x1)] [vI (M 1 8)] (σ, M, N) _ _
    refine r_run J 1 (pc' := 15) (lv' := [(0, vR 1), (1, vI x1)]) (st' := [vI 6, vI (M 1 8)]) rfl ?_
    refine r_icmp_ge J (tgt := 28) rfl (by decide) (fun c15 => ?_) (fun c15 => ?_)
    · refine r_run J 1 (pc' := 19) (lv' := [(0, vR 1), (1, vI x1)]) (st' := [vR 1]) rfl ?_
      refine r_getR J cls11 rfl (k := 7) (t := 0) (by decide) wf_11_60 rfl rfl (ly_1 hL) (lr_1_7 hL) (fun _ => ?_)
      show g_H E 0 0 22 [(0, vR 1), (1, vI x1)] [vR 33] (σ, M, N) _ _
      refine r_getI J cls0 rfl (k := 0) (by decide) wf_11_133 rfl (ly_33 hL) ?_
      show g_H E 0 0 25 [(0, vR 1), (1, vI x1)] [vI (M 33 0)] (σ, M, N) _ _
      refine r_if_le J (tgt := 30) rfl (by decide) (fun c25 => ?_) (fun c25 => ?_)
      · refine r_run J 1 (pc' := 29) (lv' := [(0, vR 1), (1, vI x1)]) (st' := [vI (-1)]) rfl ?_
        exact r_iret J rfl rfl rfl rfl (by decide) (by decide)
      · refine r_run J 1 (pc' := 31) (lv' := [(0, vR 1), (1, vI x1)]) (st' := [vR 1]) rfl ?_
        refine r_getR J cls11 rfl (k := 1) (t := 19) (by decide) wf_11_18 rfl rfl (ly_1 hL) (lr_1_1 hL) (fun _ => ?_)
        show g_H E 0 0 34 [(0, vR 1), (1, vI x1)] [vR 4] (σ, M, N) _ _
        refine r_run J 1 (pc' := 35) (lv' := [(0, vR 1), (1, vI x1)]) (st' := [vR 1, vR 4]) rfl ?_
        refine r_getI J cls11 rfl (k := 8) (by decide) wf_11_64 rfl (ly_1 hL) ?_
        show g_H E 0 0 38 [(0, vR 1), (1, vI x1)] [vI (M 1 8), vR 4] (σ, M, N) _ _
        refine r_chk (fun hf38 => ?_)
        refine r_new J cls10 rfl ⟨wk_11_16, wi_10⟩ df_10 (g_fr_0 hf38) (g_fr_n hf38) (by decide) (by decide) ?_
        show g_H E 1 7 41 [(0, vR 1), (1, vI x1)] [vR (110 + (M 1 8).toNatClampNeg), vI (M 1 8), vR 4] ((g_nS σ (110 + (M 1 8).toNatClampNeg) 10 0), (g_z M (110 + (M 1 8).toNatClampNeg) 0), (g_z N (110 + (M 1 8).toNatClampNeg) 0)) _ _
        refine r_chk (fun hl41 => ?_)
        refine r_run J 2 (pc' := 43) (lv' := [(0, vR 1), (1, vI x1)]) (st' := [vR 1, vR (110 + (M 1 8).toNatClampNeg), vR (110 + (M 1 8).toNatClampNeg), vI (M 1 8), vR 4]) rfl ?_
        refine r_getI J cls11 rfl (k := 8) (by decide) wf_11_64 rfl (ly_1 (g_layC.of hl41)) ?_
        show g_H E 1 7 46 [(0, vR 1), (1, vI x1)] [vI ((g_z M (110 + (M 1 8).toNatClampNeg) 0) 1 8), vR (110 + (M 1 8).toNatClampNeg), vR (110 + (M 1 8).toNatClampNeg), vI (M 1 8), vR 4] ((g_nS σ (110 + (M 1 8).toNatClampNeg) 10 0), (g_z M (110 + (M 1 8).toNatClampNeg) 0), (g_z N (110 + (M 1 8).toNatClampNeg) 0)) _ _
        refine r_run J 2 (pc' := 48) (lv' := [(0, vR 1), (1, vI x1)]) (st' := [vR 1, vI x1, vI ((g_z M (110 + (M 1 8).toNatClampNeg) 0) 1 8), vR (110 + (M 1 8).toNatClampNeg), vR (110 + (M 1 8).toNatClampNeg), vI (M 1 8), vR 4]) rfl ?_
        refine r_getI J cls11 rfl (k := 9) (by decide) wf_11_68 rfl (ly_1 (g_layC.of hl41)) ?_
        show g_H E 1 7 51 [(0, vR 1), (1, vI x1)] [vI ((g_z M (110 + (M 1 8).toNatClampNeg) 0) 1 9), vI x1, vI ((g_z M (110 + (M 1 8).toNatClampNeg) 0) 1 8), vR (110 + (M 1 8).toNatClampNeg), vR (110 + (M 1 8).toNatClampNeg), vI (M 1 8), vR 4] ((g_nS σ (110 + (M 1 8).toNatClampNeg) 10 0), (g_z M (110 + (M 1 8).toNatClampNeg) 0), (g_z N (110 + (M 1 8).toNatClampNeg) 0)) _ _
        refine r_callI J (As := [vI ((g_z M (110 + (M 1 8).toNatClampNeg) 0) 1 8), vI x1, vI ((g_z M (110 + (M 1 8).toNatClampNeg) 0) 1 9)]) (st := [vR (110 + (M 1 8).toNatClampNeg), vI (M 1 8), vR 4]) (fun r hr => c_X10_init (110 + (M 1 8).toNatClampNeg) ((g_z M (110 + (M 1 8).toNatClampNeg) 0) 1 8) x1 ((g_z M (110 + (M 1 8).toNatClampNeg) 0) 1 9) (g_nS σ (110 + (M 1 8).toNatClampNeg) 10 0) (g_z M (110 + (M 1 8).toNatClampNeg) 0) (g_z N (110 + (M 1 8).toNatClampNeg) 0) r hr) (by rw [(g_nS_at σ (110 + (M 1 8).toNatClampNeg) 10 0)]; exact Option.some_ne_none _) wm_11_139 wy_X10_init rfl wd_X10_init ⟨by decide, by decide, by decide, by decide, Nat.le_of_ble_eq_true rfl⟩ rfl rfl (fun q51 hq51 => ?_)
        show g_H E 9 106 54 [(0, vR 1), (1, vI x1)] [vR (110 + (M 1 8).toNatClampNeg), vI (M 1 8), vR 4] (q51.1, q51.2.1, q51.2.2) _ _
        refine r_chk (fun hl54 => ?_)
        refine r_chk (fun hs54 => ?_)
        refine r_aast J rfl (Or.inr (Or.inr ⟨rfl, rfl⟩)) (ly_4 (g_layC.of hl54)) (g_is_at hs54) cls10 (fun i54 => ?_)
        show g_H E 9 106 55 [(0, vR 1), (1, vI x1)] [] ((g_pS q51.1 4 ((M 1 8).toNatClampNeg) (110 + (M 1 8).toNatClampNeg)), q51.2.1, q51.2.2) _ _
        refine r_chk (fun hl55 => ?_)
        refine r_run J 2 (pc' := 57) (lv' := [(0, vR 1), (1, vI x1)]) (st' := [vR 1, vR 1]) rfl ?_
        refine r_getI J cls11 rfl (k := 9) (by decide) wf_11_68 rfl (ly_1 (g_layC.of hl55)) ?_
        show g_H E 9 106 60 [(0, vR 1), (1, vI x1)] [vI (q51.2.1 1 9), vR 1] ((g_pS q51.1 4 ((M 1 8).toNatClampNeg) (110 + (M 1 8).toNatClampNeg)), q51.2.1, q51.2.2) _ _
        refine r_run J 2 (pc' := 62) (lv' := [(0, vR 1), (1, vI x1)]) (st' := [vI ((q51.2.1 1 9) + x1), vR 1]) rfl ?_
        refine r_putI J cls11 rfl (k := 9) (by decide) wf_11_68 rfl (Or.inl rfl) ⟨rfl, rfl⟩ (ly_1 (g_layC.of hl55)) ?_
        show g_H E 9 106 65 [(0, vR 1), (1, vI x1)] [] ((g_pS q51.1 4 ((M 1 8).toNatClampNeg) (110 + (M 1 8).toNatClampNeg)), (g_up q51.2.1 1 9 ((q51.2.1 1 9) + x1)), q51.2.2) _ _
        refine r_run J 2 (pc' := 67) (lv' := [(0, vR 1), (1, vI x1)]) (st' := [vR 1, vR 1]) rfl ?_
        refine r_getI J cls11 rfl (k := 8) (by decide) wf_11_64 rfl (ly_1 (g_layC.of hl55)) ?_
        show g_H E 9 106 70 [(0, vR 1), (1, vI x1)] [vI ((g_up q51.2.1 1 9 ((q51.2.1 1 9) + x1)) 1 8), vR 1] ((g_pS q51.1 4 ((M 1 8).toNatClampNeg) (110 + (M 1 8).toNatClampNeg)), (g_up q51.2.1 1 9 ((q51.2.1 1 9) + x1)), q51.2.2) _ _
        refine r_run J 2 (pc' := 72) (lv' := [(0, vR 1), (1, vI x1)]) (st' := [vI (((g_up q51.2.1 1 9 ((q51.2.1 1 9) + x1)) 1 8) + (1 : Int32)), vR 1]) rfl ?_
        refine r_putI J cls11 rfl (k := 8) (by decide) wf_11_64 rfl (Or.inl rfl) ⟨rfl, rfl⟩ (ly_1 (g_layC.of hl55)) ?_
        show g_H E 9 106 75 [(0, vR 1), (1, vI x1)] [] ((g_pS q51.1 4 ((M 1 8).toNatClampNeg) (110 + (M 1 8).toNatClampNeg)), (g_up (g_up q51.2.1 1 9 ((q51.2.1 1 9) + x1)) 1 8 (((g_up q51.2.1 1 9 ((q51.2.1 1 9) + x1)) 1 8) + (1 : Int32))), q51.2.2) _ _
        refine r_sub [0] (lv' := [(0, vR 1)]) rfl ?_
        exact p_X11_town_75 J (g_pS q51.1 4 ((M 1 8).toNatClampNeg) (110 + (M 1 8).toNatClampNeg)) (g_up (g_up q51.2.1 1 9 ((q51.2.1 1 9) + x1)) 1 8 (((g_up q51.2.1 1 9 ((q51.2.1 1 9) + x1)) 1 8) + (1 : Int32))) q51.2.2 (g_layC.of hl55)
    · refine r_run J 1 (pc' := 29) (lv' := [(0, vR 1), (1, vI x1)]) (st' := [vI (-1)]) rfl ?_
      exact r_iret J rfl rfl rfl rfl (by decide) (by decide)
theorem c_X11_town {l : Launch} (x1 : Int32) (σ : gS) (M : gM) (N : gN) (hL : g_layC σ) (r : Int32 × gS × gM × gN) (h : f_X11_town x1 σ M N = some r) : g_Ct l yX11_town cX11_town 2 (some .int) 3 9 106 [vR 1, vI x1] (σ, M, N) (eISMN r) :=
  g_Ct.of tb_X11_town (by decide +kernel) tk_X11_town (Nat.le_of_ble_eq_true rfl) (fun E J => p_X11_town_0 J x1 σ M N hL r h)
def tb_X11_start : gT := [(0, .iload_n 1, 1, 0), (1, .iconst 0, 1, 0), (2, .sipush 400, 3, 400), (5, .invokestatic 86, 3, 0), (8, .ifCond .eq 13, 3, 0), (11, .aload_n 0, 1, 0), (12, .getfield 60, 3, 0), (15, .getfield 133, 3, 0), (18, .ifCond .le 5, 3, 0), (21, .iconst 0, 1, 0), (22, .ireturn, 1, 0), (23, .aload_n 0, 1, 0), (24, .iload_n 1, 1, 0), (25, .putfield 74, 3, 0), (28, .iconst 1, 1, 1), (29, .ireturn, 1, 0)]
set_option maxRecDepth 100000 in
theorem tk_X11_start : g_okT cX11_start tb_X11_start = true := by decide +kernel
abbrev J_X11_start (E : gE) (l : Launch) : Prop := g_J E cX11_start RX11 "start" (some .boolean) 2 tb_X11_start 2 0 0 l
set_option maxHeartbeats 4000000 in
set_option maxRecDepth 100000 in
theorem p_X11_start_0 {l : Launch} {E : gE} (J : J_X11_start E l) (x1 : Int32) (σ : gS) (M : gM) (N : gN) (hL : g_layC σ) : g_H E 0 0 0 [(0, vR 1), (1, vI x1)] [] (σ, M, N) (b_X11_start_0 x1 σ M) (eIM σ N) := by
  unfold b_X11_start_0
  refine r_run J 3 (pc' := 5) (lv' := [(0, vR 1), (1, vI x1)]) (st' := [vI 400, vI 0, vI x1]) rfl ?_
  refine r_callS J (As := [vI x1, vI 0, vI 400]) (st := []) (fun r hr => c_X11_isWithin x1 0 400 σ M N hL r hr) wm_11_86 wy_X11_isWithin wd_X11_isWithin ⟨by decide, by decide, by decide, by decide, Nat.le_of_ble_eq_true rfl⟩ rfl rfl (fun q5 hq5 => ?_)
  show g_H E 0 0 8 [(0, vR 1), (1, vI x1)] [vI q5] (σ, M, N) _ _
  refine r_if_eq J (tgt := 21) rfl (by decide) (fun c8 => ?_) (fun c8 => ?_)
  · refine r_run J 1 (pc' := 22) (lv' := [(0, vR 1), (1, vI x1)]) (st' := [vI 0]) rfl ?_
    exact r_iret J rfl rfl rfl rfl (by decide) (by decide)
  · refine r_run J 1 (pc' := 12) (lv' := [(0, vR 1), (1, vI x1)]) (st' := [vR 1]) rfl ?_
    refine r_getR J cls11 rfl (k := 7) (t := 0) (by decide) wf_11_60 rfl rfl (ly_1 hL) (lr_1_7 hL) (fun _ => ?_)
    show g_H E 0 0 15 [(0, vR 1), (1, vI x1)] [vR 33] (σ, M, N) _ _
    refine r_getI J cls0 rfl (k := 0) (by decide) wf_11_133 rfl (ly_33 hL) ?_
    show g_H E 0 0 18 [(0, vR 1), (1, vI x1)] [vI (M 33 0)] (σ, M, N) _ _
    refine r_if_le J (tgt := 23) rfl (by decide) (fun c18 => ?_) (fun c18 => ?_)
    · refine r_run J 1 (pc' := 22) (lv' := [(0, vR 1), (1, vI x1)]) (st' := [vI 0]) rfl ?_
      exact r_iret J rfl rfl rfl rfl (by decide) (by decide)
    · refine r_run J 2 (pc' := 25) (lv' := [(0, vR 1), (1, vI x1)]) (st' := [vI x1, vR 1]) rfl ?_
      refine r_putI J cls11 rfl (k := 11) (by decide) wf_11_74 rfl (Or.inl rfl) ⟨rfl, rfl⟩ (ly_1 hL) ?_
      show g_H E 0 0 28 [(0, vR 1), (1, vI x1)] [] (σ, (g_up M 1 11 x1), N) _ _
      refine r_run J 1 (pc' := 29) (lv' := [(0, vR 1), (1, vI x1)]) (st' := [vI 1]) rfl ?_
      exact r_iret J rfl rfl rfl rfl (by decide) (by decide)
theorem c_X11_start {l : Launch} (x1 : Int32) (σ : gS) (M : gM) (N : gN) (hL : g_layC σ) (r : Int32 × gM) (h : f_X11_start x1 σ M = some r) : g_Ct l yX11_start cX11_start 2 (some .boolean) 2 0 0 [vR 1, vI x1] (σ, M, N) (eIM σ N r) :=
  g_Ct.of tb_X11_start (by decide +kernel) tk_X11_start (Nat.le_of_ble_eq_true rfl) (fun E J => p_X11_start_0 J x1 σ M N hL r h)
def tb_X11_season : gT := [(0, .iload_n 1, 1, 0), (1, .iconst 0, 1, 0), (2, .iconst 3, 1, 3), (3, .invokestatic 86, 3, 0), (6, .ifCond .ne 5, 3, 0), (9, .iconst 0, 1, 0), (10, .ireturn, 1, 0), (11, .aload_n 0, 1, 0), (12, .iload_n 1, 1, 0), (13, .putfield 77, 3, 0), (16, .iconst 1, 1, 1), (17, .ireturn, 1, 0)]
set_option maxRecDepth 100000 in
theorem tk_X11_season : g_okT cX11_season tb_X11_season = true := by decide +kernel
abbrev J_X11_season (E : gE) (l : Launch) : Prop := g_J E cX11_season RX11 "season" (some .boolean) 2 tb_X11_season 2 0 0 l
set_option maxHeartbeats 4000000 in
set_option maxRecDepth 100000 in
theorem p_X11_season_0 {l : Launch} {E : gE} (J : J_X11_season E l) (x1 : Int32) (σ : gS) (M : gM) (N : gN) (hL : g_layC σ) : g_H E 0 0 0 [(0, vR 1), (1, vI x1)] [] (σ, M, N) (b_X11_season_0 x1 σ M) (eIM σ N) := by
  unfold b_X11_season_0
  refine r_run J 3 (pc' := 3) (lv' := [(0, vR 1), (1, vI x1)]) (st' := [vI 3, vI 0, vI x1]) rfl ?_
  refine r_callS J (As := [vI x1, vI 0, vI 3]) (st := []) (fun r hr => c_X11_isWithin x1 0 3 σ M N hL r hr) wm_11_86 wy_X11_isWithin wd_X11_isWithin ⟨by decide, by decide, by decide, by decide, Nat.le_of_ble_eq_true rfl⟩ rfl rfl (fun q3 hq3 => ?_)
  show g_H E 0 0 6 [(0, vR 1), (1, vI x1)] [vI q3] (σ, M, N) _ _
  refine r_if_ne J (tgt := 11) rfl (by decide) (fun c6 => ?_) (fun c6 => ?_)
  · refine r_run J 1 (pc' := 10) (lv' := [(0, vR 1), (1, vI x1)]) (st' := [vI 0]) rfl ?_
    exact r_iret J rfl rfl rfl rfl (by decide) (by decide)
  · refine r_run J 2 (pc' := 13) (lv' := [(0, vR 1), (1, vI x1)]) (st' := [vI x1, vR 1]) rfl ?_
    refine r_putI J cls11 rfl (k := 12) (by decide) wf_11_77 rfl (Or.inl rfl) ⟨rfl, rfl⟩ (ly_1 hL) ?_
    show g_H E 0 0 16 [(0, vR 1), (1, vI x1)] [] (σ, (g_up M 1 12 x1), N) _ _
    refine r_run J 1 (pc' := 17) (lv' := [(0, vR 1), (1, vI x1)]) (st' := [vI 1]) rfl ?_
    exact r_iret J rfl rfl rfl rfl (by decide) (by decide)
theorem c_X11_season {l : Launch} (x1 : Int32) (σ : gS) (M : gM) (N : gN) (hL : g_layC σ) (r : Int32 × gM) (h : f_X11_season x1 σ M = some r) : g_Ct l yX11_season cX11_season 2 (some .boolean) 2 0 0 [vR 1, vI x1] (σ, M, N) (eIM σ N r) :=
  g_Ct.of tb_X11_season (by decide +kernel) tk_X11_season (Nat.le_of_ble_eq_true rfl) (fun E J => p_X11_season_0 J x1 σ M N hL r h)
def tb_X11_day : gT := [(0, .iload_n 1, 1, 0), (1, .iconst 0, 1, 0), (2, .bipush 100, 2, 100), (4, .invokestatic 86, 3, 0), (7, .ifCond .eq 15, 3, 0), (10, .aload_n 0, 1, 0), (11, .getfield 71, 3, 0), (14, .iload_n 1, 1, 0), (15, .iadd, 1, 0), (16, .sipush 1000, 3, 1000), (19, .if_icmp .le 5, 3, 0), (22, .iconst (-1), 1, (-1)), (23, .ireturn, 1, 0), (24, .aload_n 0, 1, 0), (25, .dup, 1, 0), (26, .getfield 71, 3, 0), (29, .iload_n 1, 1, 0), (30, .iadd, 1, 0), (31, .putfield 71, 3, 0), (34, .aload_n 0, 1, 0), (35, .getfield 71, 3, 0), (38, .ireturn, 1, 0)]
set_option maxRecDepth 100000 in
theorem tk_X11_day : g_okT cX11_day tb_X11_day = true := by decide +kernel
abbrev J_X11_day (E : gE) (l : Launch) : Prop := g_J E cX11_day RX11 "day" (some .int) 2 tb_X11_day 2 0 0 l
set_option maxHeartbeats 4000000 in
set_option maxRecDepth 100000 in
theorem p_X11_day_0 {l : Launch} {E : gE} (J : J_X11_day E l) (x1 : Int32) (σ : gS) (M : gM) (N : gN) (hL : g_layC σ) : g_H E 0 0 0 [(0, vR 1), (1, vI x1)] [] (σ, M, N) (b_X11_day_0 x1 σ M) (eIM σ N) := by
  unfold b_X11_day_0
  refine r_run J 3 (pc' := 4) (lv' := [(0, vR 1), (1, vI x1)]) (st' := [vI 100, vI 0, vI x1]) rfl ?_
  refine r_callS J (As := [vI x1, vI 0, vI 100]) (st := []) (fun r hr => c_X11_isWithin x1 0 100 σ M N hL r hr) wm_11_86 wy_X11_isWithin wd_X11_isWithin ⟨by decide, by decide, by decide, by decide, Nat.le_of_ble_eq_true rfl⟩ rfl rfl (fun q4 hq4 => ?_)
  show g_H E 0 0 7 [(0, vR 1), (1, vI x1)] [vI q4] (σ, M, N) _ _
  refine r_if_eq J (tgt := 22) rfl (by decide) (fun c7 => ?_) (fun c7 => ?_)
  · refine r_run J 1 (pc' := 23) (lv' := [(0, vR 1), (1, vI x1)]) (st' := [vI (-1)]) rfl ?_
    exact r_iret J rfl rfl rfl rfl (by decide) (by decide)
  · refine r_run J 1 (pc' := 11) (lv' := [(0, vR 1), (1, vI x1)]) (st' := [vR 1]) rfl ?_
    refine r_getI J cls11 rfl (k := 10) (by decide) wf_11_71 rfl (ly_1 hL) ?_
    show g_H E 0 0 14 [(0, vR 1), (1, vI x1)] [vI (M 1 10)] (σ, M, N) _ _
    refine r_run J 3 (pc' := 19) (lv' := [(0, vR 1), (1, vI x1)]) (st' := [vI 1000, vI ((M 1 10) + x1)]) rfl ?_
    refine r_icmp_le J (tgt := 24) rfl (by decide) (fun c19 => ?_) (fun c19 => ?_)
    · refine r_run J 1 (pc' := 23) (lv' := [(0, vR 1), (1, vI x1)]) (st' := [vI (-1)]) rfl ?_
      exact r_iret J rfl rfl rfl rfl (by decide) (by decide)
    · refine r_run J 2 (pc' := 26) (lv' := [(0, vR 1), (1, vI x1)]) (st' := [vR 1, vR 1]) rfl ?_
      refine r_getI J cls11 rfl (k := 10) (by decide) wf_11_71 rfl (ly_1 hL) ?_
      show g_H E 0 0 29 [(0, vR 1), (1, vI x1)] [vI (M 1 10), vR 1] (σ, M, N) _ _
      refine r_run J 2 (pc' := 31) (lv' := [(0, vR 1), (1, vI x1)]) (st' := [vI ((M 1 10) + x1), vR 1]) rfl ?_
      refine r_putI J cls11 rfl (k := 10) (by decide) wf_11_71 rfl (Or.inl rfl) ⟨rfl, rfl⟩ (ly_1 hL) ?_
      show g_H E 0 0 34 [(0, vR 1), (1, vI x1)] [] (σ, (g_up M 1 10 ((M 1 10) + x1)), N) _ _
      refine r_run J 1 (pc' := 35) (lv' := [(0, vR 1), (1, vI x1)]) (st' := [vR 1]) rfl ?_
      refine r_getI J cls11 rfl (k := 10) (by decide) wf_11_71 rfl (ly_1 hL) ?_
      show g_H E 0 0 38 [(0, vR 1), (1, vI x1)] [vI ((g_up M 1 10 ((M 1 10) + x1)) 1 10)] (σ, (g_up M 1 10 ((M 1 10) + x1)), N) _ _
      exact r_iret J rfl rfl rfl rfl (by decide) (by decide)
theorem c_X11_day {l : Launch} (x1 : Int32) (σ : gS) (M : gM) (N : gN) (hL : g_layC σ) (r : Int32 × gM) (h : f_X11_day x1 σ M = some r) : g_Ct l yX11_day cX11_day 2 (some .int) 2 0 0 [vR 1, vI x1] (σ, M, N) (eIM σ N r) :=
  g_Ct.of tb_X11_day (by decide +kernel) tk_X11_day (Nat.le_of_ble_eq_true rfl) (fun E J => p_X11_day_0 J x1 σ M N hL r h)
def tb_X11_townAt : gT := [(0, .iload_n 1, 1, 0), (1, .iconst 0, 1, 0), (2, .aload_n 0, 1, 0), (3, .getfield 64, 3, 0), (6, .iconst 1, 1, 1), (7, .isub, 1, 0), (8, .invokestatic 86, 3, 0), (11, .ifCond .eq 12, 3, 0), (14, .aload_n 0, 1, 0), (15, .getfield 18, 3, 0), (18, .iload_n 1, 1, 0), (19, .aaload, 1, 0), (20, .goto 4, 3, 0), (23, .aconst_null, 1, 0), (24, .areturn, 1, 0)]
set_option maxRecDepth 100000 in
theorem tk_X11_townAt : g_okT cX11_townAt tb_X11_townAt = true := by decide +kernel
abbrev J_X11_townAt (E : gE) (l : Launch) : Prop := g_J E cX11_townAt RX11 "townAt" (some (.object RX10)) 2 tb_X11_townAt 2 0 0 l
set_option maxHeartbeats 4000000 in
set_option maxRecDepth 100000 in
theorem p_X11_townAt_0 {l : Launch} {E : gE} (J : J_X11_townAt E l) (x1 : Int32) (σ : gS) (M : gM) (N : gN) (hL : g_layC σ) : g_H E 0 0 0 [(0, vR 1), (1, vI x1)] [] (σ, M, N) (b_X11_townAt_0 x1 σ M) (eR σ M N) := by
  unfold b_X11_townAt_0
  refine r_run J 3 (pc' := 3) (lv' := [(0, vR 1), (1, vI x1)]) (st' := [vR 1, vI 0, vI x1]) rfl ?_
  refine r_getI J cls11 rfl (k := 8) (by decide) wf_11_64 rfl (ly_1 hL) ?_
  show g_H E 0 0 6 [(0, vR 1), (1, vI x1)] [vI (M 1 8), vI 0, vI x1] (σ, M, N) _ _
  refine r_run J 2 (pc' := 8) (lv' := [(0, vR 1), (1, vI x1)]) (st' := [vI ((M 1 8) - (1 : Int32)), vI 0, vI x1]) rfl ?_
  refine r_callS J (As := [vI x1, vI 0, vI ((M 1 8) - (1 : Int32))]) (st := []) (fun r hr => c_X11_isWithin x1 0 ((M 1 8) - (1 : Int32)) σ M N hL r hr) wm_11_86 wy_X11_isWithin wd_X11_isWithin ⟨by decide, by decide, by decide, by decide, Nat.le_of_ble_eq_true rfl⟩ rfl rfl (fun q8 hq8 => ?_)
  show g_H E 0 0 11 [(0, vR 1), (1, vI x1)] [vI q8] (σ, M, N) _ _
  refine r_if_eq J (tgt := 23) rfl (by decide) (fun c11 => ?_) (fun c11 => ?_)
  · refine r_run J 1 (pc' := 24) (lv' := [(0, vR 1), (1, vI x1)]) (st' := [vR 0]) rfl ?_
    exact r_aret J rfl rfl (Or.inl ⟨_, rfl⟩) rfl (by decide) (by decide)
  · refine r_run J 1 (pc' := 15) (lv' := [(0, vR 1), (1, vI x1)]) (st' := [vR 1]) rfl ?_
    refine r_getR J cls11 rfl (k := 1) (t := 19) (by decide) wf_11_18 rfl rfl (ly_1 hL) (lr_1_1 hL) (fun _ => ?_)
    show g_H E 0 0 18 [(0, vR 1), (1, vI x1)] [vR 4] (σ, M, N) _ _
    refine r_run J 1 (pc' := 19) (lv' := [(0, vR 1), (1, vI x1)]) (st' := [vI x1, vR 4]) rfl ?_
    refine r_aald J rfl (Or.inr (Or.inr ⟨rfl, rfl⟩)) (ly_4 hL) (fun i19 _ => ?_)
    show g_H E 0 0 20 [(0, vR 1), (1, vI x1)] [vR (σ.2 4 x1.toNatClampNeg)] (σ, M, N) _ _
    refine r_run J 1 (pc' := 24) (lv' := [(0, vR 1), (1, vI x1)]) (st' := [vR (σ.2 4 x1.toNatClampNeg)]) rfl ?_
    exact r_aret J rfl rfl (Or.inl ⟨_, rfl⟩) rfl (by decide) (by decide)
theorem c_X11_townAt {l : Launch} (x1 : Int32) (σ : gS) (M : gM) (N : gN) (hL : g_layC σ) (r : Nat) (h : f_X11_townAt x1 σ M = some r) : g_Ct l yX11_townAt cX11_townAt 2 (some (.object RX10)) 2 0 0 [vR 1, vI x1] (σ, M, N) (eR σ M N r) :=
  g_Ct.of tb_X11_townAt (by decide +kernel) tk_X11_townAt (Nat.le_of_ble_eq_true rfl) (fun E J => p_X11_townAt_0 J x1 σ M N hL r h)
def tb_X11_townThatLasts : gT := [(0, .aload_n 0, 1, 0), (1, .iload_n 1, 1, 0), (2, .invokevirtual 193, 3, 0), (5, .astore_n 2, 1, 0), (6, .aload_n 2, 1, 0), (7, .ifnull 11, 3, 0), (10, .aload_n 0, 1, 0), (11, .aload_n 2, 1, 0), (12, .invokevirtual 321, 3, 0), (15, .ifCond .eq 7, 3, 0), (18, .aconst_null, 1, 0), (19, .goto 4, 3, 0), (22, .aload_n 2, 1, 0), (23, .areturn, 1, 0)]
set_option maxRecDepth 100000 in
theorem tk_X11_townThatLasts : g_okT cX11_townThatLasts tb_X11_townThatLasts = true := by decide +kernel
abbrev J_X11_townThatLasts (E : gE) (l : Launch) : Prop := g_J E cX11_townThatLasts RX11 "townThatLasts" (some (.object RX10)) 3 tb_X11_townThatLasts 3 0 0 l
set_option maxHeartbeats 4000000 in
set_option maxRecDepth 100000 in
theorem p_X11_townThatLasts_18 {l : Launch} {E : gE} (J : J_X11_townThatLasts E l) (σ : gS) (M : gM) (N : gN) (hL : g_layC σ) : g_H E 0 0 18 [] [] (σ, M, N) (b_X11_townThatLasts_18 σ M) (eR σ M N) := by
  unfold b_X11_townThatLasts_18
  refine r_run J 2 (pc' := 23) (lv' := []) (st' := [vR 0]) rfl ?_
  exact r_aret J rfl rfl (Or.inl ⟨_, rfl⟩) rfl (by decide) (by decide)
set_option maxHeartbeats 4000000 in
set_option maxRecDepth 100000 in
theorem p_X11_townThatLasts_0 {l : Launch} {E : gE} (J : J_X11_townThatLasts E l) (x1 : Int32) (σ : gS) (M : gM) (N : gN) (hL : g_layC σ) : g_H E 0 0 0 [(0, vR 1), (1, vI x1)] [] (σ, M, N) (b_X11_townThatLasts_0 x1 σ M) (eR σ M N) := by
  unfold b_X11_townThatLasts_0
  refine r_run J 2 (pc' := 2) (lv' := [(0, vR 1), (1, vI x1)]) (st' := [vI x1, vR 1]) rfl ?_
  refine r_callV J (As := [vI x1]) (st := []) (fun r hr => c_X11_townAt x1 σ M N hL r hr) cls11 (ly_1 hL) wm_11_193 wy_X11_townAt wd_X11_townAt ⟨by decide, by decide, by decide, by decide, Nat.le_of_ble_eq_true rfl⟩ rfl rfl (fun q2 hq2 => ?_)
  show g_H E 0 0 5 [(0, vR 1), (1, vI x1)] [vR q2] (σ, M, N) _ _
  refine r_run J 2 (pc' := 7) (lv' := [(2, vR q2), (0, vR 1), (1, vI x1)]) (st' := [vR q2]) rfl ?_
  refine r_ifnull J (tgt := 18) rfl (by decide) (fun c7 => ?_) (fun c7 => ?_)
  · refine r_sub [] (lv' := []) rfl ?_
    exact p_X11_townThatLasts_18 J σ M N hL
  · refine r_run J 2 (pc' := 12) (lv' := [(2, vR q2), (0, vR 1), (1, vI x1)]) (st' := [vR q2, vR 1]) rfl ?_
    refine r_callV J (As := [vR q2]) (st := []) (fun r hr => c_X11_isOver q2 σ M N hL r hr) cls11 (ly_1 hL) wm_11_321 wy_X11_isOver wd_X11_isOver ⟨by decide, by decide, by decide, by decide, Nat.le_of_ble_eq_true rfl⟩ rfl rfl (fun q12 hq12 => ?_)
    show g_H E 0 0 15 [(2, vR q2), (0, vR 1), (1, vI x1)] [vI q12] (σ, M, N) _ _
    refine r_if_eq J (tgt := 22) rfl (by decide) (fun c15 => ?_) (fun c15 => ?_)
    · refine r_run J 1 (pc' := 23) (lv' := [(2, vR q2), (0, vR 1), (1, vI x1)]) (st' := [vR q2]) rfl ?_
      exact r_aret J rfl rfl (Or.inl ⟨_, rfl⟩) rfl (by decide) (by decide)
    · refine r_sub [] (lv' := []) rfl ?_
      exact p_X11_townThatLasts_18 J σ M N hL
theorem c_X11_townThatLasts {l : Launch} (x1 : Int32) (σ : gS) (M : gM) (N : gN) (hL : g_layC σ) (r : Nat) (h : f_X11_townThatLasts x1 σ M = some r) : g_Ct l yX11_townThatLasts cX11_townThatLasts 3 (some (.object RX10)) 3 0 0 [vR 1, vI x1] (σ, M, N) (eR σ M N r) :=
  g_Ct.of tb_X11_townThatLasts (by decide +kernel) tk_X11_townThatLasts (Nat.le_of_ble_eq_true rfl) (fun E J => p_X11_townThatLasts_0 J x1 σ M N hL r h)
def tb_X11_room : gT := [(0, .aload_n 0, 1, 0), (1, .iload_n 1, 1, 0), (2, .invokevirtual 142, 3, 0), (5, .astore 5, 2, 0), (7, .aload 5, 2, 0), (9, .ifnull 13, 3, 0), (12, .aload 5, 2, 0), (14, .getfield 146, 3, 0), (17, .bipush 10, 2, 10), (19, .if_icmp .lt 5, 3, 0), (22, .iconst (-1), 1, (-1)), (23, .ireturn, 1, 0), (24, .iload_n 2, 1, 0), (25, .iconst 1, 1, 1), (26, .iconst 2, 1, 2), (27, .invokestatic 86, 3, 0), (30, .ifCond .eq 15, 3, 0), (33, .iload 4, 2, 0), (35, .iconst 1, 1, 1), (36, .sipush 1000, 3, 1000), (39, .invokestatic 86, 3, 0), (42, .ifCond .ne 5, 3, 0), (45, .iconst (-1), 1, (-1)), (46, .ireturn, 1, 0), (47, .aload 5, 2, 0), (49, .new 149, 3, 0), (52, .dup, 1, 0), (53, .iload_n 2, 1, 0), (54, .iload_n 3, 1, 0), (55, .iload 4, 2, 0), (57, .invokespecial 151, 3, 0), (60, .invokevirtual 154, 3, 0), (63, .ireturn, 1, 0)]
set_option maxRecDepth 100000 in
theorem tk_X11_room : g_okT cX11_room tb_X11_room = true := by decide +kernel
abbrev J_X11_room (E : gE) (l : Launch) : Prop := g_J E cX11_room RX11 "room" (some .int) 6 tb_X11_room 4 1 4 l
set_option maxHeartbeats 4000000 in
set_option maxRecDepth 100000 in
theorem p_X11_room_0 {l : Launch} {E : gE} (J : J_X11_room E l) (x1 : Int32) (x2 : Int32) (x3 : Int32) (x4 : Int32) (σ : gS) (M : gM) (N : gN) (hL : g_layC σ) : g_H E 0 0 0 [(0, vR 1), (1, vI x1), (2, vI x2), (3, vI x3), (4, vI x4)] [] (σ, M, N) (b_X11_room_0 x1 x2 x3 x4 σ M N) (eISMN) := by
  unfold b_X11_room_0
  refine r_run J 2 (pc' := 2) (lv' := [(0, vR 1), (1, vI x1), (2, vI x2), (3, vI x3), (4, vI x4)]) (st' := [vI x1, vR 1]) rfl ?_
  refine r_callV J (As := [vI x1]) (st := []) (fun r hr => c_X11_townThatLasts x1 σ M N hL r hr) cls11 (ly_1 hL) wm_11_142 wy_X11_townThatLasts wd_X11_townThatLasts ⟨by decide, by decide, by decide, by decide, Nat.le_of_ble_eq_true rfl⟩ rfl rfl (fun q2 hq2 => ?_)
  show g_H E 0 0 5 [(0, vR 1), (1, vI x1), (2, vI x2), (3, vI x3), (4, vI x4)] [vR q2] (σ, M, N) _ _
  refine r_run J 2 (pc' := 9) (lv' := [(5, vR q2), (0, vR 1), (1, vI x1), (2, vI x2), (3, vI x3), (4, vI x4)]) (st' := [vR q2]) rfl ?_
  refine r_ifnull J (tgt := 22) rfl (by decide) (fun c9 => ?_) (fun c9 => ?_)
  · refine r_run J 1 (pc' := 23) (lv' := [(5, vR q2), (0, vR 1), (1, vI x1), (2, vI x2), (3, vI x3), (4, vI x4)]) (st' := [vI (-1)]) rfl ?_
    exact r_iret J rfl rfl rfl rfl (by decide) (by decide)
  · refine r_run J 1 (pc' := 14) (lv' := [(5, vR q2), (0, vR 1), (1, vI x1), (2, vI x2), (3, vI x3), (4, vI x4)]) (st' := [vR q2]) rfl ?_
    refine r_chk (fun hs14 => ?_)
    refine r_getI J cls10 rfl (k := 6) (by decide) wf_11_146 rfl (g_is_at hs14) ?_
    show g_H E 0 0 17 [(5, vR q2), (0, vR 1), (1, vI x1), (2, vI x2), (3, vI x3), (4, vI x4)] [vI (M q2 6)] (σ, M, N) _ _
    refine r_run J 1 (pc' := 19) (lv' := [(5, vR q2), (0, vR 1), (1, vI x1), (2, vI x2), (3, vI x3), (4, vI x4)]) (st' := [vI 10, vI (M q2 6)]) rfl ?_
    refine r_icmp_lt J (tgt := 24) rfl (by decide) (fun c19 => ?_) (fun c19 => ?_)
    · refine r_run J 3 (pc' := 27) (lv' := [(5, vR q2), (0, vR 1), (1, vI x1), (2, vI x2), (3, vI x3), (4, vI x4)]) (st' := [vI 2, vI 1, vI x2]) rfl ?_
      refine r_callS J (As := [vI x2, vI 1, vI 2]) (st := []) (fun r hr => c_X11_isWithin x2 1 2 σ M N hL r hr) wm_11_86 wy_X11_isWithin wd_X11_isWithin ⟨by decide, by decide, by decide, by decide, Nat.le_of_ble_eq_true rfl⟩ rfl rfl (fun q27 hq27 => ?_)
      show g_H E 0 0 30 [(5, vR q2), (0, vR 1), (1, vI x1), (2, vI x2), (3, vI x3), (4, vI x4)] [vI q27] (σ, M, N) _ _
      refine r_if_eq J (tgt := 45) rfl (by decide) (fun c30 => ?_) (fun c30 => ?_)
      · refine r_run J 1 (pc' := 46) (lv' := [(5, vR q2), (0, vR 1), (1, vI x1), (2, vI x2), (3, vI x3), (4, vI x4)]) (st' := [vI (-1)]) rfl ?_
        exact r_iret J rfl rfl rfl rfl (by decide) (by decide)
      · refine r_run J 3 (pc' := 39) (lv' := [(5, vR q2), (0, vR 1), (1, vI x1), (2, vI x2), (3, vI x3), (4, vI x4)]) (st' := [vI 1000, vI 1, vI x4]) rfl ?_
        refine r_callS J (As := [vI x4, vI 1, vI 1000]) (st := []) (fun r hr => c_X11_isWithin x4 1 1000 σ M N hL r hr) wm_11_86 wy_X11_isWithin wd_X11_isWithin ⟨by decide, by decide, by decide, by decide, Nat.le_of_ble_eq_true rfl⟩ rfl rfl (fun q39 hq39 => ?_)
        show g_H E 0 0 42 [(5, vR q2), (0, vR 1), (1, vI x1), (2, vI x2), (3, vI x3), (4, vI x4)] [vI q39] (σ, M, N) _ _
        refine r_if_ne J (tgt := 47) rfl (by decide) (fun c42 => ?_) (fun c42 => ?_)
        · refine r_run J 1 (pc' := 46) (lv' := [(5, vR q2), (0, vR 1), (1, vI x1), (2, vI x2), (3, vI x3), (4, vI x4)]) (st' := [vI (-1)]) rfl ?_
          exact r_iret J rfl rfl rfl rfl (by decide) (by decide)
        · refine r_run J 1 (pc' := 49) (lv' := [(5, vR q2), (0, vR 1), (1, vI x1), (2, vI x2), (3, vI x3), (4, vI x4)]) (st' := [vR q2]) rfl ?_
          refine r_chk (fun hf49 => ?_)
          refine r_new J cls8 rfl ⟨wk_11_149, wi_8⟩ df_8 (g_fr_0 hf49) (g_fr_n hf49) (by decide) (by decide) ?_
          show g_H E 1 4 52 [(5, vR q2), (0, vR 1), (1, vI x1), (2, vI x2), (3, vI x3), (4, vI x4)] [vR (200 + 10 * (q2 - 110) + (M q2 6).toNatClampNeg), vR q2] ((g_nS σ (200 + 10 * (q2 - 110) + (M q2 6).toNatClampNeg) 8 0), (g_z M (200 + 10 * (q2 - 110) + (M q2 6).toNatClampNeg) 0), (g_z N (200 + 10 * (q2 - 110) + (M q2 6).toNatClampNeg) 0)) _ _
          refine r_chk (fun hl52 => ?_)
          refine r_run J 4 (pc' := 57) (lv' := [(5, vR q2), (0, vR 1), (1, vI x1), (2, vI x2), (3, vI x3), (4, vI x4)]) (st' := [vI x4, vI x3, vI x2, vR (200 + 10 * (q2 - 110) + (M q2 6).toNatClampNeg), vR (200 + 10 * (q2 - 110) + (M q2 6).toNatClampNeg), vR q2]) rfl ?_
          refine r_callI J (As := [vI x2, vI x3, vI x4]) (st := [vR (200 + 10 * (q2 - 110) + (M q2 6).toNatClampNeg), vR q2]) (fun r hr => c_X8_init (200 + 10 * (q2 - 110) + (M q2 6).toNatClampNeg) x2 x3 x4 (g_nS σ (200 + 10 * (q2 - 110) + (M q2 6).toNatClampNeg) 8 0) (g_z M (200 + 10 * (q2 - 110) + (M q2 6).toNatClampNeg) 0) (g_z N (200 + 10 * (q2 - 110) + (M q2 6).toNatClampNeg) 0) r hr) (by rw [(g_nS_at σ (200 + 10 * (q2 - 110) + (M q2 6).toNatClampNeg) 8 0)]; exact Option.some_ne_none _) wm_11_151 wy_X8_init rfl wd_X8_init ⟨by decide, by decide, by decide, by decide, Nat.le_of_ble_eq_true rfl⟩ rfl rfl (fun q57 hq57 => ?_)
          show g_H E 1 4 60 [(5, vR q2), (0, vR 1), (1, vI x1), (2, vI x2), (3, vI x3), (4, vI x4)] [vR (200 + 10 * (q2 - 110) + (M q2 6).toNatClampNeg), vR q2] ((g_nS σ (200 + 10 * (q2 - 110) + (M q2 6).toNatClampNeg) 8 0), q57, (g_z N (200 + 10 * (q2 - 110) + (M q2 6).toNatClampNeg) 0)) _ _
          refine r_chk (fun hs60 => ?_)
          refine r_callV J (As := [vR (200 + 10 * (q2 - 110) + (M q2 6).toNatClampNeg)]) (st := []) (fun r hr => c_X10_add q2 (200 + 10 * (q2 - 110) + (M q2 6).toNatClampNeg) (g_nS σ (200 + 10 * (q2 - 110) + (M q2 6).toNatClampNeg) 8 0) q57 (g_z N (200 + 10 * (q2 - 110) + (M q2 6).toNatClampNeg) 0) (g_layC.of hl52) r hr) cls10 (g_is_at hs60) wm_11_154 wy_X10_add wd_X10_add ⟨by decide, by decide, by decide, by decide, Nat.le_of_ble_eq_true rfl⟩ rfl rfl (fun q60 hq60 => ?_)
          show g_H E 1 4 63 [(5, vR q2), (0, vR 1), (1, vI x1), (2, vI x2), (3, vI x3), (4, vI x4)] [vI q60.1] (q60.2.1, q60.2.2, (g_z N (200 + 10 * (q2 - 110) + (M q2 6).toNatClampNeg) 0)) _ _
          refine r_chk (fun hl63 => ?_)
          exact r_iret J rfl rfl rfl rfl (by decide) (by decide)
    · refine r_run J 1 (pc' := 23) (lv' := [(5, vR q2), (0, vR 1), (1, vI x1), (2, vI x2), (3, vI x3), (4, vI x4)]) (st' := [vI (-1)]) rfl ?_
      exact r_iret J rfl rfl rfl rfl (by decide) (by decide)
theorem c_X11_room {l : Launch} (x1 : Int32) (x2 : Int32) (x3 : Int32) (x4 : Int32) (σ : gS) (M : gM) (N : gN) (hL : g_layC σ) (r : Int32 × gS × gM × gN) (h : f_X11_room x1 x2 x3 x4 σ M N = some r) : g_Ct l yX11_room cX11_room 6 (some .int) 4 1 4 [vR 1, vI x1, vI x2, vI x3, vI x4] (σ, M, N) (eISMN r) :=
  g_Ct.of tb_X11_room (by decide +kernel) tk_X11_room (Nat.le_of_ble_eq_true rfl) (fun E J => p_X11_room_0 J x1 x2 x3 x4 σ M N hL r h)
def tb_X11_put : gT := [(0, .aload_n 0, 1, 0), (1, .iload_n 1, 1, 0), (2, .invokevirtual 142, 3, 0), (5, .astore 4, 2, 0), (7, .aload 4, 2, 0), (9, .ifnull 15, 3, 0), (12, .aload_n 0, 1, 0), (13, .getfield 10, 3, 0), (16, .iload_n 2, 1, 0), (17, .iload_n 1, 1, 0), (18, .invokevirtual 157, 3, 0), (21, .ifCond .ne 5, 3, 0), (24, .iconst 0, 1, 0), (25, .ireturn, 1, 0), (26, .iload_n 3, 1, 0), (27, .iconst (-1), 1, (-1)), (28, .if_icmp .eq 19, 3, 0), (31, .aload_n 0, 1, 0), (32, .getfield 10, 3, 0), (35, .aload 4, 2, 0), (37, .iload_n 2, 1, 0), (38, .iload_n 3, 1, 0), (39, .invokevirtual 160, 3, 0), (42, .ifCond .ne 5, 3, 0), (45, .iconst 0, 1, 0), (46, .ireturn, 1, 0), (47, .aload 4, 2, 0), (49, .iload_n 2, 1, 0), (50, .invokevirtual 164, 3, 0), (53, .iload_n 3, 1, 0), (54, .if_icmp .eq 16, 3, 0), (57, .aload_n 0, 1, 0), (58, .getfield 25, 3, 0), (61, .iconst 1, 1, 1), (62, .invokevirtual 168, 3, 0), (65, .ifCond .ne 5, 3, 0), (68, .iconst 0, 1, 0), (69, .ireturn, 1, 0), (70, .aload_n 0, 1, 0), (71, .aload 4, 2, 0), (73, .iload_n 2, 1, 0), (74, .iload_n 3, 1, 0), (75, .invokevirtual 171, 3, 0), (78, .iconst 1, 1, 1), (79, .ireturn, 1, 0)]
set_option maxRecDepth 100000 in
theorem tk_X11_put : g_okT cX11_put tb_X11_put = true := by decide +kernel
abbrev J_X11_put (E : gE) (l : Launch) : Prop := g_J E cX11_put RX11 "put" (some .boolean) 5 tb_X11_put 5 0 0 l
set_option maxHeartbeats 4000000 in
set_option maxRecDepth 100000 in
theorem p_X11_put_70 {l : Launch} {E : gE} (J : J_X11_put E l) (x2 : Int32) (x3 : Int32) (r4 : Nat) (σ : gS) (M : gM) (N : gN) (hL : g_layC σ) : g_H E 0 0 70 [(0, vR 1), (2, vI x2), (3, vI x3), (4, vR r4)] [] (σ, M, N) (b_X11_put_70 x2 x3 r4 σ M) (eIM σ N) := by
  unfold b_X11_put_70
  refine r_run J 4 (pc' := 75) (lv' := [(0, vR 1), (2, vI x2), (3, vI x3), (4, vR r4)]) (st' := [vI x3, vI x2, vR r4, vR 1]) rfl ?_
  refine r_callV J (As := [vR r4, vI x2, vI x3]) (st := []) (fun r hr => c_X11_list r4 x2 x3 σ M N hL r hr) cls11 (ly_1 hL) wm_11_171 wy_X11_list wd_X11_list ⟨by decide, by decide, by decide, by decide, Nat.le_of_ble_eq_true rfl⟩ rfl rfl (fun q75 hq75 => ?_)
  show g_H E 0 0 78 [(0, vR 1), (2, vI x2), (3, vI x3), (4, vR r4)] [] (σ, q75, N) _ _
  refine r_run J 1 (pc' := 79) (lv' := [(0, vR 1), (2, vI x2), (3, vI x3), (4, vR r4)]) (st' := [vI 1]) rfl ?_
  exact r_iret J rfl rfl rfl rfl (by decide) (by decide)
set_option maxHeartbeats 4000000 in
set_option maxRecDepth 100000 in
theorem p_X11_put_47 {l : Launch} {E : gE} (J : J_X11_put E l) (x2 : Int32) (x3 : Int32) (r4 : Nat) (σ : gS) (M : gM) (N : gN) (hL : g_layC σ) : g_H E 0 0 47 [(0, vR 1), (2, vI x2), (3, vI x3), (4, vR r4)] [] (σ, M, N) (b_X11_put_47 x2 x3 r4 σ M) (eIM σ N) := by
  unfold b_X11_put_47
  refine r_run J 2 (pc' := 50) (lv' := [(0, vR 1), (2, vI x2), (3, vI x3), (4, vR r4)]) (st' := [vI x2, vR r4]) rfl ?_
  refine r_chk (fun hs50 => ?_)
  refine r_callV J (As := [vI x2]) (st := []) (fun r hr => c_X10_roomOfGuest r4 x2 σ M N hL r hr) cls10 (g_is_at hs50) wm_11_164 wy_X10_roomOfGuest wd_X10_roomOfGuest ⟨by decide, by decide, by decide, by decide, Nat.le_of_ble_eq_true rfl⟩ rfl rfl (fun q50 hq50 => ?_)
  show g_H E 0 0 53 [(0, vR 1), (2, vI x2), (3, vI x3), (4, vR r4)] [vI q50] (σ, M, N) _ _
  refine r_run J 1 (pc' := 54) (lv' := [(0, vR 1), (2, vI x2), (3, vI x3), (4, vR r4)]) (st' := [vI x3, vI q50]) rfl ?_
  refine r_icmp_eq J (tgt := 70) rfl (by decide) (fun c54 => ?_) (fun c54 => ?_)
  · exact p_X11_put_70 J x2 x3 r4 σ M N hL
  · refine r_run J 1 (pc' := 58) (lv' := [(0, vR 1), (2, vI x2), (3, vI x3), (4, vR r4)]) (st' := [vR 1]) rfl ?_
    refine r_getR J cls11 rfl (k := 2) (t := 4) (by decide) wf_11_25 rfl rfl (ly_1 hL) (lr_1_2 hL) (fun _ => ?_)
    show g_H E 0 0 61 [(0, vR 1), (2, vI x2), (3, vI x3), (4, vR r4)] [vR 5] (σ, M, N) _ _
    refine r_run J 1 (pc' := 62) (lv' := [(0, vR 1), (2, vI x2), (3, vI x3), (4, vR r4)]) (st' := [vI 1, vR 5]) rfl ?_
    refine r_callV J (As := [vI 1]) (st := []) (fun r hr => c_X4_haveSpace 1 σ M N hL r hr) cls4 (ly_5 hL) wm_11_168 wy_X4_haveSpace wd_X4_haveSpace ⟨by decide, by decide, by decide, by decide, Nat.le_of_ble_eq_true rfl⟩ rfl rfl (fun q62 hq62 => ?_)
    show g_H E 0 0 65 [(0, vR 1), (2, vI x2), (3, vI x3), (4, vR r4)] [vI q62] (σ, M, N) _ _
    refine r_if_ne J (tgt := 70) rfl (by decide) (fun c65 => ?_) (fun c65 => ?_)
    · refine r_run J 1 (pc' := 69) (lv' := [(0, vR 1), (2, vI x2), (3, vI x3), (4, vR r4)]) (st' := [vI 0]) rfl ?_
      exact r_iret J rfl rfl rfl rfl (by decide) (by decide)
    · exact p_X11_put_70 J x2 x3 r4 σ M N hL
set_option maxHeartbeats 4000000 in
set_option maxRecDepth 100000 in
theorem p_X11_put_0 {l : Launch} {E : gE} (J : J_X11_put E l) (x1 : Int32) (x2 : Int32) (x3 : Int32) (σ : gS) (M : gM) (N : gN) (hL : g_layC σ) : g_H E 0 0 0 [(0, vR 1), (1, vI x1), (2, vI x2), (3, vI x3)] [] (σ, M, N) (b_X11_put_0 x1 x2 x3 σ M) (eIM σ N) := by
  unfold b_X11_put_0
  refine r_run J 2 (pc' := 2) (lv' := [(0, vR 1), (1, vI x1), (2, vI x2), (3, vI x3)]) (st' := [vI x1, vR 1]) rfl ?_
  refine r_callV J (As := [vI x1]) (st := []) (fun r hr => c_X11_townThatLasts x1 σ M N hL r hr) cls11 (ly_1 hL) wm_11_142 wy_X11_townThatLasts wd_X11_townThatLasts ⟨by decide, by decide, by decide, by decide, Nat.le_of_ble_eq_true rfl⟩ rfl rfl (fun q2 hq2 => ?_)
  show g_H E 0 0 5 [(0, vR 1), (1, vI x1), (2, vI x2), (3, vI x3)] [vR q2] (σ, M, N) _ _
  refine r_run J 2 (pc' := 9) (lv' := [(4, vR q2), (0, vR 1), (1, vI x1), (2, vI x2), (3, vI x3)]) (st' := [vR q2]) rfl ?_
  refine r_ifnull J (tgt := 24) rfl (by decide) (fun c9 => ?_) (fun c9 => ?_)
  · refine r_run J 1 (pc' := 25) (lv' := [(4, vR q2), (0, vR 1), (1, vI x1), (2, vI x2), (3, vI x3)]) (st' := [vI 0]) rfl ?_
    exact r_iret J rfl rfl rfl rfl (by decide) (by decide)
  · refine r_run J 1 (pc' := 13) (lv' := [(4, vR q2), (0, vR 1), (1, vI x1), (2, vI x2), (3, vI x3)]) (st' := [vR 1]) rfl ?_
    refine r_getR J cls11 rfl (k := 0) (t := 5) (by decide) wf_11_10 rfl rfl (ly_1 hL) (lr_1_0 hL) (fun _ => ?_)
    show g_H E 0 0 16 [(4, vR q2), (0, vR 1), (1, vI x1), (2, vI x2), (3, vI x3)] [vR 2] (σ, M, N) _ _
    refine r_run J 2 (pc' := 18) (lv' := [(4, vR q2), (0, vR 1), (1, vI x1), (2, vI x2), (3, vI x3)]) (st' := [vI x1, vI x2, vR 2]) rfl ?_
    refine r_callV J (As := [vI x2, vI x1]) (st := []) (fun r hr => c_X5_isThere x2 x1 σ M N hL r hr) cls5 (ly_2 hL) wm_11_157 wy_X5_isThere wd_X5_isThere ⟨by decide, by decide, by decide, by decide, Nat.le_of_ble_eq_true rfl⟩ rfl rfl (fun q18 hq18 => ?_)
    show g_H E 0 0 21 [(4, vR q2), (0, vR 1), (1, vI x1), (2, vI x2), (3, vI x3)] [vI q18] (σ, M, N) _ _
    refine r_if_ne J (tgt := 26) rfl (by decide) (fun c21 => ?_) (fun c21 => ?_)
    · refine r_run J 1 (pc' := 25) (lv' := [(4, vR q2), (0, vR 1), (1, vI x1), (2, vI x2), (3, vI x3)]) (st' := [vI 0]) rfl ?_
      exact r_iret J rfl rfl rfl rfl (by decide) (by decide)
    · refine r_run J 2 (pc' := 28) (lv' := [(4, vR q2), (0, vR 1), (1, vI x1), (2, vI x2), (3, vI x3)]) (st' := [vI (-1), vI x3]) rfl ?_
      refine r_icmp_eq J (tgt := 47) rfl (by decide) (fun c28 => ?_) (fun c28 => ?_)
      · refine r_sub [1, 3, 4, 0] (lv' := [(0, vR 1), (2, vI x2), (3, vI x3), (4, vR q2)]) rfl ?_
        exact p_X11_put_47 J x2 x3 q2 σ M N hL
      · refine r_run J 1 (pc' := 32) (lv' := [(4, vR q2), (0, vR 1), (1, vI x1), (2, vI x2), (3, vI x3)]) (st' := [vR 1]) rfl ?_
        refine r_getR J cls11 rfl (k := 0) (t := 5) (by decide) wf_11_10 rfl rfl (ly_1 hL) (lr_1_0 hL) (fun _ => ?_)
        show g_H E 0 0 35 [(4, vR q2), (0, vR 1), (1, vI x1), (2, vI x2), (3, vI x3)] [vR 2] (σ, M, N) _ _
        refine r_run J 3 (pc' := 39) (lv' := [(4, vR q2), (0, vR 1), (1, vI x1), (2, vI x2), (3, vI x3)]) (st' := [vI x3, vI x2, vR q2, vR 2]) rfl ?_
        refine r_callV J (As := [vR q2, vI x2, vI x3]) (st := []) (fun r hr => c_X5_fits q2 x2 x3 σ M N hL r hr) cls5 (ly_2 hL) wm_11_160 wy_X5_fits wd_X5_fits ⟨by decide, by decide, by decide, by decide, Nat.le_of_ble_eq_true rfl⟩ rfl rfl (fun q39 hq39 => ?_)
        show g_H E 0 0 42 [(4, vR q2), (0, vR 1), (1, vI x1), (2, vI x2), (3, vI x3)] [vI q39] (σ, M, N) _ _
        refine r_if_ne J (tgt := 47) rfl (by decide) (fun c42 => ?_) (fun c42 => ?_)
        · refine r_run J 1 (pc' := 46) (lv' := [(4, vR q2), (0, vR 1), (1, vI x1), (2, vI x2), (3, vI x3)]) (st' := [vI 0]) rfl ?_
          exact r_iret J rfl rfl rfl rfl (by decide) (by decide)
        · refine r_sub [1, 3, 4, 0] (lv' := [(0, vR 1), (2, vI x2), (3, vI x3), (4, vR q2)]) rfl ?_
          exact p_X11_put_47 J x2 x3 q2 σ M N hL
theorem c_X11_put {l : Launch} (x1 : Int32) (x2 : Int32) (x3 : Int32) (σ : gS) (M : gM) (N : gN) (hL : g_layC σ) (r : Int32 × gM) (h : f_X11_put x1 x2 x3 σ M = some r) : g_Ct l yX11_put cX11_put 5 (some .boolean) 5 0 0 [vR 1, vI x1, vI x2, vI x3] (σ, M, N) (eIM σ N r) :=
  g_Ct.of tb_X11_put (by decide +kernel) tk_X11_put (Nat.le_of_ble_eq_true rfl) (fun E J => p_X11_put_0 J x1 x2 x3 σ M N hL r h)
def tb_X11_settle : gT := [(0, .aload_n 0, 1, 0), (1, .iload_n 1, 1, 0), (2, .invokevirtual 142, 3, 0), (5, .astore_n 3, 1, 0), (6, .aload_n 3, 1, 0), (7, .ifnull 28, 3, 0), (10, .iload_n 2, 1, 0), (11, .iconst 0, 1, 0), (12, .iconst 1, 1, 1), (13, .invokestatic 86, 3, 0), (16, .ifCond .eq 19, 3, 0), (19, .aload_n 0, 1, 0), (20, .getfield 39, 3, 0), (23, .aload_n 0, 1, 0), (24, .getfield 10, 3, 0), (27, .aload_n 3, 1, 0), (28, .iload_n 2, 1, 0), (29, .invokevirtual 175, 3, 0), (32, .ifCond .ne 5, 3, 0), (35, .iconst (-1), 1, (-1)), (36, .ireturn, 1, 0), (37, .aload_n 0, 1, 0), (38, .getfield 25, 3, 0), (41, .aload_n 0, 1, 0), (42, .getfield 39, 3, 0), (45, .aload_n 3, 1, 0), (46, .invokevirtual 179, 3, 0), (49, .invokevirtual 168, 3, 0), (52, .ifCond .ne 5, 3, 0), (55, .iconst (-1), 1, (-1)), (56, .ireturn, 1, 0), (57, .iconst 0, 1, 0), (58, .istore 4, 2, 0), (60, .iload 4, 2, 0), (62, .bipush 10, 2, 10), (64, .if_icmp .ge 26, 3, 0), (67, .aload_n 0, 1, 0), (68, .aload_n 3, 1, 0), (69, .iload 4, 2, 0), (71, .aload_n 0, 1, 0), (72, .getfield 39, 3, 0), (75, .getfield 183, 3, 0), (78, .iload 4, 2, 0), (80, .iaload, 1, 0), (81, .invokevirtual 171, 3, 0), (84, .iinc 4 1, 3, 1), (87, .goto (-27), 3, 0), (90, .aload_n 0, 1, 0), (91, .aload_n 0, 1, 0), (92, .getfield 39, 3, 0), (95, .getfield 187, 3, 0), (98, .putfield 83, 3, 0), (101, .aload_n 0, 1, 0), (102, .getfield 39, 3, 0), (105, .getfield 190, 3, 0), (108, .ireturn, 1, 0)]
set_option maxRecDepth 100000 in
theorem tk_X11_settle : g_okT cX11_settle tb_X11_settle = true := by decide +kernel
abbrev J_X11_settle (E : gE) (l : Launch) : Prop := g_J E cX11_settle RX11 "settle" (some .int) 5 tb_X11_settle 6 1 11264 l
set_option maxHeartbeats 4000000 in
set_option maxRecDepth 100000 in
theorem p_X11_settle_60 {l : Launch} {E : gE} (J : J_X11_settle E l) : ∀ (n : Nat) (r3 : Nat) (x4 : Int32) (σ : gS) (M : gM) (N : gN) (hL : g_layC σ), g_H E 1 11264 60 [(0, vR 1), (3, vR r3), (4, vI x4)] [] (σ, M, N) (l_X11_settle_60 n r3 x4 σ M N) (eISMN) := by
  intro n
  induction n with
  | zero => intros; exact h_none
  | succ n ih =>
    intro r3 x4 σ M N hL
    rw [l_X11_settle_60]
    refine r_run J 2 (pc' := 64) (lv' := [(0, vR 1), (3, vR r3), (4, vI x4)]) (st' := [vI 10, vI x4]) rfl ?_
    refine r_icmp_ge J (tgt := 90) rfl (by decide) (fun c64 => ?_) (fun c64 => ?_)
    · refine r_run J 4 (pc' := 72) (lv' := [(0, vR 1), (3, vR r3), (4, vI x4)]) (st' := [vR 1, vI x4, vR r3, vR 1]) rfl ?_
      refine r_getR J cls11 rfl (k := 4) (t := 9) (by decide) wf_11_39 rfl rfl (ly_1 hL) (lr_1_4 hL) (fun _ => ?_)
      show g_H E 1 11264 75 [(0, vR 1), (3, vR r3), (4, vI x4)] [vR 12, vI x4, vR r3, vR 1] (σ, M, N) _ _
      refine r_getR J cls9 rfl (k := 0) (t := 14) (by decide) wf_11_183 rfl rfl (ly_12 hL) (lr_12_0 hL) (fun _ => ?_)
      show g_H E 1 11264 78 [(0, vR 1), (3, vR r3), (4, vI x4)] [vR 13, vI x4, vR r3, vR 1] (σ, M, N) _ _
      refine r_run J 1 (pc' := 80) (lv' := [(0, vR 1), (3, vR r3), (4, vI x4)]) (st' := [vI x4, vR 13, vI x4, vR r3, vR 1]) rfl ?_
      refine r_iald J rfl (ly_13 hL) (fun i80 => ?_)
      show g_H E 1 11264 81 [(0, vR 1), (3, vR r3), (4, vI x4)] [vI (M 13 x4.toNatClampNeg), vI x4, vR r3, vR 1] (σ, M, N) _ _
      refine r_callV J (As := [vR r3, vI x4, vI (M 13 x4.toNatClampNeg)]) (st := []) (fun r hr => c_X11_list r3 x4 (M 13 x4.toNatClampNeg) σ M N hL r hr) cls11 (ly_1 hL) wm_11_171 wy_X11_list wd_X11_list ⟨by decide, by decide, by decide, by decide, Nat.le_of_ble_eq_true rfl⟩ rfl rfl (fun q81 hq81 => ?_)
      show g_H E 1 11264 84 [(0, vR 1), (3, vR r3), (4, vI x4)] [] (σ, q81, N) _ _
      refine r_run J 2 (pc' := 60) (lv' := [(4, vI (x4 + 1)), (0, vR 1), (3, vR r3)]) (st' := []) rfl ?_
      refine r_sub [1, 2, 0] (lv' := [(0, vR 1), (3, vR r3), (4, vI (x4 + 1))]) rfl ?_
      exact ih r3 (x4 + 1) σ q81 N hL
    · refine r_run J 2 (pc' := 92) (lv' := [(0, vR 1), (3, vR r3), (4, vI x4)]) (st' := [vR 1, vR 1]) rfl ?_
      refine r_getR J cls11 rfl (k := 4) (t := 9) (by decide) wf_11_39 rfl rfl (ly_1 hL) (lr_1_4 hL) (fun _ => ?_)
      show g_H E 1 11264 95 [(0, vR 1), (3, vR r3), (4, vI x4)] [vR 12, vR 1] (σ, M, N) _ _
      refine r_getI J cls9 rfl (k := 1) (by decide) wf_11_187 rfl (ly_12 hL) ?_
      show g_H E 1 11264 98 [(0, vR 1), (3, vR r3), (4, vI x4)] [vI (M 12 1), vR 1] (σ, M, N) _ _
      refine r_putI J cls11 rfl (k := 14) (by decide) wf_11_83 rfl (Or.inl rfl) ⟨rfl, rfl⟩ (ly_1 hL) ?_
      show g_H E 1 11264 101 [(0, vR 1), (3, vR r3), (4, vI x4)] [] (σ, (g_up M 1 14 (M 12 1)), N) _ _
      refine r_run J 1 (pc' := 102) (lv' := [(0, vR 1), (3, vR r3), (4, vI x4)]) (st' := [vR 1]) rfl ?_
      refine r_getR J cls11 rfl (k := 4) (t := 9) (by decide) wf_11_39 rfl rfl (ly_1 hL) (lr_1_4 hL) (fun _ => ?_)
      show g_H E 1 11264 105 [(0, vR 1), (3, vR r3), (4, vI x4)] [vR 12] (σ, (g_up M 1 14 (M 12 1)), N) _ _
      refine r_getI J cls9 rfl (k := 2) (by decide) wf_11_190 rfl (ly_12 hL) ?_
      show g_H E 1 11264 108 [(0, vR 1), (3, vR r3), (4, vI x4)] [vI ((g_up M 1 14 (M 12 1)) 12 2)] (σ, (g_up M 1 14 (M 12 1)), N) _ _
      exact r_iret J rfl rfl rfl rfl (by decide) (by decide)
set_option maxHeartbeats 4000000 in
set_option maxRecDepth 100000 in
theorem p_X11_settle_0 {l : Launch} {E : gE} (J : J_X11_settle E l) (x1 : Int32) (x2 : Int32) (σ : gS) (M : gM) (N : gN) (hL : g_layC σ) : g_H E 0 0 0 [(0, vR 1), (1, vI x1), (2, vI x2)] [] (σ, M, N) (b_X11_settle_0 x1 x2 σ M N) (eISMN) := by
  unfold b_X11_settle_0
  refine r_run J 2 (pc' := 2) (lv' := [(0, vR 1), (1, vI x1), (2, vI x2)]) (st' := [vI x1, vR 1]) rfl ?_
  refine r_callV J (As := [vI x1]) (st := []) (fun r hr => c_X11_townThatLasts x1 σ M N hL r hr) cls11 (ly_1 hL) wm_11_142 wy_X11_townThatLasts wd_X11_townThatLasts ⟨by decide, by decide, by decide, by decide, Nat.le_of_ble_eq_true rfl⟩ rfl rfl (fun q2 hq2 => ?_)
  show g_H E 0 0 5 [(0, vR 1), (1, vI x1), (2, vI x2)] [vR q2] (σ, M, N) _ _
  refine r_run J 2 (pc' := 7) (lv' := [(3, vR q2), (0, vR 1), (1, vI x1), (2, vI x2)]) (st' := [vR q2]) rfl ?_
  refine r_ifnull J (tgt := 35) rfl (by decide) (fun c7 => ?_) (fun c7 => ?_)
  · refine r_run J 1 (pc' := 36) (lv' := [(3, vR q2), (0, vR 1), (1, vI x1), (2, vI x2)]) (st' := [vI (-1)]) rfl ?_
    exact r_iret J rfl rfl rfl rfl (by decide) (by decide)
  · refine r_run J 3 (pc' := 13) (lv' := [(3, vR q2), (0, vR 1), (1, vI x1), (2, vI x2)]) (st' := [vI 1, vI 0, vI x2]) rfl ?_
    refine r_callS J (As := [vI x2, vI 0, vI 1]) (st := []) (fun r hr => c_X11_isWithin x2 0 1 σ M N hL r hr) wm_11_86 wy_X11_isWithin wd_X11_isWithin ⟨by decide, by decide, by decide, by decide, Nat.le_of_ble_eq_true rfl⟩ rfl rfl (fun q13 hq13 => ?_)
    show g_H E 0 0 16 [(3, vR q2), (0, vR 1), (1, vI x1), (2, vI x2)] [vI q13] (σ, M, N) _ _
    refine r_if_eq J (tgt := 35) rfl (by decide) (fun c16 => ?_) (fun c16 => ?_)
    · refine r_run J 1 (pc' := 36) (lv' := [(3, vR q2), (0, vR 1), (1, vI x1), (2, vI x2)]) (st' := [vI (-1)]) rfl ?_
      exact r_iret J rfl rfl rfl rfl (by decide) (by decide)
    · refine r_run J 1 (pc' := 20) (lv' := [(3, vR q2), (0, vR 1), (1, vI x1), (2, vI x2)]) (st' := [vR 1]) rfl ?_
      refine r_getR J cls11 rfl (k := 4) (t := 9) (by decide) wf_11_39 rfl rfl (ly_1 hL) (lr_1_4 hL) (fun _ => ?_)
      show g_H E 0 0 23 [(3, vR q2), (0, vR 1), (1, vI x1), (2, vI x2)] [vR 12] (σ, M, N) _ _
      refine r_run J 1 (pc' := 24) (lv' := [(3, vR q2), (0, vR 1), (1, vI x1), (2, vI x2)]) (st' := [vR 1, vR 12]) rfl ?_
      refine r_getR J cls11 rfl (k := 0) (t := 5) (by decide) wf_11_10 rfl rfl (ly_1 hL) (lr_1_0 hL) (fun _ => ?_)
      show g_H E 0 0 27 [(3, vR q2), (0, vR 1), (1, vI x1), (2, vI x2)] [vR 2, vR 12] (σ, M, N) _ _
      refine r_run J 2 (pc' := 29) (lv' := [(3, vR q2), (0, vR 1), (1, vI x1), (2, vI x2)]) (st' := [vI x2, vR q2, vR 2, vR 12]) rfl ?_
      refine r_callV J (As := [vR 2, vR q2, vI x2]) (st := []) (fun r hr => c_X9_findList q2 x2 σ M N hL r hr) cls9 (ly_12 hL) wm_11_175 wy_X9_findList wd_X9_findList ⟨by decide, by decide, by decide, by decide, Nat.le_of_ble_eq_true rfl⟩ rfl rfl (fun q29 hq29 => ?_)
      show g_H E 1 11264 32 [(3, vR q2), (0, vR 1), (1, vI x1), (2, vI x2)] [vI q29.1] (q29.2.1, q29.2.2.1, q29.2.2.2) _ _
      refine r_chk (fun hl32 => ?_)
      refine r_if_ne J (tgt := 37) rfl (by decide) (fun c32 => ?_) (fun c32 => ?_)
      · refine r_run J 1 (pc' := 36) (lv' := [(3, vR q2), (0, vR 1), (1, vI x1), (2, vI x2)]) (st' := [vI (-1)]) rfl ?_
        exact r_iret J rfl rfl rfl rfl (by decide) (by decide)
      · refine r_run J 1 (pc' := 38) (lv' := [(3, vR q2), (0, vR 1), (1, vI x1), (2, vI x2)]) (st' := [vR 1]) rfl ?_
        refine r_getR J cls11 rfl (k := 2) (t := 4) (by decide) wf_11_25 rfl rfl (ly_1 (g_layC.of hl32)) (lr_1_2 (g_layC.of hl32)) (fun _ => ?_)
        show g_H E 1 11264 41 [(3, vR q2), (0, vR 1), (1, vI x1), (2, vI x2)] [vR 5] (q29.2.1, q29.2.2.1, q29.2.2.2) _ _
        refine r_run J 1 (pc' := 42) (lv' := [(3, vR q2), (0, vR 1), (1, vI x1), (2, vI x2)]) (st' := [vR 1, vR 5]) rfl ?_
        refine r_getR J cls11 rfl (k := 4) (t := 9) (by decide) wf_11_39 rfl rfl (ly_1 (g_layC.of hl32)) (lr_1_4 (g_layC.of hl32)) (fun _ => ?_)
        show g_H E 1 11264 45 [(3, vR q2), (0, vR 1), (1, vI x1), (2, vI x2)] [vR 12, vR 5] (q29.2.1, q29.2.2.1, q29.2.2.2) _ _
        refine r_run J 1 (pc' := 46) (lv' := [(3, vR q2), (0, vR 1), (1, vI x1), (2, vI x2)]) (st' := [vR q2, vR 12, vR 5]) rfl ?_
        refine r_callV J (As := [vR q2]) (st := [vR 5]) (fun r hr => c_X9_changes q2 q29.2.1 q29.2.2.1 q29.2.2.2 (g_layC.of hl32) r hr) cls9 (ly_12 (g_layC.of hl32)) wm_11_179 wy_X9_changes wd_X9_changes ⟨by decide, by decide, by decide, by decide, Nat.le_of_ble_eq_true rfl⟩ rfl rfl (fun q46 hq46 => ?_)
        show g_H E 1 11264 49 [(3, vR q2), (0, vR 1), (1, vI x1), (2, vI x2)] [vI q46, vR 5] (q29.2.1, q29.2.2.1, q29.2.2.2) _ _
        refine r_callV J (As := [vI q46]) (st := []) (fun r hr => c_X4_haveSpace q46 q29.2.1 q29.2.2.1 q29.2.2.2 (g_layC.of hl32) r hr) cls4 (ly_5 (g_layC.of hl32)) wm_11_168 wy_X4_haveSpace wd_X4_haveSpace ⟨by decide, by decide, by decide, by decide, Nat.le_of_ble_eq_true rfl⟩ rfl rfl (fun q49 hq49 => ?_)
        show g_H E 1 11264 52 [(3, vR q2), (0, vR 1), (1, vI x1), (2, vI x2)] [vI q49] (q29.2.1, q29.2.2.1, q29.2.2.2) _ _
        refine r_if_ne J (tgt := 57) rfl (by decide) (fun c52 => ?_) (fun c52 => ?_)
        · refine r_run J 1 (pc' := 56) (lv' := [(3, vR q2), (0, vR 1), (1, vI x1), (2, vI x2)]) (st' := [vI (-1)]) rfl ?_
          exact r_iret J rfl rfl rfl rfl (by decide) (by decide)
        · refine r_run J 2 (pc' := 60) (lv' := [(4, vI 0), (3, vR q2), (0, vR 1), (1, vI x1), (2, vI x2)]) (st' := []) rfl ?_
          refine r_sub [2, 1, 0] (lv' := [(0, vR 1), (3, vR q2), (4, vI 0)]) rfl ?_
          exact p_X11_settle_60 J g_FU q2 0 q29.2.1 q29.2.2.1 q29.2.2.2 (g_layC.of hl32)
theorem c_X11_settle {l : Launch} (x1 : Int32) (x2 : Int32) (σ : gS) (M : gM) (N : gN) (hL : g_layC σ) (r : Int32 × gS × gM × gN) (h : f_X11_settle x1 x2 σ M N = some r) : g_Ct l yX11_settle cX11_settle 5 (some .int) 6 1 11264 [vR 1, vI x1, vI x2] (σ, M, N) (eISMN r) :=
  g_Ct.of tb_X11_settle (by decide +kernel) tk_X11_settle (Nat.le_of_ble_eq_true rfl) (fun E J => p_X11_settle_0 J x1 x2 σ M N hL r h)
def tb_X11_moved : gT := [(0, .aload_n 0, 1, 0), (1, .getfield 83, 3, 0), (4, .ireturn, 1, 0)]
set_option maxRecDepth 100000 in
theorem tk_X11_moved : g_okT cX11_moved tb_X11_moved = true := by decide +kernel
abbrev J_X11_moved (E : gE) (l : Launch) : Prop := g_J E cX11_moved RX11 "moved" (some .int) 1 tb_X11_moved 1 0 0 l
set_option maxHeartbeats 4000000 in
set_option maxRecDepth 100000 in
theorem p_X11_moved_0 {l : Launch} {E : gE} (J : J_X11_moved E l) (σ : gS) (M : gM) (N : gN) (hL : g_layC σ) : g_H E 0 0 0 [(0, vR 1)] [] (σ, M, N) (b_X11_moved_0 σ M) (eI σ M N) := by
  unfold b_X11_moved_0
  refine r_run J 1 (pc' := 1) (lv' := [(0, vR 1)]) (st' := [vR 1]) rfl ?_
  refine r_getI J cls11 rfl (k := 14) (by decide) wf_11_83 rfl (ly_1 hL) ?_
  show g_H E 0 0 4 [(0, vR 1)] [vI (M 1 14)] (σ, M, N) _ _
  exact r_iret J rfl rfl rfl rfl (by decide) (by decide)
theorem c_X11_moved {l : Launch} (σ : gS) (M : gM) (N : gN) (hL : g_layC σ) (r : Int32) (h : f_X11_moved σ M = some r) : g_Ct l yX11_moved cX11_moved 1 (some .int) 1 0 0 [vR 1] (σ, M, N) (eI σ M N r) :=
  g_Ct.of tb_X11_moved (by decide +kernel) tk_X11_moved (Nat.le_of_ble_eq_true rfl) (fun E J => p_X11_moved_0 J σ M N hL r h)
def tb_X11_most : gT := [(0, .aload_n 0, 1, 0), (1, .iload_n 1, 1, 0), (2, .invokevirtual 193, 3, 0), (5, .astore_n 2, 1, 0), (6, .aload_n 2, 1, 0), (7, .ifnonnull 7, 3, 0), (10, .iconst (-1), 1, (-1)), (11, .goto 15, 3, 0), (14, .aload_n 0, 1, 0), (15, .getfield 39, 3, 0), (18, .aload_n 0, 1, 0), (19, .getfield 10, 3, 0), (22, .aload_n 2, 1, 0), (23, .invokevirtual 196, 3, 0), (26, .ireturn, 1, 0)]
set_option maxRecDepth 100000 in
theorem tk_X11_most : g_okT cX11_most tb_X11_most = true := by decide +kernel
abbrev J_X11_most (E : gE) (l : Launch) : Prop := g_J E cX11_most RX11 "most" (some .int) 3 tb_X11_most 6 1 11264 l
set_option maxHeartbeats 4000000 in
set_option maxRecDepth 100000 in
theorem p_X11_most_0 {l : Launch} {E : gE} (J : J_X11_most E l) (x1 : Int32) (σ : gS) (M : gM) (N : gN) (hL : g_layC σ) : g_H E 0 0 0 [(0, vR 1), (1, vI x1)] [] (σ, M, N) (b_X11_most_0 x1 σ M N) (eISMN) := by
  unfold b_X11_most_0
  refine r_run J 2 (pc' := 2) (lv' := [(0, vR 1), (1, vI x1)]) (st' := [vI x1, vR 1]) rfl ?_
  refine r_callV J (As := [vI x1]) (st := []) (fun r hr => c_X11_townAt x1 σ M N hL r hr) cls11 (ly_1 hL) wm_11_193 wy_X11_townAt wd_X11_townAt ⟨by decide, by decide, by decide, by decide, Nat.le_of_ble_eq_true rfl⟩ rfl rfl (fun q2 hq2 => ?_)
  show g_H E 0 0 5 [(0, vR 1), (1, vI x1)] [vR q2] (σ, M, N) _ _
  refine r_run J 2 (pc' := 7) (lv' := [(2, vR q2), (0, vR 1), (1, vI x1)]) (st' := [vR q2]) rfl ?_
  refine r_ifnonnull J (tgt := 14) rfl (by decide) (fun c7 => ?_) (fun c7 => ?_)
  · refine r_run J 2 (pc' := 26) (lv' := [(2, vR q2), (0, vR 1), (1, vI x1)]) (st' := [vI (-1)]) rfl ?_
    exact r_iret J rfl rfl rfl rfl (by decide) (by decide)
  · refine r_run J 1 (pc' := 15) (lv' := [(2, vR q2), (0, vR 1), (1, vI x1)]) (st' := [vR 1]) rfl ?_
    refine r_getR J cls11 rfl (k := 4) (t := 9) (by decide) wf_11_39 rfl rfl (ly_1 hL) (lr_1_4 hL) (fun _ => ?_)
    show g_H E 0 0 18 [(2, vR q2), (0, vR 1), (1, vI x1)] [vR 12] (σ, M, N) _ _
    refine r_run J 1 (pc' := 19) (lv' := [(2, vR q2), (0, vR 1), (1, vI x1)]) (st' := [vR 1, vR 12]) rfl ?_
    refine r_getR J cls11 rfl (k := 0) (t := 5) (by decide) wf_11_10 rfl rfl (ly_1 hL) (lr_1_0 hL) (fun _ => ?_)
    show g_H E 0 0 22 [(2, vR q2), (0, vR 1), (1, vI x1)] [vR 2, vR 12] (σ, M, N) _ _
    refine r_run J 1 (pc' := 23) (lv' := [(2, vR q2), (0, vR 1), (1, vI x1)]) (st' := [vR q2, vR 2, vR 12]) rfl ?_
    refine r_callV J (As := [vR 2, vR q2]) (st := []) (fun r hr => c_X9_mostGuests q2 σ M N hL r hr) cls9 (ly_12 hL) wm_11_196 wy_X9_mostGuests wd_X9_mostGuests ⟨by decide, by decide, by decide, by decide, Nat.le_of_ble_eq_true rfl⟩ rfl rfl (fun q23 hq23 => ?_)
    show g_H E 1 11264 26 [(2, vR q2), (0, vR 1), (1, vI x1)] [vI q23.1] (q23.2.1, q23.2.2.1, q23.2.2.2) _ _
    refine r_chk (fun hl26 => ?_)
    exact r_iret J rfl rfl rfl rfl (by decide) (by decide)
theorem c_X11_most {l : Launch} (x1 : Int32) (σ : gS) (M : gM) (N : gN) (hL : g_layC σ) (r : Int32 × gS × gM × gN) (h : f_X11_most x1 σ M N = some r) : g_Ct l yX11_most cX11_most 3 (some .int) 6 1 11264 [vR 1, vI x1] (σ, M, N) (eISMN r) :=
  g_Ct.of tb_X11_most (by decide +kernel) tk_X11_most (Nat.le_of_ble_eq_true rfl) (fun E J => p_X11_most_0 J x1 σ M N hL r h)
def tb_X11_right : gT := [(0, .aload_n 0, 1, 0), (1, .iload_n 1, 1, 0), (2, .invokevirtual 193, 3, 0), (5, .astore_n 2, 1, 0), (6, .aload_n 2, 1, 0), (7, .ifnull 18, 3, 0), (10, .aload_n 0, 1, 0), (11, .getfield 10, 3, 0), (14, .aload_n 2, 1, 0), (15, .invokevirtual 200, 3, 0), (18, .ifCond .eq 7, 3, 0), (21, .iconst 1, 1, 1), (22, .goto 4, 3, 0), (25, .iconst 0, 1, 0), (26, .ireturn, 1, 0)]
set_option maxRecDepth 100000 in
theorem tk_X11_right : g_okT cX11_right tb_X11_right = true := by decide +kernel
abbrev J_X11_right (E : gE) (l : Launch) : Prop := g_J E cX11_right RX11 "right" (some .boolean) 3 tb_X11_right 6 0 0 l
set_option maxHeartbeats 4000000 in
set_option maxRecDepth 100000 in
theorem p_X11_right_0 {l : Launch} {E : gE} (J : J_X11_right E l) (x1 : Int32) (σ : gS) (M : gM) (N : gN) (hL : g_layC σ) : g_H E 0 0 0 [(0, vR 1), (1, vI x1)] [] (σ, M, N) (b_X11_right_0 x1 σ M) (eI σ M N) := by
  unfold b_X11_right_0
  refine r_run J 2 (pc' := 2) (lv' := [(0, vR 1), (1, vI x1)]) (st' := [vI x1, vR 1]) rfl ?_
  refine r_callV J (As := [vI x1]) (st := []) (fun r hr => c_X11_townAt x1 σ M N hL r hr) cls11 (ly_1 hL) wm_11_193 wy_X11_townAt wd_X11_townAt ⟨by decide, by decide, by decide, by decide, Nat.le_of_ble_eq_true rfl⟩ rfl rfl (fun q2 hq2 => ?_)
  show g_H E 0 0 5 [(0, vR 1), (1, vI x1)] [vR q2] (σ, M, N) _ _
  refine r_run J 2 (pc' := 7) (lv' := [(2, vR q2), (0, vR 1), (1, vI x1)]) (st' := [vR q2]) rfl ?_
  refine r_ifnull J (tgt := 25) rfl (by decide) (fun c7 => ?_) (fun c7 => ?_)
  · refine r_run J 1 (pc' := 26) (lv' := [(2, vR q2), (0, vR 1), (1, vI x1)]) (st' := [vI 0]) rfl ?_
    exact r_iret J rfl rfl rfl rfl (by decide) (by decide)
  · refine r_run J 1 (pc' := 11) (lv' := [(2, vR q2), (0, vR 1), (1, vI x1)]) (st' := [vR 1]) rfl ?_
    refine r_getR J cls11 rfl (k := 0) (t := 5) (by decide) wf_11_10 rfl rfl (ly_1 hL) (lr_1_0 hL) (fun _ => ?_)
    show g_H E 0 0 14 [(2, vR q2), (0, vR 1), (1, vI x1)] [vR 2] (σ, M, N) _ _
    refine r_run J 1 (pc' := 15) (lv' := [(2, vR q2), (0, vR 1), (1, vI x1)]) (st' := [vR q2, vR 2]) rfl ?_
    refine r_callV J (As := [vR q2]) (st := []) (fun r hr => c_X5_isRight q2 σ M N hL r hr) cls5 (ly_2 hL) wm_11_200 wy_X5_isRight wd_X5_isRight ⟨by decide, by decide, by decide, by decide, Nat.le_of_ble_eq_true rfl⟩ rfl rfl (fun q15 hq15 => ?_)
    show g_H E 0 0 18 [(2, vR q2), (0, vR 1), (1, vI x1)] [vI q15] (σ, M, N) _ _
    refine r_if_eq J (tgt := 25) rfl (by decide) (fun c18 => ?_) (fun c18 => ?_)
    · refine r_run J 1 (pc' := 26) (lv' := [(2, vR q2), (0, vR 1), (1, vI x1)]) (st' := [vI 0]) rfl ?_
      exact r_iret J rfl rfl rfl rfl (by decide) (by decide)
    · refine r_run J 2 (pc' := 26) (lv' := [(2, vR q2), (0, vR 1), (1, vI x1)]) (st' := [vI 1]) rfl ?_
      exact r_iret J rfl rfl rfl rfl (by decide) (by decide)
theorem c_X11_right {l : Launch} (x1 : Int32) (σ : gS) (M : gM) (N : gN) (hL : g_layC σ) (r : Int32) (h : f_X11_right x1 σ M = some r) : g_Ct l yX11_right cX11_right 3 (some .boolean) 6 0 0 [vR 1, vI x1] (σ, M, N) (eI σ M N r) :=
  g_Ct.of tb_X11_right (by decide +kernel) tk_X11_right (Nat.le_of_ble_eq_true rfl) (fun E J => p_X11_right_0 J x1 σ M N hL r h)
def tb_X11_listed : gT := [(0, .aload_n 0, 1, 0), (1, .iload_n 1, 1, 0), (2, .invokevirtual 193, 3, 0), (5, .ifnull 26, 3, 0), (8, .aload_n 0, 1, 0), (9, .getfield 10, 3, 0), (12, .iload_n 2, 1, 0), (13, .invokevirtual 106, 3, 0), (16, .ifnull 15, 3, 0), (19, .iload_n 3, 1, 0), (20, .iconst 0, 1, 0), (21, .aload_n 0, 1, 0), (22, .getfield 71, 3, 0), (25, .invokestatic 86, 3, 0), (28, .ifCond .ne 5, 3, 0), (31, .iconst (-1), 1, (-1)), (32, .ireturn, 1, 0), (33, .aload_n 0, 1, 0), (34, .getfield 25, 3, 0), (37, .iload_n 1, 1, 0), (38, .iload_n 2, 1, 0), (39, .iload_n 3, 1, 0), (40, .invokevirtual 204, 3, 0), (43, .ireturn, 1, 0)]
set_option maxRecDepth 100000 in
theorem tk_X11_listed : g_okT cX11_listed tb_X11_listed = true := by decide +kernel
abbrev J_X11_listed (E : gE) (l : Launch) : Prop := g_J E cX11_listed RX11 "listed" (some .int) 4 tb_X11_listed 3 0 0 l
set_option maxHeartbeats 4000000 in
set_option maxRecDepth 100000 in
theorem p_X11_listed_0 {l : Launch} {E : gE} (J : J_X11_listed E l) (x1 : Int32) (x2 : Int32) (x3 : Int32) (σ : gS) (M : gM) (N : gN) (hL : g_layC σ) : g_H E 0 0 0 [(0, vR 1), (1, vI x1), (2, vI x2), (3, vI x3)] [] (σ, M, N) (b_X11_listed_0 x1 x2 x3 σ M) (eI σ M N) := by
  unfold b_X11_listed_0
  refine r_run J 2 (pc' := 2) (lv' := [(0, vR 1), (1, vI x1), (2, vI x2), (3, vI x3)]) (st' := [vI x1, vR 1]) rfl ?_
  refine r_callV J (As := [vI x1]) (st := []) (fun r hr => c_X11_townAt x1 σ M N hL r hr) cls11 (ly_1 hL) wm_11_193 wy_X11_townAt wd_X11_townAt ⟨by decide, by decide, by decide, by decide, Nat.le_of_ble_eq_true rfl⟩ rfl rfl (fun q2 hq2 => ?_)
  show g_H E 0 0 5 [(0, vR 1), (1, vI x1), (2, vI x2), (3, vI x3)] [vR q2] (σ, M, N) _ _
  refine r_ifnull J (tgt := 31) rfl (by decide) (fun c5 => ?_) (fun c5 => ?_)
  · refine r_run J 1 (pc' := 32) (lv' := [(0, vR 1), (1, vI x1), (2, vI x2), (3, vI x3)]) (st' := [vI (-1)]) rfl ?_
    exact r_iret J rfl rfl rfl rfl (by decide) (by decide)
  · refine r_run J 1 (pc' := 9) (lv' := [(0, vR 1), (1, vI x1), (2, vI x2), (3, vI x3)]) (st' := [vR 1]) rfl ?_
    refine r_getR J cls11 rfl (k := 0) (t := 5) (by decide) wf_11_10 rfl rfl (ly_1 hL) (lr_1_0 hL) (fun _ => ?_)
    show g_H E 0 0 12 [(0, vR 1), (1, vI x1), (2, vI x2), (3, vI x3)] [vR 2] (σ, M, N) _ _
    refine r_run J 1 (pc' := 13) (lv' := [(0, vR 1), (1, vI x1), (2, vI x2), (3, vI x3)]) (st' := [vI x2, vR 2]) rfl ?_
    refine r_callV J (As := [vI x2]) (st := []) (fun r hr => c_X5_at x2 σ M N hL r hr) cls5 (ly_2 hL) wm_11_106 wy_X5_at wd_X5_at ⟨by decide, by decide, by decide, by decide, Nat.le_of_ble_eq_true rfl⟩ rfl rfl (fun q13 hq13 => ?_)
    show g_H E 0 0 16 [(0, vR 1), (1, vI x1), (2, vI x2), (3, vI x3)] [vR q13] (σ, M, N) _ _
    refine r_ifnull J (tgt := 31) rfl (by decide) (fun c16 => ?_) (fun c16 => ?_)
    · refine r_run J 1 (pc' := 32) (lv' := [(0, vR 1), (1, vI x1), (2, vI x2), (3, vI x3)]) (st' := [vI (-1)]) rfl ?_
      exact r_iret J rfl rfl rfl rfl (by decide) (by decide)
    · refine r_run J 3 (pc' := 22) (lv' := [(0, vR 1), (1, vI x1), (2, vI x2), (3, vI x3)]) (st' := [vR 1, vI 0, vI x3]) rfl ?_
      refine r_getI J cls11 rfl (k := 10) (by decide) wf_11_71 rfl (ly_1 hL) ?_
      show g_H E 0 0 25 [(0, vR 1), (1, vI x1), (2, vI x2), (3, vI x3)] [vI (M 1 10), vI 0, vI x3] (σ, M, N) _ _
      refine r_callS J (As := [vI x3, vI 0, vI (M 1 10)]) (st := []) (fun r hr => c_X11_isWithin x3 0 (M 1 10) σ M N hL r hr) wm_11_86 wy_X11_isWithin wd_X11_isWithin ⟨by decide, by decide, by decide, by decide, Nat.le_of_ble_eq_true rfl⟩ rfl rfl (fun q25 hq25 => ?_)
      show g_H E 0 0 28 [(0, vR 1), (1, vI x1), (2, vI x2), (3, vI x3)] [vI q25] (σ, M, N) _ _
      refine r_if_ne J (tgt := 33) rfl (by decide) (fun c28 => ?_) (fun c28 => ?_)
      · refine r_run J 1 (pc' := 32) (lv' := [(0, vR 1), (1, vI x1), (2, vI x2), (3, vI x3)]) (st' := [vI (-1)]) rfl ?_
        exact r_iret J rfl rfl rfl rfl (by decide) (by decide)
      · refine r_run J 1 (pc' := 34) (lv' := [(0, vR 1), (1, vI x1), (2, vI x2), (3, vI x3)]) (st' := [vR 1]) rfl ?_
        refine r_getR J cls11 rfl (k := 2) (t := 4) (by decide) wf_11_25 rfl rfl (ly_1 hL) (lr_1_2 hL) (fun _ => ?_)
        show g_H E 0 0 37 [(0, vR 1), (1, vI x1), (2, vI x2), (3, vI x3)] [vR 5] (σ, M, N) _ _
        refine r_run J 3 (pc' := 40) (lv' := [(0, vR 1), (1, vI x1), (2, vI x2), (3, vI x3)]) (st' := [vI x3, vI x2, vI x1, vR 5]) rfl ?_
        refine r_callV J (As := [vI x1, vI x2, vI x3]) (st := []) (fun r hr => c_X4_latest x1 x2 x3 σ M N hL r hr) cls4 (ly_5 hL) wm_11_204 wy_X4_latest wd_X4_latest ⟨by decide, by decide, by decide, by decide, Nat.le_of_ble_eq_true rfl⟩ rfl rfl (fun q40 hq40 => ?_)
        show g_H E 0 0 43 [(0, vR 1), (1, vI x1), (2, vI x2), (3, vI x3)] [vI q40] (σ, M, N) _ _
        exact r_iret J rfl rfl rfl rfl (by decide) (by decide)
theorem c_X11_listed {l : Launch} (x1 : Int32) (x2 : Int32) (x3 : Int32) (σ : gS) (M : gM) (N : gN) (hL : g_layC σ) (r : Int32) (h : f_X11_listed x1 x2 x3 σ M = some r) : g_Ct l yX11_listed cX11_listed 4 (some .int) 3 0 0 [vR 1, vI x1, vI x2, vI x3] (σ, M, N) (eI σ M N r) :=
  g_Ct.of tb_X11_listed (by decide +kernel) tk_X11_listed (Nat.le_of_ble_eq_true rfl) (fun E J => p_X11_listed_0 J x1 x2 x3 σ M N hL r h)
def tb_X11_feed : gT := [(0, .aload_n 0, 1, 0), (1, .getfield 32, 3, 0), (4, .lload_n 1, 1, 0), (5, .invokevirtual 208, 3, 0), (8, .aload_n 0, 1, 0), (9, .getfield 32, 3, 0), (12, .lload_n 3, 1, 0), (13, .invokevirtual 208, 3, 0), (16, .aload_n 0, 1, 0), (17, .getfield 32, 3, 0), (20, .lload 5, 2, 0), (22, .invokevirtual 208, 3, 0), (25, .aload_n 0, 1, 0), (26, .getfield 32, 3, 0), (29, .getfield 212, 3, 0), (32, .ireturn, 1, 0)]
set_option maxRecDepth 100000 in
theorem tk_X11_feed : g_okT cX11_feed tb_X11_feed = true := by decide +kernel
abbrev J_X11_feed (E : gE) (l : Launch) : Prop := g_J E cX11_feed RX11 "feed" (some .int) 7 tb_X11_feed 2 0 0 l
set_option maxHeartbeats 4000000 in
set_option maxRecDepth 100000 in
theorem p_X11_feed_0 {l : Launch} {E : gE} (J : J_X11_feed E l) (y1 : Int64) (y3 : Int64) (y5 : Int64) (σ : gS) (M : gM) (N : gN) (hL : g_layC σ) : g_H E 0 0 0 [(0, vR 1), (1, vL y1), (3, vL y3), (5, vL y5)] [] (σ, M, N) (b_X11_feed_0 y1 y3 y5 σ M) (eIM σ N) := by
  unfold b_X11_feed_0
  refine r_run J 1 (pc' := 1) (lv' := [(0, vR 1), (1, vL y1), (3, vL y3), (5, vL y5)]) (st' := [vR 1]) rfl ?_
  refine r_getR J cls11 rfl (k := 3) (t := 7) (by decide) wf_11_32 rfl rfl (ly_1 hL) (lr_1_3 hL) (fun _ => ?_)
  show g_H E 0 0 4 [(0, vR 1), (1, vL y1), (3, vL y3), (5, vL y5)] [vR 7] (σ, M, N) _ _
  refine r_run J 1 (pc' := 5) (lv' := [(0, vR 1), (1, vL y1), (3, vL y3), (5, vL y5)]) (st' := [vL y1, vR 7]) rfl ?_
  refine r_callV J (As := [vL y1]) (st := []) (fun r hr => c_X7_take y1 σ M N hL r hr) cls7 (ly_7 hL) wm_11_208 wy_X7_take wd_X7_take ⟨by decide, by decide, by decide, by decide, Nat.le_of_ble_eq_true rfl⟩ rfl rfl (fun q5 hq5 => ?_)
  show g_H E 0 0 8 [(0, vR 1), (1, vL y1), (3, vL y3), (5, vL y5)] [] (σ, q5, N) _ _
  refine r_run J 1 (pc' := 9) (lv' := [(0, vR 1), (1, vL y1), (3, vL y3), (5, vL y5)]) (st' := [vR 1]) rfl ?_
  refine r_getR J cls11 rfl (k := 3) (t := 7) (by decide) wf_11_32 rfl rfl (ly_1 hL) (lr_1_3 hL) (fun _ => ?_)
  show g_H E 0 0 12 [(0, vR 1), (1, vL y1), (3, vL y3), (5, vL y5)] [vR 7] (σ, q5, N) _ _
  refine r_run J 1 (pc' := 13) (lv' := [(0, vR 1), (1, vL y1), (3, vL y3), (5, vL y5)]) (st' := [vL y3, vR 7]) rfl ?_
  refine r_callV J (As := [vL y3]) (st := []) (fun r hr => c_X7_take y3 σ q5 N hL r hr) cls7 (ly_7 hL) wm_11_208 wy_X7_take wd_X7_take ⟨by decide, by decide, by decide, by decide, Nat.le_of_ble_eq_true rfl⟩ rfl rfl (fun q13 hq13 => ?_)
  show g_H E 0 0 16 [(0, vR 1), (1, vL y1), (3, vL y3), (5, vL y5)] [] (σ, q13, N) _ _
  refine r_run J 1 (pc' := 17) (lv' := [(0, vR 1), (1, vL y1), (3, vL y3), (5, vL y5)]) (st' := [vR 1]) rfl ?_
  refine r_getR J cls11 rfl (k := 3) (t := 7) (by decide) wf_11_32 rfl rfl (ly_1 hL) (lr_1_3 hL) (fun _ => ?_)
  show g_H E 0 0 20 [(0, vR 1), (1, vL y1), (3, vL y3), (5, vL y5)] [vR 7] (σ, q13, N) _ _
  refine r_run J 1 (pc' := 22) (lv' := [(0, vR 1), (1, vL y1), (3, vL y3), (5, vL y5)]) (st' := [vL y5, vR 7]) rfl ?_
  refine r_callV J (As := [vL y5]) (st := []) (fun r hr => c_X7_take y5 σ q13 N hL r hr) cls7 (ly_7 hL) wm_11_208 wy_X7_take wd_X7_take ⟨by decide, by decide, by decide, by decide, Nat.le_of_ble_eq_true rfl⟩ rfl rfl (fun q22 hq22 => ?_)
  show g_H E 0 0 25 [(0, vR 1), (1, vL y1), (3, vL y3), (5, vL y5)] [] (σ, q22, N) _ _
  refine r_run J 1 (pc' := 26) (lv' := [(0, vR 1), (1, vL y1), (3, vL y3), (5, vL y5)]) (st' := [vR 1]) rfl ?_
  refine r_getR J cls11 rfl (k := 3) (t := 7) (by decide) wf_11_32 rfl rfl (ly_1 hL) (lr_1_3 hL) (fun _ => ?_)
  show g_H E 0 0 29 [(0, vR 1), (1, vL y1), (3, vL y3), (5, vL y5)] [vR 7] (σ, q22, N) _ _
  refine r_getI J cls7 rfl (k := 6) (by decide) wf_11_212 rfl (ly_7 hL) ?_
  show g_H E 0 0 32 [(0, vR 1), (1, vL y1), (3, vL y3), (5, vL y5)] [vI (q22 7 6)] (σ, q22, N) _ _
  exact r_iret J rfl rfl rfl rfl (by decide) (by decide)
theorem c_X11_feed {l : Launch} (y1 : Int64) (y3 : Int64) (y5 : Int64) (σ : gS) (M : gM) (N : gN) (hL : g_layC σ) (r : Int32 × gM) (h : f_X11_feed y1 y3 y5 σ M = some r) : g_Ct l yX11_feed cX11_feed 7 (some .int) 2 0 0 [vR 1, vL y1, vL y3, vL y5] (σ, M, N) (eIM σ N r) :=
  g_Ct.of tb_X11_feed (by decide +kernel) tk_X11_feed (Nat.le_of_ble_eq_true rfl) (fun E J => p_X11_feed_0 J y1 y3 y5 σ M N hL r h)
def tb_X11_read : gT := [(0, .aload_n 0, 1, 0), (1, .iload_n 1, 1, 0), (2, .invokevirtual 193, 3, 0), (5, .astore_n 2, 1, 0), (6, .aload_n 2, 1, 0), (7, .ifnonnull 5, 3, 0), (10, .iconst (-1), 1, (-1)), (11, .ireturn, 1, 0), (12, .aload_n 0, 1, 0), (13, .getfield 32, 3, 0), (16, .invokevirtual 215, 3, 0), (19, .istore_n 3, 1, 0), (20, .iload_n 3, 1, 0), (21, .ifCond .ne 14, 3, 0), (24, .aload_n 2, 1, 0), (25, .getfield 219, 3, 0), (28, .aload_n 0, 1, 0), (29, .getfield 32, 3, 0), (32, .invokevirtual 223, 3, 0), (35, .iload_n 3, 1, 0), (36, .ireturn, 1, 0)]
set_option maxRecDepth 100000 in
theorem tk_X11_read : g_okT cX11_read tb_X11_read = true := by decide +kernel
abbrev J_X11_read (E : gE) (l : Launch) : Prop := g_J E cX11_read RX11 "read" (some .int) 4 tb_X11_read 69 1 400 l
set_option maxHeartbeats 4000000 in
set_option maxRecDepth 100000 in
theorem p_X11_read_0 {l : Launch} {E : gE} (J : J_X11_read E l) (x1 : Int32) (σ : gS) (M : gM) (N : gN) (hL : g_layC σ) : g_H E 0 0 0 [(0, vR 1), (1, vI x1)] [] (σ, M, N) (b_X11_read_0 x1 σ M N) (eISMN) := by
  unfold b_X11_read_0
  refine r_run J 2 (pc' := 2) (lv' := [(0, vR 1), (1, vI x1)]) (st' := [vI x1, vR 1]) rfl ?_
  refine r_callV J (As := [vI x1]) (st := []) (fun r hr => c_X11_townAt x1 σ M N hL r hr) cls11 (ly_1 hL) wm_11_193 wy_X11_townAt wd_X11_townAt ⟨by decide, by decide, by decide, by decide, Nat.le_of_ble_eq_true rfl⟩ rfl rfl (fun q2 hq2 => ?_)
  show g_H E 0 0 5 [(0, vR 1), (1, vI x1)] [vR q2] (σ, M, N) _ _
  refine r_run J 2 (pc' := 7) (lv' := [(2, vR q2), (0, vR 1), (1, vI x1)]) (st' := [vR q2]) rfl ?_
  refine r_ifnonnull J (tgt := 12) rfl (by decide) (fun c7 => ?_) (fun c7 => ?_)
  · refine r_run J 1 (pc' := 11) (lv' := [(2, vR q2), (0, vR 1), (1, vI x1)]) (st' := [vI (-1)]) rfl ?_
    exact r_iret J rfl rfl rfl rfl (by decide) (by decide)
  · refine r_run J 1 (pc' := 13) (lv' := [(2, vR q2), (0, vR 1), (1, vI x1)]) (st' := [vR 1]) rfl ?_
    refine r_getR J cls11 rfl (k := 3) (t := 7) (by decide) wf_11_32 rfl rfl (ly_1 hL) (lr_1_3 hL) (fun _ => ?_)
    show g_H E 0 0 16 [(2, vR q2), (0, vR 1), (1, vI x1)] [vR 7] (σ, M, N) _ _
    refine r_callV J (As := []) (st := []) (fun r hr => c_X7_readText σ M N hL r hr) cls7 (ly_7 hL) wm_11_215 wy_X7_readText wd_X7_readText ⟨by decide, by decide, by decide, by decide, Nat.le_of_ble_eq_true rfl⟩ rfl rfl (fun q16 hq16 => ?_)
    show g_H E 0 0 19 [(2, vR q2), (0, vR 1), (1, vI x1)] [vI q16.1] (σ, q16.2, N) _ _
    refine r_run J 2 (pc' := 21) (lv' := [(3, vI q16.1), (2, vR q2), (0, vR 1), (1, vI x1)]) (st' := [vI q16.1]) rfl ?_
    refine r_if_ne J (tgt := 35) rfl (by decide) (fun c21 => ?_) (fun c21 => ?_)
    · refine r_run J 1 (pc' := 25) (lv' := [(3, vI q16.1), (2, vR q2), (0, vR 1), (1, vI x1)]) (st' := [vR q2]) rfl ?_
      refine r_chk (fun hs25 => ?_)
      refine r_getR J cls10 rfl (k := 5) (t := 2) (by decide) wf_11_219 rfl rfl (g_is_at hs25) rfl (fun _ => ?_)
      show g_H E 0 0 28 [(3, vI q16.1), (2, vR q2), (0, vR 1), (1, vI x1)] [vR (σ.2 q2 5)] (σ, q16.2, N) _ _
      refine r_run J 1 (pc' := 29) (lv' := [(3, vI q16.1), (2, vR q2), (0, vR 1), (1, vI x1)]) (st' := [vR 1, vR (σ.2 q2 5)]) rfl ?_
      refine r_getR J cls11 rfl (k := 3) (t := 7) (by decide) wf_11_32 rfl rfl (ly_1 hL) (lr_1_3 hL) (fun _ => ?_)
      show g_H E 0 0 32 [(3, vI q16.1), (2, vR q2), (0, vR 1), (1, vI x1)] [vR 7, vR (σ.2 q2 5)] (σ, q16.2, N) _ _
      refine r_chk (fun hs32 => ?_)
      refine r_callV J (As := [vR 7]) (st := []) (fun r hr => c_X2_take (σ.2 q2 5) σ q16.2 N hL r hr) cls2 (g_is_at hs32) wm_11_223 wy_X2_take wd_X2_take ⟨by decide, by decide, by decide, by decide, Nat.le_of_ble_eq_true rfl⟩ rfl rfl (fun q32 hq32 => ?_)
      show g_H E 1 400 35 [(3, vI q16.1), (2, vR q2), (0, vR 1), (1, vI x1)] [] (q32.1, q32.2.1, q32.2.2) _ _
      refine r_chk (fun hl35 => ?_)
      refine r_run J 1 (pc' := 36) (lv' := [(3, vI q16.1), (2, vR q2), (0, vR 1), (1, vI x1)]) (st' := [vI q16.1]) rfl ?_
      exact r_iret J rfl rfl rfl rfl (by decide) (by decide)
    · refine r_run J 1 (pc' := 36) (lv' := [(3, vI q16.1), (2, vR q2), (0, vR 1), (1, vI x1)]) (st' := [vI q16.1]) rfl ?_
      exact r_iret J rfl rfl rfl rfl (by decide) (by decide)
theorem c_X11_read {l : Launch} (x1 : Int32) (σ : gS) (M : gM) (N : gN) (hL : g_layC σ) (r : Int32 × gS × gM × gN) (h : f_X11_read x1 σ M N = some r) : g_Ct l yX11_read cX11_read 4 (some .int) 69 1 400 [vR 1, vI x1] (σ, M, N) (eISMN r) :=
  g_Ct.of tb_X11_read (by decide +kernel) tk_X11_read (Nat.le_of_ble_eq_true rfl) (fun E J => p_X11_read_0 J x1 σ M N hL r h)
def tb_X11_learnFacts : gT := [(0, .aload_n 0, 1, 0), (1, .getfield 74, 3, 0), (4, .aload_n 1, 1, 0), (5, .getfield 304, 3, 0), (8, .iadd, 1, 0), (9, .aload_n 0, 1, 0), (10, .getfield 71, 3, 0), (13, .isub, 1, 0), (14, .istore_n 2, 1, 0), (15, .aload_n 1, 1, 0), (16, .invokevirtual 310, 3, 0), (19, .invokestatic 313, 3, 0), (22, .istore_n 3, 1, 0), (23, .aload_n 1, 1, 0), (24, .getfield 219, 3, 0), (27, .iload_n 2, 1, 0), (28, .aload_n 1, 1, 0), (29, .invokevirtual 307, 3, 0), (32, .iload_n 3, 1, 0), (33, .aload_n 1, 1, 0), (34, .invokevirtual 318, 3, 0), (37, .aload_n 0, 1, 0), (38, .getfield 77, 3, 0), (41, .invokevirtual 367, 3, 0), (44, .return_, 1, 0)]
set_option maxRecDepth 100000 in
theorem tk_X11_learnFacts : g_okT cX11_learnFacts tb_X11_learnFacts = true := by decide +kernel
abbrev J_X11_learnFacts (E : gE) (l : Launch) : Prop := g_J E cX11_learnFacts RX11 "learnFacts" none 4 tb_X11_learnFacts 3 0 0 l
set_option maxHeartbeats 4000000 in
set_option maxRecDepth 100000 in
theorem p_X11_learnFacts_0 {l : Launch} {E : gE} (J : J_X11_learnFacts E l) (r1 : Nat) (σ : gS) (M : gM) (N : gN) (hL : g_layC σ) : g_H E 0 0 0 [(0, vR 1), (1, vR r1)] [] (σ, M, N) (b_X11_learnFacts_0 r1 σ M) (eVM σ N) := by
  unfold b_X11_learnFacts_0
  refine r_run J 1 (pc' := 1) (lv' := [(0, vR 1), (1, vR r1)]) (st' := [vR 1]) rfl ?_
  refine r_getI J cls11 rfl (k := 11) (by decide) wf_11_74 rfl (ly_1 hL) ?_
  show g_H E 0 0 4 [(0, vR 1), (1, vR r1)] [vI (M 1 11)] (σ, M, N) _ _
  refine r_run J 1 (pc' := 5) (lv' := [(0, vR 1), (1, vR r1)]) (st' := [vR r1, vI (M 1 11)]) rfl ?_
  refine r_chk (fun hs5 => ?_)
  refine r_getI J cls10 rfl (k := 2) (by decide) wf_11_304 rfl (g_is_at hs5) ?_
  show g_H E 0 0 8 [(0, vR 1), (1, vR r1)] [vI (M r1 2), vI (M 1 11)] (σ, M, N) _ _
  refine r_run J 2 (pc' := 10) (lv' := [(0, vR 1), (1, vR r1)]) (st' := [vR 1, vI ((M 1 11) + (M r1 2))]) rfl ?_
  refine r_getI J cls11 rfl (k := 10) (by decide) wf_11_71 rfl (ly_1 hL) ?_
  show g_H E 0 0 13 [(0, vR 1), (1, vR r1)] [vI (M 1 10), vI ((M 1 11) + (M r1 2))] (σ, M, N) _ _
  refine r_run J 3 (pc' := 16) (lv' := [(2, vI (((M 1 11) + (M r1 2)) - (M 1 10))), (0, vR 1), (1, vR r1)]) (st' := [vR r1]) rfl ?_
  refine r_callV J (As := []) (st := []) (fun r hr => c_X10_usedRooms r1 σ M N hL r hr) cls10 (g_is_at hs5) wm_11_310 wy_X10_usedRooms wd_X10_usedRooms ⟨by decide, by decide, by decide, by decide, Nat.le_of_ble_eq_true rfl⟩ rfl rfl (fun q16 hq16 => ?_)
  show g_H E 0 0 19 [(2, vI (((M 1 11) + (M r1 2)) - (M 1 10))), (0, vR 1), (1, vR r1)] [vI q16] (σ, M, N) _ _
  refine r_callS J (As := [vI q16]) (st := []) (fun r hr => c_J_bitCount q16 σ M N r hr) wm_11_313 wy_J_bitCount wd_J_bitCount ⟨by decide, by decide, by decide, by decide, Nat.le_of_ble_eq_true rfl⟩ rfl rfl (fun q19 hq19 => ?_)
  show g_H E 0 0 22 [(2, vI (((M 1 11) + (M r1 2)) - (M 1 10))), (0, vR 1), (1, vR r1)] [vI q19] (σ, M, N) _ _
  refine r_run J 2 (pc' := 24) (lv' := [(3, vI q19), (2, vI (((M 1 11) + (M r1 2)) - (M 1 10))), (0, vR 1), (1, vR r1)]) (st' := [vR r1]) rfl ?_
  refine r_getR J cls10 rfl (k := 5) (t := 2) (by decide) wf_11_219 rfl rfl (g_is_at hs5) rfl (fun _ => ?_)
  show g_H E 0 0 27 [(3, vI q19), (2, vI (((M 1 11) + (M r1 2)) - (M 1 10))), (0, vR 1), (1, vR r1)] [vR (σ.2 r1 5)] (σ, M, N) _ _
  refine r_run J 2 (pc' := 29) (lv' := [(3, vI q19), (2, vI (((M 1 11) + (M r1 2)) - (M 1 10))), (0, vR 1), (1, vR r1)]) (st' := [vR r1, vI (((M 1 11) + (M r1 2)) - (M 1 10)), vR (σ.2 r1 5)]) rfl ?_
  refine r_callV J (As := []) (st := [vI (((M 1 11) + (M r1 2)) - (M 1 10)), vR (σ.2 r1 5)]) (fun r hr => c_X10_heldRooms r1 σ M N hL r hr) cls10 (g_is_at hs5) wm_11_307 wy_X10_heldRooms wd_X10_heldRooms ⟨by decide, by decide, by decide, by decide, Nat.le_of_ble_eq_true rfl⟩ rfl rfl (fun q29 hq29 => ?_)
  show g_H E 0 0 32 [(3, vI q19), (2, vI (((M 1 11) + (M r1 2)) - (M 1 10))), (0, vR 1), (1, vR r1)] [vI q29, vI (((M 1 11) + (M r1 2)) - (M 1 10)), vR (σ.2 r1 5)] (σ, M, N) _ _
  refine r_run J 2 (pc' := 34) (lv' := [(3, vI q19), (2, vI (((M 1 11) + (M r1 2)) - (M 1 10))), (0, vR 1), (1, vR r1)]) (st' := [vR r1, vI q19, vI q29, vI (((M 1 11) + (M r1 2)) - (M 1 10)), vR (σ.2 r1 5)]) rfl ?_
  refine r_callV J (As := []) (st := [vI q19, vI q29, vI (((M 1 11) + (M r1 2)) - (M 1 10)), vR (σ.2 r1 5)]) (fun r hr => c_X10_guests r1 σ M N hL r hr) cls10 (g_is_at hs5) wm_11_318 wy_X10_guests wd_X10_guests ⟨by decide, by decide, by decide, by decide, Nat.le_of_ble_eq_true rfl⟩ rfl rfl (fun q34 hq34 => ?_)
  show g_H E 0 0 37 [(3, vI q19), (2, vI (((M 1 11) + (M r1 2)) - (M 1 10))), (0, vR 1), (1, vR r1)] [vI q34, vI q19, vI q29, vI (((M 1 11) + (M r1 2)) - (M 1 10)), vR (σ.2 r1 5)] (σ, M, N) _ _
  refine r_run J 1 (pc' := 38) (lv' := [(3, vI q19), (2, vI (((M 1 11) + (M r1 2)) - (M 1 10))), (0, vR 1), (1, vR r1)]) (st' := [vR 1, vI q34, vI q19, vI q29, vI (((M 1 11) + (M r1 2)) - (M 1 10)), vR (σ.2 r1 5)]) rfl ?_
  refine r_getI J cls11 rfl (k := 12) (by decide) wf_11_77 rfl (ly_1 hL) ?_
  show g_H E 0 0 41 [(3, vI q19), (2, vI (((M 1 11) + (M r1 2)) - (M 1 10))), (0, vR 1), (1, vR r1)] [vI (M 1 12), vI q34, vI q19, vI q29, vI (((M 1 11) + (M r1 2)) - (M 1 10)), vR (σ.2 r1 5)] (σ, M, N) _ _
  refine r_chk (fun hs41 => ?_)
  refine r_callV J (As := [vI (((M 1 11) + (M r1 2)) - (M 1 10)), vI q29, vI q19, vI q34, vI (M 1 12)]) (st := []) (fun r hr => c_X2_learn (σ.2 r1 5) (((M 1 11) + (M r1 2)) - (M 1 10)) q29 q19 q34 (M 1 12) σ M N hL r hr) cls2 (g_is_at hs41) wm_11_367 wy_X2_learn wd_X2_learn ⟨by decide, by decide, by decide, by decide, Nat.le_of_ble_eq_true rfl⟩ rfl rfl (fun q41 hq41 => ?_)
  show g_H E 0 0 44 [(3, vI q19), (2, vI (((M 1 11) + (M r1 2)) - (M 1 10))), (0, vR 1), (1, vR r1)] [] (σ, q41, N) _ _
  exact r_vret J rfl rfl rfl (by decide) (by decide)
theorem c_X11_learnFacts {l : Launch} (r1 : Nat) (σ : gS) (M : gM) (N : gN) (hL : g_layC σ) (r : gM) (h : f_X11_learnFacts r1 σ M = some r) : g_Ct l yX11_learnFacts cX11_learnFacts 4 none 3 0 0 [vR 1, vR r1] (σ, M, N) (eVM σ N r) :=
  g_Ct.of tb_X11_learnFacts (by decide +kernel) tk_X11_learnFacts (Nat.le_of_ble_eq_true rfl) (fun E J => p_X11_learnFacts_0 J r1 σ M N hL r h)
def tb_X11_worthNow : gT := [(0, .aload_n 0, 1, 0), (1, .aload_n 1, 1, 0), (2, .invokevirtual 371, 3, 0), (5, .aload_n 1, 1, 0), (6, .getfield 219, 3, 0), (9, .iload_n 2, 1, 0), (10, .invokevirtual 375, 3, 0), (13, .ireturn, 1, 0)]
set_option maxRecDepth 100000 in
theorem tk_X11_worthNow : g_okT cX11_worthNow tb_X11_worthNow = true := by decide +kernel
abbrev J_X11_worthNow (E : gE) (l : Launch) : Prop := g_J E cX11_worthNow RX11 "worthNow" (some .int) 3 tb_X11_worthNow 4 0 0 l
set_option maxHeartbeats 4000000 in
set_option maxRecDepth 100000 in
theorem p_X11_worthNow_0 {l : Launch} {E : gE} (J : J_X11_worthNow E l) (r1 : Nat) (x2 : Int32) (σ : gS) (M : gM) (N : gN) (hL : g_layC σ) : g_H E 0 0 0 [(0, vR 1), (1, vR r1), (2, vI x2)] [] (σ, M, N) (b_X11_worthNow_0 r1 x2 σ M) (eIM σ N) := by
  unfold b_X11_worthNow_0
  refine r_run J 2 (pc' := 2) (lv' := [(0, vR 1), (1, vR r1), (2, vI x2)]) (st' := [vR r1, vR 1]) rfl ?_
  refine r_callV J (As := [vR r1]) (st := []) (fun r hr => c_X11_learnFacts r1 σ M N hL r hr) cls11 (ly_1 hL) wm_11_371 wy_X11_learnFacts wd_X11_learnFacts ⟨by decide, by decide, by decide, by decide, Nat.le_of_ble_eq_true rfl⟩ rfl rfl (fun q2 hq2 => ?_)
  show g_H E 0 0 5 [(0, vR 1), (1, vR r1), (2, vI x2)] [] (σ, q2, N) _ _
  refine r_run J 1 (pc' := 6) (lv' := [(0, vR 1), (1, vR r1), (2, vI x2)]) (st' := [vR r1]) rfl ?_
  refine r_chk (fun hs6 => ?_)
  refine r_getR J cls10 rfl (k := 5) (t := 2) (by decide) wf_11_219 rfl rfl (g_is_at hs6) rfl (fun _ => ?_)
  show g_H E 0 0 9 [(0, vR 1), (1, vR r1), (2, vI x2)] [vR (σ.2 r1 5)] (σ, q2, N) _ _
  refine r_run J 1 (pc' := 10) (lv' := [(0, vR 1), (1, vR r1), (2, vI x2)]) (st' := [vI x2, vR (σ.2 r1 5)]) rfl ?_
  refine r_chk (fun hs10 => ?_)
  refine r_callV J (As := [vI x2]) (st := []) (fun r hr => c_X2_worthOf (σ.2 r1 5) x2 σ q2 N hL r hr) cls2 (g_is_at hs10) wm_11_375 wy_X2_worthOf wd_X2_worthOf ⟨by decide, by decide, by decide, by decide, Nat.le_of_ble_eq_true rfl⟩ rfl rfl (fun q10 hq10 => ?_)
  show g_H E 0 0 13 [(0, vR 1), (1, vR r1), (2, vI x2)] [vI q10.1] (σ, q10.2, N) _ _
  exact r_iret J rfl rfl rfl rfl (by decide) (by decide)
theorem c_X11_worthNow {l : Launch} (r1 : Nat) (x2 : Int32) (σ : gS) (M : gM) (N : gN) (hL : g_layC σ) (r : Int32 × gM) (h : f_X11_worthNow r1 x2 σ M = some r) : g_Ct l yX11_worthNow cX11_worthNow 3 (some .int) 4 0 0 [vR 1, vR r1, vI x2] (σ, M, N) (eIM σ N r) :=
  g_Ct.of tb_X11_worthNow (by decide +kernel) tk_X11_worthNow (Nat.le_of_ble_eq_true rfl) (fun E J => p_X11_worthNow_0 J r1 x2 σ M N hL r h)
def tb_X11_worth : gT := [(0, .aload_n 0, 1, 0), (1, .iload_n 1, 1, 0), (2, .invokevirtual 193, 3, 0), (5, .astore_n 3, 1, 0), (6, .aload_n 3, 1, 0), (7, .ifnull 12, 3, 0), (10, .iload_n 2, 1, 0), (11, .iconst 0, 1, 0), (12, .iconst 3, 1, 3), (13, .invokestatic 86, 3, 0), (16, .ifCond .ne 7, 3, 0), (19, .iconst (-1), 1, (-1)), (20, .goto 9, 3, 0), (23, .aload_n 0, 1, 0), (24, .aload_n 3, 1, 0), (25, .iload_n 2, 1, 0), (26, .invokevirtual 228, 3, 0), (29, .ireturn, 1, 0)]
set_option maxRecDepth 100000 in
theorem tk_X11_worth : g_okT cX11_worth tb_X11_worth = true := by decide +kernel
abbrev J_X11_worth (E : gE) (l : Launch) : Prop := g_J E cX11_worth RX11 "worth" (some .int) 4 tb_X11_worth 5 0 0 l
set_option maxHeartbeats 4000000 in
set_option maxRecDepth 100000 in
theorem p_X11_worth_19 {l : Launch} {E : gE} (J : J_X11_worth E l) (σ : gS) (M : gM) (N : gN) (hL : g_layC σ) : g_H E 0 0 19 [] [] (σ, M, N) (b_X11_worth_19 σ M) (eIM σ N) := by
  unfold b_X11_worth_19
  refine r_run J 2 (pc' := 29) (lv' := []) (st' := [vI (-1)]) rfl ?_
  exact r_iret J rfl rfl rfl rfl (by decide) (by decide)
set_option maxHeartbeats 4000000 in
set_option maxRecDepth 100000 in
theorem p_X11_worth_0 {l : Launch} {E : gE} (J : J_X11_worth E l) (x1 : Int32) (x2 : Int32) (σ : gS) (M : gM) (N : gN) (hL : g_layC σ) : g_H E 0 0 0 [(0, vR 1), (1, vI x1), (2, vI x2)] [] (σ, M, N) (b_X11_worth_0 x1 x2 σ M) (eIM σ N) := by
  unfold b_X11_worth_0
  refine r_run J 2 (pc' := 2) (lv' := [(0, vR 1), (1, vI x1), (2, vI x2)]) (st' := [vI x1, vR 1]) rfl ?_
  refine r_callV J (As := [vI x1]) (st := []) (fun r hr => c_X11_townAt x1 σ M N hL r hr) cls11 (ly_1 hL) wm_11_193 wy_X11_townAt wd_X11_townAt ⟨by decide, by decide, by decide, by decide, Nat.le_of_ble_eq_true rfl⟩ rfl rfl (fun q2 hq2 => ?_)
  show g_H E 0 0 5 [(0, vR 1), (1, vI x1), (2, vI x2)] [vR q2] (σ, M, N) _ _
  refine r_run J 2 (pc' := 7) (lv' := [(3, vR q2), (0, vR 1), (1, vI x1), (2, vI x2)]) (st' := [vR q2]) rfl ?_
  refine r_ifnull J (tgt := 19) rfl (by decide) (fun c7 => ?_) (fun c7 => ?_)
  · refine r_sub [] (lv' := []) rfl ?_
    exact p_X11_worth_19 J σ M N hL
  · refine r_run J 3 (pc' := 13) (lv' := [(3, vR q2), (0, vR 1), (1, vI x1), (2, vI x2)]) (st' := [vI 3, vI 0, vI x2]) rfl ?_
    refine r_callS J (As := [vI x2, vI 0, vI 3]) (st := []) (fun r hr => c_X11_isWithin x2 0 3 σ M N hL r hr) wm_11_86 wy_X11_isWithin wd_X11_isWithin ⟨by decide, by decide, by decide, by decide, Nat.le_of_ble_eq_true rfl⟩ rfl rfl (fun q13 hq13 => ?_)
    show g_H E 0 0 16 [(3, vR q2), (0, vR 1), (1, vI x1), (2, vI x2)] [vI q13] (σ, M, N) _ _
    refine r_if_ne J (tgt := 23) rfl (by decide) (fun c16 => ?_) (fun c16 => ?_)
    · refine r_sub [] (lv' := []) rfl ?_
      exact p_X11_worth_19 J σ M N hL
    · refine r_run J 3 (pc' := 26) (lv' := [(3, vR q2), (0, vR 1), (1, vI x1), (2, vI x2)]) (st' := [vI x2, vR q2, vR 1]) rfl ?_
      refine r_callV J (As := [vR q2, vI x2]) (st := []) (fun r hr => c_X11_worthNow q2 x2 σ M N hL r hr) cls11 (ly_1 hL) wm_11_228 wy_X11_worthNow wd_X11_worthNow ⟨by decide, by decide, by decide, by decide, Nat.le_of_ble_eq_true rfl⟩ rfl rfl (fun q26 hq26 => ?_)
      show g_H E 0 0 29 [(3, vR q2), (0, vR 1), (1, vI x1), (2, vI x2)] [vI q26.1] (σ, q26.2, N) _ _
      exact r_iret J rfl rfl rfl rfl (by decide) (by decide)
theorem c_X11_worth {l : Launch} (x1 : Int32) (x2 : Int32) (σ : gS) (M : gM) (N : gN) (hL : g_layC σ) (r : Int32 × gM) (h : f_X11_worth x1 x2 σ M = some r) : g_Ct l yX11_worth cX11_worth 4 (some .int) 5 0 0 [vR 1, vI x1, vI x2] (σ, M, N) (eIM σ N r) :=
  g_Ct.of tb_X11_worth (by decide +kernel) tk_X11_worth (Nat.le_of_ble_eq_true rfl) (fun E J => p_X11_worth_0 J x1 x2 σ M N hL r h)
def tb_X11_priceOfChange : gT := [(0, .aload_n 0, 1, 0), (1, .aload_n 1, 1, 0), (2, .iload_n 3, 1, 0), (3, .invokevirtual 228, 3, 0), (6, .aload_n 2, 1, 0), (7, .getfield 333, 3, 0), (10, .imul, 1, 0), (11, .aload_n 1, 1, 0), (12, .getfield 303, 3, 0), (15, .imul, 1, 0), (16, .istore 4, 2, 0), (18, .iload 4, 2, 0), (20, .bipush 99, 2, 99), (22, .iadd, 1, 0), (23, .bipush 100, 2, 100), (25, .idiv, 1, 0), (26, .istore 5, 2, 0), (28, .aload_n 0, 1, 0), (29, .dup, 1, 0), (30, .getfield 80, 3, 0), (33, .iload 5, 2, 0), (35, .iadd, 1, 0), (36, .putfield 80, 3, 0), (39, .iload 5, 2, 0), (41, .ireturn, 1, 0)]
set_option maxRecDepth 100000 in
theorem tk_X11_priceOfChange : g_okT cX11_priceOfChange tb_X11_priceOfChange = true := by decide +kernel
abbrev J_X11_priceOfChange (E : gE) (l : Launch) : Prop := g_J E cX11_priceOfChange RX11 "priceOfChange" (some .int) 6 tb_X11_priceOfChange 5 0 0 l
set_option maxHeartbeats 4000000 in
set_option maxRecDepth 100000 in
theorem p_X11_priceOfChange_0 {l : Launch} {E : gE} (J : J_X11_priceOfChange E l) (r1 : Nat) (r2 : Nat) (x3 : Int32) (σ : gS) (M : gM) (N : gN) (hL : g_layC σ) : g_H E 0 0 0 [(0, vR 1), (1, vR r1), (2, vR r2), (3, vI x3)] [] (σ, M, N) (b_X11_priceOfChange_0 r1 r2 x3 σ M) (eIM σ N) := by
  unfold b_X11_priceOfChange_0
  refine r_run J 3 (pc' := 3) (lv' := [(0, vR 1), (1, vR r1), (2, vR r2), (3, vI x3)]) (st' := [vI x3, vR r1, vR 1]) rfl ?_
  refine r_callV J (As := [vR r1, vI x3]) (st := []) (fun r hr => c_X11_worthNow r1 x3 σ M N hL r hr) cls11 (ly_1 hL) wm_11_228 wy_X11_worthNow wd_X11_worthNow ⟨by decide, by decide, by decide, by decide, Nat.le_of_ble_eq_true rfl⟩ rfl rfl (fun q3 hq3 => ?_)
  show g_H E 0 0 6 [(0, vR 1), (1, vR r1), (2, vR r2), (3, vI x3)] [vI q3.1] (σ, q3.2, N) _ _
  refine r_run J 1 (pc' := 7) (lv' := [(0, vR 1), (1, vR r1), (2, vR r2), (3, vI x3)]) (st' := [vR r2, vI q3.1]) rfl ?_
  refine r_chk (fun hs7 => ?_)
  refine r_getI J cls8 rfl (k := 2) (by decide) wf_11_333 rfl (g_is_at hs7) ?_
  show g_H E 0 0 10 [(0, vR 1), (1, vR r1), (2, vR r2), (3, vI x3)] [vI (q3.2 r2 2), vI q3.1] (σ, q3.2, N) _ _
  refine r_run J 2 (pc' := 12) (lv' := [(0, vR 1), (1, vR r1), (2, vR r2), (3, vI x3)]) (st' := [vR r1, vI (q3.1 * (q3.2 r2 2))]) rfl ?_
  refine r_chk (fun hs12 => ?_)
  refine r_getI J cls10 rfl (k := 1) (by decide) wf_11_303 rfl (g_is_at hs12) ?_
  show g_H E 0 0 15 [(0, vR 1), (1, vR r1), (2, vR r2), (3, vI x3)] [vI (q3.2 r1 1), vI (q3.1 * (q3.2 r2 2))] (σ, q3.2, N) _ _
  refine r_run J 6 (pc' := 25) (lv' := [(4, vI ((q3.1 * (q3.2 r2 2)) * (q3.2 r1 1))), (0, vR 1), (1, vR r1), (2, vR r2), (3, vI x3)]) (st' := [vI 100, vI (((q3.1 * (q3.2 r2 2)) * (q3.2 r1 1)) + (99 : Int32))]) rfl ?_
  refine r_idiv J rfl (fun c25 => ?_)
  refine r_run J 3 (pc' := 30) (lv' := [(5, vI ((((q3.1 * (q3.2 r2 2)) * (q3.2 r1 1)) + (99 : Int32)) / (100 : Int32))), (4, vI ((q3.1 * (q3.2 r2 2)) * (q3.2 r1 1))), (0, vR 1), (1, vR r1), (2, vR r2), (3, vI x3)]) (st' := [vR 1, vR 1]) rfl ?_
  refine r_getI J cls11 rfl (k := 13) (by decide) wf_11_80 rfl (ly_1 hL) ?_
  show g_H E 0 0 33 [(5, vI ((((q3.1 * (q3.2 r2 2)) * (q3.2 r1 1)) + (99 : Int32)) / (100 : Int32))), (4, vI ((q3.1 * (q3.2 r2 2)) * (q3.2 r1 1))), (0, vR 1), (1, vR r1), (2, vR r2), (3, vI x3)] [vI (q3.2 1 13), vR 1] (σ, q3.2, N) _ _
  refine r_run J 2 (pc' := 36) (lv' := [(5, vI ((((q3.1 * (q3.2 r2 2)) * (q3.2 r1 1)) + (99 : Int32)) / (100 : Int32))), (4, vI ((q3.1 * (q3.2 r2 2)) * (q3.2 r1 1))), (0, vR 1), (1, vR r1), (2, vR r2), (3, vI x3)]) (st' := [vI ((q3.2 1 13) + ((((q3.1 * (q3.2 r2 2)) * (q3.2 r1 1)) + (99 : Int32)) / (100 : Int32))), vR 1]) rfl ?_
  refine r_putI J cls11 rfl (k := 13) (by decide) wf_11_80 rfl (Or.inl rfl) ⟨rfl, rfl⟩ (ly_1 hL) ?_
  show g_H E 0 0 39 [(5, vI ((((q3.1 * (q3.2 r2 2)) * (q3.2 r1 1)) + (99 : Int32)) / (100 : Int32))), (4, vI ((q3.1 * (q3.2 r2 2)) * (q3.2 r1 1))), (0, vR 1), (1, vR r1), (2, vR r2), (3, vI x3)] [] (σ, (g_up q3.2 1 13 ((q3.2 1 13) + ((((q3.1 * (q3.2 r2 2)) * (q3.2 r1 1)) + (99 : Int32)) / (100 : Int32)))), N) _ _
  refine r_run J 1 (pc' := 41) (lv' := [(5, vI ((((q3.1 * (q3.2 r2 2)) * (q3.2 r1 1)) + (99 : Int32)) / (100 : Int32))), (4, vI ((q3.1 * (q3.2 r2 2)) * (q3.2 r1 1))), (0, vR 1), (1, vR r1), (2, vR r2), (3, vI x3)]) (st' := [vI ((((q3.1 * (q3.2 r2 2)) * (q3.2 r1 1)) + (99 : Int32)) / (100 : Int32))]) rfl ?_
  exact r_iret J rfl rfl rfl rfl (by decide) (by decide)
theorem c_X11_priceOfChange {l : Launch} (r1 : Nat) (r2 : Nat) (x3 : Int32) (σ : gS) (M : gM) (N : gN) (hL : g_layC σ) (r : Int32 × gM) (h : f_X11_priceOfChange r1 r2 x3 σ M = some r) : g_Ct l yX11_priceOfChange cX11_priceOfChange 6 (some .int) 5 0 0 [vR 1, vR r1, vR r2, vI x3] (σ, M, N) (eIM σ N r) :=
  g_Ct.of tb_X11_priceOfChange (by decide +kernel) tk_X11_priceOfChange (Nat.le_of_ble_eq_true rfl) (fun E J => p_X11_priceOfChange_0 J r1 r2 x3 σ M N hL r h)
def tb_X11_give : gT := [(0, .aload_n 0, 1, 0), (1, .iload_n 1, 1, 0), (2, .invokevirtual 142, 3, 0), (5, .astore_n 3, 1, 0), (6, .aload_n 3, 1, 0), (7, .ifnonnull 7, 3, 0), (10, .aconst_null, 1, 0), (11, .goto 8, 3, 0), (14, .aload_n 3, 1, 0), (15, .iload_n 2, 1, 0), (16, .invokevirtual 232, 3, 0), (19, .astore 4, 2, 0), (21, .aload 4, 2, 0), (23, .ifnull 19, 3, 0), (26, .aload 4, 2, 0), (28, .getfield 236, 3, 0), (31, .ifCond .eq 11, 3, 0), (34, .aload_n 3, 1, 0), (35, .iload_n 2, 1, 0), (36, .invokevirtual 239, 3, 0), (39, .ifCond .eq 5, 3, 0), (42, .iconst (-1), 1, (-1)), (43, .ireturn, 1, 0), (44, .aload_n 0, 1, 0), (45, .aload_n 3, 1, 0), (46, .aload 4, 2, 0), (48, .iconst 0, 1, 0), (49, .invokevirtual 242, 3, 0), (52, .istore 5, 2, 0), (54, .aload 4, 2, 0), (56, .iconst 0, 1, 0), (57, .putfield 236, 3, 0), (60, .iload 5, 2, 0), (62, .ireturn, 1, 0)]
set_option maxRecDepth 100000 in
theorem tk_X11_give : g_okT cX11_give tb_X11_give = true := by decide +kernel
abbrev J_X11_give (E : gE) (l : Launch) : Prop := g_J E cX11_give RX11 "give" (some .int) 6 tb_X11_give 6 0 0 l
set_option maxHeartbeats 4000000 in
set_option maxRecDepth 100000 in
theorem p_X11_give_19 {l : Launch} {E : gE} (J : J_X11_give E l) (x2 : Int32) (r3 : Nat) (sr0 : Nat) (σ : gS) (M : gM) (N : gN) (hL : g_layC σ) : g_H E 0 0 19 [(0, vR 1), (2, vI x2), (3, vR r3)] [vR sr0] (σ, M, N) (b_X11_give_19 x2 r3 sr0 σ M) (eIM σ N) := by
  unfold b_X11_give_19
  refine r_run J 2 (pc' := 23) (lv' := [(4, vR sr0), (0, vR 1), (2, vI x2), (3, vR r3)]) (st' := [vR sr0]) rfl ?_
  refine r_ifnull J (tgt := 42) rfl (by decide) (fun c23 => ?_) (fun c23 => ?_)
  · refine r_run J 1 (pc' := 43) (lv' := [(4, vR sr0), (0, vR 1), (2, vI x2), (3, vR r3)]) (st' := [vI (-1)]) rfl ?_
    exact r_iret J rfl rfl rfl rfl (by decide) (by decide)
  · refine r_run J 1 (pc' := 28) (lv' := [(4, vR sr0), (0, vR 1), (2, vI x2), (3, vR r3)]) (st' := [vR sr0]) rfl ?_
    refine r_chk (fun hs28 => ?_)
    refine r_getI J cls8 rfl (k := 3) (by decide) wf_11_236 rfl (g_is_at hs28) ?_
    show g_H E 0 0 31 [(4, vR sr0), (0, vR 1), (2, vI x2), (3, vR r3)] [vI (M sr0 3)] (σ, M, N) _ _
    refine r_if_eq J (tgt := 42) rfl (by decide) (fun c31 => ?_) (fun c31 => ?_)
    · refine r_run J 1 (pc' := 43) (lv' := [(4, vR sr0), (0, vR 1), (2, vI x2), (3, vR r3)]) (st' := [vI (-1)]) rfl ?_
      exact r_iret J rfl rfl rfl rfl (by decide) (by decide)
    · refine r_run J 2 (pc' := 36) (lv' := [(4, vR sr0), (0, vR 1), (2, vI x2), (3, vR r3)]) (st' := [vI x2, vR r3]) rfl ?_
      refine r_chk (fun hs36 => ?_)
      refine r_callV J (As := [vI x2]) (st := []) (fun r hr => c_X10_guestsOf r3 x2 σ M N hL r hr) cls10 (g_is_at hs36) wm_11_239 wy_X10_guestsOf wd_X10_guestsOf ⟨by decide, by decide, by decide, by decide, Nat.le_of_ble_eq_true rfl⟩ rfl rfl (fun q36 hq36 => ?_)
      show g_H E 0 0 39 [(4, vR sr0), (0, vR 1), (2, vI x2), (3, vR r3)] [vI q36] (σ, M, N) _ _
      refine r_if_eq J (tgt := 44) rfl (by decide) (fun c39 => ?_) (fun c39 => ?_)
      · refine r_run J 4 (pc' := 49) (lv' := [(4, vR sr0), (0, vR 1), (2, vI x2), (3, vR r3)]) (st' := [vI 0, vR sr0, vR r3, vR 1]) rfl ?_
        refine r_callV J (As := [vR r3, vR sr0, vI 0]) (st := []) (fun r hr => c_X11_priceOfChange r3 sr0 0 σ M N hL r hr) cls11 (ly_1 hL) wm_11_242 wy_X11_priceOfChange wd_X11_priceOfChange ⟨by decide, by decide, by decide, by decide, Nat.le_of_ble_eq_true rfl⟩ rfl rfl (fun q49 hq49 => ?_)
        show g_H E 0 0 52 [(4, vR sr0), (0, vR 1), (2, vI x2), (3, vR r3)] [vI q49.1] (σ, q49.2, N) _ _
        refine r_run J 3 (pc' := 57) (lv' := [(5, vI q49.1), (4, vR sr0), (0, vR 1), (2, vI x2), (3, vR r3)]) (st' := [vI 0, vR sr0]) rfl ?_
        refine r_putI J cls8 rfl (k := 3) (by decide) wf_11_236 rfl (Or.inl rfl) ⟨rfl, rfl⟩ (g_is_at hs28) ?_
        show g_H E 0 0 60 [(5, vI q49.1), (4, vR sr0), (0, vR 1), (2, vI x2), (3, vR r3)] [] (σ, (g_up q49.2 sr0 3 0), N) _ _
        refine r_run J 1 (pc' := 62) (lv' := [(5, vI q49.1), (4, vR sr0), (0, vR 1), (2, vI x2), (3, vR r3)]) (st' := [vI q49.1]) rfl ?_
        exact r_iret J rfl rfl rfl rfl (by decide) (by decide)
      · refine r_run J 1 (pc' := 43) (lv' := [(4, vR sr0), (0, vR 1), (2, vI x2), (3, vR r3)]) (st' := [vI (-1)]) rfl ?_
        exact r_iret J rfl rfl rfl rfl (by decide) (by decide)
set_option maxHeartbeats 4000000 in
set_option maxRecDepth 100000 in
theorem p_X11_give_0 {l : Launch} {E : gE} (J : J_X11_give E l) (x1 : Int32) (x2 : Int32) (σ : gS) (M : gM) (N : gN) (hL : g_layC σ) : g_H E 0 0 0 [(0, vR 1), (1, vI x1), (2, vI x2)] [] (σ, M, N) (b_X11_give_0 x1 x2 σ M) (eIM σ N) := by
  unfold b_X11_give_0
  refine r_run J 2 (pc' := 2) (lv' := [(0, vR 1), (1, vI x1), (2, vI x2)]) (st' := [vI x1, vR 1]) rfl ?_
  refine r_callV J (As := [vI x1]) (st := []) (fun r hr => c_X11_townThatLasts x1 σ M N hL r hr) cls11 (ly_1 hL) wm_11_142 wy_X11_townThatLasts wd_X11_townThatLasts ⟨by decide, by decide, by decide, by decide, Nat.le_of_ble_eq_true rfl⟩ rfl rfl (fun q2 hq2 => ?_)
  show g_H E 0 0 5 [(0, vR 1), (1, vI x1), (2, vI x2)] [vR q2] (σ, M, N) _ _
  refine r_run J 2 (pc' := 7) (lv' := [(3, vR q2), (0, vR 1), (1, vI x1), (2, vI x2)]) (st' := [vR q2]) rfl ?_
  refine r_ifnonnull J (tgt := 14) rfl (by decide) (fun c7 => ?_) (fun c7 => ?_)
  · refine r_run J 2 (pc' := 19) (lv' := [(3, vR q2), (0, vR 1), (1, vI x1), (2, vI x2)]) (st' := [vR 0]) rfl ?_
    refine r_sub [1, 3, 0] (lv' := [(0, vR 1), (2, vI x2), (3, vR q2)]) rfl ?_
    exact p_X11_give_19 J x2 q2 0 σ M N hL
  · refine r_run J 2 (pc' := 16) (lv' := [(3, vR q2), (0, vR 1), (1, vI x1), (2, vI x2)]) (st' := [vI x2, vR q2]) rfl ?_
    refine r_chk (fun hs16 => ?_)
    refine r_callV J (As := [vI x2]) (st := []) (fun r hr => c_X10_roomAt q2 x2 σ M N hL r hr) cls10 (g_is_at hs16) wm_11_232 wy_X10_roomAt wd_X10_roomAt ⟨by decide, by decide, by decide, by decide, Nat.le_of_ble_eq_true rfl⟩ rfl rfl (fun q16 hq16 => ?_)
    show g_H E 0 0 19 [(3, vR q2), (0, vR 1), (1, vI x1), (2, vI x2)] [vR q16] (σ, M, N) _ _
    refine r_sub [1, 3, 0] (lv' := [(0, vR 1), (2, vI x2), (3, vR q2)]) rfl ?_
    exact p_X11_give_19 J x2 q2 q16 σ M N hL
theorem c_X11_give {l : Launch} (x1 : Int32) (x2 : Int32) (σ : gS) (M : gM) (N : gN) (hL : g_layC σ) (r : Int32 × gM) (h : f_X11_give x1 x2 σ M = some r) : g_Ct l yX11_give cX11_give 6 (some .int) 6 0 0 [vR 1, vI x1, vI x2] (σ, M, N) (eIM σ N r) :=
  g_Ct.of tb_X11_give (by decide +kernel) tk_X11_give (Nat.le_of_ble_eq_true rfl) (fun E J => p_X11_give_0 J x1 x2 σ M N hL r h)
def tb_X11_buy : gT := [(0, .aload_n 0, 1, 0), (1, .iload_n 1, 1, 0), (2, .invokevirtual 142, 3, 0), (5, .astore_n 3, 1, 0), (6, .aload_n 3, 1, 0), (7, .ifnonnull 7, 3, 0), (10, .aconst_null, 1, 0), (11, .goto 8, 3, 0), (14, .aload_n 3, 1, 0), (15, .iload_n 2, 1, 0), (16, .invokevirtual 232, 3, 0), (19, .astore 4, 2, 0), (21, .aload 4, 2, 0), (23, .ifnull 11, 3, 0), (26, .aload 4, 2, 0), (28, .getfield 236, 3, 0), (31, .ifCond .eq 5, 3, 0), (34, .iconst (-1), 1, (-1)), (35, .ireturn, 1, 0), (36, .aload_n 0, 1, 0), (37, .aload_n 3, 1, 0), (38, .aload 4, 2, 0), (40, .iconst 1, 1, 1), (41, .invokevirtual 242, 3, 0), (44, .istore 5, 2, 0), (46, .aload 4, 2, 0), (48, .iconst 1, 1, 1), (49, .putfield 236, 3, 0), (52, .iload 5, 2, 0), (54, .ireturn, 1, 0)]
set_option maxRecDepth 100000 in
theorem tk_X11_buy : g_okT cX11_buy tb_X11_buy = true := by decide +kernel
abbrev J_X11_buy (E : gE) (l : Launch) : Prop := g_J E cX11_buy RX11 "buy" (some .int) 6 tb_X11_buy 6 0 0 l
set_option maxHeartbeats 4000000 in
set_option maxRecDepth 100000 in
theorem p_X11_buy_19 {l : Launch} {E : gE} (J : J_X11_buy E l) (r3 : Nat) (sr0 : Nat) (σ : gS) (M : gM) (N : gN) (hL : g_layC σ) : g_H E 0 0 19 [(0, vR 1), (3, vR r3)] [vR sr0] (σ, M, N) (b_X11_buy_19 r3 sr0 σ M) (eIM σ N) := by
  unfold b_X11_buy_19
  refine r_run J 2 (pc' := 23) (lv' := [(4, vR sr0), (0, vR 1), (3, vR r3)]) (st' := [vR sr0]) rfl ?_
  refine r_ifnull J (tgt := 34) rfl (by decide) (fun c23 => ?_) (fun c23 => ?_)
  · refine r_run J 1 (pc' := 35) (lv' := [(4, vR sr0), (0, vR 1), (3, vR r3)]) (st' := [vI (-1)]) rfl ?_
    exact r_iret J rfl rfl rfl rfl (by decide) (by decide)
  · refine r_run J 1 (pc' := 28) (lv' := [(4, vR sr0), (0, vR 1), (3, vR r3)]) (st' := [vR sr0]) rfl ?_
    refine r_chk (fun hs28 => ?_)
    refine r_getI J cls8 rfl (k := 3) (by decide) wf_11_236 rfl (g_is_at hs28) ?_
    show g_H E 0 0 31 [(4, vR sr0), (0, vR 1), (3, vR r3)] [vI (M sr0 3)] (σ, M, N) _ _
    refine r_if_eq J (tgt := 36) rfl (by decide) (fun c31 => ?_) (fun c31 => ?_)
    · refine r_run J 4 (pc' := 41) (lv' := [(4, vR sr0), (0, vR 1), (3, vR r3)]) (st' := [vI 1, vR sr0, vR r3, vR 1]) rfl ?_
      refine r_callV J (As := [vR r3, vR sr0, vI 1]) (st := []) (fun r hr => c_X11_priceOfChange r3 sr0 1 σ M N hL r hr) cls11 (ly_1 hL) wm_11_242 wy_X11_priceOfChange wd_X11_priceOfChange ⟨by decide, by decide, by decide, by decide, Nat.le_of_ble_eq_true rfl⟩ rfl rfl (fun q41 hq41 => ?_)
      show g_H E 0 0 44 [(4, vR sr0), (0, vR 1), (3, vR r3)] [vI q41.1] (σ, q41.2, N) _ _
      refine r_run J 3 (pc' := 49) (lv' := [(5, vI q41.1), (4, vR sr0), (0, vR 1), (3, vR r3)]) (st' := [vI 1, vR sr0]) rfl ?_
      refine r_putI J cls8 rfl (k := 3) (by decide) wf_11_236 rfl (Or.inl rfl) ⟨rfl, rfl⟩ (g_is_at hs28) ?_
      show g_H E 0 0 52 [(5, vI q41.1), (4, vR sr0), (0, vR 1), (3, vR r3)] [] (σ, (g_up q41.2 sr0 3 1), N) _ _
      refine r_run J 1 (pc' := 54) (lv' := [(5, vI q41.1), (4, vR sr0), (0, vR 1), (3, vR r3)]) (st' := [vI q41.1]) rfl ?_
      exact r_iret J rfl rfl rfl rfl (by decide) (by decide)
    · refine r_run J 1 (pc' := 35) (lv' := [(4, vR sr0), (0, vR 1), (3, vR r3)]) (st' := [vI (-1)]) rfl ?_
      exact r_iret J rfl rfl rfl rfl (by decide) (by decide)
set_option maxHeartbeats 4000000 in
set_option maxRecDepth 100000 in
theorem p_X11_buy_0 {l : Launch} {E : gE} (J : J_X11_buy E l) (x1 : Int32) (x2 : Int32) (σ : gS) (M : gM) (N : gN) (hL : g_layC σ) : g_H E 0 0 0 [(0, vR 1), (1, vI x1), (2, vI x2)] [] (σ, M, N) (b_X11_buy_0 x1 x2 σ M) (eIM σ N) := by
  unfold b_X11_buy_0
  refine r_run J 2 (pc' := 2) (lv' := [(0, vR 1), (1, vI x1), (2, vI x2)]) (st' := [vI x1, vR 1]) rfl ?_
  refine r_callV J (As := [vI x1]) (st := []) (fun r hr => c_X11_townThatLasts x1 σ M N hL r hr) cls11 (ly_1 hL) wm_11_142 wy_X11_townThatLasts wd_X11_townThatLasts ⟨by decide, by decide, by decide, by decide, Nat.le_of_ble_eq_true rfl⟩ rfl rfl (fun q2 hq2 => ?_)
  show g_H E 0 0 5 [(0, vR 1), (1, vI x1), (2, vI x2)] [vR q2] (σ, M, N) _ _
  refine r_run J 2 (pc' := 7) (lv' := [(3, vR q2), (0, vR 1), (1, vI x1), (2, vI x2)]) (st' := [vR q2]) rfl ?_
  refine r_ifnonnull J (tgt := 14) rfl (by decide) (fun c7 => ?_) (fun c7 => ?_)
  · refine r_run J 2 (pc' := 19) (lv' := [(3, vR q2), (0, vR 1), (1, vI x1), (2, vI x2)]) (st' := [vR 0]) rfl ?_
    refine r_sub [1, 0] (lv' := [(0, vR 1), (3, vR q2)]) rfl ?_
    exact p_X11_buy_19 J q2 0 σ M N hL
  · refine r_run J 2 (pc' := 16) (lv' := [(3, vR q2), (0, vR 1), (1, vI x1), (2, vI x2)]) (st' := [vI x2, vR q2]) rfl ?_
    refine r_chk (fun hs16 => ?_)
    refine r_callV J (As := [vI x2]) (st := []) (fun r hr => c_X10_roomAt q2 x2 σ M N hL r hr) cls10 (g_is_at hs16) wm_11_232 wy_X10_roomAt wd_X10_roomAt ⟨by decide, by decide, by decide, by decide, Nat.le_of_ble_eq_true rfl⟩ rfl rfl (fun q16 hq16 => ?_)
    show g_H E 0 0 19 [(3, vR q2), (0, vR 1), (1, vI x1), (2, vI x2)] [vR q16] (σ, M, N) _ _
    refine r_sub [1, 0] (lv' := [(0, vR 1), (3, vR q2)]) rfl ?_
    exact p_X11_buy_19 J q2 q16 σ M N hL
theorem c_X11_buy {l : Launch} (x1 : Int32) (x2 : Int32) (σ : gS) (M : gM) (N : gN) (hL : g_layC σ) (r : Int32 × gM) (h : f_X11_buy x1 x2 σ M = some r) : g_Ct l yX11_buy cX11_buy 6 (some .int) 6 0 0 [vR 1, vI x1, vI x2] (σ, M, N) (eIM σ N r) :=
  g_Ct.of tb_X11_buy (by decide +kernel) tk_X11_buy (Nat.le_of_ble_eq_true rfl) (fun E J => p_X11_buy_0 J x1 x2 σ M N hL r h)
def tb_X11_foresee : gT := [(0, .aload_n 0, 1, 0), (1, .iload_n 1, 1, 0), (2, .invokevirtual 193, 3, 0), (5, .astore 6, 2, 0), (7, .aload 6, 2, 0), (9, .ifnull 25, 3, 0), (12, .iload_n 2, 1, 0), (13, .iconst 0, 1, 0), (14, .bipush 30, 2, 30), (16, .invokestatic 86, 3, 0), (19, .ifCond .eq 15, 3, 0), (22, .iload 5, 2, 0), (24, .iconst 0, 1, 0), (25, .sipush 1000, 3, 1000), (28, .invokestatic 86, 3, 0), (31, .ifCond .ne 5, 3, 0), (34, .iconst 0, 1, 0), (35, .ireturn, 1, 0), (36, .iload_n 3, 1, 0), (37, .iconst 0, 1, 0), (38, .iconst 3, 1, 3), (39, .invokestatic 86, 3, 0), (42, .ifCond .eq 13, 3, 0), (45, .iload 4, 2, 0), (47, .iconst 0, 1, 0), (48, .iconst 3, 1, 3), (49, .invokestatic 86, 3, 0), (52, .ifCond .ne 5, 3, 0), (55, .iconst 0, 1, 0), (56, .ireturn, 1, 0), (57, .aload_n 0, 1, 0), (58, .aload 6, 2, 0), (60, .invokevirtual 371, 3, 0), (63, .aload_n 0, 1, 0), (64, .getfield 46, 3, 0), (67, .aload 6, 2, 0), (69, .getfield 219, 3, 0), (72, .iload_n 2, 1, 0), (73, .iload_n 3, 1, 0), (74, .iload 4, 2, 0), (76, .iload 5, 2, 0), (78, .invokevirtual 378, 3, 0), (81, .iconst 1, 1, 1), (82, .ireturn, 1, 0)]
set_option maxRecDepth 100000 in
theorem tk_X11_foresee : g_okT cX11_foresee tb_X11_foresee = true := by decide +kernel
abbrev J_X11_foresee (E : gE) (l : Launch) : Prop := g_J E cX11_foresee RX11 "foresee" (some .boolean) 7 tb_X11_foresee 6 0 0 l
set_option maxHeartbeats 4000000 in
set_option maxRecDepth 100000 in
theorem p_X11_foresee_0 {l : Launch} {E : gE} (J : J_X11_foresee E l) (x1 : Int32) (x2 : Int32) (x3 : Int32) (x4 : Int32) (x5 : Int32) (σ : gS) (M : gM) (N : gN) (hL : g_layC σ) : g_H E 0 0 0 [(0, vR 1), (1, vI x1), (2, vI x2), (3, vI x3), (4, vI x4), (5, vI x5)] [] (σ, M, N) (b_X11_foresee_0 x1 x2 x3 x4 x5 σ M) (eIM σ N) := by
  unfold b_X11_foresee_0
  refine r_run J 2 (pc' := 2) (lv' := [(0, vR 1), (1, vI x1), (2, vI x2), (3, vI x3), (4, vI x4), (5, vI x5)]) (st' := [vI x1, vR 1]) rfl ?_
  refine r_callV J (As := [vI x1]) (st := []) (fun r hr => c_X11_townAt x1 σ M N hL r hr) cls11 (ly_1 hL) wm_11_193 wy_X11_townAt wd_X11_townAt ⟨by decide, by decide, by decide, by decide, Nat.le_of_ble_eq_true rfl⟩ rfl rfl (fun q2 hq2 => ?_)
  show g_H E 0 0 5 [(0, vR 1), (1, vI x1), (2, vI x2), (3, vI x3), (4, vI x4), (5, vI x5)] [vR q2] (σ, M, N) _ _
  refine r_run J 2 (pc' := 9) (lv' := [(6, vR q2), (0, vR 1), (1, vI x1), (2, vI x2), (3, vI x3), (4, vI x4), (5, vI x5)]) (st' := [vR q2]) rfl ?_
  refine r_ifnull J (tgt := 34) rfl (by decide) (fun c9 => ?_) (fun c9 => ?_)
  · refine r_run J 1 (pc' := 35) (lv' := [(6, vR q2), (0, vR 1), (1, vI x1), (2, vI x2), (3, vI x3), (4, vI x4), (5, vI x5)]) (st' := [vI 0]) rfl ?_
    exact r_iret J rfl rfl rfl rfl (by decide) (by decide)
  · refine r_run J 3 (pc' := 16) (lv' := [(6, vR q2), (0, vR 1), (1, vI x1), (2, vI x2), (3, vI x3), (4, vI x4), (5, vI x5)]) (st' := [vI 30, vI 0, vI x2]) rfl ?_
    refine r_callS J (As := [vI x2, vI 0, vI 30]) (st := []) (fun r hr => c_X11_isWithin x2 0 30 σ M N hL r hr) wm_11_86 wy_X11_isWithin wd_X11_isWithin ⟨by decide, by decide, by decide, by decide, Nat.le_of_ble_eq_true rfl⟩ rfl rfl (fun q16 hq16 => ?_)
    show g_H E 0 0 19 [(6, vR q2), (0, vR 1), (1, vI x1), (2, vI x2), (3, vI x3), (4, vI x4), (5, vI x5)] [vI q16] (σ, M, N) _ _
    refine r_if_eq J (tgt := 34) rfl (by decide) (fun c19 => ?_) (fun c19 => ?_)
    · refine r_run J 1 (pc' := 35) (lv' := [(6, vR q2), (0, vR 1), (1, vI x1), (2, vI x2), (3, vI x3), (4, vI x4), (5, vI x5)]) (st' := [vI 0]) rfl ?_
      exact r_iret J rfl rfl rfl rfl (by decide) (by decide)
    · refine r_run J 3 (pc' := 28) (lv' := [(6, vR q2), (0, vR 1), (1, vI x1), (2, vI x2), (3, vI x3), (4, vI x4), (5, vI x5)]) (st' := [vI 1000, vI 0, vI x5]) rfl ?_
      refine r_callS J (As := [vI x5, vI 0, vI 1000]) (st := []) (fun r hr => c_X11_isWithin x5 0 1000 σ M N hL r hr) wm_11_86 wy_X11_isWithin wd_X11_isWithin ⟨by decide, by decide, by decide, by decide, Nat.le_of_ble_eq_true rfl⟩ rfl rfl (fun q28 hq28 => ?_)
      show g_H E 0 0 31 [(6, vR q2), (0, vR 1), (1, vI x1), (2, vI x2), (3, vI x3), (4, vI x4), (5, vI x5)] [vI q28] (σ, M, N) _ _
      refine r_if_ne J (tgt := 36) rfl (by decide) (fun c31 => ?_) (fun c31 => ?_)
      · refine r_run J 1 (pc' := 35) (lv' := [(6, vR q2), (0, vR 1), (1, vI x1), (2, vI x2), (3, vI x3), (4, vI x4), (5, vI x5)]) (st' := [vI 0]) rfl ?_
        exact r_iret J rfl rfl rfl rfl (by decide) (by decide)
      · refine r_run J 3 (pc' := 39) (lv' := [(6, vR q2), (0, vR 1), (1, vI x1), (2, vI x2), (3, vI x3), (4, vI x4), (5, vI x5)]) (st' := [vI 3, vI 0, vI x3]) rfl ?_
        refine r_callS J (As := [vI x3, vI 0, vI 3]) (st := []) (fun r hr => c_X11_isWithin x3 0 3 σ M N hL r hr) wm_11_86 wy_X11_isWithin wd_X11_isWithin ⟨by decide, by decide, by decide, by decide, Nat.le_of_ble_eq_true rfl⟩ rfl rfl (fun q39 hq39 => ?_)
        show g_H E 0 0 42 [(6, vR q2), (0, vR 1), (1, vI x1), (2, vI x2), (3, vI x3), (4, vI x4), (5, vI x5)] [vI q39] (σ, M, N) _ _
        refine r_if_eq J (tgt := 55) rfl (by decide) (fun c42 => ?_) (fun c42 => ?_)
        · refine r_run J 1 (pc' := 56) (lv' := [(6, vR q2), (0, vR 1), (1, vI x1), (2, vI x2), (3, vI x3), (4, vI x4), (5, vI x5)]) (st' := [vI 0]) rfl ?_
          exact r_iret J rfl rfl rfl rfl (by decide) (by decide)
        · refine r_run J 3 (pc' := 49) (lv' := [(6, vR q2), (0, vR 1), (1, vI x1), (2, vI x2), (3, vI x3), (4, vI x4), (5, vI x5)]) (st' := [vI 3, vI 0, vI x4]) rfl ?_
          refine r_callS J (As := [vI x4, vI 0, vI 3]) (st := []) (fun r hr => c_X11_isWithin x4 0 3 σ M N hL r hr) wm_11_86 wy_X11_isWithin wd_X11_isWithin ⟨by decide, by decide, by decide, by decide, Nat.le_of_ble_eq_true rfl⟩ rfl rfl (fun q49 hq49 => ?_)
          show g_H E 0 0 52 [(6, vR q2), (0, vR 1), (1, vI x1), (2, vI x2), (3, vI x3), (4, vI x4), (5, vI x5)] [vI q49] (σ, M, N) _ _
          refine r_if_ne J (tgt := 57) rfl (by decide) (fun c52 => ?_) (fun c52 => ?_)
          · refine r_run J 1 (pc' := 56) (lv' := [(6, vR q2), (0, vR 1), (1, vI x1), (2, vI x2), (3, vI x3), (4, vI x4), (5, vI x5)]) (st' := [vI 0]) rfl ?_
            exact r_iret J rfl rfl rfl rfl (by decide) (by decide)
          · refine r_run J 2 (pc' := 60) (lv' := [(6, vR q2), (0, vR 1), (1, vI x1), (2, vI x2), (3, vI x3), (4, vI x4), (5, vI x5)]) (st' := [vR q2, vR 1]) rfl ?_
            refine r_callV J (As := [vR q2]) (st := []) (fun r hr => c_X11_learnFacts q2 σ M N hL r hr) cls11 (ly_1 hL) wm_11_371 wy_X11_learnFacts wd_X11_learnFacts ⟨by decide, by decide, by decide, by decide, Nat.le_of_ble_eq_true rfl⟩ rfl rfl (fun q60 hq60 => ?_)
            show g_H E 0 0 63 [(6, vR q2), (0, vR 1), (1, vI x1), (2, vI x2), (3, vI x3), (4, vI x4), (5, vI x5)] [] (σ, q60, N) _ _
            refine r_run J 1 (pc' := 64) (lv' := [(6, vR q2), (0, vR 1), (1, vI x1), (2, vI x2), (3, vI x3), (4, vI x4), (5, vI x5)]) (st' := [vR 1]) rfl ?_
            refine r_getR J cls11 rfl (k := 5) (t := 3) (by decide) wf_11_46 rfl rfl (ly_1 hL) (lr_1_5 hL) (fun _ => ?_)
            show g_H E 0 0 67 [(6, vR q2), (0, vR 1), (1, vI x1), (2, vI x2), (3, vI x3), (4, vI x4), (5, vI x5)] [vR 20] (σ, q60, N) _ _
            refine r_run J 1 (pc' := 69) (lv' := [(6, vR q2), (0, vR 1), (1, vI x1), (2, vI x2), (3, vI x3), (4, vI x4), (5, vI x5)]) (st' := [vR q2, vR 20]) rfl ?_
            refine r_chk (fun hs69 => ?_)
            refine r_getR J cls10 rfl (k := 5) (t := 2) (by decide) wf_11_219 rfl rfl (g_is_at hs69) rfl (fun _ => ?_)
            show g_H E 0 0 72 [(6, vR q2), (0, vR 1), (1, vI x1), (2, vI x2), (3, vI x3), (4, vI x4), (5, vI x5)] [vR (σ.2 q2 5), vR 20] (σ, q60, N) _ _
            refine r_run J 4 (pc' := 78) (lv' := [(6, vR q2), (0, vR 1), (1, vI x1), (2, vI x2), (3, vI x3), (4, vI x4), (5, vI x5)]) (st' := [vI x5, vI x4, vI x3, vI x2, vR (σ.2 q2 5), vR 20]) rfl ?_
            refine r_callV J (As := [vR (σ.2 q2 5), vI x2, vI x3, vI x4, vI x5]) (st := []) (fun r hr => c_X3_foresee (σ.2 q2 5) x2 x3 x4 x5 σ q60 N hL r hr) cls3 (ly_20 hL) wm_11_378 wy_X3_foresee wd_X3_foresee ⟨by decide, by decide, by decide, by decide, Nat.le_of_ble_eq_true rfl⟩ rfl rfl (fun q78 hq78 => ?_)
            show g_H E 0 0 81 [(6, vR q2), (0, vR 1), (1, vI x1), (2, vI x2), (3, vI x3), (4, vI x4), (5, vI x5)] [] (σ, q78, N) _ _
            refine r_run J 1 (pc' := 82) (lv' := [(6, vR q2), (0, vR 1), (1, vI x1), (2, vI x2), (3, vI x3), (4, vI x4), (5, vI x5)]) (st' := [vI 1]) rfl ?_
            exact r_iret J rfl rfl rfl rfl (by decide) (by decide)
theorem c_X11_foresee {l : Launch} (x1 : Int32) (x2 : Int32) (x3 : Int32) (x4 : Int32) (x5 : Int32) (σ : gS) (M : gM) (N : gN) (hL : g_layC σ) (r : Int32 × gM) (h : f_X11_foresee x1 x2 x3 x4 x5 σ M = some r) : g_Ct l yX11_foresee cX11_foresee 7 (some .boolean) 6 0 0 [vR 1, vI x1, vI x2, vI x3, vI x4, vI x5] (σ, M, N) (eIM σ N r) :=
  g_Ct.of tb_X11_foresee (by decide +kernel) tk_X11_foresee (Nat.le_of_ble_eq_true rfl) (fun E J => p_X11_foresee_0 J x1 x2 x3 x4 x5 σ M N hL r h)
def tb_X11_loss : gT := [(0, .aload_n 0, 1, 0), (1, .iload_n 1, 1, 0), (2, .iload_n 2, 1, 0), (3, .iload_n 3, 1, 0), (4, .iload 4, 2, 0), (6, .iload 5, 2, 0), (8, .invokevirtual 246, 3, 0), (11, .ifCond .eq 13, 3, 0), (14, .aload_n 0, 1, 0), (15, .getfield 46, 3, 0), (18, .getfield 250, 3, 0), (21, .goto 4, 3, 0), (24, .iconst (-1), 1, (-1)), (25, .ireturn, 1, 0)]
set_option maxRecDepth 100000 in
theorem tk_X11_loss : g_okT cX11_loss tb_X11_loss = true := by decide +kernel
abbrev J_X11_loss (E : gE) (l : Launch) : Prop := g_J E cX11_loss RX11 "loss" (some .int) 6 tb_X11_loss 7 0 0 l
set_option maxHeartbeats 4000000 in
set_option maxRecDepth 100000 in
theorem p_X11_loss_0 {l : Launch} {E : gE} (J : J_X11_loss E l) (x1 : Int32) (x2 : Int32) (x3 : Int32) (x4 : Int32) (x5 : Int32) (σ : gS) (M : gM) (N : gN) (hL : g_layC σ) : g_H E 0 0 0 [(0, vR 1), (1, vI x1), (2, vI x2), (3, vI x3), (4, vI x4), (5, vI x5)] [] (σ, M, N) (b_X11_loss_0 x1 x2 x3 x4 x5 σ M) (eIM σ N) := by
  unfold b_X11_loss_0
  refine r_run J 6 (pc' := 8) (lv' := [(0, vR 1), (1, vI x1), (2, vI x2), (3, vI x3), (4, vI x4), (5, vI x5)]) (st' := [vI x5, vI x4, vI x3, vI x2, vI x1, vR 1]) rfl ?_
  refine r_callV J (As := [vI x1, vI x2, vI x3, vI x4, vI x5]) (st := []) (fun r hr => c_X11_foresee x1 x2 x3 x4 x5 σ M N hL r hr) cls11 (ly_1 hL) wm_11_246 wy_X11_foresee wd_X11_foresee ⟨by decide, by decide, by decide, by decide, Nat.le_of_ble_eq_true rfl⟩ rfl rfl (fun q8 hq8 => ?_)
  show g_H E 0 0 11 [(0, vR 1), (1, vI x1), (2, vI x2), (3, vI x3), (4, vI x4), (5, vI x5)] [vI q8.1] (σ, q8.2, N) _ _
  refine r_if_eq J (tgt := 24) rfl (by decide) (fun c11 => ?_) (fun c11 => ?_)
  · refine r_run J 1 (pc' := 25) (lv' := [(0, vR 1), (1, vI x1), (2, vI x2), (3, vI x3), (4, vI x4), (5, vI x5)]) (st' := [vI (-1)]) rfl ?_
    exact r_iret J rfl rfl rfl rfl (by decide) (by decide)
  · refine r_run J 1 (pc' := 15) (lv' := [(0, vR 1), (1, vI x1), (2, vI x2), (3, vI x3), (4, vI x4), (5, vI x5)]) (st' := [vR 1]) rfl ?_
    refine r_getR J cls11 rfl (k := 5) (t := 3) (by decide) wf_11_46 rfl rfl (ly_1 hL) (lr_1_5 hL) (fun _ => ?_)
    show g_H E 0 0 18 [(0, vR 1), (1, vI x1), (2, vI x2), (3, vI x3), (4, vI x4), (5, vI x5)] [vR 20] (σ, q8.2, N) _ _
    refine r_getI J cls3 rfl (k := 0) (by decide) wf_11_250 rfl (ly_20 hL) ?_
    show g_H E 0 0 21 [(0, vR 1), (1, vI x1), (2, vI x2), (3, vI x3), (4, vI x4), (5, vI x5)] [vI (q8.2 20 0)] (σ, q8.2, N) _ _
    refine r_run J 1 (pc' := 25) (lv' := [(0, vR 1), (1, vI x1), (2, vI x2), (3, vI x3), (4, vI x4), (5, vI x5)]) (st' := [vI (q8.2 20 0)]) rfl ?_
    exact r_iret J rfl rfl rfl rfl (by decide) (by decide)
theorem c_X11_loss {l : Launch} (x1 : Int32) (x2 : Int32) (x3 : Int32) (x4 : Int32) (x5 : Int32) (σ : gS) (M : gM) (N : gN) (hL : g_layC σ) (r : Int32 × gM) (h : f_X11_loss x1 x2 x3 x4 x5 σ M = some r) : g_Ct l yX11_loss cX11_loss 6 (some .int) 7 0 0 [vR 1, vI x1, vI x2, vI x3, vI x4, vI x5] (σ, M, N) (eIM σ N r) :=
  g_Ct.of tb_X11_loss (by decide +kernel) tk_X11_loss (Nat.le_of_ble_eq_true rfl) (fun E J => p_X11_loss_0 J x1 x2 x3 x4 x5 σ M N hL r h)
def tb_X11_gives : gT := [(0, .aload_n 0, 1, 0), (1, .iload_n 1, 1, 0), (2, .iload_n 2, 1, 0), (3, .iload_n 3, 1, 0), (4, .iload 4, 2, 0), (6, .iload 5, 2, 0), (8, .invokevirtual 246, 3, 0), (11, .ifCond .eq 13, 3, 0), (14, .aload_n 0, 1, 0), (15, .getfield 46, 3, 0), (18, .getfield 253, 3, 0), (21, .goto 4, 3, 0), (24, .iconst (-1), 1, (-1)), (25, .ireturn, 1, 0)]
set_option maxRecDepth 100000 in
theorem tk_X11_gives : g_okT cX11_gives tb_X11_gives = true := by decide +kernel
abbrev J_X11_gives (E : gE) (l : Launch) : Prop := g_J E cX11_gives RX11 "gives" (some .int) 6 tb_X11_gives 7 0 0 l
set_option maxHeartbeats 4000000 in
set_option maxRecDepth 100000 in
theorem p_X11_gives_0 {l : Launch} {E : gE} (J : J_X11_gives E l) (x1 : Int32) (x2 : Int32) (x3 : Int32) (x4 : Int32) (x5 : Int32) (σ : gS) (M : gM) (N : gN) (hL : g_layC σ) : g_H E 0 0 0 [(0, vR 1), (1, vI x1), (2, vI x2), (3, vI x3), (4, vI x4), (5, vI x5)] [] (σ, M, N) (b_X11_gives_0 x1 x2 x3 x4 x5 σ M) (eIM σ N) := by
  unfold b_X11_gives_0
  refine r_run J 6 (pc' := 8) (lv' := [(0, vR 1), (1, vI x1), (2, vI x2), (3, vI x3), (4, vI x4), (5, vI x5)]) (st' := [vI x5, vI x4, vI x3, vI x2, vI x1, vR 1]) rfl ?_
  refine r_callV J (As := [vI x1, vI x2, vI x3, vI x4, vI x5]) (st := []) (fun r hr => c_X11_foresee x1 x2 x3 x4 x5 σ M N hL r hr) cls11 (ly_1 hL) wm_11_246 wy_X11_foresee wd_X11_foresee ⟨by decide, by decide, by decide, by decide, Nat.le_of_ble_eq_true rfl⟩ rfl rfl (fun q8 hq8 => ?_)
  show g_H E 0 0 11 [(0, vR 1), (1, vI x1), (2, vI x2), (3, vI x3), (4, vI x4), (5, vI x5)] [vI q8.1] (σ, q8.2, N) _ _
  refine r_if_eq J (tgt := 24) rfl (by decide) (fun c11 => ?_) (fun c11 => ?_)
  · refine r_run J 1 (pc' := 25) (lv' := [(0, vR 1), (1, vI x1), (2, vI x2), (3, vI x3), (4, vI x4), (5, vI x5)]) (st' := [vI (-1)]) rfl ?_
    exact r_iret J rfl rfl rfl rfl (by decide) (by decide)
  · refine r_run J 1 (pc' := 15) (lv' := [(0, vR 1), (1, vI x1), (2, vI x2), (3, vI x3), (4, vI x4), (5, vI x5)]) (st' := [vR 1]) rfl ?_
    refine r_getR J cls11 rfl (k := 5) (t := 3) (by decide) wf_11_46 rfl rfl (ly_1 hL) (lr_1_5 hL) (fun _ => ?_)
    show g_H E 0 0 18 [(0, vR 1), (1, vI x1), (2, vI x2), (3, vI x3), (4, vI x4), (5, vI x5)] [vR 20] (σ, q8.2, N) _ _
    refine r_getI J cls3 rfl (k := 1) (by decide) wf_11_253 rfl (ly_20 hL) ?_
    show g_H E 0 0 21 [(0, vR 1), (1, vI x1), (2, vI x2), (3, vI x3), (4, vI x4), (5, vI x5)] [vI (q8.2 20 1)] (σ, q8.2, N) _ _
    refine r_run J 1 (pc' := 25) (lv' := [(0, vR 1), (1, vI x1), (2, vI x2), (3, vI x3), (4, vI x4), (5, vI x5)]) (st' := [vI (q8.2 20 1)]) rfl ?_
    exact r_iret J rfl rfl rfl rfl (by decide) (by decide)
theorem c_X11_gives {l : Launch} (x1 : Int32) (x2 : Int32) (x3 : Int32) (x4 : Int32) (x5 : Int32) (σ : gS) (M : gM) (N : gN) (hL : g_layC σ) (r : Int32 × gM) (h : f_X11_gives x1 x2 x3 x4 x5 σ M = some r) : g_Ct l yX11_gives cX11_gives 6 (some .int) 7 0 0 [vR 1, vI x1, vI x2, vI x3, vI x4, vI x5] (σ, M, N) (eIM σ N r) :=
  g_Ct.of tb_X11_gives (by decide +kernel) tk_X11_gives (Nat.le_of_ble_eq_true rfl) (fun E J => p_X11_gives_0 J x1 x2 x3 x4 x5 σ M N hL r h)
def tb_X11_sight : gT := [(0, .aload_n 0, 1, 0), (1, .getfield 53, 3, 0), (4, .iload_n 1, 1, 0), (5, .iload_n 2, 1, 0), (6, .iload_n 3, 1, 0), (7, .invokevirtual 256, 3, 0), (10, .ireturn, 1, 0)]
set_option maxRecDepth 100000 in
theorem tk_X11_sight : g_okT cX11_sight tb_X11_sight = true := by decide +kernel
abbrev J_X11_sight (E : gE) (l : Launch) : Prop := g_J E cX11_sight RX11 "sight" (some .int) 4 tb_X11_sight 3 0 0 l
set_option maxHeartbeats 4000000 in
set_option maxRecDepth 100000 in
theorem p_X11_sight_0 {l : Launch} {E : gE} (J : J_X11_sight E l) (x1 : Int32) (x2 : Int32) (x3 : Int32) (σ : gS) (M : gM) (N : gN) (hL : g_layC σ) : g_H E 0 0 0 [(0, vR 1), (1, vI x1), (2, vI x2), (3, vI x3)] [] (σ, M, N) (b_X11_sight_0 x1 x2 x3 σ M) (eIM σ N) := by
  unfold b_X11_sight_0
  refine r_run J 1 (pc' := 1) (lv' := [(0, vR 1), (1, vI x1), (2, vI x2), (3, vI x3)]) (st' := [vR 1]) rfl ?_
  refine r_getR J cls11 rfl (k := 6) (t := 1) (by decide) wf_11_53 rfl rfl (ly_1 hL) (lr_1_6 hL) (fun _ => ?_)
  show g_H E 0 0 4 [(0, vR 1), (1, vI x1), (2, vI x2), (3, vI x3)] [vR 24] (σ, M, N) _ _
  refine r_run J 3 (pc' := 7) (lv' := [(0, vR 1), (1, vI x1), (2, vI x2), (3, vI x3)]) (st' := [vI x3, vI x2, vI x1, vR 24]) rfl ?_
  refine r_callV J (As := [vI x1, vI x2, vI x3]) (st := []) (fun r hr => c_X1_addSight x1 x2 x3 σ M N hL r hr) cls1 (ly_24 hL) wm_11_256 wy_X1_addSight wd_X1_addSight ⟨by decide, by decide, by decide, by decide, Nat.le_of_ble_eq_true rfl⟩ rfl rfl (fun q7 hq7 => ?_)
  show g_H E 0 0 10 [(0, vR 1), (1, vI x1), (2, vI x2), (3, vI x3)] [vI q7.1] (σ, q7.2, N) _ _
  exact r_iret J rfl rfl rfl rfl (by decide) (by decide)
theorem c_X11_sight {l : Launch} (x1 : Int32) (x2 : Int32) (x3 : Int32) (σ : gS) (M : gM) (N : gN) (hL : g_layC σ) (r : Int32 × gM) (h : f_X11_sight x1 x2 x3 σ M = some r) : g_Ct l yX11_sight cX11_sight 4 (some .int) 3 0 0 [vR 1, vI x1, vI x2, vI x3] (σ, M, N) (eIM σ N r) :=
  g_Ct.of tb_X11_sight (by decide +kernel) tk_X11_sight (Nat.le_of_ble_eq_true rfl) (fun E J => p_X11_sight_0 J x1 x2 x3 σ M N hL r h)
def tb_X11_way : gT := [(0, .aload_n 0, 1, 0), (1, .getfield 53, 3, 0), (4, .iload_n 1, 1, 0), (5, .iload_n 2, 1, 0), (6, .iload_n 3, 1, 0), (7, .invokevirtual 259, 3, 0), (10, .ireturn, 1, 0)]
set_option maxRecDepth 100000 in
theorem tk_X11_way : g_okT cX11_way tb_X11_way = true := by decide +kernel
abbrev J_X11_way (E : gE) (l : Launch) : Prop := g_J E cX11_way RX11 "way" (some .boolean) 4 tb_X11_way 3 0 0 l
set_option maxHeartbeats 4000000 in
set_option maxRecDepth 100000 in
theorem p_X11_way_0 {l : Launch} {E : gE} (J : J_X11_way E l) (x1 : Int32) (x2 : Int32) (x3 : Int32) (σ : gS) (M : gM) (N : gN) (hL : g_layC σ) : g_H E 0 0 0 [(0, vR 1), (1, vI x1), (2, vI x2), (3, vI x3)] [] (σ, M, N) (b_X11_way_0 x1 x2 x3 σ M) (eIM σ N) := by
  unfold b_X11_way_0
  refine r_run J 1 (pc' := 1) (lv' := [(0, vR 1), (1, vI x1), (2, vI x2), (3, vI x3)]) (st' := [vR 1]) rfl ?_
  refine r_getR J cls11 rfl (k := 6) (t := 1) (by decide) wf_11_53 rfl rfl (ly_1 hL) (lr_1_6 hL) (fun _ => ?_)
  show g_H E 0 0 4 [(0, vR 1), (1, vI x1), (2, vI x2), (3, vI x3)] [vR 24] (σ, M, N) _ _
  refine r_run J 3 (pc' := 7) (lv' := [(0, vR 1), (1, vI x1), (2, vI x2), (3, vI x3)]) (st' := [vI x3, vI x2, vI x1, vR 24]) rfl ?_
  refine r_callV J (As := [vI x1, vI x2, vI x3]) (st := []) (fun r hr => c_X1_setWay x1 x2 x3 σ M N hL r hr) cls1 (ly_24 hL) wm_11_259 wy_X1_setWay wd_X1_setWay ⟨by decide, by decide, by decide, by decide, Nat.le_of_ble_eq_true rfl⟩ rfl rfl (fun q7 hq7 => ?_)
  show g_H E 0 0 10 [(0, vR 1), (1, vI x1), (2, vI x2), (3, vI x3)] [vI q7.1] (σ, q7.2, N) _ _
  refine r_chk (fun hz => ?_)
  exact r_iret J rfl rfl (g_b_nar hz) rfl (by decide) (by decide)
theorem c_X11_way {l : Launch} (x1 : Int32) (x2 : Int32) (x3 : Int32) (σ : gS) (M : gM) (N : gN) (hL : g_layC σ) (r : Int32 × gM) (h : f_X11_way x1 x2 x3 σ M = some r) : g_Ct l yX11_way cX11_way 4 (some .boolean) 3 0 0 [vR 1, vI x1, vI x2, vI x3] (σ, M, N) (eIM σ N r) :=
  g_Ct.of tb_X11_way (by decide +kernel) tk_X11_way (Nat.le_of_ble_eq_true rfl) (fun E J => p_X11_way_0 J x1 x2 x3 σ M N hL r h)
def tb_X11_clear : gT := [(0, .aload_n 0, 1, 0), (1, .getfield 53, 3, 0), (4, .invokevirtual 262, 3, 0), (7, .ireturn, 1, 0)]
set_option maxRecDepth 100000 in
theorem tk_X11_clear : g_okT cX11_clear tb_X11_clear = true := by decide +kernel
abbrev J_X11_clear (E : gE) (l : Launch) : Prop := g_J E cX11_clear RX11 "clear" (some .int) 1 tb_X11_clear 2 0 0 l
set_option maxHeartbeats 4000000 in
set_option maxRecDepth 100000 in
theorem p_X11_clear_0 {l : Launch} {E : gE} (J : J_X11_clear E l) (σ : gS) (M : gM) (N : gN) (hL : g_layC σ) : g_H E 0 0 0 [(0, vR 1)] [] (σ, M, N) (b_X11_clear_0 σ M) (eIM σ N) := by
  unfold b_X11_clear_0
  refine r_run J 1 (pc' := 1) (lv' := [(0, vR 1)]) (st' := [vR 1]) rfl ?_
  refine r_getR J cls11 rfl (k := 6) (t := 1) (by decide) wf_11_53 rfl rfl (ly_1 hL) (lr_1_6 hL) (fun _ => ?_)
  show g_H E 0 0 4 [(0, vR 1)] [vR 24] (σ, M, N) _ _
  refine r_callV J (As := []) (st := []) (fun r hr => c_X1_forget σ M N hL r hr) cls1 (ly_24 hL) wm_11_262 wy_X1_forget wd_X1_forget ⟨by decide, by decide, by decide, by decide, Nat.le_of_ble_eq_true rfl⟩ rfl rfl (fun q4 hq4 => ?_)
  show g_H E 0 0 7 [(0, vR 1)] [vI q4.1] (σ, q4.2, N) _ _
  exact r_iret J rfl rfl rfl rfl (by decide) (by decide)
theorem c_X11_clear {l : Launch} (σ : gS) (M : gM) (N : gN) (hL : g_layC σ) (r : Int32 × gM) (h : f_X11_clear σ M = some r) : g_Ct l yX11_clear cX11_clear 1 (some .int) 2 0 0 [vR 1] (σ, M, N) (eIM σ N r) :=
  g_Ct.of tb_X11_clear (by decide +kernel) tk_X11_clear (Nat.le_of_ble_eq_true rfl) (fun E J => p_X11_clear_0 J σ M N hL r h)
def tb_X11_trip : gT := [(0, .aload_n 0, 1, 0), (1, .getfield 53, 3, 0), (4, .iload_n 1, 1, 0), (5, .invokevirtual 265, 3, 0), (8, .ireturn, 1, 0)]
set_option maxRecDepth 100000 in
theorem tk_X11_trip : g_okT cX11_trip tb_X11_trip = true := by decide +kernel
abbrev J_X11_trip (E : gE) (l : Launch) : Prop := g_J E cX11_trip RX11 "trip" (some .int) 2 tb_X11_trip 69 0 0 l
set_option maxHeartbeats 4000000 in
set_option maxRecDepth 100000 in
theorem p_X11_trip_0 {l : Launch} {E : gE} (J : J_X11_trip E l) (x1 : Int32) (σ : gS) (M : gM) (N : gN) (hL : g_layC σ) : g_H E 0 0 0 [(0, vR 1), (1, vI x1)] [] (σ, M, N) (b_X11_trip_0 x1 σ M) (eIM σ N) := by
  unfold b_X11_trip_0
  refine r_run J 1 (pc' := 1) (lv' := [(0, vR 1), (1, vI x1)]) (st' := [vR 1]) rfl ?_
  refine r_getR J cls11 rfl (k := 6) (t := 1) (by decide) wf_11_53 rfl rfl (ly_1 hL) (lr_1_6 hL) (fun _ => ?_)
  show g_H E 0 0 4 [(0, vR 1), (1, vI x1)] [vR 24] (σ, M, N) _ _
  refine r_run J 1 (pc' := 5) (lv' := [(0, vR 1), (1, vI x1)]) (st' := [vI x1, vR 24]) rfl ?_
  refine r_callV J (As := [vI x1]) (st := []) (fun r hr => c_X1_plan x1 σ M N hL r hr) cls1 (ly_24 hL) wm_11_265 wy_X1_plan wd_X1_plan ⟨by decide, by decide, by decide, by decide, Nat.le_of_ble_eq_true rfl⟩ rfl rfl (fun q5 hq5 => ?_)
  show g_H E 0 0 8 [(0, vR 1), (1, vI x1)] [vI q5.1] (σ, q5.2, N) _ _
  exact r_iret J rfl rfl rfl rfl (by decide) (by decide)
theorem c_X11_trip {l : Launch} (x1 : Int32) (σ : gS) (M : gM) (N : gN) (hL : g_layC σ) (r : Int32 × gM) (h : f_X11_trip x1 σ M = some r) : g_Ct l yX11_trip cX11_trip 2 (some .int) 69 0 0 [vR 1, vI x1] (σ, M, N) (eIM σ N r) :=
  g_Ct.of tb_X11_trip (by decide +kernel) tk_X11_trip (Nat.le_of_ble_eq_true rfl) (fun E J => p_X11_trip_0 J x1 σ M N hL r h)
def tb_X11_tripOf : gT := [(0, .aload_n 0, 1, 0), (1, .getfield 53, 3, 0), (4, .iload_n 1, 1, 0), (5, .invokevirtual 267, 3, 0), (8, .ireturn, 1, 0)]
set_option maxRecDepth 100000 in
theorem tk_X11_tripOf : g_okT cX11_tripOf tb_X11_tripOf = true := by decide +kernel
abbrev J_X11_tripOf (E : gE) (l : Launch) : Prop := g_J E cX11_tripOf RX11 "tripOf" (some .int) 2 tb_X11_tripOf 3 0 0 l
set_option maxHeartbeats 4000000 in
set_option maxRecDepth 100000 in
theorem p_X11_tripOf_0 {l : Launch} {E : gE} (J : J_X11_tripOf E l) (x1 : Int32) (σ : gS) (M : gM) (N : gN) (hL : g_layC σ) : g_H E 0 0 0 [(0, vR 1), (1, vI x1)] [] (σ, M, N) (b_X11_tripOf_0 x1 σ M) (eI σ M N) := by
  unfold b_X11_tripOf_0
  refine r_run J 1 (pc' := 1) (lv' := [(0, vR 1), (1, vI x1)]) (st' := [vR 1]) rfl ?_
  refine r_getR J cls11 rfl (k := 6) (t := 1) (by decide) wf_11_53 rfl rfl (ly_1 hL) (lr_1_6 hL) (fun _ => ?_)
  show g_H E 0 0 4 [(0, vR 1), (1, vI x1)] [vR 24] (σ, M, N) _ _
  refine r_run J 1 (pc' := 5) (lv' := [(0, vR 1), (1, vI x1)]) (st' := [vI x1, vR 24]) rfl ?_
  refine r_callV J (As := [vI x1]) (st := []) (fun r hr => c_X1_tell x1 σ M N hL r hr) cls1 (ly_24 hL) wm_11_267 wy_X1_tell wd_X1_tell ⟨by decide, by decide, by decide, by decide, Nat.le_of_ble_eq_true rfl⟩ rfl rfl (fun q5 hq5 => ?_)
  show g_H E 0 0 8 [(0, vR 1), (1, vI x1)] [vI q5] (σ, M, N) _ _
  exact r_iret J rfl rfl rfl rfl (by decide) (by decide)
theorem c_X11_tripOf {l : Launch} (x1 : Int32) (σ : gS) (M : gM) (N : gN) (hL : g_layC σ) (r : Int32) (h : f_X11_tripOf x1 σ M = some r) : g_Ct l yX11_tripOf cX11_tripOf 2 (some .int) 3 0 0 [vR 1, vI x1] (σ, M, N) (eI σ M N r) :=
  g_Ct.of tb_X11_tripOf (by decide +kernel) tk_X11_tripOf (Nat.le_of_ble_eq_true rfl) (fun E J => p_X11_tripOf_0 J x1 σ M N hL r h)
def tb_X11_townOfNight : gT := [(0, .iconst 0, 1, 0), (1, .istore_n 2, 1, 0), (2, .iload_n 2, 1, 0), (3, .aload_n 0, 1, 0), (4, .getfield 64, 3, 0), (7, .if_icmp .ge 40, 3, 0), (10, .aload_n 0, 1, 0), (11, .getfield 18, 3, 0), (14, .iload_n 2, 1, 0), (15, .aaload, 1, 0), (16, .astore_n 3, 1, 0), (17, .iload_n 1, 1, 0), (18, .aload_n 3, 1, 0), (19, .getfield 304, 3, 0), (22, .aload_n 3, 1, 0), (23, .getfield 304, 3, 0), (26, .aload_n 3, 1, 0), (27, .getfield 303, 3, 0), (30, .iadd, 1, 0), (31, .iconst 1, 1, 1), (32, .isub, 1, 0), (33, .invokestatic 86, 3, 0), (36, .ifCond .eq 5, 3, 0), (39, .aload_n 3, 1, 0), (40, .areturn, 1, 0), (41, .iinc 2 1, 3, 1), (44, .goto (-42), 3, 0), (47, .aconst_null, 1, 0), (48, .areturn, 1, 0)]
set_option maxRecDepth 100000 in
theorem tk_X11_townOfNight : g_okT cX11_townOfNight tb_X11_townOfNight = true := by decide +kernel
abbrev J_X11_townOfNight (E : gE) (l : Launch) : Prop := g_J E cX11_townOfNight RX11 "townOfNight" (some (.object RX10)) 4 tb_X11_townOfNight 2 0 0 l
set_option maxHeartbeats 4000000 in
set_option maxRecDepth 100000 in
theorem p_X11_townOfNight_2 {l : Launch} {E : gE} (J : J_X11_townOfNight E l) : ∀ (n : Nat) (x1 : Int32) (x2 : Int32) (σ : gS) (M : gM) (N : gN) (hL : g_layC σ), g_H E 0 0 2 [(0, vR 1), (1, vI x1), (2, vI x2)] [] (σ, M, N) (l_X11_townOfNight_2 n x1 x2 σ M) (eR σ M N) := by
  intro n
  induction n with
  | zero => intros; exact h_none
  | succ n ih =>
    intro x1 x2 σ M N hL
    rw [l_X11_townOfNight_2]
    refine r_run J 2 (pc' := 4) (lv' := [(0, vR 1), (1, vI x1), (2, vI x2)]) (st' := [vR 1, vI x2]) rfl ?_
    refine r_getI J cls11 rfl (k := 8) (by decide) wf_11_64 rfl (ly_1 hL) ?_
    show g_H E 0 0 7 [(0, vR 1), (1, vI x1), (2, vI x2)] [vI (M 1 8), vI x2] (σ, M, N) _ _
    refine r_icmp_ge J (tgt := 47) rfl (by decide) (fun c7 => ?_) (fun c7 => ?_)
    · refine r_run J 1 (pc' := 11) (lv' := [(0, vR 1), (1, vI x1), (2, vI x2)]) (st' := [vR 1]) rfl ?_
      refine r_getR J cls11 rfl (k := 1) (t := 19) (by decide) wf_11_18 rfl rfl (ly_1 hL) (lr_1_1 hL) (fun _ => ?_)
      show g_H E 0 0 14 [(0, vR 1), (1, vI x1), (2, vI x2)] [vR 4] (σ, M, N) _ _
      refine r_run J 1 (pc' := 15) (lv' := [(0, vR 1), (1, vI x1), (2, vI x2)]) (st' := [vI x2, vR 4]) rfl ?_
      refine r_aald J rfl (Or.inr (Or.inr ⟨rfl, rfl⟩)) (ly_4 hL) (fun i15 _ => ?_)
      show g_H E 0 0 16 [(0, vR 1), (1, vI x1), (2, vI x2)] [vR (σ.2 4 x2.toNatClampNeg)] (σ, M, N) _ _
      refine r_run J 3 (pc' := 19) (lv' := [(3, vR (σ.2 4 x2.toNatClampNeg)), (0, vR 1), (1, vI x1), (2, vI x2)]) (st' := [vR (σ.2 4 x2.toNatClampNeg), vI x1]) rfl ?_
      refine r_chk (fun hs19 => ?_)
      refine r_getI J cls10 rfl (k := 2) (by decide) wf_11_304 rfl (g_is_at hs19) ?_
      show g_H E 0 0 22 [(3, vR (σ.2 4 x2.toNatClampNeg)), (0, vR 1), (1, vI x1), (2, vI x2)] [vI (M (σ.2 4 x2.toNatClampNeg) 2), vI x1] (σ, M, N) _ _
      refine r_run J 1 (pc' := 23) (lv' := [(3, vR (σ.2 4 x2.toNatClampNeg)), (0, vR 1), (1, vI x1), (2, vI x2)]) (st' := [vR (σ.2 4 x2.toNatClampNeg), vI (M (σ.2 4 x2.toNatClampNeg) 2), vI x1]) rfl ?_
      refine r_getI J cls10 rfl (k := 2) (by decide) wf_11_304 rfl (g_is_at hs19) ?_
      show g_H E 0 0 26 [(3, vR (σ.2 4 x2.toNatClampNeg)), (0, vR 1), (1, vI x1), (2, vI x2)] [vI (M (σ.2 4 x2.toNatClampNeg) 2), vI (M (σ.2 4 x2.toNatClampNeg) 2), vI x1] (σ, M, N) _ _
      refine r_run J 1 (pc' := 27) (lv' := [(3, vR (σ.2 4 x2.toNatClampNeg)), (0, vR 1), (1, vI x1), (2, vI x2)]) (st' := [vR (σ.2 4 x2.toNatClampNeg), vI (M (σ.2 4 x2.toNatClampNeg) 2), vI (M (σ.2 4 x2.toNatClampNeg) 2), vI x1]) rfl ?_
      refine r_getI J cls10 rfl (k := 1) (by decide) wf_11_303 rfl (g_is_at hs19) ?_
      show g_H E 0 0 30 [(3, vR (σ.2 4 x2.toNatClampNeg)), (0, vR 1), (1, vI x1), (2, vI x2)] [vI (M (σ.2 4 x2.toNatClampNeg) 1), vI (M (σ.2 4 x2.toNatClampNeg) 2), vI (M (σ.2 4 x2.toNatClampNeg) 2), vI x1] (σ, M, N) _ _
      refine r_run J 3 (pc' := 33) (lv' := [(3, vR (σ.2 4 x2.toNatClampNeg)), (0, vR 1), (1, vI x1), (2, vI x2)]) (st' := [vI (((M (σ.2 4 x2.toNatClampNeg) 2) + (M (σ.2 4 x2.toNatClampNeg) 1)) - (1 : Int32)), vI (M (σ.2 4 x2.toNatClampNeg) 2), vI x1]) rfl ?_
      refine r_callS J (As := [vI x1, vI (M (σ.2 4 x2.toNatClampNeg) 2), vI (((M (σ.2 4 x2.toNatClampNeg) 2) + (M (σ.2 4 x2.toNatClampNeg) 1)) - (1 : Int32))]) (st := []) (fun r hr => c_X11_isWithin x1 (M (σ.2 4 x2.toNatClampNeg) 2) (((M (σ.2 4 x2.toNatClampNeg) 2) + (M (σ.2 4 x2.toNatClampNeg) 1)) - (1 : Int32)) σ M N hL r hr) wm_11_86 wy_X11_isWithin wd_X11_isWithin ⟨by decide, by decide, by decide, by decide, Nat.le_of_ble_eq_true rfl⟩ rfl rfl (fun q33 hq33 => ?_)
      show g_H E 0 0 36 [(3, vR (σ.2 4 x2.toNatClampNeg)), (0, vR 1), (1, vI x1), (2, vI x2)] [vI q33] (σ, M, N) _ _
      refine r_if_eq J (tgt := 41) rfl (by decide) (fun c36 => ?_) (fun c36 => ?_)
      · refine r_run J 2 (pc' := 2) (lv' := [(2, vI (x2 + 1)), (3, vR (σ.2 4 x2.toNatClampNeg)), (0, vR 1), (1, vI x1)]) (st' := []) rfl ?_
        refine r_sub [2, 3, 0] (lv' := [(0, vR 1), (1, vI x1), (2, vI (x2 + 1))]) rfl ?_
        exact ih x1 (x2 + 1) σ M N hL
      · refine r_run J 1 (pc' := 40) (lv' := [(3, vR (σ.2 4 x2.toNatClampNeg)), (0, vR 1), (1, vI x1), (2, vI x2)]) (st' := [vR (σ.2 4 x2.toNatClampNeg)]) rfl ?_
        exact r_aret J rfl rfl (Or.inl ⟨_, rfl⟩) rfl (by decide) (by decide)
    · refine r_run J 1 (pc' := 48) (lv' := [(0, vR 1), (1, vI x1), (2, vI x2)]) (st' := [vR 0]) rfl ?_
      exact r_aret J rfl rfl (Or.inl ⟨_, rfl⟩) rfl (by decide) (by decide)
set_option maxHeartbeats 4000000 in
set_option maxRecDepth 100000 in
theorem p_X11_townOfNight_0 {l : Launch} {E : gE} (J : J_X11_townOfNight E l) (x1 : Int32) (σ : gS) (M : gM) (N : gN) (hL : g_layC σ) : g_H E 0 0 0 [(0, vR 1), (1, vI x1)] [] (σ, M, N) (b_X11_townOfNight_0 x1 σ M) (eR σ M N) := by
  unfold b_X11_townOfNight_0
  refine r_run J 2 (pc' := 2) (lv' := [(2, vI 0), (0, vR 1), (1, vI x1)]) (st' := []) rfl ?_
  refine r_sub [1, 2, 0] (lv' := [(0, vR 1), (1, vI x1), (2, vI 0)]) rfl ?_
  exact p_X11_townOfNight_2 J g_FU x1 0 σ M N hL
theorem c_X11_townOfNight {l : Launch} (x1 : Int32) (σ : gS) (M : gM) (N : gN) (hL : g_layC σ) (r : Nat) (h : f_X11_townOfNight x1 σ M = some r) : g_Ct l yX11_townOfNight cX11_townOfNight 4 (some (.object RX10)) 2 0 0 [vR 1, vI x1] (σ, M, N) (eR σ M N r) :=
  g_Ct.of tb_X11_townOfNight (by decide +kernel) tk_X11_townOfNight (Nat.le_of_ble_eq_true rfl) (fun E J => p_X11_townOfNight_0 J x1 σ M N hL r h)
def tb_X11_charge : gT := [(0, .aload_n 1, 1, 0), (1, .iload_n 2, 1, 0), (2, .invokevirtual 239, 3, 0), (5, .istore 4, 2, 0), (7, .iload 4, 2, 0), (9, .invokestatic 313, 3, 0), (12, .istore 5, 2, 0), (14, .aload_n 1, 1, 0), (15, .iload_n 2, 1, 0), (16, .invokevirtual 232, 3, 0), (19, .astore 6, 2, 0), (21, .iload 5, 2, 0), (23, .ifCond .eq 8, 3, 0), (26, .aload 6, 2, 0), (28, .ifnonnull 4, 3, 0), (31, .return_, 1, 0), (32, .aload 6, 2, 0), (34, .getfield 333, 3, 0), (37, .iload 5, 2, 0), (39, .idiv, 1, 0), (40, .istore 7, 2, 0), (42, .aload 6, 2, 0), (44, .getfield 333, 3, 0), (47, .iload 5, 2, 0), (49, .irem, 1, 0), (50, .istore 8, 2, 0), (52, .iconst 0, 1, 0), (53, .istore 9, 2, 0), (55, .iload 9, 2, 0), (57, .aload_n 0, 1, 0), (58, .getfield 10, 3, 0), (61, .getfield 94, 3, 0), (64, .if_icmp .ge 48, 3, 0), (67, .iload 4, 2, 0), (69, .iload 9, 2, 0), (71, .ishr, 1, 0), (72, .iconst 1, 1, 1), (73, .iand, 1, 0), (74, .ifCond .eq 32, 3, 0), (77, .aload_n 0, 1, 0), (78, .getfield 10, 3, 0), (81, .getfield 381, 3, 0), (84, .iload 9, 2, 0), (86, .aaload, 1, 0), (87, .iload 7, 2, 0), (89, .iload 8, 2, 0), (91, .iadd, 1, 0), (92, .aload_n 0, 1, 0), (93, .getfield 60, 3, 0), (96, .getfield 133, 3, 0), (99, .iload_n 3, 1, 0), (100, .invokevirtual 385, 3, 0), (103, .iconst 0, 1, 0), (104, .istore 8, 2, 0), (106, .iinc 9 1, 3, 1), (109, .goto (-54), 3, 0), (112, .return_, 1, 0)]
set_option maxRecDepth 100000 in
theorem tk_X11_charge : g_okT cX11_charge tb_X11_charge = true := by decide +kernel
abbrev J_X11_charge (E : gE) (l : Launch) : Prop := g_J E cX11_charge RX11 "charge" none 10 tb_X11_charge 2 0 0 l
set_option maxHeartbeats 4000000 in
set_option maxRecDepth 100000 in
theorem p_X11_charge_106 {l : Launch} {E : gE} (J : J_X11_charge E l) {k55 : Int32 → Int32 → Int32 → Int32 → Int32 → gS → gM → Option (gM)} (H55 : ∀ (x3 : Int32) (x4 : Int32) (x7 : Int32) (x8 : Int32) (x9 : Int32) (σ : gS) (M : gM) (N : gN) (_ : g_layC σ), g_H E 0 0 55 [(0, vR 1), (3, vI x3), (4, vI x4), (7, vI x7), (8, vI x8), (9, vI x9)] [] (σ, M, N) (k55 x3 x4 x7 x8 x9 σ M) (eVM σ N)) (x3 : Int32) (x4 : Int32) (x7 : Int32) (x8 : Int32) (x9 : Int32) (σ : gS) (M : gM) (N : gN) (hL : g_layC σ) : g_H E 0 0 106 [(0, vR 1), (3, vI x3), (4, vI x4), (7, vI x7), (8, vI x8), (9, vI x9)] [] (σ, M, N) (b_X11_charge_106 k55 x3 x4 x7 x8 x9 σ M) (eVM σ N) := by
  unfold b_X11_charge_106
  refine r_run J 2 (pc' := 55) (lv' := [(9, vI (x9 + 1)), (0, vR 1), (3, vI x3), (4, vI x4), (7, vI x7), (8, vI x8)]) (st' := []) rfl ?_
  refine r_sub [1, 2, 3, 4, 5, 0] (lv' := [(0, vR 1), (3, vI x3), (4, vI x4), (7, vI x7), (8, vI x8), (9, vI (x9 + 1))]) rfl ?_
  exact H55 x3 x4 x7 x8 (x9 + 1) σ M N hL
set_option maxHeartbeats 4000000 in
set_option maxRecDepth 100000 in
theorem p_X11_charge_55 {l : Launch} {E : gE} (J : J_X11_charge E l) : ∀ (n : Nat) (x3 : Int32) (x4 : Int32) (x7 : Int32) (x8 : Int32) (x9 : Int32) (σ : gS) (M : gM) (N : gN) (hL : g_layC σ), g_H E 0 0 55 [(0, vR 1), (3, vI x3), (4, vI x4), (7, vI x7), (8, vI x8), (9, vI x9)] [] (σ, M, N) (l_X11_charge_55 n x3 x4 x7 x8 x9 σ M) (eVM σ N) := by
  intro n
  induction n with
  | zero => intros; exact h_none
  | succ n ih =>
    intro x3 x4 x7 x8 x9 σ M N hL
    rw [l_X11_charge_55]
    refine r_run J 2 (pc' := 58) (lv' := [(0, vR 1), (3, vI x3), (4, vI x4), (7, vI x7), (8, vI x8), (9, vI x9)]) (st' := [vR 1, vI x9]) rfl ?_
    refine r_getR J cls11 rfl (k := 0) (t := 5) (by decide) wf_11_10 rfl rfl (ly_1 hL) (lr_1_0 hL) (fun _ => ?_)
    show g_H E 0 0 61 [(0, vR 1), (3, vI x3), (4, vI x4), (7, vI x7), (8, vI x8), (9, vI x9)] [vR 2, vI x9] (σ, M, N) _ _
    refine r_getI J cls5 rfl (k := 1) (by decide) wf_11_94 rfl (ly_2 hL) ?_
    show g_H E 0 0 64 [(0, vR 1), (3, vI x3), (4, vI x4), (7, vI x7), (8, vI x8), (9, vI x9)] [vI (M 2 1), vI x9] (σ, M, N) _ _
    refine r_icmp_ge J (tgt := 112) rfl (by decide) (fun c64 => ?_) (fun c64 => ?_)
    · refine r_run J 5 (pc' := 74) (lv' := [(0, vR 1), (3, vI x3), (4, vI x4), (7, vI x7), (8, vI x8), (9, vI x9)]) (st' := [vI ((x4 >>> (x9 &&& 31)) &&& (1 : Int32))]) rfl ?_
      refine r_if_eq J (tgt := 106) rfl (by decide) (fun c74 => ?_) (fun c74 => ?_)
      · exact p_X11_charge_106 J ih x3 x4 x7 x8 x9 σ M N hL
      · refine r_run J 1 (pc' := 78) (lv' := [(0, vR 1), (3, vI x3), (4, vI x4), (7, vI x7), (8, vI x8), (9, vI x9)]) (st' := [vR 1]) rfl ?_
        refine r_getR J cls11 rfl (k := 0) (t := 5) (by decide) wf_11_10 rfl rfl (ly_1 hL) (lr_1_0 hL) (fun _ => ?_)
        show g_H E 0 0 81 [(0, vR 1), (3, vI x3), (4, vI x4), (7, vI x7), (8, vI x8), (9, vI x9)] [vR 2] (σ, M, N) _ _
        refine r_getR J cls5 rfl (k := 0) (t := 17) (by decide) wf_11_381 rfl rfl (ly_2 hL) (lr_2_0 hL) (fun _ => ?_)
        show g_H E 0 0 84 [(0, vR 1), (3, vI x3), (4, vI x4), (7, vI x7), (8, vI x8), (9, vI x9)] [vR 3] (σ, M, N) _ _
        refine r_run J 1 (pc' := 86) (lv' := [(0, vR 1), (3, vI x3), (4, vI x4), (7, vI x7), (8, vI x8), (9, vI x9)]) (st' := [vI x9, vR 3]) rfl ?_
        refine r_aald J rfl (Or.inl ⟨rfl, rfl⟩) (ly_3 hL) (fun i86 _ => ?_)
        show g_H E 0 0 87 [(0, vR 1), (3, vI x3), (4, vI x4), (7, vI x7), (8, vI x8), (9, vI x9)] [vR (σ.2 3 x9.toNatClampNeg)] (σ, M, N) _ _
        refine r_run J 4 (pc' := 93) (lv' := [(0, vR 1), (3, vI x3), (4, vI x4), (7, vI x7), (8, vI x8), (9, vI x9)]) (st' := [vR 1, vI (x7 + x8), vR (σ.2 3 x9.toNatClampNeg)]) rfl ?_
        refine r_getR J cls11 rfl (k := 7) (t := 0) (by decide) wf_11_60 rfl rfl (ly_1 hL) (lr_1_7 hL) (fun _ => ?_)
        show g_H E 0 0 96 [(0, vR 1), (3, vI x3), (4, vI x4), (7, vI x7), (8, vI x8), (9, vI x9)] [vR 33, vI (x7 + x8), vR (σ.2 3 x9.toNatClampNeg)] (σ, M, N) _ _
        refine r_getI J cls0 rfl (k := 0) (by decide) wf_11_133 rfl (ly_33 hL) ?_
        show g_H E 0 0 99 [(0, vR 1), (3, vI x3), (4, vI x4), (7, vI x7), (8, vI x8), (9, vI x9)] [vI (M 33 0), vI (x7 + x8), vR (σ.2 3 x9.toNatClampNeg)] (σ, M, N) _ _
        refine r_run J 1 (pc' := 100) (lv' := [(0, vR 1), (3, vI x3), (4, vI x4), (7, vI x7), (8, vI x8), (9, vI x9)]) (st' := [vI x3, vI (M 33 0), vI (x7 + x8), vR (σ.2 3 x9.toNatClampNeg)]) rfl ?_
        refine r_chk (fun hs100 => ?_)
        refine r_callV J (As := [vI (x7 + x8), vI (M 33 0), vI x3]) (st := []) (fun r hr => c_X6_charge (σ.2 3 x9.toNatClampNeg) (x7 + x8) (M 33 0) x3 σ M N hL r hr) cls6 (g_is_at hs100) wm_11_385 wy_X6_charge wd_X6_charge ⟨by decide, by decide, by decide, by decide, Nat.le_of_ble_eq_true rfl⟩ rfl rfl (fun q100 hq100 => ?_)
        show g_H E 0 0 103 [(0, vR 1), (3, vI x3), (4, vI x4), (7, vI x7), (8, vI x8), (9, vI x9)] [] (σ, q100, N) _ _
        refine r_run J 2 (pc' := 106) (lv' := [(8, vI 0), (0, vR 1), (3, vI x3), (4, vI x4), (7, vI x7), (9, vI x9)]) (st' := []) rfl ?_
        refine r_sub [1, 2, 3, 4, 0, 5] (lv' := [(0, vR 1), (3, vI x3), (4, vI x4), (7, vI x7), (8, vI 0), (9, vI x9)]) rfl ?_
        exact p_X11_charge_106 J ih x3 x4 x7 0 x9 σ q100 N hL
    · exact r_vret J rfl rfl rfl (by decide) (by decide)
set_option maxHeartbeats 4000000 in
set_option maxRecDepth 100000 in
theorem p_X11_charge_0 {l : Launch} {E : gE} (J : J_X11_charge E l) (r1 : Nat) (x2 : Int32) (x3 : Int32) (σ : gS) (M : gM) (N : gN) (hL : g_layC σ) : g_H E 0 0 0 [(0, vR 1), (1, vR r1), (2, vI x2), (3, vI x3)] [] (σ, M, N) (b_X11_charge_0 r1 x2 x3 σ M) (eVM σ N) := by
  unfold b_X11_charge_0
  refine r_run J 2 (pc' := 2) (lv' := [(0, vR 1), (1, vR r1), (2, vI x2), (3, vI x3)]) (st' := [vI x2, vR r1]) rfl ?_
  refine r_chk (fun hs2 => ?_)
  refine r_callV J (As := [vI x2]) (st := []) (fun r hr => c_X10_guestsOf r1 x2 σ M N hL r hr) cls10 (g_is_at hs2) wm_11_239 wy_X10_guestsOf wd_X10_guestsOf ⟨by decide, by decide, by decide, by decide, Nat.le_of_ble_eq_true rfl⟩ rfl rfl (fun q2 hq2 => ?_)
  show g_H E 0 0 5 [(0, vR 1), (1, vR r1), (2, vI x2), (3, vI x3)] [vI q2] (σ, M, N) _ _
  refine r_run J 2 (pc' := 9) (lv' := [(4, vI q2), (0, vR 1), (1, vR r1), (2, vI x2), (3, vI x3)]) (st' := [vI q2]) rfl ?_
  refine r_callS J (As := [vI q2]) (st := []) (fun r hr => c_J_bitCount q2 σ M N r hr) wm_11_313 wy_J_bitCount wd_J_bitCount ⟨by decide, by decide, by decide, by decide, Nat.le_of_ble_eq_true rfl⟩ rfl rfl (fun q9 hq9 => ?_)
  show g_H E 0 0 12 [(4, vI q2), (0, vR 1), (1, vR r1), (2, vI x2), (3, vI x3)] [vI q9] (σ, M, N) _ _
  refine r_run J 3 (pc' := 16) (lv' := [(5, vI q9), (4, vI q2), (0, vR 1), (1, vR r1), (2, vI x2), (3, vI x3)]) (st' := [vI x2, vR r1]) rfl ?_
  refine r_callV J (As := [vI x2]) (st := []) (fun r hr => c_X10_roomAt r1 x2 σ M N hL r hr) cls10 (g_is_at hs2) wm_11_232 wy_X10_roomAt wd_X10_roomAt ⟨by decide, by decide, by decide, by decide, Nat.le_of_ble_eq_true rfl⟩ rfl rfl (fun q16 hq16 => ?_)
  show g_H E 0 0 19 [(5, vI q9), (4, vI q2), (0, vR 1), (1, vR r1), (2, vI x2), (3, vI x3)] [vR q16] (σ, M, N) _ _
  refine r_run J 2 (pc' := 23) (lv' := [(6, vR q16), (5, vI q9), (4, vI q2), (0, vR 1), (1, vR r1), (2, vI x2), (3, vI x3)]) (st' := [vI q9]) rfl ?_
  refine r_if_eq J (tgt := 31) rfl (by decide) (fun c23 => ?_) (fun c23 => ?_)
  · exact r_vret J rfl rfl rfl (by decide) (by decide)
  · refine r_run J 1 (pc' := 28) (lv' := [(6, vR q16), (5, vI q9), (4, vI q2), (0, vR 1), (1, vR r1), (2, vI x2), (3, vI x3)]) (st' := [vR q16]) rfl ?_
    refine r_ifnonnull J (tgt := 32) rfl (by decide) (fun c28 => ?_) (fun c28 => ?_)
    · exact r_vret J rfl rfl rfl (by decide) (by decide)
    · refine r_run J 1 (pc' := 34) (lv' := [(6, vR q16), (5, vI q9), (4, vI q2), (0, vR 1), (1, vR r1), (2, vI x2), (3, vI x3)]) (st' := [vR q16]) rfl ?_
      refine r_chk (fun hs34 => ?_)
      refine r_getI J cls8 rfl (k := 2) (by decide) wf_11_333 rfl (g_is_at hs34) ?_
      show g_H E 0 0 37 [(6, vR q16), (5, vI q9), (4, vI q2), (0, vR 1), (1, vR r1), (2, vI x2), (3, vI x3)] [vI (M q16 2)] (σ, M, N) _ _
      refine r_run J 1 (pc' := 39) (lv' := [(6, vR q16), (5, vI q9), (4, vI q2), (0, vR 1), (1, vR r1), (2, vI x2), (3, vI x3)]) (st' := [vI q9, vI (M q16 2)]) rfl ?_
      refine r_idiv J rfl (fun c39 => ?_)
      refine r_run J 2 (pc' := 44) (lv' := [(7, vI ((M q16 2) / q9)), (6, vR q16), (5, vI q9), (4, vI q2), (0, vR 1), (1, vR r1), (2, vI x2), (3, vI x3)]) (st' := [vR q16]) rfl ?_
      refine r_getI J cls8 rfl (k := 2) (by decide) wf_11_333 rfl (g_is_at hs34) ?_
      show g_H E 0 0 47 [(7, vI ((M q16 2) / q9)), (6, vR q16), (5, vI q9), (4, vI q2), (0, vR 1), (1, vR r1), (2, vI x2), (3, vI x3)] [vI (M q16 2)] (σ, M, N) _ _
      refine r_run J 1 (pc' := 49) (lv' := [(7, vI ((M q16 2) / q9)), (6, vR q16), (5, vI q9), (4, vI q2), (0, vR 1), (1, vR r1), (2, vI x2), (3, vI x3)]) (st' := [vI q9, vI (M q16 2)]) rfl ?_
      refine r_irem J rfl (fun c49 => ?_)
      refine r_run J 3 (pc' := 55) (lv' := [(9, vI 0), (8, vI ((M q16 2) - (M q16 2) / q9 * q9)), (7, vI ((M q16 2) / q9)), (6, vR q16), (5, vI q9), (4, vI q2), (0, vR 1), (1, vR r1), (2, vI x2), (3, vI x3)]) (st' := []) rfl ?_
      refine r_sub [6, 9, 5, 2, 1, 0] (lv' := [(0, vR 1), (3, vI x3), (4, vI q2), (7, vI ((M q16 2) / q9)), (8, vI ((M q16 2) - (M q16 2) / q9 * q9)), (9, vI 0)]) rfl ?_
      exact p_X11_charge_55 J g_FU x3 q2 ((M q16 2) / q9) ((M q16 2) - (M q16 2) / q9 * q9) 0 σ M N hL
theorem c_X11_charge {l : Launch} (r1 : Nat) (x2 : Int32) (x3 : Int32) (σ : gS) (M : gM) (N : gN) (hL : g_layC σ) (r : gM) (h : f_X11_charge r1 x2 x3 σ M = some r) : g_Ct l yX11_charge cX11_charge 10 none 2 0 0 [vR 1, vR r1, vI x2, vI x3] (σ, M, N) (eVM σ N r) :=
  g_Ct.of tb_X11_charge (by decide +kernel) tk_X11_charge (Nat.le_of_ble_eq_true rfl) (fun E J => p_X11_charge_0 J r1 x2 x3 σ M N hL r h)
def tb_X11_night : gT := [(0, .aload_n 0, 1, 0), (1, .aload_n 0, 1, 0), (2, .getfield 60, 3, 0), (5, .getfield 133, 3, 0), (8, .invokevirtual 270, 3, 0), (11, .astore_n 1, 1, 0), (12, .aload_n 1, 1, 0), (13, .ifnull 33, 3, 0), (16, .aload_n 0, 1, 0), (17, .getfield 74, 3, 0), (20, .aload_n 0, 1, 0), (21, .getfield 60, 3, 0), (24, .getfield 133, 3, 0), (27, .iadd, 1, 0), (28, .aload_n 0, 1, 0), (29, .getfield 71, 3, 0), (32, .if_icmp .gt 14, 3, 0), (35, .aload_n 0, 1, 0), (36, .getfield 10, 3, 0), (39, .aload_n 1, 1, 0), (40, .invokevirtual 200, 3, 0), (43, .ifCond .ne 5, 3, 0), (46, .iconst (-1), 1, (-1)), (47, .ireturn, 1, 0), (48, .aload_n 0, 1, 0), (49, .aload_n 1, 1, 0), (50, .iconst 2, 1, 2), (51, .invokevirtual 228, 3, 0), (54, .istore_n 2, 1, 0), (55, .iconst 0, 1, 0), (56, .istore_n 3, 1, 0), (57, .iload_n 3, 1, 0), (58, .aload_n 1, 1, 0), (59, .getfield 146, 3, 0), (62, .if_icmp .ge 16, 3, 0), (65, .aload_n 0, 1, 0), (66, .aload_n 1, 1, 0), (67, .iload_n 3, 1, 0), (68, .iload_n 2, 1, 0), (69, .invokevirtual 273, 3, 0), (72, .iinc 3 1, 3, 1), (75, .goto (-18), 3, 0), (78, .aload_n 0, 1, 0), (79, .getfield 60, 3, 0), (82, .aload_n 1, 1, 0), (83, .aload_n 1, 1, 0), (84, .aload_n 0, 1, 0), (85, .aload_n 1, 1, 0), (86, .iconst 3, 1, 3), (87, .invokevirtual 228, 3, 0), (90, .invokevirtual 276, 3, 0), (93, .invokevirtual 279, 3, 0), (96, .ireturn, 1, 0)]
set_option maxRecDepth 100000 in
theorem tk_X11_night : g_okT cX11_night tb_X11_night = true := by decide +kernel
abbrev J_X11_night (E : gE) (l : Launch) : Prop := g_J E cX11_night RX11 "night" (some .int) 4 tb_X11_night 6 0 0 l
set_option maxHeartbeats 4000000 in
set_option maxRecDepth 100000 in
theorem p_X11_night_57 {l : Launch} {E : gE} (J : J_X11_night E l) : ∀ (n : Nat) (r1 : Nat) (x2 : Int32) (x3 : Int32) (σ : gS) (M : gM) (N : gN) (hL : g_layC σ), g_H E 0 0 57 [(0, vR 1), (1, vR r1), (2, vI x2), (3, vI x3)] [] (σ, M, N) (l_X11_night_57 n r1 x2 x3 σ M) (eIM σ N) := by
  intro n
  induction n with
  | zero => intros; exact h_none
  | succ n ih =>
    intro r1 x2 x3 σ M N hL
    rw [l_X11_night_57]
    refine r_run J 2 (pc' := 59) (lv' := [(0, vR 1), (1, vR r1), (2, vI x2), (3, vI x3)]) (st' := [vR r1, vI x3]) rfl ?_
    refine r_chk (fun hs59 => ?_)
    refine r_getI J cls10 rfl (k := 6) (by decide) wf_11_146 rfl (g_is_at hs59) ?_
    show g_H E 0 0 62 [(0, vR 1), (1, vR r1), (2, vI x2), (3, vI x3)] [vI (M r1 6), vI x3] (σ, M, N) _ _
    refine r_icmp_ge J (tgt := 78) rfl (by decide) (fun c62 => ?_) (fun c62 => ?_)
    · refine r_run J 4 (pc' := 69) (lv' := [(0, vR 1), (1, vR r1), (2, vI x2), (3, vI x3)]) (st' := [vI x2, vI x3, vR r1, vR 1]) rfl ?_
      refine r_callV J (As := [vR r1, vI x3, vI x2]) (st := []) (fun r hr => c_X11_charge r1 x3 x2 σ M N hL r hr) cls11 (ly_1 hL) wm_11_273 wy_X11_charge wd_X11_charge ⟨by decide, by decide, by decide, by decide, Nat.le_of_ble_eq_true rfl⟩ rfl rfl (fun q69 hq69 => ?_)
      show g_H E 0 0 72 [(0, vR 1), (1, vR r1), (2, vI x2), (3, vI x3)] [] (σ, q69, N) _ _
      refine r_run J 2 (pc' := 57) (lv' := [(3, vI (x3 + 1)), (0, vR 1), (1, vR r1), (2, vI x2)]) (st' := []) rfl ?_
      refine r_sub [1, 2, 3, 0] (lv' := [(0, vR 1), (1, vR r1), (2, vI x2), (3, vI (x3 + 1))]) rfl ?_
      exact ih r1 x2 (x3 + 1) σ q69 N hL
    · refine r_run J 1 (pc' := 79) (lv' := [(0, vR 1), (1, vR r1), (2, vI x2), (3, vI x3)]) (st' := [vR 1]) rfl ?_
      refine r_getR J cls11 rfl (k := 7) (t := 0) (by decide) wf_11_60 rfl rfl (ly_1 hL) (lr_1_7 hL) (fun _ => ?_)
      show g_H E 0 0 82 [(0, vR 1), (1, vR r1), (2, vI x2), (3, vI x3)] [vR 33] (σ, M, N) _ _
      refine r_run J 5 (pc' := 87) (lv' := [(0, vR 1), (1, vR r1), (2, vI x2), (3, vI x3)]) (st' := [vI 3, vR r1, vR 1, vR r1, vR r1, vR 33]) rfl ?_
      refine r_callV J (As := [vR r1, vI 3]) (st := [vR r1, vR r1, vR 33]) (fun r hr => c_X11_worthNow r1 3 σ M N hL r hr) cls11 (ly_1 hL) wm_11_228 wy_X11_worthNow wd_X11_worthNow ⟨by decide, by decide, by decide, by decide, Nat.le_of_ble_eq_true rfl⟩ rfl rfl (fun q87 hq87 => ?_)
      show g_H E 0 0 90 [(0, vR 1), (1, vR r1), (2, vI x2), (3, vI x3)] [vI q87.1, vR r1, vR r1, vR 33] (σ, q87.2, N) _ _
      refine r_callV J (As := [vI q87.1]) (st := [vR r1, vR 33]) (fun r hr => c_X10_billBut r1 q87.1 σ q87.2 N hL r hr) cls10 (g_is_at hs59) wm_11_276 wy_X10_billBut wd_X10_billBut ⟨by decide, by decide, by decide, by decide, Nat.le_of_ble_eq_true rfl⟩ rfl rfl (fun q90 hq90 => ?_)
      show g_H E 0 0 93 [(0, vR 1), (1, vR r1), (2, vI x2), (3, vI x3)] [vI q90, vR r1, vR 33] (σ, q87.2, N) _ _
      refine r_callV J (As := [vR r1, vI q90]) (st := []) (fun r hr => c_X0_close r1 q90 σ q87.2 N hL r hr) cls0 (ly_33 hL) wm_11_279 wy_X0_close wd_X0_close ⟨by decide, by decide, by decide, by decide, Nat.le_of_ble_eq_true rfl⟩ rfl rfl (fun q93 hq93 => ?_)
      show g_H E 0 0 96 [(0, vR 1), (1, vR r1), (2, vI x2), (3, vI x3)] [vI q93.1] (σ, q93.2, N) _ _
      exact r_iret J rfl rfl rfl rfl (by decide) (by decide)
set_option maxHeartbeats 4000000 in
set_option maxRecDepth 100000 in
theorem p_X11_night_0 {l : Launch} {E : gE} (J : J_X11_night E l) (σ : gS) (M : gM) (N : gN) (hL : g_layC σ) : g_H E 0 0 0 [(0, vR 1)] [] (σ, M, N) (b_X11_night_0 σ M) (eIM σ N) := by
  unfold b_X11_night_0
  refine r_run J 2 (pc' := 2) (lv' := [(0, vR 1)]) (st' := [vR 1, vR 1]) rfl ?_
  refine r_getR J cls11 rfl (k := 7) (t := 0) (by decide) wf_11_60 rfl rfl (ly_1 hL) (lr_1_7 hL) (fun _ => ?_)
  show g_H E 0 0 5 [(0, vR 1)] [vR 33, vR 1] (σ, M, N) _ _
  refine r_getI J cls0 rfl (k := 0) (by decide) wf_11_133 rfl (ly_33 hL) ?_
  show g_H E 0 0 8 [(0, vR 1)] [vI (M 33 0), vR 1] (σ, M, N) _ _
  refine r_callV J (As := [vI (M 33 0)]) (st := []) (fun r hr => c_X11_townOfNight (M 33 0) σ M N hL r hr) cls11 (ly_1 hL) wm_11_270 wy_X11_townOfNight wd_X11_townOfNight ⟨by decide, by decide, by decide, by decide, Nat.le_of_ble_eq_true rfl⟩ rfl rfl (fun q8 hq8 => ?_)
  show g_H E 0 0 11 [(0, vR 1)] [vR q8] (σ, M, N) _ _
  refine r_run J 2 (pc' := 13) (lv' := [(1, vR q8), (0, vR 1)]) (st' := [vR q8]) rfl ?_
  refine r_ifnull J (tgt := 46) rfl (by decide) (fun c13 => ?_) (fun c13 => ?_)
  · refine r_run J 1 (pc' := 47) (lv' := [(1, vR q8), (0, vR 1)]) (st' := [vI (-1)]) rfl ?_
    exact r_iret J rfl rfl rfl rfl (by decide) (by decide)
  · refine r_run J 1 (pc' := 17) (lv' := [(1, vR q8), (0, vR 1)]) (st' := [vR 1]) rfl ?_
    refine r_getI J cls11 rfl (k := 11) (by decide) wf_11_74 rfl (ly_1 hL) ?_
    show g_H E 0 0 20 [(1, vR q8), (0, vR 1)] [vI (M 1 11)] (σ, M, N) _ _
    refine r_run J 1 (pc' := 21) (lv' := [(1, vR q8), (0, vR 1)]) (st' := [vR 1, vI (M 1 11)]) rfl ?_
    refine r_getR J cls11 rfl (k := 7) (t := 0) (by decide) wf_11_60 rfl rfl (ly_1 hL) (lr_1_7 hL) (fun _ => ?_)
    show g_H E 0 0 24 [(1, vR q8), (0, vR 1)] [vR 33, vI (M 1 11)] (σ, M, N) _ _
    refine r_getI J cls0 rfl (k := 0) (by decide) wf_11_133 rfl (ly_33 hL) ?_
    show g_H E 0 0 27 [(1, vR q8), (0, vR 1)] [vI (M 33 0), vI (M 1 11)] (σ, M, N) _ _
    refine r_run J 2 (pc' := 29) (lv' := [(1, vR q8), (0, vR 1)]) (st' := [vR 1, vI ((M 1 11) + (M 33 0))]) rfl ?_
    refine r_getI J cls11 rfl (k := 10) (by decide) wf_11_71 rfl (ly_1 hL) ?_
    show g_H E 0 0 32 [(1, vR q8), (0, vR 1)] [vI (M 1 10), vI ((M 1 11) + (M 33 0))] (σ, M, N) _ _
    refine r_icmp_gt J (tgt := 46) rfl (by decide) (fun c32 => ?_) (fun c32 => ?_)
    · refine r_run J 1 (pc' := 47) (lv' := [(1, vR q8), (0, vR 1)]) (st' := [vI (-1)]) rfl ?_
      exact r_iret J rfl rfl rfl rfl (by decide) (by decide)
    · refine r_run J 1 (pc' := 36) (lv' := [(1, vR q8), (0, vR 1)]) (st' := [vR 1]) rfl ?_
      refine r_getR J cls11 rfl (k := 0) (t := 5) (by decide) wf_11_10 rfl rfl (ly_1 hL) (lr_1_0 hL) (fun _ => ?_)
      show g_H E 0 0 39 [(1, vR q8), (0, vR 1)] [vR 2] (σ, M, N) _ _
      refine r_run J 1 (pc' := 40) (lv' := [(1, vR q8), (0, vR 1)]) (st' := [vR q8, vR 2]) rfl ?_
      refine r_callV J (As := [vR q8]) (st := []) (fun r hr => c_X5_isRight q8 σ M N hL r hr) cls5 (ly_2 hL) wm_11_200 wy_X5_isRight wd_X5_isRight ⟨by decide, by decide, by decide, by decide, Nat.le_of_ble_eq_true rfl⟩ rfl rfl (fun q40 hq40 => ?_)
      show g_H E 0 0 43 [(1, vR q8), (0, vR 1)] [vI q40] (σ, M, N) _ _
      refine r_if_ne J (tgt := 48) rfl (by decide) (fun c43 => ?_) (fun c43 => ?_)
      · refine r_run J 1 (pc' := 47) (lv' := [(1, vR q8), (0, vR 1)]) (st' := [vI (-1)]) rfl ?_
        exact r_iret J rfl rfl rfl rfl (by decide) (by decide)
      · refine r_run J 3 (pc' := 51) (lv' := [(1, vR q8), (0, vR 1)]) (st' := [vI 2, vR q8, vR 1]) rfl ?_
        refine r_callV J (As := [vR q8, vI 2]) (st := []) (fun r hr => c_X11_worthNow q8 2 σ M N hL r hr) cls11 (ly_1 hL) wm_11_228 wy_X11_worthNow wd_X11_worthNow ⟨by decide, by decide, by decide, by decide, Nat.le_of_ble_eq_true rfl⟩ rfl rfl (fun q51 hq51 => ?_)
        show g_H E 0 0 54 [(1, vR q8), (0, vR 1)] [vI q51.1] (σ, q51.2, N) _ _
        refine r_run J 3 (pc' := 57) (lv' := [(3, vI 0), (2, vI q51.1), (1, vR q8), (0, vR 1)]) (st' := []) rfl ?_
        refine r_sub [3, 2, 1, 0] (lv' := [(0, vR 1), (1, vR q8), (2, vI q51.1), (3, vI 0)]) rfl ?_
        exact p_X11_night_57 J g_FU q8 q51.1 0 σ q51.2 N hL
theorem c_X11_night {l : Launch} (σ : gS) (M : gM) (N : gN) (hL : g_layC σ) (r : Int32 × gM) (h : f_X11_night σ M = some r) : g_Ct l yX11_night cX11_night 4 (some .int) 6 0 0 [vR 1] (σ, M, N) (eIM σ N r) :=
  g_Ct.of tb_X11_night (by decide +kernel) tk_X11_night (Nat.le_of_ble_eq_true rfl) (fun E J => p_X11_night_0 J σ M N hL r h)
