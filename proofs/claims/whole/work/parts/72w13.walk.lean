def tb_X7_readAll : gT := [(0, .aload_n 0, 1, 0), (1, .iload_n 1, 1, 0), (2, .invokevirtual 74, 3, 0), (5, .ifCond .ne 5, 3, 0), (8, .iconst 0, 1, 0), (9, .ireturn, 1, 0), (10, .iconst 0, 1, 0), (11, .istore_n 2, 1, 0), (12, .aload_n 0, 1, 0), (13, .getfield 48, 3, 0), (16, .iconst 5, 1, 5), (17, .if_icmp .ne 36, 3, 0), (20, .iload_n 2, 1, 0), (21, .sipush 400, 3, 400), (24, .if_icmp .ge 29, 3, 0), (27, .aload_n 0, 1, 0), (28, .invokevirtual 60, 3, 0), (31, .aload_n 0, 1, 0), (32, .iload_n 1, 1, 0), (33, .invokevirtual 74, 3, 0), (36, .ifCond .ne 5, 3, 0), (39, .iconst 0, 1, 0), (40, .ireturn, 1, 0), (41, .aload_n 0, 1, 0), (42, .bipush (-6), 2, (-6)), (44, .invokevirtual 77, 3, 0), (47, .iinc 2 1, 3, 1), (50, .goto (-38), 3, 0), (53, .iconst 1, 1, 1), (54, .ireturn, 1, 0)]
set_option maxRecDepth 100000 in
theorem tk_X7_readAll : g_okT cX7_readAll tb_X7_readAll = true := by decide +kernel
abbrev J_X7_readAll (d : Nat) (E : gE) (l : Launch) : Prop := g_J E cX7_readAll RX7 "readAll" (some .boolean) 3 tb_X7_readAll (2 + d) 0 0 l
set_option maxHeartbeats 4000000 in
set_option maxRecDepth 100000 in
theorem p_X7_readAll_12 {l : Launch} {E : gE} {d' : Nat}  {recX7_readTest : Int32 → gS → gM → Option (Int32 × gM)}(J : J_X7_readAll (d' + 1) E l) (hrecX7_readTest : ∀ (x1 : Int32) (σ : gS) (M : gM) (N : gN) (_ : g_layC σ) r, recX7_readTest x1 σ M = some r → g_Ct l yX7_readTest cX7_readTest 3 (some .boolean) (2 + d') 0 0 [vR 7, vI x1] (σ, M, N) (eIM σ N r)) : ∀ (n : Nat) (x1 : Int32) (x2 : Int32) (σ : gS) (M : gM) (N : gN) (hL : g_layC σ), g_H E 0 0 12 [(0, vR 7), (1, vI x1), (2, vI x2)] [] (σ, M, N) (l_X7_readAll_12 recX7_readTest n x1 x2 σ M) (eIM σ N) := by
  intro n
  induction n with
  | zero => intros; exact h_none
  | succ n ih =>
    intro x1 x2 σ M N hL
    rw [l_X7_readAll_12]
    refine r_run J 1 (pc' := 13) (lv' := [(0, vR 7), (1, vI x1), (2, vI x2)]) (st' := [vR 7]) rfl ?_
    refine r_getI J cls7 rfl (k := 11) (by decide) wf_7_48 rfl (ly_7 hL) ?_
    show g_H E 0 0 16 [(0, vR 7), (1, vI x1), (2, vI x2)] [vI (M 7 11)] (σ, M, N) _ _
    refine r_run J 1 (pc' := 17) (lv' := [(0, vR 7), (1, vI x1), (2, vI x2)]) (st' := [vI 5, vI (M 7 11)]) rfl ?_
    refine r_icmp_ne J (tgt := 53) rfl (by decide) (fun c17 => ?_) (fun c17 => ?_)
    · refine r_run J 2 (pc' := 24) (lv' := [(0, vR 7), (1, vI x1), (2, vI x2)]) (st' := [vI 400, vI x2]) rfl ?_
      refine r_icmp_ge J (tgt := 53) rfl (by decide) (fun c24 => ?_) (fun c24 => ?_)
      · refine r_run J 1 (pc' := 28) (lv' := [(0, vR 7), (1, vI x1), (2, vI x2)]) (st' := [vR 7]) rfl ?_
        refine r_callV J (As := []) (st := []) (fun r hr => c_X7_advance σ M N hL r hr) cls7 (ly_7 hL) wm_7_60 wy_X7_advance wd_X7_advance ⟨by omega, by decide, by decide, by decide, Nat.le_of_ble_eq_true rfl⟩ rfl rfl (fun q28 hq28 => ?_)
        show g_H E 0 0 31 [(0, vR 7), (1, vI x1), (2, vI x2)] [] (σ, q28, N) _ _
        refine r_run J 2 (pc' := 33) (lv' := [(0, vR 7), (1, vI x1), (2, vI x2)]) (st' := [vI x1, vR 7]) rfl ?_
        refine r_callV J (As := [vI x1]) (st := []) (fun r hr => hrecX7_readTest x1 σ q28 N hL r hr) cls7 (ly_7 hL) wm_7_74 wy_X7_readTest wd_X7_readTest ⟨by omega, by decide, by decide, by decide, Nat.le_of_ble_eq_true rfl⟩ rfl rfl (fun q33 hq33 => ?_)
        show g_H E 0 0 36 [(0, vR 7), (1, vI x1), (2, vI x2)] [vI q33.1] (σ, q33.2, N) _ _
        refine r_if_ne J (tgt := 41) rfl (by decide) (fun c36 => ?_) (fun c36 => ?_)
        · refine r_run J 1 (pc' := 40) (lv' := [(0, vR 7), (1, vI x1), (2, vI x2)]) (st' := [vI 0]) rfl ?_
          exact r_iret J rfl rfl rfl rfl (by decide) (by decide)
        · refine r_run J 2 (pc' := 44) (lv' := [(0, vR 7), (1, vI x1), (2, vI x2)]) (st' := [vI (-6), vR 7]) rfl ?_
          refine r_callV J (As := [vI (-6)]) (st := []) (fun r hr => c_X7_write (-6) σ q33.2 N hL r hr) cls7 (ly_7 hL) wm_7_77 wy_X7_write wd_X7_write ⟨by omega, by decide, by decide, by decide, Nat.le_of_ble_eq_true rfl⟩ rfl rfl (fun q44 hq44 => ?_)
          show g_H E 0 0 47 [(0, vR 7), (1, vI x1), (2, vI x2)] [] (σ, q44, N) _ _
          refine r_run J 2 (pc' := 12) (lv' := [(2, vI (x2 + 1)), (0, vR 7), (1, vI x1)]) (st' := []) rfl ?_
          refine r_sub [1, 2, 0] (lv' := [(0, vR 7), (1, vI x1), (2, vI (x2 + 1))]) rfl ?_
          exact ih x1 (x2 + 1) σ q44 N hL
      · refine r_run J 1 (pc' := 54) (lv' := [(0, vR 7), (1, vI x1), (2, vI x2)]) (st' := [vI 1]) rfl ?_
        exact r_iret J rfl rfl rfl rfl (by decide) (by decide)
    · refine r_run J 1 (pc' := 54) (lv' := [(0, vR 7), (1, vI x1), (2, vI x2)]) (st' := [vI 1]) rfl ?_
      exact r_iret J rfl rfl rfl rfl (by decide) (by decide)
set_option maxHeartbeats 4000000 in
set_option maxRecDepth 100000 in
theorem p_X7_readAll_0 {l : Launch} {E : gE} {d' : Nat}  {recX7_readTest : Int32 → gS → gM → Option (Int32 × gM)}(J : J_X7_readAll (d' + 1) E l) (hrecX7_readTest : ∀ (x1 : Int32) (σ : gS) (M : gM) (N : gN) (_ : g_layC σ) r, recX7_readTest x1 σ M = some r → g_Ct l yX7_readTest cX7_readTest 3 (some .boolean) (2 + d') 0 0 [vR 7, vI x1] (σ, M, N) (eIM σ N r)) (x1 : Int32) (σ : gS) (M : gM) (N : gN) (hL : g_layC σ) : g_H E 0 0 0 [(0, vR 7), (1, vI x1)] [] (σ, M, N) (b_X7_readAll_0 recX7_readTest x1 σ M) (eIM σ N) := by
  unfold b_X7_readAll_0
  refine r_run J 2 (pc' := 2) (lv' := [(0, vR 7), (1, vI x1)]) (st' := [vI x1, vR 7]) rfl ?_
  refine r_callV J (As := [vI x1]) (st := []) (fun r hr => hrecX7_readTest x1 σ M N hL r hr) cls7 (ly_7 hL) wm_7_74 wy_X7_readTest wd_X7_readTest ⟨by omega, by decide, by decide, by decide, Nat.le_of_ble_eq_true rfl⟩ rfl rfl (fun q2 hq2 => ?_)
  show g_H E 0 0 5 [(0, vR 7), (1, vI x1)] [vI q2.1] (σ, q2.2, N) _ _
  refine r_if_ne J (tgt := 10) rfl (by decide) (fun c5 => ?_) (fun c5 => ?_)
  · refine r_run J 1 (pc' := 9) (lv' := [(0, vR 7), (1, vI x1)]) (st' := [vI 0]) rfl ?_
    exact r_iret J rfl rfl rfl rfl (by decide) (by decide)
  · refine r_run J 2 (pc' := 12) (lv' := [(2, vI 0), (0, vR 7), (1, vI x1)]) (st' := []) rfl ?_
    refine r_sub [1, 2, 0] (lv' := [(0, vR 7), (1, vI x1), (2, vI 0)]) rfl ?_
    exact p_X7_readAll_12 J hrecX7_readTest g_FU x1 0 σ q2.2 N hL
def tb_X7_readPart : gT := [(0, .aload_n 0, 1, 0), (1, .getfield 48, 3, 0), (4, .bipush 40, 2, 40), (6, .if_icmp .ne 45, 3, 0), (9, .iload_n 1, 1, 0), (10, .iconst 5, 1, 5), (11, .if_icmp .lt 9, 3, 0), (14, .aload_n 0, 1, 0), (15, .iconst 3, 1, 3), (16, .invokevirtual 63, 3, 0), (19, .ireturn, 1, 0), (20, .aload_n 0, 1, 0), (21, .invokevirtual 60, 3, 0), (24, .aload_n 0, 1, 0), (25, .iload_n 1, 1, 0), (26, .iconst 1, 1, 1), (27, .iadd, 1, 0), (28, .invokevirtual 71, 3, 0), (31, .ifCond .ne 5, 3, 0), (34, .iconst 0, 1, 0), (35, .ireturn, 1, 0), (36, .aload_n 0, 1, 0), (37, .getfield 48, 3, 0), (40, .bipush 41, 2, 41), (42, .if_icmp .eq 71, 3, 0), (45, .aload_n 0, 1, 0), (46, .iconst 1, 1, 1), (47, .invokevirtual 63, 3, 0), (50, .ireturn, 1, 0), (51, .aload_n 0, 1, 0), (52, .getfield 48, 3, 0), (55, .sipush 1000, 3, 1000), (58, .if_icmp .lt 18, 3, 0), (61, .aload_n 0, 1, 0), (62, .aload_n 0, 1, 0), (63, .getfield 48, 3, 0), (66, .sipush 1000, 3, 1000), (69, .isub, 1, 0), (70, .invokevirtual 77, 3, 0), (73, .goto 40, 3, 0), (76, .aload_n 0, 1, 0), (77, .getfield 48, 3, 0), (80, .bipush 6, 2, 6), (82, .if_icmp .lt 25, 3, 0), (85, .aload_n 0, 1, 0), (86, .getfield 48, 3, 0), (89, .bipush 10, 2, 10), (91, .if_icmp .gt 16, 3, 0), (94, .aload_n 0, 1, 0), (95, .iconst 5, 1, 5), (96, .aload_n 0, 1, 0), (97, .getfield 48, 3, 0), (100, .isub, 1, 0), (101, .invokevirtual 77, 3, 0), (104, .goto 9, 3, 0), (107, .aload_n 0, 1, 0), (108, .iconst 1, 1, 1), (109, .invokevirtual 63, 3, 0), (112, .ireturn, 1, 0), (113, .aload_n 0, 1, 0), (114, .invokevirtual 60, 3, 0), (117, .iconst 1, 1, 1), (118, .ireturn, 1, 0)]
set_option maxRecDepth 100000 in
theorem tk_X7_readPart : g_okT cX7_readPart tb_X7_readPart = true := by decide +kernel
abbrev J_X7_readPart (d : Nat) (E : gE) (l : Launch) : Prop := g_J E cX7_readPart RX7 "readPart" (some .boolean) 2 tb_X7_readPart (2 + d) 0 0 l
set_option maxHeartbeats 4000000 in
set_option maxRecDepth 100000 in
theorem p_X7_readPart_107 {l : Launch} {E : gE} {d' : Nat}  {recX7_readAll : Int32 → gS → gM → Option (Int32 × gM)}(J : J_X7_readPart (d' + 1) E l) (hrecX7_readAll : ∀ (x1 : Int32) (σ : gS) (M : gM) (N : gN) (_ : g_layC σ) r, recX7_readAll x1 σ M = some r → g_Ct l yX7_readAll cX7_readAll 3 (some .boolean) (2 + d') 0 0 [vR 7, vI x1] (σ, M, N) (eIM σ N r)) (σ : gS) (M : gM) (N : gN) (hL : g_layC σ) : g_H E 0 0 107 [(0, vR 7)] [] (σ, M, N) (b_X7_readPart_107 recX7_readAll σ M) (eIM σ N) := by
  unfold b_X7_readPart_107
  refine r_run J 2 (pc' := 109) (lv' := [(0, vR 7)]) (st' := [vI 1, vR 7]) rfl ?_
  refine r_callV J (As := [vI 1]) (st := []) (fun r hr => c_X7_refuse 1 σ M N hL r hr) cls7 (ly_7 hL) wm_7_63 wy_X7_refuse wd_X7_refuse ⟨by omega, by decide, by decide, by decide, Nat.le_of_ble_eq_true rfl⟩ rfl rfl (fun q109 hq109 => ?_)
  show g_H E 0 0 112 [(0, vR 7)] [vI q109.1] (σ, q109.2, N) _ _
  refine r_chk (fun hz => ?_)
  exact r_iret J rfl rfl (g_b_nar hz) rfl (by decide) (by decide)
set_option maxHeartbeats 4000000 in
set_option maxRecDepth 100000 in
theorem p_X7_readPart_113 {l : Launch} {E : gE} {d' : Nat}  {recX7_readAll : Int32 → gS → gM → Option (Int32 × gM)}(J : J_X7_readPart (d' + 1) E l) (hrecX7_readAll : ∀ (x1 : Int32) (σ : gS) (M : gM) (N : gN) (_ : g_layC σ) r, recX7_readAll x1 σ M = some r → g_Ct l yX7_readAll cX7_readAll 3 (some .boolean) (2 + d') 0 0 [vR 7, vI x1] (σ, M, N) (eIM σ N r)) (σ : gS) (M : gM) (N : gN) (hL : g_layC σ) : g_H E 0 0 113 [(0, vR 7)] [] (σ, M, N) (b_X7_readPart_113 recX7_readAll σ M) (eIM σ N) := by
  unfold b_X7_readPart_113
  refine r_run J 1 (pc' := 114) (lv' := [(0, vR 7)]) (st' := [vR 7]) rfl ?_
  refine r_callV J (As := []) (st := []) (fun r hr => c_X7_advance σ M N hL r hr) cls7 (ly_7 hL) wm_7_60 wy_X7_advance wd_X7_advance ⟨by omega, by decide, by decide, by decide, Nat.le_of_ble_eq_true rfl⟩ rfl rfl (fun q114 hq114 => ?_)
  show g_H E 0 0 117 [(0, vR 7)] [] (σ, q114, N) _ _
  refine r_run J 1 (pc' := 118) (lv' := [(0, vR 7)]) (st' := [vI 1]) rfl ?_
  exact r_iret J rfl rfl rfl rfl (by decide) (by decide)
set_option maxHeartbeats 4000000 in
set_option maxRecDepth 100000 in
theorem p_X7_readPart_0 {l : Launch} {E : gE} {d' : Nat}  {recX7_readAll : Int32 → gS → gM → Option (Int32 × gM)}(J : J_X7_readPart (d' + 1) E l) (hrecX7_readAll : ∀ (x1 : Int32) (σ : gS) (M : gM) (N : gN) (_ : g_layC σ) r, recX7_readAll x1 σ M = some r → g_Ct l yX7_readAll cX7_readAll 3 (some .boolean) (2 + d') 0 0 [vR 7, vI x1] (σ, M, N) (eIM σ N r)) (x1 : Int32) (σ : gS) (M : gM) (N : gN) (hL : g_layC σ) : g_H E 0 0 0 [(0, vR 7), (1, vI x1)] [] (σ, M, N) (b_X7_readPart_0 recX7_readAll x1 σ M) (eIM σ N) := by
  unfold b_X7_readPart_0
  refine r_run J 1 (pc' := 1) (lv' := [(0, vR 7), (1, vI x1)]) (st' := [vR 7]) rfl ?_
  refine r_getI J cls7 rfl (k := 11) (by decide) wf_7_48 rfl (ly_7 hL) ?_
  show g_H E 0 0 4 [(0, vR 7), (1, vI x1)] [vI (M 7 11)] (σ, M, N) _ _
  refine r_run J 1 (pc' := 6) (lv' := [(0, vR 7), (1, vI x1)]) (st' := [vI 40, vI (M 7 11)]) rfl ?_
  refine r_icmp_ne J (tgt := 51) rfl (by decide) (fun c6 => ?_) (fun c6 => ?_)
  · refine r_run J 2 (pc' := 11) (lv' := [(0, vR 7), (1, vI x1)]) (st' := [vI 5, vI x1]) rfl ?_
    refine r_icmp_lt J (tgt := 20) rfl (by decide) (fun c11 => ?_) (fun c11 => ?_)
    · refine r_run J 1 (pc' := 21) (lv' := [(0, vR 7), (1, vI x1)]) (st' := [vR 7]) rfl ?_
      refine r_callV J (As := []) (st := []) (fun r hr => c_X7_advance σ M N hL r hr) cls7 (ly_7 hL) wm_7_60 wy_X7_advance wd_X7_advance ⟨by omega, by decide, by decide, by decide, Nat.le_of_ble_eq_true rfl⟩ rfl rfl (fun q21 hq21 => ?_)
      show g_H E 0 0 24 [(0, vR 7), (1, vI x1)] [] (σ, q21, N) _ _
      refine r_run J 4 (pc' := 28) (lv' := [(0, vR 7), (1, vI x1)]) (st' := [vI (x1 + (1 : Int32)), vR 7]) rfl ?_
      refine r_callV J (As := [vI (x1 + (1 : Int32))]) (st := []) (fun r hr => hrecX7_readAll (x1 + (1 : Int32)) σ q21 N hL r hr) cls7 (ly_7 hL) wm_7_71 wy_X7_readAll wd_X7_readAll ⟨by omega, by decide, by decide, by decide, Nat.le_of_ble_eq_true rfl⟩ rfl rfl (fun q28 hq28 => ?_)
      show g_H E 0 0 31 [(0, vR 7), (1, vI x1)] [vI q28.1] (σ, q28.2, N) _ _
      refine r_if_ne J (tgt := 36) rfl (by decide) (fun c31 => ?_) (fun c31 => ?_)
      · refine r_run J 1 (pc' := 35) (lv' := [(0, vR 7), (1, vI x1)]) (st' := [vI 0]) rfl ?_
        exact r_iret J rfl rfl rfl rfl (by decide) (by decide)
      · refine r_run J 1 (pc' := 37) (lv' := [(0, vR 7), (1, vI x1)]) (st' := [vR 7]) rfl ?_
        refine r_getI J cls7 rfl (k := 11) (by decide) wf_7_48 rfl (ly_7 hL) ?_
        show g_H E 0 0 40 [(0, vR 7), (1, vI x1)] [vI (q28.2 7 11)] (σ, q28.2, N) _ _
        refine r_run J 1 (pc' := 42) (lv' := [(0, vR 7), (1, vI x1)]) (st' := [vI 41, vI (q28.2 7 11)]) rfl ?_
        refine r_icmp_eq J (tgt := 113) rfl (by decide) (fun c42 => ?_) (fun c42 => ?_)
        · refine r_sub [0] (lv' := [(0, vR 7)]) rfl ?_
          exact p_X7_readPart_113 J hrecX7_readAll σ q28.2 N hL
        · refine r_run J 2 (pc' := 47) (lv' := [(0, vR 7), (1, vI x1)]) (st' := [vI 1, vR 7]) rfl ?_
          refine r_callV J (As := [vI 1]) (st := []) (fun r hr => c_X7_refuse 1 σ q28.2 N hL r hr) cls7 (ly_7 hL) wm_7_63 wy_X7_refuse wd_X7_refuse ⟨by omega, by decide, by decide, by decide, Nat.le_of_ble_eq_true rfl⟩ rfl rfl (fun q47 hq47 => ?_)
          show g_H E 0 0 50 [(0, vR 7), (1, vI x1)] [vI q47.1] (σ, q47.2, N) _ _
          refine r_chk (fun hz => ?_)
          exact r_iret J rfl rfl (g_b_nar hz) rfl (by decide) (by decide)
    · refine r_run J 2 (pc' := 16) (lv' := [(0, vR 7), (1, vI x1)]) (st' := [vI 3, vR 7]) rfl ?_
      refine r_callV J (As := [vI 3]) (st := []) (fun r hr => c_X7_refuse 3 σ M N hL r hr) cls7 (ly_7 hL) wm_7_63 wy_X7_refuse wd_X7_refuse ⟨by omega, by decide, by decide, by decide, Nat.le_of_ble_eq_true rfl⟩ rfl rfl (fun q16 hq16 => ?_)
      show g_H E 0 0 19 [(0, vR 7), (1, vI x1)] [vI q16.1] (σ, q16.2, N) _ _
      refine r_chk (fun hz => ?_)
      exact r_iret J rfl rfl (g_b_nar hz) rfl (by decide) (by decide)
  · refine r_run J 1 (pc' := 52) (lv' := [(0, vR 7), (1, vI x1)]) (st' := [vR 7]) rfl ?_
    refine r_getI J cls7 rfl (k := 11) (by decide) wf_7_48 rfl (ly_7 hL) ?_
    show g_H E 0 0 55 [(0, vR 7), (1, vI x1)] [vI (M 7 11)] (σ, M, N) _ _
    refine r_run J 1 (pc' := 58) (lv' := [(0, vR 7), (1, vI x1)]) (st' := [vI 1000, vI (M 7 11)]) rfl ?_
    refine r_icmp_lt J (tgt := 76) rfl (by decide) (fun c58 => ?_) (fun c58 => ?_)
    · refine r_run J 1 (pc' := 77) (lv' := [(0, vR 7), (1, vI x1)]) (st' := [vR 7]) rfl ?_
      refine r_getI J cls7 rfl (k := 11) (by decide) wf_7_48 rfl (ly_7 hL) ?_
      show g_H E 0 0 80 [(0, vR 7), (1, vI x1)] [vI (M 7 11)] (σ, M, N) _ _
      refine r_run J 1 (pc' := 82) (lv' := [(0, vR 7), (1, vI x1)]) (st' := [vI 6, vI (M 7 11)]) rfl ?_
      refine r_icmp_lt J (tgt := 107) rfl (by decide) (fun c82 => ?_) (fun c82 => ?_)
      · refine r_sub [0] (lv' := [(0, vR 7)]) rfl ?_
        exact p_X7_readPart_107 J hrecX7_readAll σ M N hL
      · refine r_run J 1 (pc' := 86) (lv' := [(0, vR 7), (1, vI x1)]) (st' := [vR 7]) rfl ?_
        refine r_getI J cls7 rfl (k := 11) (by decide) wf_7_48 rfl (ly_7 hL) ?_
        show g_H E 0 0 89 [(0, vR 7), (1, vI x1)] [vI (M 7 11)] (σ, M, N) _ _
        refine r_run J 1 (pc' := 91) (lv' := [(0, vR 7), (1, vI x1)]) (st' := [vI 10, vI (M 7 11)]) rfl ?_
        refine r_icmp_gt J (tgt := 107) rfl (by decide) (fun c91 => ?_) (fun c91 => ?_)
        · refine r_sub [0] (lv' := [(0, vR 7)]) rfl ?_
          exact p_X7_readPart_107 J hrecX7_readAll σ M N hL
        · refine r_run J 3 (pc' := 97) (lv' := [(0, vR 7), (1, vI x1)]) (st' := [vR 7, vI 5, vR 7]) rfl ?_
          refine r_getI J cls7 rfl (k := 11) (by decide) wf_7_48 rfl (ly_7 hL) ?_
          show g_H E 0 0 100 [(0, vR 7), (1, vI x1)] [vI (M 7 11), vI 5, vR 7] (σ, M, N) _ _
          refine r_run J 1 (pc' := 101) (lv' := [(0, vR 7), (1, vI x1)]) (st' := [vI ((5 : Int32) - (M 7 11)), vR 7]) rfl ?_
          refine r_callV J (As := [vI ((5 : Int32) - (M 7 11))]) (st := []) (fun r hr => c_X7_write ((5 : Int32) - (M 7 11)) σ M N hL r hr) cls7 (ly_7 hL) wm_7_77 wy_X7_write wd_X7_write ⟨by omega, by decide, by decide, by decide, Nat.le_of_ble_eq_true rfl⟩ rfl rfl (fun q101 hq101 => ?_)
          show g_H E 0 0 104 [(0, vR 7), (1, vI x1)] [] (σ, q101, N) _ _
          refine r_run J 1 (pc' := 113) (lv' := [(0, vR 7), (1, vI x1)]) (st' := []) rfl ?_
          refine r_sub [0] (lv' := [(0, vR 7)]) rfl ?_
          exact p_X7_readPart_113 J hrecX7_readAll σ q101 N hL
    · refine r_run J 2 (pc' := 63) (lv' := [(0, vR 7), (1, vI x1)]) (st' := [vR 7, vR 7]) rfl ?_
      refine r_getI J cls7 rfl (k := 11) (by decide) wf_7_48 rfl (ly_7 hL) ?_
      show g_H E 0 0 66 [(0, vR 7), (1, vI x1)] [vI (M 7 11), vR 7] (σ, M, N) _ _
      refine r_run J 2 (pc' := 70) (lv' := [(0, vR 7), (1, vI x1)]) (st' := [vI ((M 7 11) - (1000 : Int32)), vR 7]) rfl ?_
      refine r_callV J (As := [vI ((M 7 11) - (1000 : Int32))]) (st := []) (fun r hr => c_X7_write ((M 7 11) - (1000 : Int32)) σ M N hL r hr) cls7 (ly_7 hL) wm_7_77 wy_X7_write wd_X7_write ⟨by omega, by decide, by decide, by decide, Nat.le_of_ble_eq_true rfl⟩ rfl rfl (fun q70 hq70 => ?_)
      show g_H E 0 0 73 [(0, vR 7), (1, vI x1)] [] (σ, q70, N) _ _
      refine r_run J 1 (pc' := 113) (lv' := [(0, vR 7), (1, vI x1)]) (st' := []) rfl ?_
      refine r_sub [0] (lv' := [(0, vR 7)]) rfl ?_
      exact p_X7_readPart_113 J hrecX7_readAll σ q70 N hL
def tb_X7_readSum : gT := [(0, .aload_n 0, 1, 0), (1, .iload_n 1, 1, 0), (2, .invokevirtual 84, 3, 0), (5, .ifCond .ne 5, 3, 0), (8, .iconst 0, 1, 0), (9, .ireturn, 1, 0), (10, .iconst 0, 1, 0), (11, .istore_n 2, 1, 0), (12, .aload_n 0, 1, 0), (13, .getfield 48, 3, 0), (16, .bipush 43, 2, 43), (18, .if_icmp .eq 12, 3, 0), (21, .aload_n 0, 1, 0), (22, .getfield 48, 3, 0), (25, .bipush 45, 2, 45), (27, .if_icmp .ne 52, 3, 0), (30, .iload_n 2, 1, 0), (31, .sipush 400, 3, 400), (34, .if_icmp .ge 45, 3, 0), (37, .aload_n 0, 1, 0), (38, .getfield 48, 3, 0), (41, .bipush 43, 2, 43), (43, .if_icmp .ne 8, 3, 0), (46, .bipush (-9), 2, (-9)), (48, .goto 5, 3, 0), (51, .bipush (-10), 2, (-10)), (53, .istore_n 3, 1, 0), (54, .aload_n 0, 1, 0), (55, .invokevirtual 60, 3, 0), (58, .aload_n 0, 1, 0), (59, .iload_n 1, 1, 0), (60, .invokevirtual 84, 3, 0), (63, .ifCond .ne 5, 3, 0), (66, .iconst 0, 1, 0), (67, .ireturn, 1, 0), (68, .aload_n 0, 1, 0), (69, .iload_n 3, 1, 0), (70, .invokevirtual 77, 3, 0), (73, .iinc 2 1, 3, 1), (76, .goto (-64), 3, 0), (79, .iconst 1, 1, 1), (80, .ireturn, 1, 0)]
set_option maxRecDepth 100000 in
theorem tk_X7_readSum : g_okT cX7_readSum tb_X7_readSum = true := by decide +kernel
abbrev J_X7_readSum (d : Nat) (E : gE) (l : Launch) : Prop := g_J E cX7_readSum RX7 "readSum" (some .boolean) 4 tb_X7_readSum (2 + d) 0 0 l
set_option maxHeartbeats 4000000 in
set_option maxRecDepth 100000 in
theorem p_X7_readSum_53 {l : Launch} {E : gE} {d' : Nat}  {recX7_readPart : Int32 → gS → gM → Option (Int32 × gM)}(J : J_X7_readSum (d' + 1) E l) (hrecX7_readPart : ∀ (x1 : Int32) (σ : gS) (M : gM) (N : gN) (_ : g_layC σ) r, recX7_readPart x1 σ M = some r → g_Ct l yX7_readPart cX7_readPart 2 (some .boolean) (2 + d') 0 0 [vR 7, vI x1] (σ, M, N) (eIM σ N r)) {k12 : Int32 → Int32 → gS → gM → Option (Int32 × gM)} (H12 : ∀ (x1 : Int32) (x2 : Int32) (σ : gS) (M : gM) (N : gN) (_ : g_layC σ), g_H E 0 0 12 [(0, vR 7), (1, vI x1), (2, vI x2)] [] (σ, M, N) (k12 x1 x2 σ M) (eIM σ N)) (x1 : Int32) (x2 : Int32) (sx0 : Int32) (σ : gS) (M : gM) (N : gN) (hL : g_layC σ) : g_H E 0 0 53 [(0, vR 7), (1, vI x1), (2, vI x2)] [vI sx0] (σ, M, N) (b_X7_readSum_53 recX7_readPart k12 x1 x2 sx0 σ M) (eIM σ N) := by
  unfold b_X7_readSum_53
  refine r_run J 2 (pc' := 55) (lv' := [(3, vI sx0), (0, vR 7), (1, vI x1), (2, vI x2)]) (st' := [vR 7]) rfl ?_
  refine r_callV J (As := []) (st := []) (fun r hr => c_X7_advance σ M N hL r hr) cls7 (ly_7 hL) wm_7_60 wy_X7_advance wd_X7_advance ⟨by omega, by decide, by decide, by decide, Nat.le_of_ble_eq_true rfl⟩ rfl rfl (fun q55 hq55 => ?_)
  show g_H E 0 0 58 [(3, vI sx0), (0, vR 7), (1, vI x1), (2, vI x2)] [] (σ, q55, N) _ _
  refine r_run J 2 (pc' := 60) (lv' := [(3, vI sx0), (0, vR 7), (1, vI x1), (2, vI x2)]) (st' := [vI x1, vR 7]) rfl ?_
  refine r_callV J (As := [vI x1]) (st := []) (fun r hr => hrecX7_readPart x1 σ q55 N hL r hr) cls7 (ly_7 hL) wm_7_84 wy_X7_readPart wd_X7_readPart ⟨by omega, by decide, by decide, by decide, Nat.le_of_ble_eq_true rfl⟩ rfl rfl (fun q60 hq60 => ?_)
  show g_H E 0 0 63 [(3, vI sx0), (0, vR 7), (1, vI x1), (2, vI x2)] [vI q60.1] (σ, q60.2, N) _ _
  refine r_if_ne J (tgt := 68) rfl (by decide) (fun c63 => ?_) (fun c63 => ?_)
  · refine r_run J 1 (pc' := 67) (lv' := [(3, vI sx0), (0, vR 7), (1, vI x1), (2, vI x2)]) (st' := [vI 0]) rfl ?_
    exact r_iret J rfl rfl rfl rfl (by decide) (by decide)
  · refine r_run J 2 (pc' := 70) (lv' := [(3, vI sx0), (0, vR 7), (1, vI x1), (2, vI x2)]) (st' := [vI sx0, vR 7]) rfl ?_
    refine r_callV J (As := [vI sx0]) (st := []) (fun r hr => c_X7_write sx0 σ q60.2 N hL r hr) cls7 (ly_7 hL) wm_7_77 wy_X7_write wd_X7_write ⟨by omega, by decide, by decide, by decide, Nat.le_of_ble_eq_true rfl⟩ rfl rfl (fun q70 hq70 => ?_)
    show g_H E 0 0 73 [(3, vI sx0), (0, vR 7), (1, vI x1), (2, vI x2)] [] (σ, q70, N) _ _
    refine r_run J 2 (pc' := 12) (lv' := [(2, vI (x2 + 1)), (3, vI sx0), (0, vR 7), (1, vI x1)]) (st' := []) rfl ?_
    refine r_sub [2, 3, 0] (lv' := [(0, vR 7), (1, vI x1), (2, vI (x2 + 1))]) rfl ?_
    exact H12 x1 (x2 + 1) σ q70 N hL
set_option maxHeartbeats 4000000 in
set_option maxRecDepth 100000 in
theorem p_X7_readSum_30 {l : Launch} {E : gE} {d' : Nat}  {recX7_readPart : Int32 → gS → gM → Option (Int32 × gM)}(J : J_X7_readSum (d' + 1) E l) (hrecX7_readPart : ∀ (x1 : Int32) (σ : gS) (M : gM) (N : gN) (_ : g_layC σ) r, recX7_readPart x1 σ M = some r → g_Ct l yX7_readPart cX7_readPart 2 (some .boolean) (2 + d') 0 0 [vR 7, vI x1] (σ, M, N) (eIM σ N r)) {k12 : Int32 → Int32 → gS → gM → Option (Int32 × gM)} (H12 : ∀ (x1 : Int32) (x2 : Int32) (σ : gS) (M : gM) (N : gN) (_ : g_layC σ), g_H E 0 0 12 [(0, vR 7), (1, vI x1), (2, vI x2)] [] (σ, M, N) (k12 x1 x2 σ M) (eIM σ N)) (x1 : Int32) (x2 : Int32) (σ : gS) (M : gM) (N : gN) (hL : g_layC σ) : g_H E 0 0 30 [(0, vR 7), (1, vI x1), (2, vI x2)] [] (σ, M, N) (b_X7_readSum_30 recX7_readPart k12 x1 x2 σ M) (eIM σ N) := by
  unfold b_X7_readSum_30
  refine r_run J 2 (pc' := 34) (lv' := [(0, vR 7), (1, vI x1), (2, vI x2)]) (st' := [vI 400, vI x2]) rfl ?_
  refine r_icmp_ge J (tgt := 79) rfl (by decide) (fun c34 => ?_) (fun c34 => ?_)
  · refine r_run J 1 (pc' := 38) (lv' := [(0, vR 7), (1, vI x1), (2, vI x2)]) (st' := [vR 7]) rfl ?_
    refine r_getI J cls7 rfl (k := 11) (by decide) wf_7_48 rfl (ly_7 hL) ?_
    show g_H E 0 0 41 [(0, vR 7), (1, vI x1), (2, vI x2)] [vI (M 7 11)] (σ, M, N) _ _
    refine r_run J 1 (pc' := 43) (lv' := [(0, vR 7), (1, vI x1), (2, vI x2)]) (st' := [vI 43, vI (M 7 11)]) rfl ?_
    refine r_icmp_ne J (tgt := 51) rfl (by decide) (fun c43 => ?_) (fun c43 => ?_)
    · refine r_run J 2 (pc' := 53) (lv' := [(0, vR 7), (1, vI x1), (2, vI x2)]) (st' := [vI (-9)]) rfl ?_
      exact p_X7_readSum_53 J hrecX7_readPart H12 x1 x2 (-9) σ M N hL
    · refine r_run J 1 (pc' := 53) (lv' := [(0, vR 7), (1, vI x1), (2, vI x2)]) (st' := [vI (-10)]) rfl ?_
      exact p_X7_readSum_53 J hrecX7_readPart H12 x1 x2 (-10) σ M N hL
  · refine r_run J 1 (pc' := 80) (lv' := [(0, vR 7), (1, vI x1), (2, vI x2)]) (st' := [vI 1]) rfl ?_
    exact r_iret J rfl rfl rfl rfl (by decide) (by decide)
set_option maxHeartbeats 4000000 in
set_option maxRecDepth 100000 in
theorem p_X7_readSum_12 {l : Launch} {E : gE} {d' : Nat}  {recX7_readPart : Int32 → gS → gM → Option (Int32 × gM)}(J : J_X7_readSum (d' + 1) E l) (hrecX7_readPart : ∀ (x1 : Int32) (σ : gS) (M : gM) (N : gN) (_ : g_layC σ) r, recX7_readPart x1 σ M = some r → g_Ct l yX7_readPart cX7_readPart 2 (some .boolean) (2 + d') 0 0 [vR 7, vI x1] (σ, M, N) (eIM σ N r)) : ∀ (n : Nat) (x1 : Int32) (x2 : Int32) (σ : gS) (M : gM) (N : gN) (hL : g_layC σ), g_H E 0 0 12 [(0, vR 7), (1, vI x1), (2, vI x2)] [] (σ, M, N) (l_X7_readSum_12 recX7_readPart n x1 x2 σ M) (eIM σ N) := by
  intro n
  induction n with
  | zero => intros; exact h_none
  | succ n ih =>
    intro x1 x2 σ M N hL
    rw [l_X7_readSum_12]
    refine r_run J 1 (pc' := 13) (lv' := [(0, vR 7), (1, vI x1), (2, vI x2)]) (st' := [vR 7]) rfl ?_
    refine r_getI J cls7 rfl (k := 11) (by decide) wf_7_48 rfl (ly_7 hL) ?_
    show g_H E 0 0 16 [(0, vR 7), (1, vI x1), (2, vI x2)] [vI (M 7 11)] (σ, M, N) _ _
    refine r_run J 1 (pc' := 18) (lv' := [(0, vR 7), (1, vI x1), (2, vI x2)]) (st' := [vI 43, vI (M 7 11)]) rfl ?_
    refine r_icmp_eq J (tgt := 30) rfl (by decide) (fun c18 => ?_) (fun c18 => ?_)
    · exact p_X7_readSum_30 J hrecX7_readPart ih x1 x2 σ M N hL
    · refine r_run J 1 (pc' := 22) (lv' := [(0, vR 7), (1, vI x1), (2, vI x2)]) (st' := [vR 7]) rfl ?_
      refine r_getI J cls7 rfl (k := 11) (by decide) wf_7_48 rfl (ly_7 hL) ?_
      show g_H E 0 0 25 [(0, vR 7), (1, vI x1), (2, vI x2)] [vI (M 7 11)] (σ, M, N) _ _
      refine r_run J 1 (pc' := 27) (lv' := [(0, vR 7), (1, vI x1), (2, vI x2)]) (st' := [vI 45, vI (M 7 11)]) rfl ?_
      refine r_icmp_ne J (tgt := 79) rfl (by decide) (fun c27 => ?_) (fun c27 => ?_)
      · exact p_X7_readSum_30 J hrecX7_readPart ih x1 x2 σ M N hL
      · refine r_run J 1 (pc' := 80) (lv' := [(0, vR 7), (1, vI x1), (2, vI x2)]) (st' := [vI 1]) rfl ?_
        exact r_iret J rfl rfl rfl rfl (by decide) (by decide)
set_option maxHeartbeats 4000000 in
set_option maxRecDepth 100000 in
theorem p_X7_readSum_0 {l : Launch} {E : gE} {d' : Nat}  {recX7_readPart : Int32 → gS → gM → Option (Int32 × gM)}(J : J_X7_readSum (d' + 1) E l) (hrecX7_readPart : ∀ (x1 : Int32) (σ : gS) (M : gM) (N : gN) (_ : g_layC σ) r, recX7_readPart x1 σ M = some r → g_Ct l yX7_readPart cX7_readPart 2 (some .boolean) (2 + d') 0 0 [vR 7, vI x1] (σ, M, N) (eIM σ N r)) (x1 : Int32) (σ : gS) (M : gM) (N : gN) (hL : g_layC σ) : g_H E 0 0 0 [(0, vR 7), (1, vI x1)] [] (σ, M, N) (b_X7_readSum_0 recX7_readPart x1 σ M) (eIM σ N) := by
  unfold b_X7_readSum_0
  refine r_run J 2 (pc' := 2) (lv' := [(0, vR 7), (1, vI x1)]) (st' := [vI x1, vR 7]) rfl ?_
  refine r_callV J (As := [vI x1]) (st := []) (fun r hr => hrecX7_readPart x1 σ M N hL r hr) cls7 (ly_7 hL) wm_7_84 wy_X7_readPart wd_X7_readPart ⟨by omega, by decide, by decide, by decide, Nat.le_of_ble_eq_true rfl⟩ rfl rfl (fun q2 hq2 => ?_)
  show g_H E 0 0 5 [(0, vR 7), (1, vI x1)] [vI q2.1] (σ, q2.2, N) _ _
  refine r_if_ne J (tgt := 10) rfl (by decide) (fun c5 => ?_) (fun c5 => ?_)
  · refine r_run J 1 (pc' := 9) (lv' := [(0, vR 7), (1, vI x1)]) (st' := [vI 0]) rfl ?_
    exact r_iret J rfl rfl rfl rfl (by decide) (by decide)
  · refine r_run J 2 (pc' := 12) (lv' := [(2, vI 0), (0, vR 7), (1, vI x1)]) (st' := []) rfl ?_
    refine r_sub [1, 2, 0] (lv' := [(0, vR 7), (1, vI x1), (2, vI 0)]) rfl ?_
    exact p_X7_readSum_12 J hrecX7_readPart g_FU x1 0 σ q2.2 N hL
def tb_X7_readTest : gT := [(0, .aload_n 0, 1, 0), (1, .iload_n 1, 1, 0), (2, .invokevirtual 81, 3, 0), (5, .ifCond .ne 5, 3, 0), (8, .iconst 0, 1, 0), (9, .ireturn, 1, 0), (10, .aload_n 0, 1, 0), (11, .getfield 48, 3, 0), (14, .bipush 60, 2, 60), (16, .if_icmp .eq 14, 3, 0), (19, .aload_n 0, 1, 0), (20, .getfield 48, 3, 0), (23, .bipush 61, 2, 61), (25, .if_icmp .eq 5, 3, 0), (28, .iconst 1, 1, 1), (29, .ireturn, 1, 0), (30, .aload_n 0, 1, 0), (31, .getfield 48, 3, 0), (34, .bipush 60, 2, 60), (36, .if_icmp .ne 8, 3, 0), (39, .bipush (-7), 2, (-7)), (41, .goto 5, 3, 0), (44, .bipush (-8), 2, (-8)), (46, .istore_n 2, 1, 0), (47, .aload_n 0, 1, 0), (48, .invokevirtual 60, 3, 0), (51, .aload_n 0, 1, 0), (52, .iload_n 1, 1, 0), (53, .invokevirtual 81, 3, 0), (56, .ifCond .ne 5, 3, 0), (59, .iconst 0, 1, 0), (60, .ireturn, 1, 0), (61, .aload_n 0, 1, 0), (62, .iload_n 2, 1, 0), (63, .invokevirtual 77, 3, 0), (66, .iconst 1, 1, 1), (67, .ireturn, 1, 0)]
set_option maxRecDepth 100000 in
theorem tk_X7_readTest : g_okT cX7_readTest tb_X7_readTest = true := by decide +kernel
abbrev J_X7_readTest (d : Nat) (E : gE) (l : Launch) : Prop := g_J E cX7_readTest RX7 "readTest" (some .boolean) 3 tb_X7_readTest (2 + d) 0 0 l
set_option maxHeartbeats 4000000 in
set_option maxRecDepth 100000 in
theorem p_X7_readTest_46 {l : Launch} {E : gE} {d' : Nat}  {recX7_readSum : Int32 → gS → gM → Option (Int32 × gM)}(J : J_X7_readTest (d' + 1) E l) (hrecX7_readSum : ∀ (x1 : Int32) (σ : gS) (M : gM) (N : gN) (_ : g_layC σ) r, recX7_readSum x1 σ M = some r → g_Ct l yX7_readSum cX7_readSum 4 (some .boolean) (2 + d') 0 0 [vR 7, vI x1] (σ, M, N) (eIM σ N r)) (x1 : Int32) (sx0 : Int32) (σ : gS) (M : gM) (N : gN) (hL : g_layC σ) : g_H E 0 0 46 [(0, vR 7), (1, vI x1)] [vI sx0] (σ, M, N) (b_X7_readTest_46 recX7_readSum x1 sx0 σ M) (eIM σ N) := by
  unfold b_X7_readTest_46
  refine r_run J 2 (pc' := 48) (lv' := [(2, vI sx0), (0, vR 7), (1, vI x1)]) (st' := [vR 7]) rfl ?_
  refine r_callV J (As := []) (st := []) (fun r hr => c_X7_advance σ M N hL r hr) cls7 (ly_7 hL) wm_7_60 wy_X7_advance wd_X7_advance ⟨by omega, by decide, by decide, by decide, Nat.le_of_ble_eq_true rfl⟩ rfl rfl (fun q48 hq48 => ?_)
  show g_H E 0 0 51 [(2, vI sx0), (0, vR 7), (1, vI x1)] [] (σ, q48, N) _ _
  refine r_run J 2 (pc' := 53) (lv' := [(2, vI sx0), (0, vR 7), (1, vI x1)]) (st' := [vI x1, vR 7]) rfl ?_
  refine r_callV J (As := [vI x1]) (st := []) (fun r hr => hrecX7_readSum x1 σ q48 N hL r hr) cls7 (ly_7 hL) wm_7_81 wy_X7_readSum wd_X7_readSum ⟨by omega, by decide, by decide, by decide, Nat.le_of_ble_eq_true rfl⟩ rfl rfl (fun q53 hq53 => ?_)
  show g_H E 0 0 56 [(2, vI sx0), (0, vR 7), (1, vI x1)] [vI q53.1] (σ, q53.2, N) _ _
  refine r_if_ne J (tgt := 61) rfl (by decide) (fun c56 => ?_) (fun c56 => ?_)
  · refine r_run J 1 (pc' := 60) (lv' := [(2, vI sx0), (0, vR 7), (1, vI x1)]) (st' := [vI 0]) rfl ?_
    exact r_iret J rfl rfl rfl rfl (by decide) (by decide)
  · refine r_run J 2 (pc' := 63) (lv' := [(2, vI sx0), (0, vR 7), (1, vI x1)]) (st' := [vI sx0, vR 7]) rfl ?_
    refine r_callV J (As := [vI sx0]) (st := []) (fun r hr => c_X7_write sx0 σ q53.2 N hL r hr) cls7 (ly_7 hL) wm_7_77 wy_X7_write wd_X7_write ⟨by omega, by decide, by decide, by decide, Nat.le_of_ble_eq_true rfl⟩ rfl rfl (fun q63 hq63 => ?_)
    show g_H E 0 0 66 [(2, vI sx0), (0, vR 7), (1, vI x1)] [] (σ, q63, N) _ _
    refine r_run J 1 (pc' := 67) (lv' := [(2, vI sx0), (0, vR 7), (1, vI x1)]) (st' := [vI 1]) rfl ?_
    exact r_iret J rfl rfl rfl rfl (by decide) (by decide)
set_option maxHeartbeats 4000000 in
set_option maxRecDepth 100000 in
theorem p_X7_readTest_30 {l : Launch} {E : gE} {d' : Nat}  {recX7_readSum : Int32 → gS → gM → Option (Int32 × gM)}(J : J_X7_readTest (d' + 1) E l) (hrecX7_readSum : ∀ (x1 : Int32) (σ : gS) (M : gM) (N : gN) (_ : g_layC σ) r, recX7_readSum x1 σ M = some r → g_Ct l yX7_readSum cX7_readSum 4 (some .boolean) (2 + d') 0 0 [vR 7, vI x1] (σ, M, N) (eIM σ N r)) (x1 : Int32) (σ : gS) (M : gM) (N : gN) (hL : g_layC σ) : g_H E 0 0 30 [(0, vR 7), (1, vI x1)] [] (σ, M, N) (b_X7_readTest_30 recX7_readSum x1 σ M) (eIM σ N) := by
  unfold b_X7_readTest_30
  refine r_run J 1 (pc' := 31) (lv' := [(0, vR 7), (1, vI x1)]) (st' := [vR 7]) rfl ?_
  refine r_getI J cls7 rfl (k := 11) (by decide) wf_7_48 rfl (ly_7 hL) ?_
  show g_H E 0 0 34 [(0, vR 7), (1, vI x1)] [vI (M 7 11)] (σ, M, N) _ _
  refine r_run J 1 (pc' := 36) (lv' := [(0, vR 7), (1, vI x1)]) (st' := [vI 60, vI (M 7 11)]) rfl ?_
  refine r_icmp_ne J (tgt := 44) rfl (by decide) (fun c36 => ?_) (fun c36 => ?_)
  · refine r_run J 2 (pc' := 46) (lv' := [(0, vR 7), (1, vI x1)]) (st' := [vI (-7)]) rfl ?_
    exact p_X7_readTest_46 J hrecX7_readSum x1 (-7) σ M N hL
  · refine r_run J 1 (pc' := 46) (lv' := [(0, vR 7), (1, vI x1)]) (st' := [vI (-8)]) rfl ?_
    exact p_X7_readTest_46 J hrecX7_readSum x1 (-8) σ M N hL
set_option maxHeartbeats 4000000 in
set_option maxRecDepth 100000 in
theorem p_X7_readTest_0 {l : Launch} {E : gE} {d' : Nat}  {recX7_readSum : Int32 → gS → gM → Option (Int32 × gM)}(J : J_X7_readTest (d' + 1) E l) (hrecX7_readSum : ∀ (x1 : Int32) (σ : gS) (M : gM) (N : gN) (_ : g_layC σ) r, recX7_readSum x1 σ M = some r → g_Ct l yX7_readSum cX7_readSum 4 (some .boolean) (2 + d') 0 0 [vR 7, vI x1] (σ, M, N) (eIM σ N r)) (x1 : Int32) (σ : gS) (M : gM) (N : gN) (hL : g_layC σ) : g_H E 0 0 0 [(0, vR 7), (1, vI x1)] [] (σ, M, N) (b_X7_readTest_0 recX7_readSum x1 σ M) (eIM σ N) := by
  unfold b_X7_readTest_0
  refine r_run J 2 (pc' := 2) (lv' := [(0, vR 7), (1, vI x1)]) (st' := [vI x1, vR 7]) rfl ?_
  refine r_callV J (As := [vI x1]) (st := []) (fun r hr => hrecX7_readSum x1 σ M N hL r hr) cls7 (ly_7 hL) wm_7_81 wy_X7_readSum wd_X7_readSum ⟨by omega, by decide, by decide, by decide, Nat.le_of_ble_eq_true rfl⟩ rfl rfl (fun q2 hq2 => ?_)
  show g_H E 0 0 5 [(0, vR 7), (1, vI x1)] [vI q2.1] (σ, q2.2, N) _ _
  refine r_if_ne J (tgt := 10) rfl (by decide) (fun c5 => ?_) (fun c5 => ?_)
  · refine r_run J 1 (pc' := 9) (lv' := [(0, vR 7), (1, vI x1)]) (st' := [vI 0]) rfl ?_
    exact r_iret J rfl rfl rfl rfl (by decide) (by decide)
  · refine r_run J 1 (pc' := 11) (lv' := [(0, vR 7), (1, vI x1)]) (st' := [vR 7]) rfl ?_
    refine r_getI J cls7 rfl (k := 11) (by decide) wf_7_48 rfl (ly_7 hL) ?_
    show g_H E 0 0 14 [(0, vR 7), (1, vI x1)] [vI (q2.2 7 11)] (σ, q2.2, N) _ _
    refine r_run J 1 (pc' := 16) (lv' := [(0, vR 7), (1, vI x1)]) (st' := [vI 60, vI (q2.2 7 11)]) rfl ?_
    refine r_icmp_eq J (tgt := 30) rfl (by decide) (fun c16 => ?_) (fun c16 => ?_)
    · exact p_X7_readTest_30 J hrecX7_readSum x1 σ q2.2 N hL
    · refine r_run J 1 (pc' := 20) (lv' := [(0, vR 7), (1, vI x1)]) (st' := [vR 7]) rfl ?_
      refine r_getI J cls7 rfl (k := 11) (by decide) wf_7_48 rfl (ly_7 hL) ?_
      show g_H E 0 0 23 [(0, vR 7), (1, vI x1)] [vI (q2.2 7 11)] (σ, q2.2, N) _ _
      refine r_run J 1 (pc' := 25) (lv' := [(0, vR 7), (1, vI x1)]) (st' := [vI 61, vI (q2.2 7 11)]) rfl ?_
      refine r_icmp_eq J (tgt := 30) rfl (by decide) (fun c25 => ?_) (fun c25 => ?_)
      · exact p_X7_readTest_30 J hrecX7_readSum x1 σ q2.2 N hL
      · refine r_run J 1 (pc' := 29) (lv' := [(0, vR 7), (1, vI x1)]) (st' := [vI 1]) rfl ?_
        exact r_iret J rfl rfl rfl rfl (by decide) (by decide)
set_option maxHeartbeats 4000000 in
theorem cg_X7_readAll {l : Launch} : ∀ d : Nat, (∀ (x1 : Int32) (σ : gS) (M : gM) (N : gN) (_ : g_layC σ) r, f_X7_readAll d x1 σ M = some r → g_Ct l yX7_readAll cX7_readAll 3 (some .boolean) (2 + d) 0 0 [vR 7, vI x1] (σ, M, N) (eIM σ N r)) ∧ (∀ (x1 : Int32) (σ : gS) (M : gM) (N : gN) (_ : g_layC σ) r, f_X7_readPart d x1 σ M = some r → g_Ct l yX7_readPart cX7_readPart 2 (some .boolean) (2 + d) 0 0 [vR 7, vI x1] (σ, M, N) (eIM σ N r)) ∧ (∀ (x1 : Int32) (σ : gS) (M : gM) (N : gN) (_ : g_layC σ) r, f_X7_readSum d x1 σ M = some r → g_Ct l yX7_readSum cX7_readSum 4 (some .boolean) (2 + d) 0 0 [vR 7, vI x1] (σ, M, N) (eIM σ N r)) ∧ (∀ (x1 : Int32) (σ : gS) (M : gM) (N : gN) (_ : g_layC σ) r, f_X7_readTest d x1 σ M = some r → g_Ct l yX7_readTest cX7_readTest 3 (some .boolean) (2 + d) 0 0 [vR 7, vI x1] (σ, M, N) (eIM σ N r)) := by
  intro d
  induction d with
  | zero =>
    exact ⟨(fun _ _ _ _ _ _ h => by cases h), (fun _ _ _ _ _ _ h => by cases h), (fun _ _ _ _ _ _ h => by cases h), (fun _ _ _ _ _ _ h => by cases h)⟩
  | succ d ih =>
    exact ⟨fun x1 σ M N hL r h => g_Ct.of tb_X7_readAll (by decide +kernel) tk_X7_readAll (Nat.le_of_ble_eq_true rfl) (fun E J => p_X7_readAll_0 J ih.2.2.2 x1 σ M N hL r h),
      fun x1 σ M N hL r h => g_Ct.of tb_X7_readPart (by decide +kernel) tk_X7_readPart (Nat.le_of_ble_eq_true rfl) (fun E J => p_X7_readPart_0 J ih.1 x1 σ M N hL r h),
      fun x1 σ M N hL r h => g_Ct.of tb_X7_readSum (by decide +kernel) tk_X7_readSum (Nat.le_of_ble_eq_true rfl) (fun E J => p_X7_readSum_0 J ih.2.1 x1 σ M N hL r h),
      fun x1 σ M N hL r h => g_Ct.of tb_X7_readTest (by decide +kernel) tk_X7_readTest (Nat.le_of_ble_eq_true rfl) (fun E J => p_X7_readTest_0 J ih.2.2.1 x1 σ M N hL r h)⟩
theorem c_X7_readAll {l : Launch} (d : Nat) : ∀ (x1 : Int32) (σ : gS) (M : gM) (N : gN) (_ : g_layC σ) r, f_X7_readAll d x1 σ M = some r → g_Ct l yX7_readAll cX7_readAll 3 (some .boolean) (2 + d) 0 0 [vR 7, vI x1] (σ, M, N) (eIM σ N r) := (cg_X7_readAll d).1
theorem c_X7_readPart {l : Launch} (d : Nat) : ∀ (x1 : Int32) (σ : gS) (M : gM) (N : gN) (_ : g_layC σ) r, f_X7_readPart d x1 σ M = some r → g_Ct l yX7_readPart cX7_readPart 2 (some .boolean) (2 + d) 0 0 [vR 7, vI x1] (σ, M, N) (eIM σ N r) := (cg_X7_readAll d).2.1
theorem c_X7_readSum {l : Launch} (d : Nat) : ∀ (x1 : Int32) (σ : gS) (M : gM) (N : gN) (_ : g_layC σ) r, f_X7_readSum d x1 σ M = some r → g_Ct l yX7_readSum cX7_readSum 4 (some .boolean) (2 + d) 0 0 [vR 7, vI x1] (σ, M, N) (eIM σ N r) := (cg_X7_readAll d).2.2.1
theorem c_X7_readTest {l : Launch} (d : Nat) : ∀ (x1 : Int32) (σ : gS) (M : gM) (N : gN) (_ : g_layC σ) r, f_X7_readTest d x1 σ M = some r → g_Ct l yX7_readTest cX7_readTest 3 (some .boolean) (2 + d) 0 0 [vR 7, vI x1] (σ, M, N) (eIM σ N r) := (cg_X7_readAll d).2.2.2
def tb_X7_readRule : gT := [(0, .aload_n 0, 1, 0), (1, .getfield 36, 3, 0), (4, .iconst 3, 1, 3), (5, .imul, 1, 0), (6, .istore_n 1, 1, 0), (7, .aload_n 0, 1, 0), (8, .getfield 11, 3, 0), (11, .aload_n 0, 1, 0), (12, .getfield 36, 3, 0), (15, .aload_n 0, 1, 0), (16, .getfield 48, 3, 0), (19, .iastore, 1, 0), (20, .aload_n 0, 1, 0), (21, .getfield 17, 3, 0), (24, .iload_n 1, 1, 0), (25, .aload_n 0, 1, 0), (26, .getfield 39, 3, 0), (29, .iastore, 1, 0), (30, .aload_n 0, 1, 0), (31, .invokevirtual 60, 3, 0), (34, .aload_n 0, 1, 0), (35, .iconst 0, 1, 0), (36, .invokevirtual 71, 3, 0), (39, .ifCond .ne 5, 3, 0), (42, .iconst 0, 1, 0), (43, .ireturn, 1, 0), (44, .aload_n 0, 1, 0), (45, .getfield 17, 3, 0), (48, .iload_n 1, 1, 0), (49, .iconst 1, 1, 1), (50, .iadd, 1, 0), (51, .aload_n 0, 1, 0), (52, .getfield 39, 3, 0), (55, .iastore, 1, 0), (56, .aload_n 0, 1, 0), (57, .getfield 48, 3, 0), (60, .iconst 4, 1, 4), (61, .if_icmp .ne 17, 3, 0), (64, .aload_n 0, 1, 0), (65, .invokevirtual 60, 3, 0), (68, .aload_n 0, 1, 0), (69, .iconst 0, 1, 0), (70, .invokevirtual 71, 3, 0), (73, .ifCond .ne 5, 3, 0), (76, .iconst 0, 1, 0), (77, .ireturn, 1, 0), (78, .aload_n 0, 1, 0), (79, .getfield 17, 3, 0), (82, .iload_n 1, 1, 0), (83, .iconst 2, 1, 2), (84, .iadd, 1, 0), (85, .aload_n 0, 1, 0), (86, .getfield 39, 3, 0), (89, .iastore, 1, 0), (90, .aload_n 0, 1, 0), (91, .getfield 48, 3, 0), (94, .bipush 59, 2, 59), (96, .if_icmp .eq 9, 3, 0), (99, .aload_n 0, 1, 0), (100, .iconst 1, 1, 1), (101, .invokevirtual 63, 3, 0), (104, .ireturn, 1, 0), (105, .aload_n 0, 1, 0), (106, .invokevirtual 60, 3, 0), (109, .aload_n 0, 1, 0), (110, .dup, 1, 0), (111, .getfield 36, 3, 0), (114, .iconst 1, 1, 1), (115, .iadd, 1, 0), (116, .putfield 36, 3, 0), (119, .iconst 1, 1, 1), (120, .ireturn, 1, 0)]
set_option maxRecDepth 100000 in
theorem tk_X7_readRule : g_okT cX7_readRule tb_X7_readRule = true := by decide +kernel
abbrev J_X7_readRule (E : gE) (l : Launch) : Prop := g_J E cX7_readRule RX7 "readRule" (some .boolean) 2 tb_X7_readRule 67 0 0 l
set_option maxHeartbeats 4000000 in
set_option maxRecDepth 100000 in
theorem p_X7_readRule_78 {l : Launch} {E : gE} (J : J_X7_readRule E l) (x1 : Int32) (σ : gS) (M : gM) (N : gN) (hL : g_layC σ) : g_H E 0 0 78 [(0, vR 7), (1, vI x1)] [] (σ, M, N) (b_X7_readRule_78 x1 σ M) (eIM σ N) := by
  unfold b_X7_readRule_78
  refine r_run J 1 (pc' := 79) (lv' := [(0, vR 7), (1, vI x1)]) (st' := [vR 7]) rfl ?_
  refine r_getR J cls7 rfl (k := 1) (t := 14) (by decide) wf_7_17 rfl rfl (ly_7 hL) (lr_7_1 hL) (fun _ => ?_)
  show g_H E 0 0 82 [(0, vR 7), (1, vI x1)] [vR 9] (σ, M, N) _ _
  refine r_run J 4 (pc' := 86) (lv' := [(0, vR 7), (1, vI x1)]) (st' := [vR 7, vI (x1 + (2 : Int32)), vR 9]) rfl ?_
  refine r_getI J cls7 rfl (k := 8) (by decide) wf_7_39 rfl (ly_7 hL) ?_
  show g_H E 0 0 89 [(0, vR 7), (1, vI x1)] [vI (M 7 8), vI (x1 + (2 : Int32)), vR 9] (σ, M, N) _ _
  refine r_iast J rfl (ly_9 hL) (fun i89 => ?_)
  show g_H E 0 0 90 [(0, vR 7), (1, vI x1)] [] (σ, (g_up M 9 ((x1 + (2 : Int32)).toNatClampNeg) (M 7 8)), N) _ _
  refine r_run J 1 (pc' := 91) (lv' := [(0, vR 7), (1, vI x1)]) (st' := [vR 7]) rfl ?_
  refine r_getI J cls7 rfl (k := 11) (by decide) wf_7_48 rfl (ly_7 hL) ?_
  show g_H E 0 0 94 [(0, vR 7), (1, vI x1)] [vI ((g_up M 9 ((x1 + (2 : Int32)).toNatClampNeg) (M 7 8)) 7 11)] (σ, (g_up M 9 ((x1 + (2 : Int32)).toNatClampNeg) (M 7 8)), N) _ _
  refine r_run J 1 (pc' := 96) (lv' := [(0, vR 7), (1, vI x1)]) (st' := [vI 59, vI ((g_up M 9 ((x1 + (2 : Int32)).toNatClampNeg) (M 7 8)) 7 11)]) rfl ?_
  refine r_icmp_eq J (tgt := 105) rfl (by decide) (fun c96 => ?_) (fun c96 => ?_)
  · refine r_run J 1 (pc' := 106) (lv' := [(0, vR 7), (1, vI x1)]) (st' := [vR 7]) rfl ?_
    refine r_callV J (As := []) (st := []) (fun r hr => c_X7_advance σ (g_up M 9 ((x1 + (2 : Int32)).toNatClampNeg) (M 7 8)) N hL r hr) cls7 (ly_7 hL) wm_7_60 wy_X7_advance wd_X7_advance ⟨by decide, by decide, by decide, by decide, Nat.le_of_ble_eq_true rfl⟩ rfl rfl (fun q106 hq106 => ?_)
    show g_H E 0 0 109 [(0, vR 7), (1, vI x1)] [] (σ, q106, N) _ _
    refine r_run J 2 (pc' := 111) (lv' := [(0, vR 7), (1, vI x1)]) (st' := [vR 7, vR 7]) rfl ?_
    refine r_getI J cls7 rfl (k := 7) (by decide) wf_7_36 rfl (ly_7 hL) ?_
    show g_H E 0 0 114 [(0, vR 7), (1, vI x1)] [vI (q106 7 7), vR 7] (σ, q106, N) _ _
    refine r_run J 2 (pc' := 116) (lv' := [(0, vR 7), (1, vI x1)]) (st' := [vI ((q106 7 7) + (1 : Int32)), vR 7]) rfl ?_
    refine r_putI J cls7 rfl (k := 7) (by decide) wf_7_36 rfl (Or.inl rfl) ⟨rfl, rfl⟩ (ly_7 hL) ?_
    show g_H E 0 0 119 [(0, vR 7), (1, vI x1)] [] (σ, (g_up q106 7 7 ((q106 7 7) + (1 : Int32))), N) _ _
    refine r_run J 1 (pc' := 120) (lv' := [(0, vR 7), (1, vI x1)]) (st' := [vI 1]) rfl ?_
    exact r_iret J rfl rfl rfl rfl (by decide) (by decide)
  · refine r_run J 2 (pc' := 101) (lv' := [(0, vR 7), (1, vI x1)]) (st' := [vI 1, vR 7]) rfl ?_
    refine r_callV J (As := [vI 1]) (st := []) (fun r hr => c_X7_refuse 1 σ (g_up M 9 ((x1 + (2 : Int32)).toNatClampNeg) (M 7 8)) N hL r hr) cls7 (ly_7 hL) wm_7_63 wy_X7_refuse wd_X7_refuse ⟨by decide, by decide, by decide, by decide, Nat.le_of_ble_eq_true rfl⟩ rfl rfl (fun q101 hq101 => ?_)
    show g_H E 0 0 104 [(0, vR 7), (1, vI x1)] [vI q101.1] (σ, q101.2, N) _ _
    refine r_chk (fun hz => ?_)
    exact r_iret J rfl rfl (g_b_nar hz) rfl (by decide) (by decide)
set_option maxHeartbeats 4000000 in
set_option maxRecDepth 100000 in
theorem p_X7_readRule_56 {l : Launch} {E : gE} (J : J_X7_readRule E l) (x1 : Int32) (σ : gS) (M : gM) (N : gN) (hL : g_layC σ) : g_H E 0 0 56 [(0, vR 7), (1, vI x1)] [] (σ, M, N) (b_X7_readRule_56 x1 σ M) (eIM σ N) := by
  unfold b_X7_readRule_56
  refine r_run J 1 (pc' := 57) (lv' := [(0, vR 7), (1, vI x1)]) (st' := [vR 7]) rfl ?_
  refine r_getI J cls7 rfl (k := 11) (by decide) wf_7_48 rfl (ly_7 hL) ?_
  show g_H E 0 0 60 [(0, vR 7), (1, vI x1)] [vI (M 7 11)] (σ, M, N) _ _
  refine r_run J 1 (pc' := 61) (lv' := [(0, vR 7), (1, vI x1)]) (st' := [vI 4, vI (M 7 11)]) rfl ?_
  refine r_icmp_ne J (tgt := 78) rfl (by decide) (fun c61 => ?_) (fun c61 => ?_)
  · refine r_run J 1 (pc' := 65) (lv' := [(0, vR 7), (1, vI x1)]) (st' := [vR 7]) rfl ?_
    refine r_callV J (As := []) (st := []) (fun r hr => c_X7_advance σ M N hL r hr) cls7 (ly_7 hL) wm_7_60 wy_X7_advance wd_X7_advance ⟨by decide, by decide, by decide, by decide, Nat.le_of_ble_eq_true rfl⟩ rfl rfl (fun q65 hq65 => ?_)
    show g_H E 0 0 68 [(0, vR 7), (1, vI x1)] [] (σ, q65, N) _ _
    refine r_run J 2 (pc' := 70) (lv' := [(0, vR 7), (1, vI x1)]) (st' := [vI 0, vR 7]) rfl ?_
    refine r_callV J (As := [vI 0]) (st := []) (fun r hr => c_X7_readAll 64 0 σ q65 N hL r hr) cls7 (ly_7 hL) wm_7_71 wy_X7_readAll wd_X7_readAll ⟨by omega, by decide, by decide, by decide, Nat.le_of_ble_eq_true rfl⟩ rfl rfl (fun q70 hq70 => ?_)
    show g_H E 0 0 73 [(0, vR 7), (1, vI x1)] [vI q70.1] (σ, q70.2, N) _ _
    refine r_if_ne J (tgt := 78) rfl (by decide) (fun c73 => ?_) (fun c73 => ?_)
    · refine r_run J 1 (pc' := 77) (lv' := [(0, vR 7), (1, vI x1)]) (st' := [vI 0]) rfl ?_
      exact r_iret J rfl rfl rfl rfl (by decide) (by decide)
    · exact p_X7_readRule_78 J x1 σ q70.2 N hL
  · exact p_X7_readRule_78 J x1 σ M N hL
set_option maxHeartbeats 4000000 in
set_option maxRecDepth 100000 in
theorem p_X7_readRule_0 {l : Launch} {E : gE} (J : J_X7_readRule E l) (σ : gS) (M : gM) (N : gN) (hL : g_layC σ) : g_H E 0 0 0 [(0, vR 7)] [] (σ, M, N) (b_X7_readRule_0 σ M) (eIM σ N) := by
  unfold b_X7_readRule_0
  refine r_run J 1 (pc' := 1) (lv' := [(0, vR 7)]) (st' := [vR 7]) rfl ?_
  refine r_getI J cls7 rfl (k := 7) (by decide) wf_7_36 rfl (ly_7 hL) ?_
  show g_H E 0 0 4 [(0, vR 7)] [vI (M 7 7)] (σ, M, N) _ _
  refine r_run J 4 (pc' := 8) (lv' := [(1, vI ((M 7 7) * (3 : Int32))), (0, vR 7)]) (st' := [vR 7]) rfl ?_
  refine r_getR J cls7 rfl (k := 0) (t := 14) (by decide) wf_7_11 rfl rfl (ly_7 hL) (lr_7_0 hL) (fun _ => ?_)
  show g_H E 0 0 11 [(1, vI ((M 7 7) * (3 : Int32))), (0, vR 7)] [vR 8] (σ, M, N) _ _
  refine r_run J 1 (pc' := 12) (lv' := [(1, vI ((M 7 7) * (3 : Int32))), (0, vR 7)]) (st' := [vR 7, vR 8]) rfl ?_
  refine r_getI J cls7 rfl (k := 7) (by decide) wf_7_36 rfl (ly_7 hL) ?_
  show g_H E 0 0 15 [(1, vI ((M 7 7) * (3 : Int32))), (0, vR 7)] [vI (M 7 7), vR 8] (σ, M, N) _ _
  refine r_run J 1 (pc' := 16) (lv' := [(1, vI ((M 7 7) * (3 : Int32))), (0, vR 7)]) (st' := [vR 7, vI (M 7 7), vR 8]) rfl ?_
  refine r_getI J cls7 rfl (k := 11) (by decide) wf_7_48 rfl (ly_7 hL) ?_
  show g_H E 0 0 19 [(1, vI ((M 7 7) * (3 : Int32))), (0, vR 7)] [vI (M 7 11), vI (M 7 7), vR 8] (σ, M, N) _ _
  refine r_iast J rfl (ly_8 hL) (fun i19 => ?_)
  show g_H E 0 0 20 [(1, vI ((M 7 7) * (3 : Int32))), (0, vR 7)] [] (σ, (g_up M 8 ((M 7 7).toNatClampNeg) (M 7 11)), N) _ _
  refine r_run J 1 (pc' := 21) (lv' := [(1, vI ((M 7 7) * (3 : Int32))), (0, vR 7)]) (st' := [vR 7]) rfl ?_
  refine r_getR J cls7 rfl (k := 1) (t := 14) (by decide) wf_7_17 rfl rfl (ly_7 hL) (lr_7_1 hL) (fun _ => ?_)
  show g_H E 0 0 24 [(1, vI ((M 7 7) * (3 : Int32))), (0, vR 7)] [vR 9] (σ, (g_up M 8 ((M 7 7).toNatClampNeg) (M 7 11)), N) _ _
  refine r_run J 2 (pc' := 26) (lv' := [(1, vI ((M 7 7) * (3 : Int32))), (0, vR 7)]) (st' := [vR 7, vI ((M 7 7) * (3 : Int32)), vR 9]) rfl ?_
  refine r_getI J cls7 rfl (k := 8) (by decide) wf_7_39 rfl (ly_7 hL) ?_
  show g_H E 0 0 29 [(1, vI ((M 7 7) * (3 : Int32))), (0, vR 7)] [vI ((g_up M 8 ((M 7 7).toNatClampNeg) (M 7 11)) 7 8), vI ((M 7 7) * (3 : Int32)), vR 9] (σ, (g_up M 8 ((M 7 7).toNatClampNeg) (M 7 11)), N) _ _
  refine r_iast J rfl (ly_9 hL) (fun i29 => ?_)
  show g_H E 0 0 30 [(1, vI ((M 7 7) * (3 : Int32))), (0, vR 7)] [] (σ, (g_up (g_up M 8 ((M 7 7).toNatClampNeg) (M 7 11)) 9 (((M 7 7) * (3 : Int32)).toNatClampNeg) ((g_up M 8 ((M 7 7).toNatClampNeg) (M 7 11)) 7 8)), N) _ _
  refine r_run J 1 (pc' := 31) (lv' := [(1, vI ((M 7 7) * (3 : Int32))), (0, vR 7)]) (st' := [vR 7]) rfl ?_
  refine r_callV J (As := []) (st := []) (fun r hr => c_X7_advance σ (g_up (g_up M 8 ((M 7 7).toNatClampNeg) (M 7 11)) 9 (((M 7 7) * (3 : Int32)).toNatClampNeg) ((g_up M 8 ((M 7 7).toNatClampNeg) (M 7 11)) 7 8)) N hL r hr) cls7 (ly_7 hL) wm_7_60 wy_X7_advance wd_X7_advance ⟨by decide, by decide, by decide, by decide, Nat.le_of_ble_eq_true rfl⟩ rfl rfl (fun q31 hq31 => ?_)
  show g_H E 0 0 34 [(1, vI ((M 7 7) * (3 : Int32))), (0, vR 7)] [] (σ, q31, N) _ _
  refine r_run J 2 (pc' := 36) (lv' := [(1, vI ((M 7 7) * (3 : Int32))), (0, vR 7)]) (st' := [vI 0, vR 7]) rfl ?_
  refine r_callV J (As := [vI 0]) (st := []) (fun r hr => c_X7_readAll 64 0 σ q31 N hL r hr) cls7 (ly_7 hL) wm_7_71 wy_X7_readAll wd_X7_readAll ⟨by omega, by decide, by decide, by decide, Nat.le_of_ble_eq_true rfl⟩ rfl rfl (fun q36 hq36 => ?_)
  show g_H E 0 0 39 [(1, vI ((M 7 7) * (3 : Int32))), (0, vR 7)] [vI q36.1] (σ, q36.2, N) _ _
  refine r_if_ne J (tgt := 44) rfl (by decide) (fun c39 => ?_) (fun c39 => ?_)
  · refine r_run J 1 (pc' := 43) (lv' := [(1, vI ((M 7 7) * (3 : Int32))), (0, vR 7)]) (st' := [vI 0]) rfl ?_
    exact r_iret J rfl rfl rfl rfl (by decide) (by decide)
  · refine r_run J 1 (pc' := 45) (lv' := [(1, vI ((M 7 7) * (3 : Int32))), (0, vR 7)]) (st' := [vR 7]) rfl ?_
    refine r_getR J cls7 rfl (k := 1) (t := 14) (by decide) wf_7_17 rfl rfl (ly_7 hL) (lr_7_1 hL) (fun _ => ?_)
    show g_H E 0 0 48 [(1, vI ((M 7 7) * (3 : Int32))), (0, vR 7)] [vR 9] (σ, q36.2, N) _ _
    refine r_run J 4 (pc' := 52) (lv' := [(1, vI ((M 7 7) * (3 : Int32))), (0, vR 7)]) (st' := [vR 7, vI (((M 7 7) * (3 : Int32)) + (1 : Int32)), vR 9]) rfl ?_
    refine r_getI J cls7 rfl (k := 8) (by decide) wf_7_39 rfl (ly_7 hL) ?_
    show g_H E 0 0 55 [(1, vI ((M 7 7) * (3 : Int32))), (0, vR 7)] [vI (q36.2 7 8), vI (((M 7 7) * (3 : Int32)) + (1 : Int32)), vR 9] (σ, q36.2, N) _ _
    refine r_iast J rfl (ly_9 hL) (fun i55 => ?_)
    show g_H E 0 0 56 [(1, vI ((M 7 7) * (3 : Int32))), (0, vR 7)] [] (σ, (g_up q36.2 9 ((((M 7 7) * (3 : Int32)) + (1 : Int32)).toNatClampNeg) (q36.2 7 8)), N) _ _
    refine r_sub [1, 0] (lv' := [(0, vR 7), (1, vI ((M 7 7) * (3 : Int32)))]) rfl ?_
    exact p_X7_readRule_56 J ((M 7 7) * (3 : Int32)) σ (g_up q36.2 9 ((((M 7 7) * (3 : Int32)) + (1 : Int32)).toNatClampNeg) (q36.2 7 8)) N hL
theorem c_X7_readRule {l : Launch} (σ : gS) (M : gM) (N : gN) (hL : g_layC σ) (r : Int32 × gM) (h : f_X7_readRule σ M = some r) : g_Ct l yX7_readRule cX7_readRule 2 (some .boolean) 67 0 0 [vR 7] (σ, M, N) (eIM σ N r) :=
  g_Ct.of tb_X7_readRule (by decide +kernel) tk_X7_readRule (Nat.le_of_ble_eq_true rfl) (fun E J => p_X7_readRule_0 J σ M N hL r h)
def tb_X7_readText : gT := [(0, .aload_n 0, 1, 0), (1, .invokevirtual 57, 3, 0), (4, .aload_n 0, 1, 0), (5, .iconst 0, 1, 0), (6, .putfield 32, 3, 0), (9, .aload_n 0, 1, 0), (10, .iconst 0, 1, 0), (11, .putfield 45, 3, 0), (14, .aload_n 0, 1, 0), (15, .iconst 0, 1, 0), (16, .putfield 36, 3, 0), (19, .aload_n 0, 1, 0), (20, .iconst 0, 1, 0), (21, .putfield 39, 3, 0), (24, .aload_n 0, 1, 0), (25, .iconst 0, 1, 0), (26, .putfield 54, 3, 0), (29, .aload_n 0, 1, 0), (30, .invokevirtual 60, 3, 0), (33, .iconst 1, 1, 1), (34, .istore_n 1, 1, 0), (35, .iconst 0, 1, 0), (36, .istore_n 2, 1, 0), (37, .iload_n 1, 1, 0), (38, .ifCond .eq 69, 3, 0), (41, .iload_n 2, 1, 0), (42, .bipush 12, 2, 12), (44, .if_icmp .gt 63, 3, 0), (47, .aload_n 0, 1, 0), (48, .getfield 48, 3, 0), (51, .bipush 12, 2, 12), (53, .if_icmp .ne 8, 3, 0), (56, .iconst 0, 1, 0), (57, .istore_n 1, 1, 0), (58, .goto 43, 3, 0), (61, .aload_n 0, 1, 0), (62, .getfield 48, 3, 0), (65, .iconst 3, 1, 3), (66, .if_icmp .le 12, 3, 0), (69, .aload_n 0, 1, 0), (70, .iconst 1, 1, 1), (71, .invokevirtual 63, 3, 0), (74, .istore_n 1, 1, 0), (75, .goto 26, 3, 0), (78, .aload_n 0, 1, 0), (79, .getfield 36, 3, 0), (82, .bipush 12, 2, 12), (84, .if_icmp .lt 12, 3, 0), (87, .aload_n 0, 1, 0), (88, .iconst 2, 1, 2), (89, .invokevirtual 63, 3, 0), (92, .istore_n 1, 1, 0), (93, .goto 8, 3, 0), (96, .aload_n 0, 1, 0), (97, .invokevirtual 67, 3, 0), (100, .istore_n 1, 1, 0), (101, .iinc 2 1, 3, 1), (104, .goto (-67), 3, 0), (107, .aload_n 0, 1, 0), (108, .getfield 54, 3, 0), (111, .ireturn, 1, 0)]
set_option maxRecDepth 100000 in
theorem tk_X7_readText : g_okT cX7_readText tb_X7_readText = true := by decide +kernel
abbrev J_X7_readText (E : gE) (l : Launch) : Prop := g_J E cX7_readText RX7 "readText" (some .int) 3 tb_X7_readText 68 0 0 l
set_option maxHeartbeats 4000000 in
set_option maxRecDepth 100000 in
theorem p_X7_readText_107 {l : Launch} {E : gE} (J : J_X7_readText E l) (σ : gS) (M : gM) (N : gN) (hL : g_layC σ) : g_H E 0 0 107 [(0, vR 7)] [] (σ, M, N) (b_X7_readText_107 σ M) (eIM σ N) := by
  unfold b_X7_readText_107
  refine r_run J 1 (pc' := 108) (lv' := [(0, vR 7)]) (st' := [vR 7]) rfl ?_
  refine r_getI J cls7 rfl (k := 13) (by decide) wf_7_54 rfl (ly_7 hL) ?_
  show g_H E 0 0 111 [(0, vR 7)] [vI (M 7 13)] (σ, M, N) _ _
  exact r_iret J rfl rfl rfl rfl (by decide) (by decide)
set_option maxHeartbeats 4000000 in
set_option maxRecDepth 100000 in
theorem p_X7_readText_101 {l : Launch} {E : gE} (J : J_X7_readText E l) {k37 : Int32 → Int32 → gS → gM → Option (Int32 × gM)} (H37 : ∀ (x1 : Int32) (x2 : Int32) (σ : gS) (M : gM) (N : gN) (_ : g_layC σ), g_H E 0 0 37 [(0, vR 7), (1, vI x1), (2, vI x2)] [] (σ, M, N) (k37 x1 x2 σ M) (eIM σ N)) (x1 : Int32) (x2 : Int32) (σ : gS) (M : gM) (N : gN) (hL : g_layC σ) : g_H E 0 0 101 [(0, vR 7), (1, vI x1), (2, vI x2)] [] (σ, M, N) (b_X7_readText_101 k37 x1 x2 σ M) (eIM σ N) := by
  unfold b_X7_readText_101
  refine r_run J 2 (pc' := 37) (lv' := [(2, vI (x2 + 1)), (0, vR 7), (1, vI x1)]) (st' := []) rfl ?_
  refine r_sub [1, 2, 0] (lv' := [(0, vR 7), (1, vI x1), (2, vI (x2 + 1))]) rfl ?_
  exact H37 x1 (x2 + 1) σ M N hL
set_option maxHeartbeats 4000000 in
set_option maxRecDepth 100000 in
theorem p_X7_readText_37 {l : Launch} {E : gE} (J : J_X7_readText E l) : ∀ (n : Nat) (x1 : Int32) (x2 : Int32) (σ : gS) (M : gM) (N : gN) (hL : g_layC σ), g_H E 0 0 37 [(0, vR 7), (1, vI x1), (2, vI x2)] [] (σ, M, N) (l_X7_readText_37 n x1 x2 σ M) (eIM σ N) := by
  intro n
  induction n with
  | zero => intros; exact h_none
  | succ n ih =>
    intro x1 x2 σ M N hL
    rw [l_X7_readText_37]
    refine r_run J 1 (pc' := 38) (lv' := [(0, vR 7), (1, vI x1), (2, vI x2)]) (st' := [vI x1]) rfl ?_
    refine r_if_eq J (tgt := 107) rfl (by decide) (fun c38 => ?_) (fun c38 => ?_)
    · refine r_sub [0] (lv' := [(0, vR 7)]) rfl ?_
      exact p_X7_readText_107 J σ M N hL
    · refine r_run J 2 (pc' := 44) (lv' := [(0, vR 7), (1, vI x1), (2, vI x2)]) (st' := [vI 12, vI x2]) rfl ?_
      refine r_icmp_gt J (tgt := 107) rfl (by decide) (fun c44 => ?_) (fun c44 => ?_)
      · refine r_sub [0] (lv' := [(0, vR 7)]) rfl ?_
        exact p_X7_readText_107 J σ M N hL
      · refine r_run J 1 (pc' := 48) (lv' := [(0, vR 7), (1, vI x1), (2, vI x2)]) (st' := [vR 7]) rfl ?_
        refine r_getI J cls7 rfl (k := 11) (by decide) wf_7_48 rfl (ly_7 hL) ?_
        show g_H E 0 0 51 [(0, vR 7), (1, vI x1), (2, vI x2)] [vI (M 7 11)] (σ, M, N) _ _
        refine r_run J 1 (pc' := 53) (lv' := [(0, vR 7), (1, vI x1), (2, vI x2)]) (st' := [vI 12, vI (M 7 11)]) rfl ?_
        refine r_icmp_ne J (tgt := 61) rfl (by decide) (fun c53 => ?_) (fun c53 => ?_)
        · refine r_run J 3 (pc' := 101) (lv' := [(1, vI 0), (0, vR 7), (2, vI x2)]) (st' := []) rfl ?_
          refine r_sub [1, 0, 2] (lv' := [(0, vR 7), (1, vI 0), (2, vI x2)]) rfl ?_
          exact p_X7_readText_101 J ih 0 x2 σ M N hL
        · refine r_run J 1 (pc' := 62) (lv' := [(0, vR 7), (1, vI x1), (2, vI x2)]) (st' := [vR 7]) rfl ?_
          refine r_getI J cls7 rfl (k := 11) (by decide) wf_7_48 rfl (ly_7 hL) ?_
          show g_H E 0 0 65 [(0, vR 7), (1, vI x1), (2, vI x2)] [vI (M 7 11)] (σ, M, N) _ _
          refine r_run J 1 (pc' := 66) (lv' := [(0, vR 7), (1, vI x1), (2, vI x2)]) (st' := [vI 3, vI (M 7 11)]) rfl ?_
          refine r_icmp_le J (tgt := 78) rfl (by decide) (fun c66 => ?_) (fun c66 => ?_)
          · refine r_run J 2 (pc' := 71) (lv' := [(0, vR 7), (1, vI x1), (2, vI x2)]) (st' := [vI 1, vR 7]) rfl ?_
            refine r_callV J (As := [vI 1]) (st := []) (fun r hr => c_X7_refuse 1 σ M N hL r hr) cls7 (ly_7 hL) wm_7_63 wy_X7_refuse wd_X7_refuse ⟨by decide, by decide, by decide, by decide, Nat.le_of_ble_eq_true rfl⟩ rfl rfl (fun q71 hq71 => ?_)
            show g_H E 0 0 74 [(0, vR 7), (1, vI x1), (2, vI x2)] [vI q71.1] (σ, q71.2, N) _ _
            refine r_run J 2 (pc' := 101) (lv' := [(1, vI q71.1), (0, vR 7), (2, vI x2)]) (st' := []) rfl ?_
            refine r_sub [1, 0, 2] (lv' := [(0, vR 7), (1, vI q71.1), (2, vI x2)]) rfl ?_
            exact p_X7_readText_101 J ih q71.1 x2 σ q71.2 N hL
          · refine r_run J 1 (pc' := 79) (lv' := [(0, vR 7), (1, vI x1), (2, vI x2)]) (st' := [vR 7]) rfl ?_
            refine r_getI J cls7 rfl (k := 7) (by decide) wf_7_36 rfl (ly_7 hL) ?_
            show g_H E 0 0 82 [(0, vR 7), (1, vI x1), (2, vI x2)] [vI (M 7 7)] (σ, M, N) _ _
            refine r_run J 1 (pc' := 84) (lv' := [(0, vR 7), (1, vI x1), (2, vI x2)]) (st' := [vI 12, vI (M 7 7)]) rfl ?_
            refine r_icmp_lt J (tgt := 96) rfl (by decide) (fun c84 => ?_) (fun c84 => ?_)
            · refine r_run J 1 (pc' := 97) (lv' := [(0, vR 7), (1, vI x1), (2, vI x2)]) (st' := [vR 7]) rfl ?_
              refine r_callV J (As := []) (st := []) (fun r hr => c_X7_readRule σ M N hL r hr) cls7 (ly_7 hL) wm_7_67 wy_X7_readRule wd_X7_readRule ⟨by decide, by decide, by decide, by decide, Nat.le_of_ble_eq_true rfl⟩ rfl rfl (fun q97 hq97 => ?_)
              show g_H E 0 0 100 [(0, vR 7), (1, vI x1), (2, vI x2)] [vI q97.1] (σ, q97.2, N) _ _
              refine r_run J 1 (pc' := 101) (lv' := [(1, vI q97.1), (0, vR 7), (2, vI x2)]) (st' := []) rfl ?_
              refine r_sub [1, 0, 2] (lv' := [(0, vR 7), (1, vI q97.1), (2, vI x2)]) rfl ?_
              exact p_X7_readText_101 J ih q97.1 x2 σ q97.2 N hL
            · refine r_run J 2 (pc' := 89) (lv' := [(0, vR 7), (1, vI x1), (2, vI x2)]) (st' := [vI 2, vR 7]) rfl ?_
              refine r_callV J (As := [vI 2]) (st := []) (fun r hr => c_X7_refuse 2 σ M N hL r hr) cls7 (ly_7 hL) wm_7_63 wy_X7_refuse wd_X7_refuse ⟨by decide, by decide, by decide, by decide, Nat.le_of_ble_eq_true rfl⟩ rfl rfl (fun q89 hq89 => ?_)
              show g_H E 0 0 92 [(0, vR 7), (1, vI x1), (2, vI x2)] [vI q89.1] (σ, q89.2, N) _ _
              refine r_run J 2 (pc' := 101) (lv' := [(1, vI q89.1), (0, vR 7), (2, vI x2)]) (st' := []) rfl ?_
              refine r_sub [1, 0, 2] (lv' := [(0, vR 7), (1, vI q89.1), (2, vI x2)]) rfl ?_
              exact p_X7_readText_101 J ih q89.1 x2 σ q89.2 N hL
set_option maxHeartbeats 4000000 in
set_option maxRecDepth 100000 in
theorem p_X7_readText_19 {l : Launch} {E : gE} (J : J_X7_readText E l) (σ : gS) (M : gM) (N : gN) (hL : g_layC σ) : g_H E 0 0 19 [(0, vR 7)] [] (σ, M, N) (b_X7_readText_19 σ M) (eIM σ N) := by
  unfold b_X7_readText_19
  refine r_run J 2 (pc' := 21) (lv' := [(0, vR 7)]) (st' := [vI 0, vR 7]) rfl ?_
  refine r_putI J cls7 rfl (k := 8) (by decide) wf_7_39 rfl (Or.inl rfl) ⟨rfl, rfl⟩ (ly_7 hL) ?_
  show g_H E 0 0 24 [(0, vR 7)] [] (σ, (g_up M 7 8 0), N) _ _
  refine r_run J 2 (pc' := 26) (lv' := [(0, vR 7)]) (st' := [vI 0, vR 7]) rfl ?_
  refine r_putI J cls7 rfl (k := 13) (by decide) wf_7_54 rfl (Or.inl rfl) ⟨rfl, rfl⟩ (ly_7 hL) ?_
  show g_H E 0 0 29 [(0, vR 7)] [] (σ, (g_up (g_up M 7 8 0) 7 13 0), N) _ _
  refine r_run J 1 (pc' := 30) (lv' := [(0, vR 7)]) (st' := [vR 7]) rfl ?_
  refine r_callV J (As := []) (st := []) (fun r hr => c_X7_advance σ (g_up (g_up M 7 8 0) 7 13 0) N hL r hr) cls7 (ly_7 hL) wm_7_60 wy_X7_advance wd_X7_advance ⟨by decide, by decide, by decide, by decide, Nat.le_of_ble_eq_true rfl⟩ rfl rfl (fun q30 hq30 => ?_)
  show g_H E 0 0 33 [(0, vR 7)] [] (σ, q30, N) _ _
  refine r_run J 4 (pc' := 37) (lv' := [(2, vI 0), (1, vI 1), (0, vR 7)]) (st' := []) rfl ?_
  refine r_sub [2, 1, 0] (lv' := [(0, vR 7), (1, vI 1), (2, vI 0)]) rfl ?_
  exact p_X7_readText_37 J g_FU 1 0 σ q30 N hL
set_option maxHeartbeats 4000000 in
set_option maxRecDepth 100000 in
theorem p_X7_readText_0 {l : Launch} {E : gE} (J : J_X7_readText E l) (σ : gS) (M : gM) (N : gN) (hL : g_layC σ) : g_H E 0 0 0 [(0, vR 7)] [] (σ, M, N) (b_X7_readText_0 σ M) (eIM σ N) := by
  unfold b_X7_readText_0
  refine r_run J 1 (pc' := 1) (lv' := [(0, vR 7)]) (st' := [vR 7]) rfl ?_
  refine r_callV J (As := []) (st := []) (fun r hr => c_X7_splitTape σ M N hL r hr) cls7 (ly_7 hL) wm_7_57 wy_X7_splitTape wd_X7_splitTape ⟨by decide, by decide, by decide, by decide, Nat.le_of_ble_eq_true rfl⟩ rfl rfl (fun q1 hq1 => ?_)
  show g_H E 0 0 4 [(0, vR 7)] [] (σ, q1, N) _ _
  refine r_run J 2 (pc' := 6) (lv' := [(0, vR 7)]) (st' := [vI 0, vR 7]) rfl ?_
  refine r_putI J cls7 rfl (k := 6) (by decide) wf_7_32 rfl (Or.inl rfl) ⟨rfl, rfl⟩ (ly_7 hL) ?_
  show g_H E 0 0 9 [(0, vR 7)] [] (σ, (g_up q1 7 6 0), N) _ _
  refine r_run J 2 (pc' := 11) (lv' := [(0, vR 7)]) (st' := [vI 0, vR 7]) rfl ?_
  refine r_putI J cls7 rfl (k := 10) (by decide) wf_7_45 rfl (Or.inl rfl) ⟨rfl, rfl⟩ (ly_7 hL) ?_
  show g_H E 0 0 14 [(0, vR 7)] [] (σ, (g_up (g_up q1 7 6 0) 7 10 0), N) _ _
  refine r_run J 2 (pc' := 16) (lv' := [(0, vR 7)]) (st' := [vI 0, vR 7]) rfl ?_
  refine r_putI J cls7 rfl (k := 7) (by decide) wf_7_36 rfl (Or.inl rfl) ⟨rfl, rfl⟩ (ly_7 hL) ?_
  show g_H E 0 0 19 [(0, vR 7)] [] (σ, (g_up (g_up (g_up q1 7 6 0) 7 10 0) 7 7 0), N) _ _
  exact p_X7_readText_19 J σ (g_up (g_up (g_up q1 7 6 0) 7 10 0) 7 7 0) N hL
theorem c_X7_readText {l : Launch} (σ : gS) (M : gM) (N : gN) (hL : g_layC σ) (r : Int32 × gM) (h : f_X7_readText σ M = some r) : g_Ct l yX7_readText cX7_readText 3 (some .int) 68 0 0 [vR 7] (σ, M, N) (eIM σ N r) :=
  g_Ct.of tb_X7_readText (by decide +kernel) tk_X7_readText (Nat.le_of_ble_eq_true rfl) (fun E J => p_X7_readText_0 J σ M N hL r h)
def tb_X8_init : gT := [(0, .aload_n 0, 1, 0), (1, .invokespecial 1, 3, 0), (4, .aload_n 0, 1, 0), (5, .iconst 1, 1, 1), (6, .putfield 7, 3, 0), (9, .aload_n 0, 1, 0), (10, .iload_n 1, 1, 0), (11, .putfield 13, 3, 0), (14, .aload_n 0, 1, 0), (15, .iload_n 2, 1, 0), (16, .putfield 17, 3, 0), (19, .aload_n 0, 1, 0), (20, .iload_n 3, 1, 0), (21, .putfield 20, 3, 0), (24, .return_, 1, 0)]
set_option maxRecDepth 100000 in
theorem tk_X8_init : g_okT cX8_init tb_X8_init = true := by decide +kernel
abbrev J_X8_init (E : gE) (l : Launch) : Prop := g_J E cX8_init RX8 "<init>" none 4 tb_X8_init 1 0 0 l
set_option maxHeartbeats 4000000 in
set_option maxRecDepth 100000 in
theorem p_X8_init_19 {l : Launch} {E : gE} (J : J_X8_init E l) (r0 : Nat) (x3 : Int32) (σ : gS) (M : gM) (N : gN) : g_H E 0 0 19 [(0, vR r0), (3, vI x3)] [] (σ, M, N) (b_X8_init_19 r0 x3 σ M) (eVM σ N) := by
  unfold b_X8_init_19
  refine r_run J 2 (pc' := 21) (lv' := [(0, vR r0), (3, vI x3)]) (st' := [vI x3, vR r0]) rfl ?_
  refine r_chk (fun hs21 => ?_)
  refine r_putI J cls8 rfl (k := 2) (by decide) wf_8_20 rfl (Or.inr ⟨rfl, rfl, rfl⟩) ⟨rfl, rfl⟩ (g_is_at hs21) ?_
  show g_H E 0 0 24 [(0, vR r0), (3, vI x3)] [] (σ, (g_up M r0 2 x3), N) _ _
  exact r_vret J rfl rfl rfl (by decide) (by decide)
set_option maxHeartbeats 4000000 in
set_option maxRecDepth 100000 in
theorem p_X8_init_0 {l : Launch} {E : gE} (J : J_X8_init E l) (r0 : Nat) (x1 : Int32) (x2 : Int32) (x3 : Int32) (σ : gS) (M : gM) (N : gN) : g_H E 0 0 0 [(0, vR r0), (1, vI x1), (2, vI x2), (3, vI x3)] [] (σ, M, N) (b_X8_init_0 r0 x1 x2 x3 σ M) (eVM σ N) := by
  unfold b_X8_init_0
  refine r_run J 1 (pc' := 1) (lv' := [(0, vR r0), (1, vI x1), (2, vI x2), (3, vI x3)]) (st' := [vR r0]) rfl ?_
  refine r_chk (fun hs1 => ?_)
  refine r_objI J (by rw [(g_is_at hs1)]; exact Option.some_ne_none _) wm_8_1 w_obj rfl ⟨by decide, Nat.le_of_ble_eq_true rfl⟩ ?_
  refine r_run J 2 (pc' := 6) (lv' := [(0, vR r0), (1, vI x1), (2, vI x2), (3, vI x3)]) (st' := [vI 1, vR r0]) rfl ?_
  refine r_putI J cls8 rfl (k := 3) (by decide) wf_8_7 rfl (Or.inl rfl) ⟨rfl, rfl⟩ (g_is_at hs1) ?_
  show g_H E 0 0 9 [(0, vR r0), (1, vI x1), (2, vI x2), (3, vI x3)] [] (σ, (g_up M r0 3 1), N) _ _
  refine r_run J 2 (pc' := 11) (lv' := [(0, vR r0), (1, vI x1), (2, vI x2), (3, vI x3)]) (st' := [vI x1, vR r0]) rfl ?_
  refine r_putI J cls8 rfl (k := 0) (by decide) wf_8_13 rfl (Or.inr ⟨rfl, rfl, rfl⟩) ⟨rfl, rfl⟩ (g_is_at hs1) ?_
  show g_H E 0 0 14 [(0, vR r0), (1, vI x1), (2, vI x2), (3, vI x3)] [] (σ, (g_up (g_up M r0 3 1) r0 0 x1), N) _ _
  refine r_run J 2 (pc' := 16) (lv' := [(0, vR r0), (1, vI x1), (2, vI x2), (3, vI x3)]) (st' := [vI x2, vR r0]) rfl ?_
  refine r_chk (fun hb16 => ?_)
  refine r_putI J cls8 rfl (k := 1) (by decide) wf_8_17 rfl (Or.inr ⟨rfl, rfl, rfl⟩) (g_b_fit hb16) (g_is_at hs1) ?_
  show g_H E 0 0 19 [(0, vR r0), (1, vI x1), (2, vI x2), (3, vI x3)] [] (σ, (g_up (g_up (g_up M r0 3 1) r0 0 x1) r0 1 x2), N) _ _
  refine r_sub [0, 3] (lv' := [(0, vR r0), (3, vI x3)]) rfl ?_
  exact p_X8_init_19 J r0 x3 σ (g_up (g_up (g_up M r0 3 1) r0 0 x1) r0 1 x2) N
theorem c_X8_init {l : Launch} (r0 : Nat) (x1 : Int32) (x2 : Int32) (x3 : Int32) (σ : gS) (M : gM) (N : gN) (r : gM) (h : f_X8_init r0 x1 x2 x3 σ M = some r) : g_Ct l yX8_init cX8_init 4 none 1 0 0 [vR r0, vI x1, vI x2, vI x3] (σ, M, N) (eVM σ N r) :=
  g_Ct.of tb_X8_init (by decide +kernel) tk_X8_init (Nat.le_of_ble_eq_true rfl) (fun E J => p_X8_init_0 J r0 x1 x2 x3 σ M N r h)
def tb_X9_init : gT := [(0, .aload_n 0, 1, 0), (1, .invokespecial 3, 3, 0), (4, .aload_n 0, 1, 0), (5, .bipush 10, 2, 10), (7, .newarray .int, 2, 0), (9, .putfield 9, 3, 0), (12, .aload_n 0, 1, 0), (13, .iconst 0, 1, 0), (14, .putfield 15, 3, 0), (17, .aload_n 0, 1, 0), (18, .iconst 0, 1, 0), (19, .putfield 19, 3, 0), (22, .aload_n 0, 1, 0), (23, .bipush 10, 2, 10), (25, .newarray .int, 2, 0), (27, .putfield 22, 3, 0), (30, .aload_n 0, 1, 0), (31, .bipush 10, 2, 10), (33, .newarray .int, 2, 0), (35, .putfield 25, 3, 0), (38, .aload_n 0, 1, 0), (39, .bipush 10, 2, 10), (41, .newarray .int, 2, 0), (43, .putfield 28, 3, 0), (46, .aload_n 0, 1, 0), (47, .bipush 10, 2, 10), (49, .newarray .boolean, 2, 0), (51, .putfield 31, 3, 0), (54, .aload_n 0, 1, 0), (55, .bipush 10, 2, 10), (57, .anewarray 35, 3, 0), (60, .putfield 37, 3, 0), (63, .aload_n 0, 1, 0), (64, .bipush 10, 2, 10), (66, .newarray .int, 2, 0), (68, .putfield 41, 3, 0), (71, .aload_n 0, 1, 0), (72, .iconst 0, 1, 0), (73, .putfield 44, 3, 0), (76, .aload_n 0, 1, 0), (77, .iconst 0, 1, 0), (78, .putfield 47, 3, 0), (81, .aload_n 0, 1, 0), (82, .iconst 0, 1, 0), (83, .putfield 50, 3, 0), (86, .aload_n 0, 1, 0), (87, .iconst 2, 1, 2), (88, .putfield 53, 3, 0), (91, .aload_n 0, 1, 0), (92, .iconst 0, 1, 0), (93, .newarray .int, 2, 0), (95, .putfield 56, 3, 0), (98, .return_, 1, 0)]
set_option maxRecDepth 100000 in
theorem tk_X9_init : g_okT cX9_init tb_X9_init = true := by decide +kernel
abbrev J_X9_init (E : gE) (l : Launch) : Prop := g_J E cX9_init RX9 "<init>" none 1 tb_X9_init 1 8 70 l
set_option maxHeartbeats 4000000 in
set_option maxRecDepth 100000 in
theorem p_X9_init_91 {l : Launch} {E : gE} (J : J_X9_init E l) (σ : gS) (M : gM) (N : gN) : g_H E 7 70 91 [(0, vR 12)] [] (σ, M, N) (b_X9_init_91 σ M N) (eVSMN) := by
  unfold b_X9_init_91
  refine r_run J 2 (pc' := 93) (lv' := [(0, vR 12)]) (st' := [vI 0, vR 12]) rfl ?_
  refine r_chk (fun hf93 => ?_)
  refine r_newI J (B := 0) rfl wa_int (by decide) rfl (Nat.le_refl _) (by decide) (g_fr_0 hf93) (g_fr_n hf93) (by decide) (by decide) ?_
  show g_H E 8 70 95 [(0, vR 12)] [vR 36, vR 12] ((g_nS σ 36 14 0), (g_z M 36 0), (g_z N 36 0)) _ _
  refine r_chk (fun hs95 => ?_)
  refine r_putR J cls9 rfl (k := 13) (t := 14) (by decide) wf_9_56 rfl rfl (Or.inl rfl) (g_is_at hs95) (Or.inr ⟨_, (g_nS_at σ 36 14 0)⟩) ?_
  show g_H E 8 70 98 [(0, vR 12)] [] ((g_pS (g_nS σ 36 14 0) 12 13 36), (g_z M 36 0), (g_z N 36 0)) _ _
  exact r_vret J rfl rfl rfl (by decide) (by decide)
set_option maxHeartbeats 4000000 in
set_option maxRecDepth 100000 in
theorem p_X9_init_86 {l : Launch} {E : gE} (J : J_X9_init E l) (σ : gS) (M : gM) (N : gN) : g_H E 7 70 86 [(0, vR 12)] [] (σ, M, N) (b_X9_init_86 σ M N) (eVSMN) := by
  unfold b_X9_init_86
  refine r_run J 2 (pc' := 88) (lv' := [(0, vR 12)]) (st' := [vI 2, vR 12]) rfl ?_
  refine r_chk (fun hs88 => ?_)
  refine r_putI J cls9 rfl (k := 12) (by decide) wf_9_53 rfl (Or.inl rfl) ⟨rfl, rfl⟩ (g_is_at hs88) ?_
  show g_H E 7 70 91 [(0, vR 12)] [] (σ, (g_up M 12 12 2), N) _ _
  exact p_X9_init_91 J σ (g_up M 12 12 2) N
set_option maxHeartbeats 4000000 in
set_option maxRecDepth 100000 in
theorem p_X9_init_81 {l : Launch} {E : gE} (J : J_X9_init E l) (σ : gS) (M : gM) (N : gN) : g_H E 7 70 81 [(0, vR 12)] [] (σ, M, N) (b_X9_init_81 σ M N) (eVSMN) := by
  unfold b_X9_init_81
  refine r_run J 2 (pc' := 83) (lv' := [(0, vR 12)]) (st' := [vI 0, vR 12]) rfl ?_
  refine r_chk (fun hs83 => ?_)
  refine r_putI J cls9 rfl (k := 11) (by decide) wf_9_50 rfl (Or.inl rfl) ⟨rfl, rfl⟩ (g_is_at hs83) ?_
  show g_H E 7 70 86 [(0, vR 12)] [] (σ, (g_up M 12 11 0), N) _ _
  exact p_X9_init_86 J σ (g_up M 12 11 0) N
set_option maxHeartbeats 4000000 in
set_option maxRecDepth 100000 in
theorem p_X9_init_76 {l : Launch} {E : gE} (J : J_X9_init E l) (σ : gS) (M : gM) (N : gN) : g_H E 7 70 76 [(0, vR 12)] [] (σ, M, N) (b_X9_init_76 σ M N) (eVSMN) := by
  unfold b_X9_init_76
  refine r_run J 2 (pc' := 78) (lv' := [(0, vR 12)]) (st' := [vI 0, vR 12]) rfl ?_
  refine r_chk (fun hs78 => ?_)
  refine r_putI J cls9 rfl (k := 10) (by decide) wf_9_47 rfl (Or.inl rfl) ⟨rfl, rfl⟩ (g_is_at hs78) ?_
  show g_H E 7 70 81 [(0, vR 12)] [] (σ, (g_up M 12 10 0), N) _ _
  exact p_X9_init_81 J σ (g_up M 12 10 0) N
set_option maxHeartbeats 4000000 in
set_option maxRecDepth 100000 in
theorem p_X9_init_71 {l : Launch} {E : gE} (J : J_X9_init E l) (σ : gS) (M : gM) (N : gN) : g_H E 7 70 71 [(0, vR 12)] [] (σ, M, N) (b_X9_init_71 σ M N) (eVSMN) := by
  unfold b_X9_init_71
  refine r_run J 2 (pc' := 73) (lv' := [(0, vR 12)]) (st' := [vI 0, vR 12]) rfl ?_
  refine r_chk (fun hs73 => ?_)
  refine r_putI J cls9 rfl (k := 9) (by decide) wf_9_44 rfl (Or.inl rfl) ⟨rfl, rfl⟩ (g_is_at hs73) ?_
  show g_H E 7 70 76 [(0, vR 12)] [] (σ, (g_up M 12 9 0), N) _ _
  exact p_X9_init_76 J σ (g_up M 12 9 0) N
set_option maxHeartbeats 4000000 in
set_option maxRecDepth 100000 in
theorem p_X9_init_63 {l : Launch} {E : gE} (J : J_X9_init E l) (σ : gS) (M : gM) (N : gN) : g_H E 6 60 63 [(0, vR 12)] [] (σ, M, N) (b_X9_init_63 σ M N) (eVSMN) := by
  unfold b_X9_init_63
  refine r_run J 2 (pc' := 66) (lv' := [(0, vR 12)]) (st' := [vI 10, vR 12]) rfl ?_
  refine r_chk (fun hf66 => ?_)
  refine r_newI J (B := 10) rfl wa_int (by decide) rfl (Nat.le_refl _) (by decide) (g_fr_0 hf66) (g_fr_n hf66) (by decide) (by decide) ?_
  show g_H E 7 70 68 [(0, vR 12)] [vR 19, vR 12] ((g_nS σ 19 14 10), (g_z M 19 0), (g_z N 19 0)) _ _
  refine r_chk (fun hs68 => ?_)
  refine r_putR J cls9 rfl (k := 8) (t := 14) (by decide) wf_9_41 rfl rfl (Or.inr ⟨rfl, rfl, rfl⟩) (g_is_at hs68) (Or.inr ⟨_, (g_nS_at σ 19 14 10)⟩) ?_
  show g_H E 7 70 71 [(0, vR 12)] [] ((g_pS (g_nS σ 19 14 10) 12 8 19), (g_z M 19 0), (g_z N 19 0)) _ _
  exact p_X9_init_71 J (g_pS (g_nS σ 19 14 10) 12 8 19) (g_z M 19 0) (g_z N 19 0)
set_option maxHeartbeats 4000000 in
set_option maxRecDepth 100000 in
theorem p_X9_init_54 {l : Launch} {E : gE} (J : J_X9_init E l) (σ : gS) (M : gM) (N : gN) : g_H E 5 50 54 [(0, vR 12)] [] (σ, M, N) (b_X9_init_54 σ M N) (eVSMN) := by
  unfold b_X9_init_54
  refine r_run J 2 (pc' := 57) (lv' := [(0, vR 12)]) (st' := [vI 10, vR 12]) rfl ?_
  refine r_chk (fun hf57 => ?_)
  refine r_anew J (B := 10) (Or.inr (Or.inl ⟨rfl, rfl⟩)) rfl wk_9_35 (by decide) rfl (Nat.le_refl _) (by decide) (g_fr_0 hf57) (g_fr_n hf57) (by decide) (by decide) ?_
  show g_H E 6 60 60 [(0, vR 12)] [vR 18, vR 12] ((g_nS σ 18 18 10), (g_z M 18 0), (g_z N 18 0)) _ _
  refine r_chk (fun hs60 => ?_)
  refine r_putR J cls9 rfl (k := 7) (t := 18) (by decide) wf_9_37 rfl rfl (Or.inr ⟨rfl, rfl, rfl⟩) (g_is_at hs60) (Or.inr ⟨_, (g_nS_at σ 18 18 10)⟩) ?_
  show g_H E 6 60 63 [(0, vR 12)] [] ((g_pS (g_nS σ 18 18 10) 12 7 18), (g_z M 18 0), (g_z N 18 0)) _ _
  exact p_X9_init_63 J (g_pS (g_nS σ 18 18 10) 12 7 18) (g_z M 18 0) (g_z N 18 0)
set_option maxHeartbeats 4000000 in
set_option maxRecDepth 100000 in
theorem p_X9_init_46 {l : Launch} {E : gE} (J : J_X9_init E l) (σ : gS) (M : gM) (N : gN) : g_H E 4 40 46 [(0, vR 12)] [] (σ, M, N) (b_X9_init_46 σ M N) (eVSMN) := by
  unfold b_X9_init_46
  refine r_run J 2 (pc' := 49) (lv' := [(0, vR 12)]) (st' := [vI 10, vR 12]) rfl ?_
  refine r_chk (fun hf49 => ?_)
  refine r_newZ J (B := 10) rfl wa_boolean (by decide) rfl (Nat.le_refl _) (by decide) (g_fr_0 hf49) (g_fr_n hf49) (by decide) (by decide) ?_
  show g_H E 5 50 51 [(0, vR 12)] [vR 17, vR 12] ((g_nS σ 17 15 10), (g_z M 17 0), (g_z N 17 0)) _ _
  refine r_chk (fun hs51 => ?_)
  refine r_putR J cls9 rfl (k := 6) (t := 15) (by decide) wf_9_31 rfl rfl (Or.inr ⟨rfl, rfl, rfl⟩) (g_is_at hs51) (Or.inr ⟨_, (g_nS_at σ 17 15 10)⟩) ?_
  show g_H E 5 50 54 [(0, vR 12)] [] ((g_pS (g_nS σ 17 15 10) 12 6 17), (g_z M 17 0), (g_z N 17 0)) _ _
  exact p_X9_init_54 J (g_pS (g_nS σ 17 15 10) 12 6 17) (g_z M 17 0) (g_z N 17 0)
set_option maxHeartbeats 4000000 in
set_option maxRecDepth 100000 in
theorem p_X9_init_38 {l : Launch} {E : gE} (J : J_X9_init E l) (σ : gS) (M : gM) (N : gN) : g_H E 3 30 38 [(0, vR 12)] [] (σ, M, N) (b_X9_init_38 σ M N) (eVSMN) := by
  unfold b_X9_init_38
  refine r_run J 2 (pc' := 41) (lv' := [(0, vR 12)]) (st' := [vI 10, vR 12]) rfl ?_
  refine r_chk (fun hf41 => ?_)
  refine r_newI J (B := 10) rfl wa_int (by decide) rfl (Nat.le_refl _) (by decide) (g_fr_0 hf41) (g_fr_n hf41) (by decide) (by decide) ?_
  show g_H E 4 40 43 [(0, vR 12)] [vR 16, vR 12] ((g_nS σ 16 14 10), (g_z M 16 0), (g_z N 16 0)) _ _
  refine r_chk (fun hs43 => ?_)
  refine r_putR J cls9 rfl (k := 5) (t := 14) (by decide) wf_9_28 rfl rfl (Or.inr ⟨rfl, rfl, rfl⟩) (g_is_at hs43) (Or.inr ⟨_, (g_nS_at σ 16 14 10)⟩) ?_
  show g_H E 4 40 46 [(0, vR 12)] [] ((g_pS (g_nS σ 16 14 10) 12 5 16), (g_z M 16 0), (g_z N 16 0)) _ _
  exact p_X9_init_46 J (g_pS (g_nS σ 16 14 10) 12 5 16) (g_z M 16 0) (g_z N 16 0)
set_option maxHeartbeats 4000000 in
set_option maxRecDepth 100000 in
theorem p_X9_init_30 {l : Launch} {E : gE} (J : J_X9_init E l) (σ : gS) (M : gM) (N : gN) : g_H E 2 20 30 [(0, vR 12)] [] (σ, M, N) (b_X9_init_30 σ M N) (eVSMN) := by
  unfold b_X9_init_30
  refine r_run J 2 (pc' := 33) (lv' := [(0, vR 12)]) (st' := [vI 10, vR 12]) rfl ?_
  refine r_chk (fun hf33 => ?_)
  refine r_newI J (B := 10) rfl wa_int (by decide) rfl (Nat.le_refl _) (by decide) (g_fr_0 hf33) (g_fr_n hf33) (by decide) (by decide) ?_
  show g_H E 3 30 35 [(0, vR 12)] [vR 15, vR 12] ((g_nS σ 15 14 10), (g_z M 15 0), (g_z N 15 0)) _ _
  refine r_chk (fun hs35 => ?_)
  refine r_putR J cls9 rfl (k := 4) (t := 14) (by decide) wf_9_25 rfl rfl (Or.inr ⟨rfl, rfl, rfl⟩) (g_is_at hs35) (Or.inr ⟨_, (g_nS_at σ 15 14 10)⟩) ?_
  show g_H E 3 30 38 [(0, vR 12)] [] ((g_pS (g_nS σ 15 14 10) 12 4 15), (g_z M 15 0), (g_z N 15 0)) _ _
  exact p_X9_init_38 J (g_pS (g_nS σ 15 14 10) 12 4 15) (g_z M 15 0) (g_z N 15 0)
set_option maxHeartbeats 4000000 in
set_option maxRecDepth 100000 in
theorem p_X9_init_22 {l : Launch} {E : gE} (J : J_X9_init E l) (σ : gS) (M : gM) (N : gN) : g_H E 1 10 22 [(0, vR 12)] [] (σ, M, N) (b_X9_init_22 σ M N) (eVSMN) := by
  unfold b_X9_init_22
  refine r_run J 2 (pc' := 25) (lv' := [(0, vR 12)]) (st' := [vI 10, vR 12]) rfl ?_
  refine r_chk (fun hf25 => ?_)
  refine r_newI J (B := 10) rfl wa_int (by decide) rfl (Nat.le_refl _) (by decide) (g_fr_0 hf25) (g_fr_n hf25) (by decide) (by decide) ?_
  show g_H E 2 20 27 [(0, vR 12)] [vR 14, vR 12] ((g_nS σ 14 14 10), (g_z M 14 0), (g_z N 14 0)) _ _
  refine r_chk (fun hs27 => ?_)
  refine r_putR J cls9 rfl (k := 3) (t := 14) (by decide) wf_9_22 rfl rfl (Or.inr ⟨rfl, rfl, rfl⟩) (g_is_at hs27) (Or.inr ⟨_, (g_nS_at σ 14 14 10)⟩) ?_
  show g_H E 2 20 30 [(0, vR 12)] [] ((g_pS (g_nS σ 14 14 10) 12 3 14), (g_z M 14 0), (g_z N 14 0)) _ _
  exact p_X9_init_30 J (g_pS (g_nS σ 14 14 10) 12 3 14) (g_z M 14 0) (g_z N 14 0)
set_option maxHeartbeats 4000000 in
set_option maxRecDepth 100000 in
theorem p_X9_init_17 {l : Launch} {E : gE} (J : J_X9_init E l) (σ : gS) (M : gM) (N : gN) : g_H E 1 10 17 [(0, vR 12)] [] (σ, M, N) (b_X9_init_17 σ M N) (eVSMN) := by
  unfold b_X9_init_17
  refine r_run J 2 (pc' := 19) (lv' := [(0, vR 12)]) (st' := [vI 0, vR 12]) rfl ?_
  refine r_chk (fun hs19 => ?_)
  refine r_putI J cls9 rfl (k := 2) (by decide) wf_9_19 rfl (Or.inl rfl) ⟨rfl, rfl⟩ (g_is_at hs19) ?_
  show g_H E 1 10 22 [(0, vR 12)] [] (σ, (g_up M 12 2 0), N) _ _
  exact p_X9_init_22 J σ (g_up M 12 2 0) N
set_option maxHeartbeats 4000000 in
set_option maxRecDepth 100000 in
theorem p_X9_init_12 {l : Launch} {E : gE} (J : J_X9_init E l) (σ : gS) (M : gM) (N : gN) : g_H E 1 10 12 [(0, vR 12)] [] (σ, M, N) (b_X9_init_12 σ M N) (eVSMN) := by
  unfold b_X9_init_12
  refine r_run J 2 (pc' := 14) (lv' := [(0, vR 12)]) (st' := [vI 0, vR 12]) rfl ?_
  refine r_chk (fun hs14 => ?_)
  refine r_putI J cls9 rfl (k := 1) (by decide) wf_9_15 rfl (Or.inl rfl) ⟨rfl, rfl⟩ (g_is_at hs14) ?_
  show g_H E 1 10 17 [(0, vR 12)] [] (σ, (g_up M 12 1 0), N) _ _
  exact p_X9_init_17 J σ (g_up M 12 1 0) N
set_option maxHeartbeats 4000000 in
set_option maxRecDepth 100000 in
theorem p_X9_init_0 {l : Launch} {E : gE} (J : J_X9_init E l) (σ : gS) (M : gM) (N : gN) : g_H E 0 0 0 [(0, vR 12)] [] (σ, M, N) (b_X9_init_0 σ M N) (eVSMN) := by
  unfold b_X9_init_0
  refine r_run J 1 (pc' := 1) (lv' := [(0, vR 12)]) (st' := [vR 12]) rfl ?_
  refine r_chk (fun hs1 => ?_)
  refine r_objI J (by rw [(g_is_at hs1)]; exact Option.some_ne_none _) wm_9_3 w_obj rfl ⟨by decide, Nat.le_of_ble_eq_true rfl⟩ ?_
  refine r_run J 2 (pc' := 7) (lv' := [(0, vR 12)]) (st' := [vI 10, vR 12]) rfl ?_
  refine r_chk (fun hf7 => ?_)
  refine r_newI J (B := 10) rfl wa_int (by decide) rfl (Nat.le_refl _) (by decide) (g_fr_0 hf7) (g_fr_n hf7) (by decide) (by decide) ?_
  show g_H E 1 10 9 [(0, vR 12)] [vR 13, vR 12] ((g_nS σ 13 14 10), (g_z M 13 0), (g_z N 13 0)) _ _
  refine r_chk (fun hs9 => ?_)
  refine r_putR J cls9 rfl (k := 0) (t := 14) (by decide) wf_9_9 rfl rfl (Or.inr ⟨rfl, rfl, rfl⟩) (g_is_at hs9) (Or.inr ⟨_, (g_nS_at σ 13 14 10)⟩) ?_
  show g_H E 1 10 12 [(0, vR 12)] [] ((g_pS (g_nS σ 13 14 10) 12 0 13), (g_z M 13 0), (g_z N 13 0)) _ _
  exact p_X9_init_12 J (g_pS (g_nS σ 13 14 10) 12 0 13) (g_z M 13 0) (g_z N 13 0)
theorem c_X9_init {l : Launch} (σ : gS) (M : gM) (N : gN) (r : gS × gM × gN) (h : f_X9_init σ M N = some r) : g_Ct l yX9_init cX9_init 1 none 1 8 70 [vR 12] (σ, M, N) (eVSMN r) :=
  g_Ct.of tb_X9_init (by decide +kernel) tk_X9_init (Nat.le_of_ble_eq_true rfl) (fun E J => p_X9_init_0 J σ M N r h)
def tb_X9_gatherGuests : gT := [(0, .aload_n 0, 1, 0), (1, .iconst 0, 1, 0), (2, .putfield 44, 3, 0), (5, .iconst 0, 1, 0), (6, .istore_n 3, 1, 0), (7, .iload_n 3, 1, 0), (8, .aload_n 1, 1, 0), (9, .getfield 91, 3, 0), (12, .if_icmp .ge 77, 3, 0), (15, .aload_n 1, 1, 0), (16, .getfield 96, 3, 0), (19, .iload_n 3, 1, 0), (20, .aaload, 1, 0), (21, .aload_n 2, 1, 0), (22, .getfield 100, 3, 0), (25, .invokevirtual 103, 3, 0), (28, .ifCond .eq 55, 3, 0), (31, .aload_n 0, 1, 0), (32, .getfield 22, 3, 0), (35, .aload_n 0, 1, 0), (36, .getfield 44, 3, 0), (39, .iload_n 3, 1, 0), (40, .iastore, 1, 0), (41, .aload_n 0, 1, 0), (42, .getfield 25, 3, 0), (45, .aload_n 0, 1, 0), (46, .getfield 44, 3, 0), (49, .aload_n 2, 1, 0), (50, .iload_n 3, 1, 0), (51, .invokevirtual 74, 3, 0), (54, .iastore, 1, 0), (55, .aload_n 0, 1, 0), (56, .getfield 31, 3, 0), (59, .aload_n 0, 1, 0), (60, .getfield 44, 3, 0), (63, .aload_n 1, 1, 0), (64, .getfield 96, 3, 0), (67, .iload_n 3, 1, 0), (68, .aaload, 1, 0), (69, .getfield 109, 3, 0), (72, .bastore, 1, 0), (73, .aload_n 0, 1, 0), (74, .dup, 1, 0), (75, .getfield 44, 3, 0), (78, .iconst 1, 1, 1), (79, .iadd, 1, 0), (80, .putfield 44, 3, 0), (83, .iinc 3 1, 3, 1), (86, .goto (-79), 3, 0), (89, .iconst 0, 1, 0), (90, .istore_n 3, 1, 0), (91, .iload_n 3, 1, 0), (92, .aload_n 0, 1, 0), (93, .getfield 44, 3, 0), (96, .if_icmp .ge 64, 3, 0), (99, .aload_n 0, 1, 0), (100, .getfield 28, 3, 0), (103, .iload_n 3, 1, 0), (104, .iconst 0, 1, 0), (105, .iastore, 1, 0), (106, .iconst 0, 1, 0), (107, .istore 4, 2, 0), (109, .iload 4, 2, 0), (111, .iload_n 3, 1, 0), (112, .if_icmp .ge 42, 3, 0), (115, .aload_n 1, 1, 0), (116, .aload_n 0, 1, 0), (117, .getfield 22, 3, 0), (120, .iload_n 3, 1, 0), (121, .iaload, 1, 0), (122, .aload_n 0, 1, 0), (123, .getfield 22, 3, 0), (126, .iload 4, 2, 0), (128, .iaload, 1, 0), (129, .invokevirtual 113, 3, 0), (132, .ifCond .eq 16, 3, 0), (135, .aload_n 0, 1, 0), (136, .getfield 28, 3, 0), (139, .iload_n 3, 1, 0), (140, .dup2, 1, 0), (141, .iaload, 1, 0), (142, .iconst 1, 1, 1), (143, .iload 4, 2, 0), (145, .ishl, 1, 0), (146, .ior, 1, 0), (147, .iastore, 1, 0), (148, .iinc 4 1, 3, 1), (151, .goto (-42), 3, 0), (154, .iinc 3 1, 3, 1), (157, .goto (-66), 3, 0), (160, .return_, 1, 0)]
set_option maxRecDepth 100000 in
theorem tk_X9_gatherGuests : g_okT cX9_gatherGuests tb_X9_gatherGuests = true := by decide +kernel
abbrev J_X9_gatherGuests (E : gE) (l : Launch) : Prop := g_J E cX9_gatherGuests RX9 "gatherGuests" none 5 tb_X9_gatherGuests 3 0 0 l
set_option maxHeartbeats 4000000 in
set_option maxRecDepth 100000 in
theorem p_X9_gatherGuests_148 {l : Launch} {E : gE} (J : J_X9_gatherGuests E l) {k91 : Int32 → gS → gM → Option (gM)} (H91 : ∀ (x3 : Int32) (σ : gS) (M : gM) (N : gN) (_ : g_layC σ), g_H E 0 0 91 [(0, vR 12), (1, vR 2), (3, vI x3)] [] (σ, M, N) (k91 x3 σ M) (eVM σ N)) {k109 : Int32 → Int32 → gS → gM → Option (gM)} (H109 : ∀ (x3 : Int32) (x4 : Int32) (σ : gS) (M : gM) (N : gN) (_ : g_layC σ), g_H E 0 0 109 [(0, vR 12), (1, vR 2), (3, vI x3), (4, vI x4)] [] (σ, M, N) (k109 x3 x4 σ M) (eVM σ N)) (x3 : Int32) (x4 : Int32) (σ : gS) (M : gM) (N : gN) (hL : g_layC σ) : g_H E 0 0 148 [(0, vR 12), (1, vR 2), (3, vI x3), (4, vI x4)] [] (σ, M, N) (b_X9_gatherGuests_148 k91 k109 x3 x4 σ M) (eVM σ N) := by
  unfold b_X9_gatherGuests_148
  refine r_run J 2 (pc' := 109) (lv' := [(4, vI (x4 + 1)), (0, vR 12), (1, vR 2), (3, vI x3)]) (st' := []) rfl ?_
  refine r_sub [1, 2, 3, 0] (lv' := [(0, vR 12), (1, vR 2), (3, vI x3), (4, vI (x4 + 1))]) rfl ?_
  exact H109 x3 (x4 + 1) σ M N hL
set_option maxHeartbeats 4000000 in
set_option maxRecDepth 100000 in
theorem p_X9_gatherGuests_109 {l : Launch} {E : gE} (J : J_X9_gatherGuests E l) {k91 : Int32 → gS → gM → Option (gM)} (H91 : ∀ (x3 : Int32) (σ : gS) (M : gM) (N : gN) (_ : g_layC σ), g_H E 0 0 91 [(0, vR 12), (1, vR 2), (3, vI x3)] [] (σ, M, N) (k91 x3 σ M) (eVM σ N)) : ∀ (n : Nat) (x3 : Int32) (x4 : Int32) (σ : gS) (M : gM) (N : gN) (hL : g_layC σ), g_H E 0 0 109 [(0, vR 12), (1, vR 2), (3, vI x3), (4, vI x4)] [] (σ, M, N) (l_X9_gatherGuests_109 k91 n x3 x4 σ M) (eVM σ N) := by
  intro n
  induction n with
  | zero => intros; exact h_none
  | succ n ih =>
    intro x3 x4 σ M N hL
    rw [l_X9_gatherGuests_109]
    refine r_run J 2 (pc' := 112) (lv' := [(0, vR 12), (1, vR 2), (3, vI x3), (4, vI x4)]) (st' := [vI x3, vI x4]) rfl ?_
    refine r_icmp_ge J (tgt := 154) rfl (by decide) (fun c112 => ?_) (fun c112 => ?_)
    · refine r_run J 2 (pc' := 117) (lv' := [(0, vR 12), (1, vR 2), (3, vI x3), (4, vI x4)]) (st' := [vR 12, vR 2]) rfl ?_
      refine r_getR J cls9 rfl (k := 3) (t := 14) (by decide) wf_9_22 rfl rfl (ly_12 hL) (lr_12_3 hL) (fun _ => ?_)
      show g_H E 0 0 120 [(0, vR 12), (1, vR 2), (3, vI x3), (4, vI x4)] [vR 14, vR 2] (σ, M, N) _ _
      refine r_run J 1 (pc' := 121) (lv' := [(0, vR 12), (1, vR 2), (3, vI x3), (4, vI x4)]) (st' := [vI x3, vR 14, vR 2]) rfl ?_
      refine r_iald J rfl (ly_14 hL) (fun i121 => ?_)
      show g_H E 0 0 122 [(0, vR 12), (1, vR 2), (3, vI x3), (4, vI x4)] [vI (M 14 x3.toNatClampNeg), vR 2] (σ, M, N) _ _
      refine r_run J 1 (pc' := 123) (lv' := [(0, vR 12), (1, vR 2), (3, vI x3), (4, vI x4)]) (st' := [vR 12, vI (M 14 x3.toNatClampNeg), vR 2]) rfl ?_
      refine r_getR J cls9 rfl (k := 3) (t := 14) (by decide) wf_9_22 rfl rfl (ly_12 hL) (lr_12_3 hL) (fun _ => ?_)
      show g_H E 0 0 126 [(0, vR 12), (1, vR 2), (3, vI x3), (4, vI x4)] [vR 14, vI (M 14 x3.toNatClampNeg), vR 2] (σ, M, N) _ _
      refine r_run J 1 (pc' := 128) (lv' := [(0, vR 12), (1, vR 2), (3, vI x3), (4, vI x4)]) (st' := [vI x4, vR 14, vI (M 14 x3.toNatClampNeg), vR 2]) rfl ?_
      refine r_iald J rfl (ly_14 hL) (fun i128 => ?_)
      show g_H E 0 0 129 [(0, vR 12), (1, vR 2), (3, vI x3), (4, vI x4)] [vI (M 14 x4.toNatClampNeg), vI (M 14 x3.toNatClampNeg), vR 2] (σ, M, N) _ _
      refine r_callV J (As := [vI (M 14 x3.toNatClampNeg), vI (M 14 x4.toNatClampNeg)]) (st := []) (fun r hr => c_X5_mayShare (M 14 x3.toNatClampNeg) (M 14 x4.toNatClampNeg) σ M N hL r hr) cls5 (ly_2 hL) wm_9_113 wy_X5_mayShare wd_X5_mayShare ⟨by decide, by decide, by decide, by decide, Nat.le_of_ble_eq_true rfl⟩ rfl rfl (fun q129 hq129 => ?_)
      show g_H E 0 0 132 [(0, vR 12), (1, vR 2), (3, vI x3), (4, vI x4)] [vI q129] (σ, M, N) _ _
      refine r_if_eq J (tgt := 148) rfl (by decide) (fun c132 => ?_) (fun c132 => ?_)
      · exact p_X9_gatherGuests_148 J H91 ih x3 x4 σ M N hL
      · refine r_run J 1 (pc' := 136) (lv' := [(0, vR 12), (1, vR 2), (3, vI x3), (4, vI x4)]) (st' := [vR 12]) rfl ?_
        refine r_getR J cls9 rfl (k := 5) (t := 14) (by decide) wf_9_28 rfl rfl (ly_12 hL) (lr_12_5 hL) (fun _ => ?_)
        show g_H E 0 0 139 [(0, vR 12), (1, vR 2), (3, vI x3), (4, vI x4)] [vR 16] (σ, M, N) _ _
        refine r_run J 2 (pc' := 141) (lv' := [(0, vR 12), (1, vR 2), (3, vI x3), (4, vI x4)]) (st' := [vI x3, vR 16, vI x3, vR 16]) rfl ?_
        refine r_iald J rfl (ly_16 hL) (fun i141 => ?_)
        show g_H E 0 0 142 [(0, vR 12), (1, vR 2), (3, vI x3), (4, vI x4)] [vI (M 16 x3.toNatClampNeg), vI x3, vR 16] (σ, M, N) _ _
        refine r_run J 4 (pc' := 147) (lv' := [(0, vR 12), (1, vR 2), (3, vI x3), (4, vI x4)]) (st' := [vI ((M 16 x3.toNatClampNeg) ||| ((1 : Int32) <<< (x4 &&& 31))), vI x3, vR 16]) rfl ?_
        refine r_iast J rfl (ly_16 hL) (fun i147 => ?_)
        show g_H E 0 0 148 [(0, vR 12), (1, vR 2), (3, vI x3), (4, vI x4)] [] (σ, (g_up M 16 (x3.toNatClampNeg) ((M 16 x3.toNatClampNeg) ||| ((1 : Int32) <<< (x4 &&& 31)))), N) _ _
        exact p_X9_gatherGuests_148 J H91 ih x3 x4 σ (g_up M 16 (x3.toNatClampNeg) ((M 16 x3.toNatClampNeg) ||| ((1 : Int32) <<< (x4 &&& 31)))) N hL
    · refine r_run J 2 (pc' := 91) (lv' := [(3, vI (x3 + 1)), (0, vR 12), (1, vR 2), (4, vI x4)]) (st' := []) rfl ?_
      refine r_sub [1, 2, 0] (lv' := [(0, vR 12), (1, vR 2), (3, vI (x3 + 1))]) rfl ?_
      exact H91 (x3 + 1) σ M N hL
set_option maxHeartbeats 4000000 in
set_option maxRecDepth 100000 in
theorem p_X9_gatherGuests_91 {l : Launch} {E : gE} (J : J_X9_gatherGuests E l) : ∀ (n : Nat) (x3 : Int32) (σ : gS) (M : gM) (N : gN) (hL : g_layC σ), g_H E 0 0 91 [(0, vR 12), (1, vR 2), (3, vI x3)] [] (σ, M, N) (l_X9_gatherGuests_91 n x3 σ M) (eVM σ N) := by
  intro n
  induction n with
  | zero => intros; exact h_none
  | succ n ih =>
    intro x3 σ M N hL
    rw [l_X9_gatherGuests_91]
    refine r_run J 2 (pc' := 93) (lv' := [(0, vR 12), (1, vR 2), (3, vI x3)]) (st' := [vR 12, vI x3]) rfl ?_
    refine r_getI J cls9 rfl (k := 9) (by decide) wf_9_44 rfl (ly_12 hL) ?_
    show g_H E 0 0 96 [(0, vR 12), (1, vR 2), (3, vI x3)] [vI (M 12 9), vI x3] (σ, M, N) _ _
    refine r_icmp_ge J (tgt := 160) rfl (by decide) (fun c96 => ?_) (fun c96 => ?_)
    · refine r_run J 1 (pc' := 100) (lv' := [(0, vR 12), (1, vR 2), (3, vI x3)]) (st' := [vR 12]) rfl ?_
      refine r_getR J cls9 rfl (k := 5) (t := 14) (by decide) wf_9_28 rfl rfl (ly_12 hL) (lr_12_5 hL) (fun _ => ?_)
      show g_H E 0 0 103 [(0, vR 12), (1, vR 2), (3, vI x3)] [vR 16] (σ, M, N) _ _
      refine r_run J 2 (pc' := 105) (lv' := [(0, vR 12), (1, vR 2), (3, vI x3)]) (st' := [vI 0, vI x3, vR 16]) rfl ?_
      refine r_iast J rfl (ly_16 hL) (fun i105 => ?_)
      show g_H E 0 0 106 [(0, vR 12), (1, vR 2), (3, vI x3)] [] (σ, (g_up M 16 (x3.toNatClampNeg) 0), N) _ _
      refine r_run J 2 (pc' := 109) (lv' := [(4, vI 0), (0, vR 12), (1, vR 2), (3, vI x3)]) (st' := []) rfl ?_
      refine r_sub [1, 2, 3, 0] (lv' := [(0, vR 12), (1, vR 2), (3, vI x3), (4, vI 0)]) rfl ?_
      exact p_X9_gatherGuests_109 J ih g_FU x3 0 σ (g_up M 16 (x3.toNatClampNeg) 0) N hL
    · exact r_vret J rfl rfl rfl (by decide) (by decide)
set_option maxHeartbeats 4000000 in
set_option maxRecDepth 100000 in
theorem p_X9_gatherGuests_83 {l : Launch} {E : gE} (J : J_X9_gatherGuests E l) {k7 : Nat → Int32 → gS → gM → Option (gM)} (H7 : ∀ (r2 : Nat) (x3 : Int32) (σ : gS) (M : gM) (N : gN) (_ : g_layC σ), g_H E 0 0 7 [(0, vR 12), (1, vR 2), (2, vR r2), (3, vI x3)] [] (σ, M, N) (k7 r2 x3 σ M) (eVM σ N)) (r2 : Nat) (x3 : Int32) (σ : gS) (M : gM) (N : gN) (hL : g_layC σ) : g_H E 0 0 83 [(0, vR 12), (1, vR 2), (2, vR r2), (3, vI x3)] [] (σ, M, N) (b_X9_gatherGuests_83 k7 r2 x3 σ M) (eVM σ N) := by
  unfold b_X9_gatherGuests_83
  refine r_run J 2 (pc' := 7) (lv' := [(3, vI (x3 + 1)), (0, vR 12), (1, vR 2), (2, vR r2)]) (st' := []) rfl ?_
  refine r_sub [1, 2, 3, 0] (lv' := [(0, vR 12), (1, vR 2), (2, vR r2), (3, vI (x3 + 1))]) rfl ?_
  exact H7 r2 (x3 + 1) σ M N hL
set_option maxHeartbeats 4000000 in
set_option maxRecDepth 100000 in
theorem p_X9_gatherGuests_73 {l : Launch} {E : gE} (J : J_X9_gatherGuests E l) {k7 : Nat → Int32 → gS → gM → Option (gM)} (H7 : ∀ (r2 : Nat) (x3 : Int32) (σ : gS) (M : gM) (N : gN) (_ : g_layC σ), g_H E 0 0 7 [(0, vR 12), (1, vR 2), (2, vR r2), (3, vI x3)] [] (σ, M, N) (k7 r2 x3 σ M) (eVM σ N)) (r2 : Nat) (x3 : Int32) (σ : gS) (M : gM) (N : gN) (hL : g_layC σ) : g_H E 0 0 73 [(0, vR 12), (1, vR 2), (2, vR r2), (3, vI x3)] [] (σ, M, N) (b_X9_gatherGuests_73 k7 r2 x3 σ M) (eVM σ N) := by
  unfold b_X9_gatherGuests_73
  refine r_run J 2 (pc' := 75) (lv' := [(0, vR 12), (1, vR 2), (2, vR r2), (3, vI x3)]) (st' := [vR 12, vR 12]) rfl ?_
  refine r_getI J cls9 rfl (k := 9) (by decide) wf_9_44 rfl (ly_12 hL) ?_
  show g_H E 0 0 78 [(0, vR 12), (1, vR 2), (2, vR r2), (3, vI x3)] [vI (M 12 9), vR 12] (σ, M, N) _ _
  refine r_run J 2 (pc' := 80) (lv' := [(0, vR 12), (1, vR 2), (2, vR r2), (3, vI x3)]) (st' := [vI ((M 12 9) + (1 : Int32)), vR 12]) rfl ?_
  refine r_putI J cls9 rfl (k := 9) (by decide) wf_9_44 rfl (Or.inl rfl) ⟨rfl, rfl⟩ (ly_12 hL) ?_
  show g_H E 0 0 83 [(0, vR 12), (1, vR 2), (2, vR r2), (3, vI x3)] [] (σ, (g_up M 12 9 ((M 12 9) + (1 : Int32))), N) _ _
  exact p_X9_gatherGuests_83 J H7 r2 x3 σ (g_up M 12 9 ((M 12 9) + (1 : Int32))) N hL
set_option maxHeartbeats 4000000 in
set_option maxRecDepth 100000 in
theorem p_X9_gatherGuests_7 {l : Launch} {E : gE} (J : J_X9_gatherGuests E l) : ∀ (n : Nat) (r2 : Nat) (x3 : Int32) (σ : gS) (M : gM) (N : gN) (hL : g_layC σ), g_H E 0 0 7 [(0, vR 12), (1, vR 2), (2, vR r2), (3, vI x3)] [] (σ, M, N) (l_X9_gatherGuests_7 n r2 x3 σ M) (eVM σ N) := by
  intro n
  induction n with
  | zero => intros; exact h_none
  | succ n ih =>
    intro r2 x3 σ M N hL
    rw [l_X9_gatherGuests_7]
    refine r_run J 2 (pc' := 9) (lv' := [(0, vR 12), (1, vR 2), (2, vR r2), (3, vI x3)]) (st' := [vR 2, vI x3]) rfl ?_
    refine r_getI J cls5 rfl (k := 1) (by decide) wf_9_91 rfl (ly_2 hL) ?_
    show g_H E 0 0 12 [(0, vR 12), (1, vR 2), (2, vR r2), (3, vI x3)] [vI (M 2 1), vI x3] (σ, M, N) _ _
    refine r_icmp_ge J (tgt := 89) rfl (by decide) (fun c12 => ?_) (fun c12 => ?_)
    · refine r_run J 1 (pc' := 16) (lv' := [(0, vR 12), (1, vR 2), (2, vR r2), (3, vI x3)]) (st' := [vR 2]) rfl ?_
      refine r_getR J cls5 rfl (k := 0) (t := 17) (by decide) wf_9_96 rfl rfl (ly_2 hL) (lr_2_0 hL) (fun _ => ?_)
      show g_H E 0 0 19 [(0, vR 12), (1, vR 2), (2, vR r2), (3, vI x3)] [vR 3] (σ, M, N) _ _
      refine r_run J 1 (pc' := 20) (lv' := [(0, vR 12), (1, vR 2), (2, vR r2), (3, vI x3)]) (st' := [vI x3, vR 3]) rfl ?_
      refine r_aald J rfl (Or.inl ⟨rfl, rfl⟩) (ly_3 hL) (fun i20 _ => ?_)
      show g_H E 0 0 21 [(0, vR 12), (1, vR 2), (2, vR r2), (3, vI x3)] [vR (σ.2 3 x3.toNatClampNeg)] (σ, M, N) _ _
      refine r_run J 1 (pc' := 22) (lv' := [(0, vR 12), (1, vR 2), (2, vR r2), (3, vI x3)]) (st' := [vR r2, vR (σ.2 3 x3.toNatClampNeg)]) rfl ?_
      refine r_chk (fun hs22 => ?_)
      refine r_getI J cls10 rfl (k := 0) (by decide) wf_9_100 rfl (g_is_at hs22) ?_
      show g_H E 0 0 25 [(0, vR 12), (1, vR 2), (2, vR r2), (3, vI x3)] [vI (M r2 0), vR (σ.2 3 x3.toNatClampNeg)] (σ, M, N) _ _
      refine r_chk (fun hs25 => ?_)
      refine r_callV J (As := [vI (M r2 0)]) (st := []) (fun r hr => c_X6_isThereIn (σ.2 3 x3.toNatClampNeg) (M r2 0) σ M N hL r hr) cls6 (g_is_at hs25) wm_9_103 wy_X6_isThereIn wd_X6_isThereIn ⟨by decide, by decide, by decide, by decide, Nat.le_of_ble_eq_true rfl⟩ rfl rfl (fun q25 hq25 => ?_)
      show g_H E 0 0 28 [(0, vR 12), (1, vR 2), (2, vR r2), (3, vI x3)] [vI q25] (σ, M, N) _ _
      refine r_if_eq J (tgt := 83) rfl (by decide) (fun c28 => ?_) (fun c28 => ?_)
      · exact p_X9_gatherGuests_83 J ih r2 x3 σ M N hL
      · refine r_run J 1 (pc' := 32) (lv' := [(0, vR 12), (1, vR 2), (2, vR r2), (3, vI x3)]) (st' := [vR 12]) rfl ?_
        refine r_getR J cls9 rfl (k := 3) (t := 14) (by decide) wf_9_22 rfl rfl (ly_12 hL) (lr_12_3 hL) (fun _ => ?_)
        show g_H E 0 0 35 [(0, vR 12), (1, vR 2), (2, vR r2), (3, vI x3)] [vR 14] (σ, M, N) _ _
        refine r_run J 1 (pc' := 36) (lv' := [(0, vR 12), (1, vR 2), (2, vR r2), (3, vI x3)]) (st' := [vR 12, vR 14]) rfl ?_
        refine r_getI J cls9 rfl (k := 9) (by decide) wf_9_44 rfl (ly_12 hL) ?_
        show g_H E 0 0 39 [(0, vR 12), (1, vR 2), (2, vR r2), (3, vI x3)] [vI (M 12 9), vR 14] (σ, M, N) _ _
        refine r_run J 1 (pc' := 40) (lv' := [(0, vR 12), (1, vR 2), (2, vR r2), (3, vI x3)]) (st' := [vI x3, vI (M 12 9), vR 14]) rfl ?_
        refine r_iast J rfl (ly_14 hL) (fun i40 => ?_)
        show g_H E 0 0 41 [(0, vR 12), (1, vR 2), (2, vR r2), (3, vI x3)] [] (σ, (g_up M 14 ((M 12 9).toNatClampNeg) x3), N) _ _
        refine r_run J 1 (pc' := 42) (lv' := [(0, vR 12), (1, vR 2), (2, vR r2), (3, vI x3)]) (st' := [vR 12]) rfl ?_
        refine r_getR J cls9 rfl (k := 4) (t := 14) (by decide) wf_9_25 rfl rfl (ly_12 hL) (lr_12_4 hL) (fun _ => ?_)
        show g_H E 0 0 45 [(0, vR 12), (1, vR 2), (2, vR r2), (3, vI x3)] [vR 15] (σ, (g_up M 14 ((M 12 9).toNatClampNeg) x3), N) _ _
        refine r_run J 1 (pc' := 46) (lv' := [(0, vR 12), (1, vR 2), (2, vR r2), (3, vI x3)]) (st' := [vR 12, vR 15]) rfl ?_
        refine r_getI J cls9 rfl (k := 9) (by decide) wf_9_44 rfl (ly_12 hL) ?_
        show g_H E 0 0 49 [(0, vR 12), (1, vR 2), (2, vR r2), (3, vI x3)] [vI ((g_up M 14 ((M 12 9).toNatClampNeg) x3) 12 9), vR 15] (σ, (g_up M 14 ((M 12 9).toNatClampNeg) x3), N) _ _
        refine r_run J 2 (pc' := 51) (lv' := [(0, vR 12), (1, vR 2), (2, vR r2), (3, vI x3)]) (st' := [vI x3, vR r2, vI ((g_up M 14 ((M 12 9).toNatClampNeg) x3) 12 9), vR 15]) rfl ?_
        refine r_callV J (As := [vI x3]) (st := [vI ((g_up M 14 ((M 12 9).toNatClampNeg) x3) 12 9), vR 15]) (fun r hr => c_X10_roomOfGuest r2 x3 σ (g_up M 14 ((M 12 9).toNatClampNeg) x3) N hL r hr) cls10 (g_is_at hs22) wm_9_74 wy_X10_roomOfGuest wd_X10_roomOfGuest ⟨by decide, by decide, by decide, by decide, Nat.le_of_ble_eq_true rfl⟩ rfl rfl (fun q51 hq51 => ?_)
        show g_H E 0 0 54 [(0, vR 12), (1, vR 2), (2, vR r2), (3, vI x3)] [vI q51, vI ((g_up M 14 ((M 12 9).toNatClampNeg) x3) 12 9), vR 15] (σ, (g_up M 14 ((M 12 9).toNatClampNeg) x3), N) _ _
        refine r_iast J rfl (ly_15 hL) (fun i54 => ?_)
        show g_H E 0 0 55 [(0, vR 12), (1, vR 2), (2, vR r2), (3, vI x3)] [] (σ, (g_up (g_up M 14 ((M 12 9).toNatClampNeg) x3) 15 (((g_up M 14 ((M 12 9).toNatClampNeg) x3) 12 9).toNatClampNeg) q51), N) _ _
        refine r_run J 1 (pc' := 56) (lv' := [(0, vR 12), (1, vR 2), (2, vR r2), (3, vI x3)]) (st' := [vR 12]) rfl ?_
        refine r_getR J cls9 rfl (k := 6) (t := 15) (by decide) wf_9_31 rfl rfl (ly_12 hL) (lr_12_6 hL) (fun _ => ?_)
        show g_H E 0 0 59 [(0, vR 12), (1, vR 2), (2, vR r2), (3, vI x3)] [vR 17] (σ, (g_up (g_up M 14 ((M 12 9).toNatClampNeg) x3) 15 (((g_up M 14 ((M 12 9).toNatClampNeg) x3) 12 9).toNatClampNeg) q51), N) _ _
        refine r_run J 1 (pc' := 60) (lv' := [(0, vR 12), (1, vR 2), (2, vR r2), (3, vI x3)]) (st' := [vR 12, vR 17]) rfl ?_
        refine r_getI J cls9 rfl (k := 9) (by decide) wf_9_44 rfl (ly_12 hL) ?_
        show g_H E 0 0 63 [(0, vR 12), (1, vR 2), (2, vR r2), (3, vI x3)] [vI ((g_up (g_up M 14 ((M 12 9).toNatClampNeg) x3) 15 (((g_up M 14 ((M 12 9).toNatClampNeg) x3) 12 9).toNatClampNeg) q51) 12 9), vR 17] (σ, (g_up (g_up M 14 ((M 12 9).toNatClampNeg) x3) 15 (((g_up M 14 ((M 12 9).toNatClampNeg) x3) 12 9).toNatClampNeg) q51), N) _ _
        refine r_run J 1 (pc' := 64) (lv' := [(0, vR 12), (1, vR 2), (2, vR r2), (3, vI x3)]) (st' := [vR 2, vI ((g_up (g_up M 14 ((M 12 9).toNatClampNeg) x3) 15 (((g_up M 14 ((M 12 9).toNatClampNeg) x3) 12 9).toNatClampNeg) q51) 12 9), vR 17]) rfl ?_
        refine r_getR J cls5 rfl (k := 0) (t := 17) (by decide) wf_9_96 rfl rfl (ly_2 hL) (lr_2_0 hL) (fun _ => ?_)
        show g_H E 0 0 67 [(0, vR 12), (1, vR 2), (2, vR r2), (3, vI x3)] [vR 3, vI ((g_up (g_up M 14 ((M 12 9).toNatClampNeg) x3) 15 (((g_up M 14 ((M 12 9).toNatClampNeg) x3) 12 9).toNatClampNeg) q51) 12 9), vR 17] (σ, (g_up (g_up M 14 ((M 12 9).toNatClampNeg) x3) 15 (((g_up M 14 ((M 12 9).toNatClampNeg) x3) 12 9).toNatClampNeg) q51), N) _ _
        refine r_run J 1 (pc' := 68) (lv' := [(0, vR 12), (1, vR 2), (2, vR r2), (3, vI x3)]) (st' := [vI x3, vR 3, vI ((g_up (g_up M 14 ((M 12 9).toNatClampNeg) x3) 15 (((g_up M 14 ((M 12 9).toNatClampNeg) x3) 12 9).toNatClampNeg) q51) 12 9), vR 17]) rfl ?_
        refine r_aald J rfl (Or.inl ⟨rfl, rfl⟩) (ly_3 hL) (fun i68 _ => ?_)
        show g_H E 0 0 69 [(0, vR 12), (1, vR 2), (2, vR r2), (3, vI x3)] [vR (σ.2 3 x3.toNatClampNeg), vI ((g_up (g_up M 14 ((M 12 9).toNatClampNeg) x3) 15 (((g_up M 14 ((M 12 9).toNatClampNeg) x3) 12 9).toNatClampNeg) q51) 12 9), vR 17] (σ, (g_up (g_up M 14 ((M 12 9).toNatClampNeg) x3) 15 (((g_up M 14 ((M 12 9).toNatClampNeg) x3) 12 9).toNatClampNeg) q51), N) _ _
        refine r_getI J cls6 rfl (k := 2) (by decide) wf_9_109 rfl (g_is_at hs25) ?_
        show g_H E 0 0 72 [(0, vR 12), (1, vR 2), (2, vR r2), (3, vI x3)] [vI ((g_up (g_up M 14 ((M 12 9).toNatClampNeg) x3) 15 (((g_up M 14 ((M 12 9).toNatClampNeg) x3) 12 9).toNatClampNeg) q51) (σ.2 3 x3.toNatClampNeg) 2), vI ((g_up (g_up M 14 ((M 12 9).toNatClampNeg) x3) 15 (((g_up M 14 ((M 12 9).toNatClampNeg) x3) 12 9).toNatClampNeg) q51) 12 9), vR 17] (σ, (g_up (g_up M 14 ((M 12 9).toNatClampNeg) x3) 15 (((g_up M 14 ((M 12 9).toNatClampNeg) x3) 12 9).toNatClampNeg) q51), N) _ _
        refine r_zast J rfl (ly_17 hL) (fun i72 => ?_)
        show g_H E 0 0 73 [(0, vR 12), (1, vR 2), (2, vR r2), (3, vI x3)] [] (σ, (g_up (g_up (g_up M 14 ((M 12 9).toNatClampNeg) x3) 15 (((g_up M 14 ((M 12 9).toNatClampNeg) x3) 12 9).toNatClampNeg) q51) 17 (((g_up (g_up M 14 ((M 12 9).toNatClampNeg) x3) 15 (((g_up M 14 ((M 12 9).toNatClampNeg) x3) 12 9).toNatClampNeg) q51) 12 9).toNatClampNeg) (vp_nar .boolean ((g_up (g_up M 14 ((M 12 9).toNatClampNeg) x3) 15 (((g_up M 14 ((M 12 9).toNatClampNeg) x3) 12 9).toNatClampNeg) q51) (σ.2 3 x3.toNatClampNeg) 2))), N) _ _
        exact p_X9_gatherGuests_73 J ih r2 x3 σ (g_up (g_up (g_up M 14 ((M 12 9).toNatClampNeg) x3) 15 (((g_up M 14 ((M 12 9).toNatClampNeg) x3) 12 9).toNatClampNeg) q51) 17 (((g_up (g_up M 14 ((M 12 9).toNatClampNeg) x3) 15 (((g_up M 14 ((M 12 9).toNatClampNeg) x3) 12 9).toNatClampNeg) q51) 12 9).toNatClampNeg) (vp_nar .boolean ((g_up (g_up M 14 ((M 12 9).toNatClampNeg) x3) 15 (((g_up M 14 ((M 12 9).toNatClampNeg) x3) 12 9).toNatClampNeg) q51) (σ.2 3 x3.toNatClampNeg) 2))) N hL
    · refine r_run J 2 (pc' := 91) (lv' := [(3, vI 0), (0, vR 12), (1, vR 2), (2, vR r2)]) (st' := []) rfl ?_
      refine r_sub [1, 2, 0] (lv' := [(0, vR 12), (1, vR 2), (3, vI 0)]) rfl ?_
      exact p_X9_gatherGuests_91 J g_FU 0 σ M N hL
set_option maxHeartbeats 4000000 in
set_option maxRecDepth 100000 in
theorem p_X9_gatherGuests_0 {l : Launch} {E : gE} (J : J_X9_gatherGuests E l) (r2 : Nat) (σ : gS) (M : gM) (N : gN) (hL : g_layC σ) : g_H E 0 0 0 [(0, vR 12), (1, vR 2), (2, vR r2)] [] (σ, M, N) (b_X9_gatherGuests_0 r2 σ M) (eVM σ N) := by
  unfold b_X9_gatherGuests_0
  refine r_run J 2 (pc' := 2) (lv' := [(0, vR 12), (1, vR 2), (2, vR r2)]) (st' := [vI 0, vR 12]) rfl ?_
  refine r_putI J cls9 rfl (k := 9) (by decide) wf_9_44 rfl (Or.inl rfl) ⟨rfl, rfl⟩ (ly_12 hL) ?_
  show g_H E 0 0 5 [(0, vR 12), (1, vR 2), (2, vR r2)] [] (σ, (g_up M 12 9 0), N) _ _
  refine r_run J 2 (pc' := 7) (lv' := [(3, vI 0), (0, vR 12), (1, vR 2), (2, vR r2)]) (st' := []) rfl ?_
  refine r_sub [1, 2, 3, 0] (lv' := [(0, vR 12), (1, vR 2), (2, vR r2), (3, vI 0)]) rfl ?_
  exact p_X9_gatherGuests_7 J g_FU r2 0 σ (g_up M 12 9 0) N hL
theorem c_X9_gatherGuests {l : Launch} (r2 : Nat) (σ : gS) (M : gM) (N : gN) (hL : g_layC σ) (r : gM) (h : f_X9_gatherGuests r2 σ M = some r) : g_Ct l yX9_gatherGuests cX9_gatherGuests 5 none 3 0 0 [vR 12, vR 2, vR r2] (σ, M, N) (eVM σ N r) :=
  g_Ct.of tb_X9_gatherGuests (by decide +kernel) tk_X9_gatherGuests (Nat.le_of_ble_eq_true rfl) (fun E J => p_X9_gatherGuests_0 J r2 σ M N hL r h)
def tb_X9_gatherRooms : gT := [(0, .aload_n 0, 1, 0), (1, .iconst 0, 1, 0), (2, .putfield 47, 3, 0), (5, .aload_n 0, 1, 0), (6, .iconst 0, 1, 0), (7, .putfield 50, 3, 0), (10, .iconst 0, 1, 0), (11, .istore_n 2, 1, 0), (12, .iload_n 2, 1, 0), (13, .aload_n 1, 1, 0), (14, .getfield 117, 3, 0), (17, .if_icmp .ge 77, 3, 0), (20, .aload_n 1, 1, 0), (21, .getfield 118, 3, 0), (24, .iload_n 2, 1, 0), (25, .aaload, 1, 0), (26, .getfield 119, 3, 0), (29, .ifCond .eq 59, 3, 0), (32, .aload_n 0, 1, 0), (33, .getfield 37, 3, 0), (36, .aload_n 0, 1, 0), (37, .getfield 47, 3, 0), (40, .aload_n 1, 1, 0), (41, .getfield 118, 3, 0), (44, .iload_n 2, 1, 0), (45, .aaload, 1, 0), (46, .aastore, 1, 0), (47, .aload_n 0, 1, 0), (48, .getfield 41, 3, 0), (51, .aload_n 0, 1, 0), (52, .getfield 47, 3, 0), (55, .iload_n 2, 1, 0), (56, .iastore, 1, 0), (57, .aload_n 0, 1, 0), (58, .dup, 1, 0), (59, .getfield 50, 3, 0), (62, .aload_n 0, 1, 0), (63, .getfield 37, 3, 0), (66, .aload_n 0, 1, 0), (67, .getfield 47, 3, 0), (70, .aaload, 1, 0), (71, .getfield 122, 3, 0), (74, .iadd, 1, 0), (75, .putfield 50, 3, 0), (78, .aload_n 0, 1, 0), (79, .dup, 1, 0), (80, .getfield 47, 3, 0), (83, .iconst 1, 1, 1), (84, .iadd, 1, 0), (85, .putfield 47, 3, 0), (88, .iinc 2 1, 3, 1), (91, .goto (-79), 3, 0), (94, .return_, 1, 0)]
set_option maxRecDepth 100000 in
theorem tk_X9_gatherRooms : g_okT cX9_gatherRooms tb_X9_gatherRooms = true := by decide +kernel
abbrev J_X9_gatherRooms (E : gE) (l : Launch) : Prop := g_J E cX9_gatherRooms RX9 "gatherRooms" none 3 tb_X9_gatherRooms 1 0 0 l
set_option maxHeartbeats 4000000 in
set_option maxRecDepth 100000 in
theorem p_X9_gatherRooms_88 {l : Launch} {E : gE} (J : J_X9_gatherRooms E l) {k12 : Nat → Int32 → gS → gM → Option (gS × gM)} (H12 : ∀ (r1 : Nat) (x2 : Int32) (σ : gS) (M : gM) (N : gN) (_ : g_layC σ), g_H E 0 0 12 [(0, vR 12), (1, vR r1), (2, vI x2)] [] (σ, M, N) (k12 r1 x2 σ M) (eVSM N)) (r1 : Nat) (x2 : Int32) (σ : gS) (M : gM) (N : gN) (hL : g_layC σ) : g_H E 0 0 88 [(0, vR 12), (1, vR r1), (2, vI x2)] [] (σ, M, N) (b_X9_gatherRooms_88 k12 r1 x2 σ M) (eVSM N) := by
  unfold b_X9_gatherRooms_88
  refine r_run J 2 (pc' := 12) (lv' := [(2, vI (x2 + 1)), (0, vR 12), (1, vR r1)]) (st' := []) rfl ?_
  refine r_sub [1, 2, 0] (lv' := [(0, vR 12), (1, vR r1), (2, vI (x2 + 1))]) rfl ?_
  exact H12 r1 (x2 + 1) σ M N hL
set_option maxHeartbeats 4000000 in
set_option maxRecDepth 100000 in
theorem p_X9_gatherRooms_78 {l : Launch} {E : gE} (J : J_X9_gatherRooms E l) {k12 : Nat → Int32 → gS → gM → Option (gS × gM)} (H12 : ∀ (r1 : Nat) (x2 : Int32) (σ : gS) (M : gM) (N : gN) (_ : g_layC σ), g_H E 0 0 12 [(0, vR 12), (1, vR r1), (2, vI x2)] [] (σ, M, N) (k12 r1 x2 σ M) (eVSM N)) (r1 : Nat) (x2 : Int32) (σ : gS) (M : gM) (N : gN) (hL : g_layC σ) : g_H E 0 0 78 [(0, vR 12), (1, vR r1), (2, vI x2)] [] (σ, M, N) (b_X9_gatherRooms_78 k12 r1 x2 σ M) (eVSM N) := by
  unfold b_X9_gatherRooms_78
  refine r_run J 2 (pc' := 80) (lv' := [(0, vR 12), (1, vR r1), (2, vI x2)]) (st' := [vR 12, vR 12]) rfl ?_
  refine r_getI J cls9 rfl (k := 10) (by decide) wf_9_47 rfl (ly_12 hL) ?_
  show g_H E 0 0 83 [(0, vR 12), (1, vR r1), (2, vI x2)] [vI (M 12 10), vR 12] (σ, M, N) _ _
  refine r_run J 2 (pc' := 85) (lv' := [(0, vR 12), (1, vR r1), (2, vI x2)]) (st' := [vI ((M 12 10) + (1 : Int32)), vR 12]) rfl ?_
  refine r_putI J cls9 rfl (k := 10) (by decide) wf_9_47 rfl (Or.inl rfl) ⟨rfl, rfl⟩ (ly_12 hL) ?_
  show g_H E 0 0 88 [(0, vR 12), (1, vR r1), (2, vI x2)] [] (σ, (g_up M 12 10 ((M 12 10) + (1 : Int32))), N) _ _
  exact p_X9_gatherRooms_88 J H12 r1 x2 σ (g_up M 12 10 ((M 12 10) + (1 : Int32))) N hL
set_option maxHeartbeats 4000000 in
set_option maxRecDepth 100000 in
theorem p_X9_gatherRooms_12 {l : Launch} {E : gE} (J : J_X9_gatherRooms E l) : ∀ (n : Nat) (r1 : Nat) (x2 : Int32) (σ : gS) (M : gM) (N : gN) (hL : g_layC σ), g_H E 0 0 12 [(0, vR 12), (1, vR r1), (2, vI x2)] [] (σ, M, N) (l_X9_gatherRooms_12 n r1 x2 σ M) (eVSM N) := by
  intro n
  induction n with
  | zero => intros; exact h_none
  | succ n ih =>
    intro r1 x2 σ M N hL
    rw [l_X9_gatherRooms_12]
    refine r_run J 2 (pc' := 14) (lv' := [(0, vR 12), (1, vR r1), (2, vI x2)]) (st' := [vR r1, vI x2]) rfl ?_
    refine r_chk (fun hs14 => ?_)
    refine r_getI J cls10 rfl (k := 6) (by decide) wf_9_117 rfl (g_is_at hs14) ?_
    show g_H E 0 0 17 [(0, vR 12), (1, vR r1), (2, vI x2)] [vI (M r1 6), vI x2] (σ, M, N) _ _
    refine r_icmp_ge J (tgt := 94) rfl (by decide) (fun c17 => ?_) (fun c17 => ?_)
    · refine r_run J 1 (pc' := 21) (lv' := [(0, vR 12), (1, vR r1), (2, vI x2)]) (st' := [vR r1]) rfl ?_
      refine r_getR J cls10 rfl (k := 3) (t := 18) (by decide) wf_9_118 rfl rfl (g_is_at hs14) rfl (fun _ => ?_)
      show g_H E 0 0 24 [(0, vR 12), (1, vR r1), (2, vI x2)] [vR (σ.2 r1 3)] (σ, M, N) _ _
      refine r_run J 1 (pc' := 25) (lv' := [(0, vR 12), (1, vR r1), (2, vI x2)]) (st' := [vI x2, vR (σ.2 r1 3)]) rfl ?_
      refine r_chk (fun hs25 => ?_)
      refine r_aald J rfl (Or.inr (Or.inl ⟨rfl, rfl⟩)) (g_is_at hs25) (fun i25 _ => ?_)
      show g_H E 0 0 26 [(0, vR 12), (1, vR r1), (2, vI x2)] [vR (σ.2 (σ.2 r1 3) x2.toNatClampNeg)] (σ, M, N) _ _
      refine r_chk (fun hs26 => ?_)
      refine r_getI J cls8 rfl (k := 3) (by decide) wf_9_119 rfl (g_is_at hs26) ?_
      show g_H E 0 0 29 [(0, vR 12), (1, vR r1), (2, vI x2)] [vI (M (σ.2 (σ.2 r1 3) x2.toNatClampNeg) 3)] (σ, M, N) _ _
      refine r_if_eq J (tgt := 88) rfl (by decide) (fun c29 => ?_) (fun c29 => ?_)
      · exact p_X9_gatherRooms_88 J ih r1 x2 σ M N hL
      · refine r_run J 1 (pc' := 33) (lv' := [(0, vR 12), (1, vR r1), (2, vI x2)]) (st' := [vR 12]) rfl ?_
        refine r_getR J cls9 rfl (k := 7) (t := 18) (by decide) wf_9_37 rfl rfl (ly_12 hL) (lr_12_7 hL) (fun _ => ?_)
        show g_H E 0 0 36 [(0, vR 12), (1, vR r1), (2, vI x2)] [vR 18] (σ, M, N) _ _
        refine r_run J 1 (pc' := 37) (lv' := [(0, vR 12), (1, vR r1), (2, vI x2)]) (st' := [vR 12, vR 18]) rfl ?_
        refine r_getI J cls9 rfl (k := 10) (by decide) wf_9_47 rfl (ly_12 hL) ?_
        show g_H E 0 0 40 [(0, vR 12), (1, vR r1), (2, vI x2)] [vI (M 12 10), vR 18] (σ, M, N) _ _
        refine r_run J 1 (pc' := 41) (lv' := [(0, vR 12), (1, vR r1), (2, vI x2)]) (st' := [vR r1, vI (M 12 10), vR 18]) rfl ?_
        refine r_getR J cls10 rfl (k := 3) (t := 18) (by decide) wf_9_118 rfl rfl (g_is_at hs14) rfl (fun _ => ?_)
        show g_H E 0 0 44 [(0, vR 12), (1, vR r1), (2, vI x2)] [vR (σ.2 r1 3), vI (M 12 10), vR 18] (σ, M, N) _ _
        refine r_run J 1 (pc' := 45) (lv' := [(0, vR 12), (1, vR r1), (2, vI x2)]) (st' := [vI x2, vR (σ.2 r1 3), vI (M 12 10), vR 18]) rfl ?_
        refine r_aald J rfl (Or.inr (Or.inl ⟨rfl, rfl⟩)) (g_is_at hs25) (fun i45 _ => ?_)
        show g_H E 0 0 46 [(0, vR 12), (1, vR r1), (2, vI x2)] [vR (σ.2 (σ.2 r1 3) x2.toNatClampNeg), vI (M 12 10), vR 18] (σ, M, N) _ _
        refine r_aast J rfl (Or.inr (Or.inl ⟨rfl, rfl⟩)) (ly_18 hL) (g_is_at hs26) cls8 (fun i46 => ?_)
        show g_H E 0 0 47 [(0, vR 12), (1, vR r1), (2, vI x2)] [] ((g_pS σ 18 ((M 12 10).toNatClampNeg) (σ.2 (σ.2 r1 3) x2.toNatClampNeg)), M, N) _ _
        refine r_chk (fun hl47 => ?_)
        refine r_run J 1 (pc' := 48) (lv' := [(0, vR 12), (1, vR r1), (2, vI x2)]) (st' := [vR 12]) rfl ?_
        refine r_getR J cls9 rfl (k := 8) (t := 14) (by decide) wf_9_41 rfl rfl (ly_12 (g_layC.of hl47)) (lr_12_8 (g_layC.of hl47)) (fun _ => ?_)
        show g_H E 0 0 51 [(0, vR 12), (1, vR r1), (2, vI x2)] [vR 19] ((g_pS σ 18 ((M 12 10).toNatClampNeg) (σ.2 (σ.2 r1 3) x2.toNatClampNeg)), M, N) _ _
        refine r_run J 1 (pc' := 52) (lv' := [(0, vR 12), (1, vR r1), (2, vI x2)]) (st' := [vR 12, vR 19]) rfl ?_
        refine r_getI J cls9 rfl (k := 10) (by decide) wf_9_47 rfl (ly_12 (g_layC.of hl47)) ?_
        show g_H E 0 0 55 [(0, vR 12), (1, vR r1), (2, vI x2)] [vI (M 12 10), vR 19] ((g_pS σ 18 ((M 12 10).toNatClampNeg) (σ.2 (σ.2 r1 3) x2.toNatClampNeg)), M, N) _ _
        refine r_run J 1 (pc' := 56) (lv' := [(0, vR 12), (1, vR r1), (2, vI x2)]) (st' := [vI x2, vI (M 12 10), vR 19]) rfl ?_
        refine r_iast J rfl (ly_19 (g_layC.of hl47)) (fun i56 => ?_)
        show g_H E 0 0 57 [(0, vR 12), (1, vR r1), (2, vI x2)] [] ((g_pS σ 18 ((M 12 10).toNatClampNeg) (σ.2 (σ.2 r1 3) x2.toNatClampNeg)), (g_up M 19 ((M 12 10).toNatClampNeg) x2), N) _ _
        refine r_run J 2 (pc' := 59) (lv' := [(0, vR 12), (1, vR r1), (2, vI x2)]) (st' := [vR 12, vR 12]) rfl ?_
        refine r_getI J cls9 rfl (k := 11) (by decide) wf_9_50 rfl (ly_12 (g_layC.of hl47)) ?_
        show g_H E 0 0 62 [(0, vR 12), (1, vR r1), (2, vI x2)] [vI ((g_up M 19 ((M 12 10).toNatClampNeg) x2) 12 11), vR 12] ((g_pS σ 18 ((M 12 10).toNatClampNeg) (σ.2 (σ.2 r1 3) x2.toNatClampNeg)), (g_up M 19 ((M 12 10).toNatClampNeg) x2), N) _ _
        refine r_run J 1 (pc' := 63) (lv' := [(0, vR 12), (1, vR r1), (2, vI x2)]) (st' := [vR 12, vI ((g_up M 19 ((M 12 10).toNatClampNeg) x2) 12 11), vR 12]) rfl ?_
        refine r_getR J cls9 rfl (k := 7) (t := 18) (by decide) wf_9_37 rfl rfl (ly_12 (g_layC.of hl47)) (lr_12_7 (g_layC.of hl47)) (fun _ => ?_)
        show g_H E 0 0 66 [(0, vR 12), (1, vR r1), (2, vI x2)] [vR 18, vI ((g_up M 19 ((M 12 10).toNatClampNeg) x2) 12 11), vR 12] ((g_pS σ 18 ((M 12 10).toNatClampNeg) (σ.2 (σ.2 r1 3) x2.toNatClampNeg)), (g_up M 19 ((M 12 10).toNatClampNeg) x2), N) _ _
        refine r_run J 1 (pc' := 67) (lv' := [(0, vR 12), (1, vR r1), (2, vI x2)]) (st' := [vR 12, vR 18, vI ((g_up M 19 ((M 12 10).toNatClampNeg) x2) 12 11), vR 12]) rfl ?_
        refine r_getI J cls9 rfl (k := 10) (by decide) wf_9_47 rfl (ly_12 (g_layC.of hl47)) ?_
        show g_H E 0 0 70 [(0, vR 12), (1, vR r1), (2, vI x2)] [vI ((g_up M 19 ((M 12 10).toNatClampNeg) x2) 12 10), vR 18, vI ((g_up M 19 ((M 12 10).toNatClampNeg) x2) 12 11), vR 12] ((g_pS σ 18 ((M 12 10).toNatClampNeg) (σ.2 (σ.2 r1 3) x2.toNatClampNeg)), (g_up M 19 ((M 12 10).toNatClampNeg) x2), N) _ _
        refine r_aald J rfl (Or.inr (Or.inl ⟨rfl, rfl⟩)) (ly_18 (g_layC.of hl47)) (fun i70 _ => ?_)
        show g_H E 0 0 71 [(0, vR 12), (1, vR r1), (2, vI x2)] [vR ((g_pS σ 18 ((M 12 10).toNatClampNeg) (σ.2 (σ.2 r1 3) x2.toNatClampNeg)).2 18 ((g_up M 19 ((M 12 10).toNatClampNeg) x2) 12 10).toNatClampNeg), vI ((g_up M 19 ((M 12 10).toNatClampNeg) x2) 12 11), vR 12] ((g_pS σ 18 ((M 12 10).toNatClampNeg) (σ.2 (σ.2 r1 3) x2.toNatClampNeg)), (g_up M 19 ((M 12 10).toNatClampNeg) x2), N) _ _
        refine r_chk (fun hs71 => ?_)
        refine r_getI J cls8 rfl (k := 0) (by decide) wf_9_122 rfl (g_is_at hs71) ?_
        show g_H E 0 0 74 [(0, vR 12), (1, vR r1), (2, vI x2)] [vI ((g_up M 19 ((M 12 10).toNatClampNeg) x2) ((g_pS σ 18 ((M 12 10).toNatClampNeg) (σ.2 (σ.2 r1 3) x2.toNatClampNeg)).2 18 ((g_up M 19 ((M 12 10).toNatClampNeg) x2) 12 10).toNatClampNeg) 0), vI ((g_up M 19 ((M 12 10).toNatClampNeg) x2) 12 11), vR 12] ((g_pS σ 18 ((M 12 10).toNatClampNeg) (σ.2 (σ.2 r1 3) x2.toNatClampNeg)), (g_up M 19 ((M 12 10).toNatClampNeg) x2), N) _ _
        refine r_run J 1 (pc' := 75) (lv' := [(0, vR 12), (1, vR r1), (2, vI x2)]) (st' := [vI (((g_up M 19 ((M 12 10).toNatClampNeg) x2) 12 11) + ((g_up M 19 ((M 12 10).toNatClampNeg) x2) ((g_pS σ 18 ((M 12 10).toNatClampNeg) (σ.2 (σ.2 r1 3) x2.toNatClampNeg)).2 18 ((g_up M 19 ((M 12 10).toNatClampNeg) x2) 12 10).toNatClampNeg) 0)), vR 12]) rfl ?_
        refine r_putI J cls9 rfl (k := 11) (by decide) wf_9_50 rfl (Or.inl rfl) ⟨rfl, rfl⟩ (ly_12 (g_layC.of hl47)) ?_
        show g_H E 0 0 78 [(0, vR 12), (1, vR r1), (2, vI x2)] [] ((g_pS σ 18 ((M 12 10).toNatClampNeg) (σ.2 (σ.2 r1 3) x2.toNatClampNeg)), (g_up (g_up M 19 ((M 12 10).toNatClampNeg) x2) 12 11 (((g_up M 19 ((M 12 10).toNatClampNeg) x2) 12 11) + ((g_up M 19 ((M 12 10).toNatClampNeg) x2) ((g_pS σ 18 ((M 12 10).toNatClampNeg) (σ.2 (σ.2 r1 3) x2.toNatClampNeg)).2 18 ((g_up M 19 ((M 12 10).toNatClampNeg) x2) 12 10).toNatClampNeg) 0))), N) _ _
        exact p_X9_gatherRooms_78 J ih r1 x2 (g_pS σ 18 ((M 12 10).toNatClampNeg) (σ.2 (σ.2 r1 3) x2.toNatClampNeg)) (g_up (g_up M 19 ((M 12 10).toNatClampNeg) x2) 12 11 (((g_up M 19 ((M 12 10).toNatClampNeg) x2) 12 11) + ((g_up M 19 ((M 12 10).toNatClampNeg) x2) ((g_pS σ 18 ((M 12 10).toNatClampNeg) (σ.2 (σ.2 r1 3) x2.toNatClampNeg)).2 18 ((g_up M 19 ((M 12 10).toNatClampNeg) x2) 12 10).toNatClampNeg) 0))) N (g_layC.of hl47)
    · exact r_vret J rfl rfl rfl (by decide) (by decide)
set_option maxHeartbeats 4000000 in
set_option maxRecDepth 100000 in
theorem p_X9_gatherRooms_0 {l : Launch} {E : gE} (J : J_X9_gatherRooms E l) (r1 : Nat) (σ : gS) (M : gM) (N : gN) (hL : g_layC σ) : g_H E 0 0 0 [(0, vR 12), (1, vR r1)] [] (σ, M, N) (b_X9_gatherRooms_0 r1 σ M) (eVSM N) := by
  unfold b_X9_gatherRooms_0
  refine r_run J 2 (pc' := 2) (lv' := [(0, vR 12), (1, vR r1)]) (st' := [vI 0, vR 12]) rfl ?_
  refine r_putI J cls9 rfl (k := 10) (by decide) wf_9_47 rfl (Or.inl rfl) ⟨rfl, rfl⟩ (ly_12 hL) ?_
  show g_H E 0 0 5 [(0, vR 12), (1, vR r1)] [] (σ, (g_up M 12 10 0), N) _ _
  refine r_run J 2 (pc' := 7) (lv' := [(0, vR 12), (1, vR r1)]) (st' := [vI 0, vR 12]) rfl ?_
  refine r_putI J cls9 rfl (k := 11) (by decide) wf_9_50 rfl (Or.inl rfl) ⟨rfl, rfl⟩ (ly_12 hL) ?_
  show g_H E 0 0 10 [(0, vR 12), (1, vR r1)] [] (σ, (g_up (g_up M 12 10 0) 12 11 0), N) _ _
  refine r_run J 2 (pc' := 12) (lv' := [(2, vI 0), (0, vR 12), (1, vR r1)]) (st' := []) rfl ?_
  refine r_sub [1, 2, 0] (lv' := [(0, vR 12), (1, vR r1), (2, vI 0)]) rfl ?_
  exact p_X9_gatherRooms_12 J g_FU r1 0 σ (g_up (g_up M 12 10 0) 12 11 0) N hL
theorem c_X9_gatherRooms {l : Launch} (r1 : Nat) (σ : gS) (M : gM) (N : gN) (hL : g_layC σ) (r : gS × gM) (h : f_X9_gatherRooms r1 σ M = some r) : g_Ct l yX9_gatherRooms cX9_gatherRooms 3 none 1 0 0 [vR 12, vR r1] (σ, M, N) (eVSM N r) :=
  g_Ct.of tb_X9_gatherRooms (by decide +kernel) tk_X9_gatherRooms (Nat.le_of_ble_eq_true rfl) (fun E J => p_X9_gatherRooms_0 J r1 σ M N hL r h)
def tb_X9_movesOf : gT := [(0, .aload_n 0, 1, 0), (1, .getfield 25, 3, 0), (4, .iload_n 2, 1, 0), (5, .iaload, 1, 0), (6, .iconst (-1), 1, (-1)), (7, .if_icmp .eq 22, 3, 0), (10, .aload_n 0, 1, 0), (11, .getfield 25, 3, 0), (14, .iload_n 2, 1, 0), (15, .iaload, 1, 0), (16, .aload_n 0, 1, 0), (17, .getfield 41, 3, 0), (20, .iload_n 1, 1, 0), (21, .iaload, 1, 0), (22, .if_icmp .eq 7, 3, 0), (25, .iconst 1, 1, 1), (26, .goto 4, 3, 0), (29, .iconst 0, 1, 0), (30, .ireturn, 1, 0)]
set_option maxRecDepth 100000 in
theorem tk_X9_movesOf : g_okT cX9_movesOf tb_X9_movesOf = true := by decide +kernel
abbrev J_X9_movesOf (E : gE) (l : Launch) : Prop := g_J E cX9_movesOf RX9 "movesOf" (some .int) 3 tb_X9_movesOf 1 0 0 l
set_option maxHeartbeats 4000000 in
set_option maxRecDepth 100000 in
theorem p_X9_movesOf_0 {l : Launch} {E : gE} (J : J_X9_movesOf E l) (x1 : Int32) (x2 : Int32) (σ : gS) (M : gM) (N : gN) (hL : g_layC σ) : g_H E 0 0 0 [(0, vR 12), (1, vI x1), (2, vI x2)] [] (σ, M, N) (b_X9_movesOf_0 x1 x2 σ M) (eI σ M N) := by
  unfold b_X9_movesOf_0
  refine r_run J 1 (pc' := 1) (lv' := [(0, vR 12), (1, vI x1), (2, vI x2)]) (st' := [vR 12]) rfl ?_
  refine r_getR J cls9 rfl (k := 4) (t := 14) (by decide) wf_9_25 rfl rfl (ly_12 hL) (lr_12_4 hL) (fun _ => ?_)
  show g_H E 0 0 4 [(0, vR 12), (1, vI x1), (2, vI x2)] [vR 15] (σ, M, N) _ _
  refine r_run J 1 (pc' := 5) (lv' := [(0, vR 12), (1, vI x1), (2, vI x2)]) (st' := [vI x2, vR 15]) rfl ?_
  refine r_iald J rfl (ly_15 hL) (fun i5 => ?_)
  show g_H E 0 0 6 [(0, vR 12), (1, vI x1), (2, vI x2)] [vI (M 15 x2.toNatClampNeg)] (σ, M, N) _ _
  refine r_run J 1 (pc' := 7) (lv' := [(0, vR 12), (1, vI x1), (2, vI x2)]) (st' := [vI (-1), vI (M 15 x2.toNatClampNeg)]) rfl ?_
  refine r_icmp_eq J (tgt := 29) rfl (by decide) (fun c7 => ?_) (fun c7 => ?_)
  · refine r_run J 1 (pc' := 30) (lv' := [(0, vR 12), (1, vI x1), (2, vI x2)]) (st' := [vI 0]) rfl ?_
    exact r_iret J rfl rfl rfl rfl (by decide) (by decide)
  · refine r_run J 1 (pc' := 11) (lv' := [(0, vR 12), (1, vI x1), (2, vI x2)]) (st' := [vR 12]) rfl ?_
    refine r_getR J cls9 rfl (k := 4) (t := 14) (by decide) wf_9_25 rfl rfl (ly_12 hL) (lr_12_4 hL) (fun _ => ?_)
    show g_H E 0 0 14 [(0, vR 12), (1, vI x1), (2, vI x2)] [vR 15] (σ, M, N) _ _
    refine r_run J 1 (pc' := 15) (lv' := [(0, vR 12), (1, vI x1), (2, vI x2)]) (st' := [vI x2, vR 15]) rfl ?_
    refine r_iald J rfl (ly_15 hL) (fun i15 => ?_)
    show g_H E 0 0 16 [(0, vR 12), (1, vI x1), (2, vI x2)] [vI (M 15 x2.toNatClampNeg)] (σ, M, N) _ _
    refine r_run J 1 (pc' := 17) (lv' := [(0, vR 12), (1, vI x1), (2, vI x2)]) (st' := [vR 12, vI (M 15 x2.toNatClampNeg)]) rfl ?_
    refine r_getR J cls9 rfl (k := 8) (t := 14) (by decide) wf_9_41 rfl rfl (ly_12 hL) (lr_12_8 hL) (fun _ => ?_)
    show g_H E 0 0 20 [(0, vR 12), (1, vI x1), (2, vI x2)] [vR 19, vI (M 15 x2.toNatClampNeg)] (σ, M, N) _ _
    refine r_run J 1 (pc' := 21) (lv' := [(0, vR 12), (1, vI x1), (2, vI x2)]) (st' := [vI x1, vR 19, vI (M 15 x2.toNatClampNeg)]) rfl ?_
    refine r_iald J rfl (ly_19 hL) (fun i21 => ?_)
    show g_H E 0 0 22 [(0, vR 12), (1, vI x1), (2, vI x2)] [vI (M 19 x1.toNatClampNeg), vI (M 15 x2.toNatClampNeg)] (σ, M, N) _ _
    refine r_icmp_eq J (tgt := 29) rfl (by decide) (fun c22 => ?_) (fun c22 => ?_)
    · refine r_run J 1 (pc' := 30) (lv' := [(0, vR 12), (1, vI x1), (2, vI x2)]) (st' := [vI 0]) rfl ?_
      exact r_iret J rfl rfl rfl rfl (by decide) (by decide)
    · refine r_run J 2 (pc' := 30) (lv' := [(0, vR 12), (1, vI x1), (2, vI x2)]) (st' := [vI 1]) rfl ?_
      exact r_iret J rfl rfl rfl rfl (by decide) (by decide)
theorem c_X9_movesOf {l : Launch} (x1 : Int32) (x2 : Int32) (σ : gS) (M : gM) (N : gN) (hL : g_layC σ) (r : Int32) (h : f_X9_movesOf x1 x2 σ M = some r) : g_Ct l yX9_movesOf cX9_movesOf 3 (some .int) 1 0 0 [vR 12, vI x1, vI x2] (σ, M, N) (eI σ M N r) :=
  g_Ct.of tb_X9_movesOf (by decide +kernel) tk_X9_movesOf (Nat.le_of_ble_eq_true rfl) (fun E J => p_X9_movesOf_0 J x1 x2 σ M N hL r h)
def tb_X9_weightOf : gT := [(0, .aload_n 0, 1, 0), (1, .getfield 37, 3, 0), (4, .iload_n 1, 1, 0), (5, .aaload, 1, 0), (6, .astore 4, 2, 0), (8, .aload 4, 2, 0), (10, .getfield 141, 3, 0), (13, .ifCond .ne 24, 3, 0), (16, .aload_n 0, 1, 0), (17, .getfield 31, 3, 0), (20, .iload_n 2, 1, 0), (21, .baload, 1, 0), (22, .ifCond .ne 12, 3, 0), (25, .aload_n 0, 1, 0), (26, .getfield 31, 3, 0), (29, .iload_n 3, 1, 0), (30, .baload, 1, 0), (31, .ifCond .eq 6, 3, 0), (34, .ldc 70, 2, 0), (36, .ireturn, 1, 0), (37, .iload_n 2, 1, 0), (38, .iload_n 3, 1, 0), (39, .if_icmp .eq 28, 3, 0), (42, .aload 4, 2, 0), (44, .getfield 122, 3, 0), (47, .iconst 2, 1, 2), (48, .if_icmp .lt 16, 3, 0), (51, .aload_n 0, 1, 0), (52, .getfield 28, 3, 0), (55, .iload_n 2, 1, 0), (56, .iaload, 1, 0), (57, .iload_n 3, 1, 0), (58, .ishr, 1, 0), (59, .iconst 1, 1, 1), (60, .iand, 1, 0), (61, .ifCond .ne 6, 3, 0), (64, .ldc 70, 2, 0), (66, .ireturn, 1, 0), (67, .aload_n 0, 1, 0), (68, .iload_n 1, 1, 0), (69, .iload_n 2, 1, 0), (70, .invokevirtual 142, 3, 0), (73, .istore 5, 2, 0), (75, .iload_n 2, 1, 0), (76, .iload_n 3, 1, 0), (77, .if_icmp .eq 14, 3, 0), (80, .iload 5, 2, 0), (82, .aload_n 0, 1, 0), (83, .iload_n 1, 1, 0), (84, .iload_n 3, 1, 0), (85, .invokevirtual 142, 3, 0), (88, .iadd, 1, 0), (89, .istore 5, 2, 0), (91, .aload_n 0, 1, 0), (92, .getfield 53, 3, 0), (95, .lookupswitch 48 #[(0, 25), (1, 36)], 25, 0), (120, .aload 4, 2, 0), (122, .getfield 145, 3, 0), (125, .iconst 4, 1, 4), (126, .ishl, 1, 0), (127, .iload 5, 2, 0), (129, .ior, 1, 0), (130, .ireturn, 1, 0), (131, .iload 5, 2, 0), (133, .bipush 14, 2, 14), (135, .ishl, 1, 0), (136, .aload 4, 2, 0), (138, .getfield 145, 3, 0), (141, .ior, 1, 0), (142, .ireturn, 1, 0), (143, .iconst 0, 1, 0), (144, .ireturn, 1, 0)]
set_option maxRecDepth 100000 in
theorem tk_X9_weightOf : g_okT cX9_weightOf tb_X9_weightOf = true := by decide +kernel
abbrev J_X9_weightOf (E : gE) (l : Launch) : Prop := g_J E cX9_weightOf RX9 "weightOf" (some .int) 6 tb_X9_weightOf 2 0 0 l
set_option maxHeartbeats 4000000 in
set_option maxRecDepth 100000 in
theorem p_X9_weightOf_91 {l : Launch} {E : gE} (J : J_X9_weightOf E l) (r4 : Nat) (x5 : Int32) (σ : gS) (M : gM) (N : gN) (hL : g_layC σ) : g_H E 0 0 91 [(0, vR 12), (4, vR r4), (5, vI x5)] [] (σ, M, N) (b_X9_weightOf_91 r4 x5 σ M) (eI σ M N) := by
  unfold b_X9_weightOf_91
  refine r_run J 1 (pc' := 92) (lv' := [(0, vR 12), (4, vR r4), (5, vI x5)]) (st' := [vR 12]) rfl ?_
  refine r_getI J cls9 rfl (k := 12) (by decide) wf_9_53 rfl (ly_12 hL) ?_
  show g_H E 0 0 95 [(0, vR 12), (4, vR r4), (5, vI x5)] [vI (M 12 12)] (σ, M, N) _ _
  refine r_lookup J [(0, 120), (1, 131)] (d := 143) rfl (by decide +kernel) (List.forall_mem_cons.mpr ⟨fun hc => ?_, List.forall_mem_cons.mpr ⟨fun hc => ?_, fun _ h => absurd h List.not_mem_nil⟩⟩) (fun hd => ?_)
  · rw [if_pos hc]
    refine r_run J 1 (pc' := 122) (lv' := [(0, vR 12), (4, vR r4), (5, vI x5)]) (st' := [vR r4]) rfl ?_
    refine r_chk (fun hs122 => ?_)
    refine r_getI J cls8 rfl (k := 2) (by decide) wf_9_145 rfl (g_is_at hs122) ?_
    show g_H E 0 0 125 [(0, vR 12), (4, vR r4), (5, vI x5)] [vI (M r4 2)] (σ, M, N) _ _
    refine r_run J 4 (pc' := 130) (lv' := [(0, vR 12), (4, vR r4), (5, vI x5)]) (st' := [vI (((M r4 2) <<< ((4 : Int32) &&& 31)) ||| x5)]) rfl ?_
    exact r_iret J rfl rfl rfl rfl (by decide) (by decide)
  · rw [if_neg (by rw [hc]; decide), if_pos hc]
    refine r_run J 4 (pc' := 138) (lv' := [(0, vR 12), (4, vR r4), (5, vI x5)]) (st' := [vR r4, vI (x5 <<< ((14 : Int32) &&& 31))]) rfl ?_
    refine r_chk (fun hs138 => ?_)
    refine r_getI J cls8 rfl (k := 2) (by decide) wf_9_145 rfl (g_is_at hs138) ?_
    show g_H E 0 0 141 [(0, vR 12), (4, vR r4), (5, vI x5)] [vI (M r4 2), vI (x5 <<< ((14 : Int32) &&& 31))] (σ, M, N) _ _
    refine r_run J 1 (pc' := 142) (lv' := [(0, vR 12), (4, vR r4), (5, vI x5)]) (st' := [vI ((x5 <<< ((14 : Int32) &&& 31)) ||| (M r4 2))]) rfl ?_
    exact r_iret J rfl rfl rfl rfl (by decide) (by decide)
  · rw [if_neg (hd _ (List.mem_of_getElem? (i := 0) rfl)), if_neg (hd _ (List.mem_of_getElem? (i := 1) rfl))]
    refine r_run J 1 (pc' := 144) (lv' := [(0, vR 12), (4, vR r4), (5, vI x5)]) (st' := [vI 0]) rfl ?_
    exact r_iret J rfl rfl rfl rfl (by decide) (by decide)
set_option maxHeartbeats 4000000 in
set_option maxRecDepth 100000 in
theorem p_X9_weightOf_67 {l : Launch} {E : gE} (J : J_X9_weightOf E l) (x1 : Int32) (x2 : Int32) (x3 : Int32) (r4 : Nat) (σ : gS) (M : gM) (N : gN) (hL : g_layC σ) : g_H E 0 0 67 [(0, vR 12), (1, vI x1), (2, vI x2), (3, vI x3), (4, vR r4)] [] (σ, M, N) (b_X9_weightOf_67 x1 x2 x3 r4 σ M) (eI σ M N) := by
  unfold b_X9_weightOf_67
  refine r_run J 3 (pc' := 70) (lv' := [(0, vR 12), (1, vI x1), (2, vI x2), (3, vI x3), (4, vR r4)]) (st' := [vI x2, vI x1, vR 12]) rfl ?_
  refine r_callV J (As := [vI x1, vI x2]) (st := []) (fun r hr => c_X9_movesOf x1 x2 σ M N hL r hr) cls9 (ly_12 hL) wm_9_142 wy_X9_movesOf wd_X9_movesOf ⟨by decide, by decide, by decide, by decide, Nat.le_of_ble_eq_true rfl⟩ rfl rfl (fun q70 hq70 => ?_)
  show g_H E 0 0 73 [(0, vR 12), (1, vI x1), (2, vI x2), (3, vI x3), (4, vR r4)] [vI q70] (σ, M, N) _ _
  refine r_run J 3 (pc' := 77) (lv' := [(5, vI q70), (0, vR 12), (1, vI x1), (2, vI x2), (3, vI x3), (4, vR r4)]) (st' := [vI x3, vI x2]) rfl ?_
  refine r_icmp_eq J (tgt := 91) rfl (by decide) (fun c77 => ?_) (fun c77 => ?_)
  · refine r_sub [1, 5, 0] (lv' := [(0, vR 12), (4, vR r4), (5, vI q70)]) rfl ?_
    exact p_X9_weightOf_91 J r4 q70 σ M N hL
  · refine r_run J 4 (pc' := 85) (lv' := [(5, vI q70), (0, vR 12), (1, vI x1), (2, vI x2), (3, vI x3), (4, vR r4)]) (st' := [vI x3, vI x1, vR 12, vI q70]) rfl ?_
    refine r_callV J (As := [vI x1, vI x3]) (st := [vI q70]) (fun r hr => c_X9_movesOf x1 x3 σ M N hL r hr) cls9 (ly_12 hL) wm_9_142 wy_X9_movesOf wd_X9_movesOf ⟨by decide, by decide, by decide, by decide, Nat.le_of_ble_eq_true rfl⟩ rfl rfl (fun q85 hq85 => ?_)
    show g_H E 0 0 88 [(5, vI q70), (0, vR 12), (1, vI x1), (2, vI x2), (3, vI x3), (4, vR r4)] [vI q85, vI q70] (σ, M, N) _ _
    refine r_run J 2 (pc' := 91) (lv' := [(5, vI (q70 + q85)), (0, vR 12), (1, vI x1), (2, vI x2), (3, vI x3), (4, vR r4)]) (st' := []) rfl ?_
    refine r_sub [1, 5, 0] (lv' := [(0, vR 12), (4, vR r4), (5, vI (q70 + q85))]) rfl ?_
    exact p_X9_weightOf_91 J r4 (q70 + q85) σ M N hL
set_option maxHeartbeats 4000000 in
set_option maxRecDepth 100000 in
theorem p_X9_weightOf_64 {l : Launch} {E : gE} (J : J_X9_weightOf E l) (σ : gS) (M : gM) (N : gN) (hL : g_layC σ) : g_H E 0 0 64 [] [] (σ, M, N) (b_X9_weightOf_64 σ M) (eI σ M N) := by
  unfold b_X9_weightOf_64
  refine r_ldc J rfl wc_9_70 ?_
  exact r_iret J rfl rfl rfl rfl (by decide) (by decide)
set_option maxHeartbeats 4000000 in
set_option maxRecDepth 100000 in
theorem p_X9_weightOf_37 {l : Launch} {E : gE} (J : J_X9_weightOf E l) (x1 : Int32) (x2 : Int32) (x3 : Int32) (r4 : Nat) (σ : gS) (M : gM) (N : gN) (hL : g_layC σ) : g_H E 0 0 37 [(0, vR 12), (1, vI x1), (2, vI x2), (3, vI x3), (4, vR r4)] [] (σ, M, N) (b_X9_weightOf_37 x1 x2 x3 r4 σ M) (eI σ M N) := by
  unfold b_X9_weightOf_37
  refine r_run J 2 (pc' := 39) (lv' := [(0, vR 12), (1, vI x1), (2, vI x2), (3, vI x3), (4, vR r4)]) (st' := [vI x3, vI x2]) rfl ?_
  refine r_icmp_eq J (tgt := 67) rfl (by decide) (fun c39 => ?_) (fun c39 => ?_)
  · exact p_X9_weightOf_67 J x1 x2 x3 r4 σ M N hL
  · refine r_run J 1 (pc' := 44) (lv' := [(0, vR 12), (1, vI x1), (2, vI x2), (3, vI x3), (4, vR r4)]) (st' := [vR r4]) rfl ?_
    refine r_chk (fun hs44 => ?_)
    refine r_getI J cls8 rfl (k := 0) (by decide) wf_9_122 rfl (g_is_at hs44) ?_
    show g_H E 0 0 47 [(0, vR 12), (1, vI x1), (2, vI x2), (3, vI x3), (4, vR r4)] [vI (M r4 0)] (σ, M, N) _ _
    refine r_run J 1 (pc' := 48) (lv' := [(0, vR 12), (1, vI x1), (2, vI x2), (3, vI x3), (4, vR r4)]) (st' := [vI 2, vI (M r4 0)]) rfl ?_
    refine r_icmp_lt J (tgt := 64) rfl (by decide) (fun c48 => ?_) (fun c48 => ?_)
    · refine r_sub [] (lv' := []) rfl ?_
      exact p_X9_weightOf_64 J σ M N hL
    · refine r_run J 1 (pc' := 52) (lv' := [(0, vR 12), (1, vI x1), (2, vI x2), (3, vI x3), (4, vR r4)]) (st' := [vR 12]) rfl ?_
      refine r_getR J cls9 rfl (k := 5) (t := 14) (by decide) wf_9_28 rfl rfl (ly_12 hL) (lr_12_5 hL) (fun _ => ?_)
      show g_H E 0 0 55 [(0, vR 12), (1, vI x1), (2, vI x2), (3, vI x3), (4, vR r4)] [vR 16] (σ, M, N) _ _
      refine r_run J 1 (pc' := 56) (lv' := [(0, vR 12), (1, vI x1), (2, vI x2), (3, vI x3), (4, vR r4)]) (st' := [vI x2, vR 16]) rfl ?_
      refine r_iald J rfl (ly_16 hL) (fun i56 => ?_)
      show g_H E 0 0 57 [(0, vR 12), (1, vI x1), (2, vI x2), (3, vI x3), (4, vR r4)] [vI (M 16 x2.toNatClampNeg)] (σ, M, N) _ _
      refine r_run J 4 (pc' := 61) (lv' := [(0, vR 12), (1, vI x1), (2, vI x2), (3, vI x3), (4, vR r4)]) (st' := [vI (((M 16 x2.toNatClampNeg) >>> (x3 &&& 31)) &&& (1 : Int32))]) rfl ?_
      refine r_if_ne J (tgt := 67) rfl (by decide) (fun c61 => ?_) (fun c61 => ?_)
      · refine r_sub [] (lv' := []) rfl ?_
        exact p_X9_weightOf_64 J σ M N hL
      · exact p_X9_weightOf_67 J x1 x2 x3 r4 σ M N hL
set_option maxHeartbeats 4000000 in
set_option maxRecDepth 100000 in
theorem p_X9_weightOf_34 {l : Launch} {E : gE} (J : J_X9_weightOf E l) (σ : gS) (M : gM) (N : gN) (hL : g_layC σ) : g_H E 0 0 34 [] [] (σ, M, N) (b_X9_weightOf_34 σ M) (eI σ M N) := by
  unfold b_X9_weightOf_34
  refine r_ldc J rfl wc_9_70 ?_
  exact r_iret J rfl rfl rfl rfl (by decide) (by decide)
set_option maxHeartbeats 4000000 in
set_option maxRecDepth 100000 in
theorem p_X9_weightOf_0 {l : Launch} {E : gE} (J : J_X9_weightOf E l) (x1 : Int32) (x2 : Int32) (x3 : Int32) (σ : gS) (M : gM) (N : gN) (hL : g_layC σ) : g_H E 0 0 0 [(0, vR 12), (1, vI x1), (2, vI x2), (3, vI x3)] [] (σ, M, N) (b_X9_weightOf_0 x1 x2 x3 σ M) (eI σ M N) := by
  unfold b_X9_weightOf_0
  refine r_run J 1 (pc' := 1) (lv' := [(0, vR 12), (1, vI x1), (2, vI x2), (3, vI x3)]) (st' := [vR 12]) rfl ?_
  refine r_getR J cls9 rfl (k := 7) (t := 18) (by decide) wf_9_37 rfl rfl (ly_12 hL) (lr_12_7 hL) (fun _ => ?_)
  show g_H E 0 0 4 [(0, vR 12), (1, vI x1), (2, vI x2), (3, vI x3)] [vR 18] (σ, M, N) _ _
  refine r_run J 1 (pc' := 5) (lv' := [(0, vR 12), (1, vI x1), (2, vI x2), (3, vI x3)]) (st' := [vI x1, vR 18]) rfl ?_
  refine r_aald J rfl (Or.inr (Or.inl ⟨rfl, rfl⟩)) (ly_18 hL) (fun i5 _ => ?_)
  show g_H E 0 0 6 [(0, vR 12), (1, vI x1), (2, vI x2), (3, vI x3)] [vR (σ.2 18 x1.toNatClampNeg)] (σ, M, N) _ _
  refine r_run J 2 (pc' := 10) (lv' := [(4, vR (σ.2 18 x1.toNatClampNeg)), (0, vR 12), (1, vI x1), (2, vI x2), (3, vI x3)]) (st' := [vR (σ.2 18 x1.toNatClampNeg)]) rfl ?_
  refine r_chk (fun hs10 => ?_)
  refine r_getI J cls8 rfl (k := 1) (by decide) wf_9_141 rfl (g_is_at hs10) ?_
  show g_H E 0 0 13 [(4, vR (σ.2 18 x1.toNatClampNeg)), (0, vR 12), (1, vI x1), (2, vI x2), (3, vI x3)] [vI (M (σ.2 18 x1.toNatClampNeg) 1)] (σ, M, N) _ _
  refine r_if_ne J (tgt := 37) rfl (by decide) (fun c13 => ?_) (fun c13 => ?_)
  · refine r_run J 1 (pc' := 17) (lv' := [(4, vR (σ.2 18 x1.toNatClampNeg)), (0, vR 12), (1, vI x1), (2, vI x2), (3, vI x3)]) (st' := [vR 12]) rfl ?_
    refine r_getR J cls9 rfl (k := 6) (t := 15) (by decide) wf_9_31 rfl rfl (ly_12 hL) (lr_12_6 hL) (fun _ => ?_)
    show g_H E 0 0 20 [(4, vR (σ.2 18 x1.toNatClampNeg)), (0, vR 12), (1, vI x1), (2, vI x2), (3, vI x3)] [vR 17] (σ, M, N) _ _
    refine r_run J 1 (pc' := 21) (lv' := [(4, vR (σ.2 18 x1.toNatClampNeg)), (0, vR 12), (1, vI x1), (2, vI x2), (3, vI x3)]) (st' := [vI x2, vR 17]) rfl ?_
    refine r_zald J rfl (ly_17 hL) (fun i21 => ?_)
    show g_H E 0 0 22 [(4, vR (σ.2 18 x1.toNatClampNeg)), (0, vR 12), (1, vI x1), (2, vI x2), (3, vI x3)] [vI (M 17 x2.toNatClampNeg)] (σ, M, N) _ _
    refine r_if_ne J (tgt := 34) rfl (by decide) (fun c22 => ?_) (fun c22 => ?_)
    · refine r_run J 1 (pc' := 26) (lv' := [(4, vR (σ.2 18 x1.toNatClampNeg)), (0, vR 12), (1, vI x1), (2, vI x2), (3, vI x3)]) (st' := [vR 12]) rfl ?_
      refine r_getR J cls9 rfl (k := 6) (t := 15) (by decide) wf_9_31 rfl rfl (ly_12 hL) (lr_12_6 hL) (fun _ => ?_)
      show g_H E 0 0 29 [(4, vR (σ.2 18 x1.toNatClampNeg)), (0, vR 12), (1, vI x1), (2, vI x2), (3, vI x3)] [vR 17] (σ, M, N) _ _
      refine r_run J 1 (pc' := 30) (lv' := [(4, vR (σ.2 18 x1.toNatClampNeg)), (0, vR 12), (1, vI x1), (2, vI x2), (3, vI x3)]) (st' := [vI x3, vR 17]) rfl ?_
      refine r_zald J rfl (ly_17 hL) (fun i30 => ?_)
      show g_H E 0 0 31 [(4, vR (σ.2 18 x1.toNatClampNeg)), (0, vR 12), (1, vI x1), (2, vI x2), (3, vI x3)] [vI (M 17 x3.toNatClampNeg)] (σ, M, N) _ _
      refine r_if_eq J (tgt := 37) rfl (by decide) (fun c31 => ?_) (fun c31 => ?_)
      · refine r_sub [1, 2, 3, 4, 0] (lv' := [(0, vR 12), (1, vI x1), (2, vI x2), (3, vI x3), (4, vR (σ.2 18 x1.toNatClampNeg))]) rfl ?_
        exact p_X9_weightOf_37 J x1 x2 x3 (σ.2 18 x1.toNatClampNeg) σ M N hL
      · refine r_sub [] (lv' := []) rfl ?_
        exact p_X9_weightOf_34 J σ M N hL
    · refine r_sub [] (lv' := []) rfl ?_
      exact p_X9_weightOf_34 J σ M N hL
  · refine r_sub [1, 2, 3, 4, 0] (lv' := [(0, vR 12), (1, vI x1), (2, vI x2), (3, vI x3), (4, vR (σ.2 18 x1.toNatClampNeg))]) rfl ?_
    exact p_X9_weightOf_37 J x1 x2 x3 (σ.2 18 x1.toNatClampNeg) σ M N hL
theorem c_X9_weightOf {l : Launch} (x1 : Int32) (x2 : Int32) (x3 : Int32) (σ : gS) (M : gM) (N : gN) (hL : g_layC σ) (r : Int32) (h : f_X9_weightOf x1 x2 x3 σ M = some r) : g_Ct l yX9_weightOf cX9_weightOf 6 (some .int) 2 0 0 [vR 12, vI x1, vI x2, vI x3] (σ, M, N) (eI σ M N r) :=
  g_Ct.of tb_X9_weightOf (by decide +kernel) tk_X9_weightOf (Nat.le_of_ble_eq_true rfl) (fun E J => p_X9_weightOf_0 J x1 x2 x3 σ M N hL r h)
def tb_X9_useRoom : gT := [(0, .iload_n 1, 1, 0), (1, .aload_n 0, 1, 0), (2, .getfield 44, 3, 0), (5, .ishl, 1, 0), (6, .iload_n 2, 1, 0), (7, .iadd, 1, 0), (8, .istore 4, 2, 0), (10, .iload_n 1, 1, 0), (11, .iconst 1, 1, 1), (12, .iadd, 1, 0), (13, .aload_n 0, 1, 0), (14, .getfield 44, 3, 0), (17, .ishl, 1, 0), (18, .istore 5, 2, 0), (20, .iconst 1, 1, 1), (21, .aload_n 0, 1, 0), (22, .getfield 44, 3, 0), (25, .ishl, 1, 0), (26, .iconst 1, 1, 1), (27, .isub, 1, 0), (28, .iload_n 2, 1, 0), (29, .iconst (-1), 1, (-1)), (30, .ixor, 1, 0), (31, .iand, 1, 0), (32, .istore 6, 2, 0), (34, .iconst 1, 1, 1), (35, .iload 6, 2, 0), (37, .invokestatic 80, 3, 0), (40, .ishl, 1, 0), (41, .istore 7, 2, 0), (43, .iload 6, 2, 0), (45, .istore 8, 2, 0), (47, .iconst 0, 1, 0), (48, .istore 9, 2, 0), (50, .iload 9, 2, 0), (52, .iload 7, 2, 0), (54, .if_icmp .ge 59, 3, 0), (57, .iload_n 3, 1, 0), (58, .aload_n 0, 1, 0), (59, .getfield 56, 3, 0), (62, .iload 5, 2, 0), (64, .iload 8, 2, 0), (66, .iadd, 1, 0), (67, .iaload, 1, 0), (68, .iadd, 1, 0), (69, .istore 10, 2, 0), (71, .iload 10, 2, 0), (73, .aload_n 0, 1, 0), (74, .getfield 56, 3, 0), (77, .iload 4, 2, 0), (79, .iload 8, 2, 0), (81, .iadd, 1, 0), (82, .iaload, 1, 0), (83, .if_icmp .ge 15, 3, 0), (86, .aload_n 0, 1, 0), (87, .getfield 56, 3, 0), (90, .iload 4, 2, 0), (92, .iload 8, 2, 0), (94, .iadd, 1, 0), (95, .iload 10, 2, 0), (97, .iastore, 1, 0), (98, .iload 8, 2, 0), (100, .iconst 1, 1, 1), (101, .isub, 1, 0), (102, .iload 6, 2, 0), (104, .iand, 1, 0), (105, .istore 8, 2, 0), (107, .iinc 9 1, 3, 1), (110, .goto (-60), 3, 0), (113, .return_, 1, 0)]
set_option maxRecDepth 100000 in
theorem tk_X9_useRoom : g_okT cX9_useRoom tb_X9_useRoom = true := by decide +kernel
abbrev J_X9_useRoom (E : gE) (l : Launch) : Prop := g_J E cX9_useRoom RX9 "useRoom" none 11 tb_X9_useRoom 2 0 0 l
set_option maxHeartbeats 4000000 in
set_option maxRecDepth 100000 in
theorem p_X9_useRoom_98 {l : Launch} {E : gE} (J : J_X9_useRoom E l) {k50 : Int32 → Int32 → Int32 → Int32 → Int32 → Int32 → Int32 → gS → gM → Option (gM)} (H50 : ∀ (x3 : Int32) (x4 : Int32) (x5 : Int32) (x6 : Int32) (x7 : Int32) (x8 : Int32) (x9 : Int32) (σ : gS) (M : gM) (N : gN) (_ : g_layC σ), g_H E 0 0 50 [(0, vR 12), (3, vI x3), (4, vI x4), (5, vI x5), (6, vI x6), (7, vI x7), (8, vI x8), (9, vI x9)] [] (σ, M, N) (k50 x3 x4 x5 x6 x7 x8 x9 σ M) (eVM σ N)) (x3 : Int32) (x4 : Int32) (x5 : Int32) (x6 : Int32) (x7 : Int32) (x8 : Int32) (x9 : Int32) (σ : gS) (M : gM) (N : gN) (hL : g_layC σ) : g_H E 0 0 98 [(0, vR 12), (3, vI x3), (4, vI x4), (5, vI x5), (6, vI x6), (7, vI x7), (8, vI x8), (9, vI x9)] [] (σ, M, N) (b_X9_useRoom_98 k50 x3 x4 x5 x6 x7 x8 x9 σ M) (eVM σ N) := by
  unfold b_X9_useRoom_98
  refine r_run J 8 (pc' := 50) (lv' := [(9, vI (x9 + 1)), (8, vI ((x8 - (1 : Int32)) &&& x6)), (0, vR 12), (3, vI x3), (4, vI x4), (5, vI x5), (6, vI x6), (7, vI x7)]) (st' := []) rfl ?_
  refine r_sub [2, 3, 4, 5, 6, 7, 1, 0] (lv' := [(0, vR 12), (3, vI x3), (4, vI x4), (5, vI x5), (6, vI x6), (7, vI x7), (8, vI ((x8 - (1 : Int32)) &&& x6)), (9, vI (x9 + 1))]) rfl ?_
  exact H50 x3 x4 x5 x6 x7 ((x8 - (1 : Int32)) &&& x6) (x9 + 1) σ M N hL
set_option maxHeartbeats 4000000 in
set_option maxRecDepth 100000 in
theorem p_X9_useRoom_50 {l : Launch} {E : gE} (J : J_X9_useRoom E l) : ∀ (n : Nat) (x3 : Int32) (x4 : Int32) (x5 : Int32) (x6 : Int32) (x7 : Int32) (x8 : Int32) (x9 : Int32) (σ : gS) (M : gM) (N : gN) (hL : g_layC σ), g_H E 0 0 50 [(0, vR 12), (3, vI x3), (4, vI x4), (5, vI x5), (6, vI x6), (7, vI x7), (8, vI x8), (9, vI x9)] [] (σ, M, N) (l_X9_useRoom_50 n x3 x4 x5 x6 x7 x8 x9 σ M) (eVM σ N) := by
  intro n
  induction n with
  | zero => intros; exact h_none
  | succ n ih =>
    intro x3 x4 x5 x6 x7 x8 x9 σ M N hL
    rw [l_X9_useRoom_50]
    refine r_run J 2 (pc' := 54) (lv' := [(0, vR 12), (3, vI x3), (4, vI x4), (5, vI x5), (6, vI x6), (7, vI x7), (8, vI x8), (9, vI x9)]) (st' := [vI x7, vI x9]) rfl ?_
    refine r_icmp_ge J (tgt := 113) rfl (by decide) (fun c54 => ?_) (fun c54 => ?_)
    · refine r_run J 2 (pc' := 59) (lv' := [(0, vR 12), (3, vI x3), (4, vI x4), (5, vI x5), (6, vI x6), (7, vI x7), (8, vI x8), (9, vI x9)]) (st' := [vR 12, vI x3]) rfl ?_
      refine r_getR J cls9 rfl (k := 13) (t := 14) (by decide) wf_9_56 rfl rfl (ly_12 hL) rfl (fun _ => ?_)
      show g_H E 0 0 62 [(0, vR 12), (3, vI x3), (4, vI x4), (5, vI x5), (6, vI x6), (7, vI x7), (8, vI x8), (9, vI x9)] [vR (σ.2 12 13), vI x3] (σ, M, N) _ _
      refine r_run J 3 (pc' := 67) (lv' := [(0, vR 12), (3, vI x3), (4, vI x4), (5, vI x5), (6, vI x6), (7, vI x7), (8, vI x8), (9, vI x9)]) (st' := [vI (x5 + x8), vR (σ.2 12 13), vI x3]) rfl ?_
      refine r_chk (fun hs67 => ?_)
      refine r_iald J rfl (g_is_at hs67) (fun i67 => ?_)
      show g_H E 0 0 68 [(0, vR 12), (3, vI x3), (4, vI x4), (5, vI x5), (6, vI x6), (7, vI x7), (8, vI x8), (9, vI x9)] [vI (M (σ.2 12 13) (x5 + x8).toNatClampNeg), vI x3] (σ, M, N) _ _
      refine r_run J 4 (pc' := 74) (lv' := [(10, vI (x3 + (M (σ.2 12 13) (x5 + x8).toNatClampNeg))), (0, vR 12), (3, vI x3), (4, vI x4), (5, vI x5), (6, vI x6), (7, vI x7), (8, vI x8), (9, vI x9)]) (st' := [vR 12, vI (x3 + (M (σ.2 12 13) (x5 + x8).toNatClampNeg))]) rfl ?_
      refine r_getR J cls9 rfl (k := 13) (t := 14) (by decide) wf_9_56 rfl rfl (ly_12 hL) rfl (fun _ => ?_)
      show g_H E 0 0 77 [(10, vI (x3 + (M (σ.2 12 13) (x5 + x8).toNatClampNeg))), (0, vR 12), (3, vI x3), (4, vI x4), (5, vI x5), (6, vI x6), (7, vI x7), (8, vI x8), (9, vI x9)] [vR (σ.2 12 13), vI (x3 + (M (σ.2 12 13) (x5 + x8).toNatClampNeg))] (σ, M, N) _ _
      refine r_run J 3 (pc' := 82) (lv' := [(10, vI (x3 + (M (σ.2 12 13) (x5 + x8).toNatClampNeg))), (0, vR 12), (3, vI x3), (4, vI x4), (5, vI x5), (6, vI x6), (7, vI x7), (8, vI x8), (9, vI x9)]) (st' := [vI (x4 + x8), vR (σ.2 12 13), vI (x3 + (M (σ.2 12 13) (x5 + x8).toNatClampNeg))]) rfl ?_
      refine r_iald J rfl (g_is_at hs67) (fun i82 => ?_)
      show g_H E 0 0 83 [(10, vI (x3 + (M (σ.2 12 13) (x5 + x8).toNatClampNeg))), (0, vR 12), (3, vI x3), (4, vI x4), (5, vI x5), (6, vI x6), (7, vI x7), (8, vI x8), (9, vI x9)] [vI (M (σ.2 12 13) (x4 + x8).toNatClampNeg), vI (x3 + (M (σ.2 12 13) (x5 + x8).toNatClampNeg))] (σ, M, N) _ _
      refine r_icmp_ge J (tgt := 98) rfl (by decide) (fun c83 => ?_) (fun c83 => ?_)
      · refine r_run J 1 (pc' := 87) (lv' := [(10, vI (x3 + (M (σ.2 12 13) (x5 + x8).toNatClampNeg))), (0, vR 12), (3, vI x3), (4, vI x4), (5, vI x5), (6, vI x6), (7, vI x7), (8, vI x8), (9, vI x9)]) (st' := [vR 12]) rfl ?_
        refine r_getR J cls9 rfl (k := 13) (t := 14) (by decide) wf_9_56 rfl rfl (ly_12 hL) rfl (fun _ => ?_)
        show g_H E 0 0 90 [(10, vI (x3 + (M (σ.2 12 13) (x5 + x8).toNatClampNeg))), (0, vR 12), (3, vI x3), (4, vI x4), (5, vI x5), (6, vI x6), (7, vI x7), (8, vI x8), (9, vI x9)] [vR (σ.2 12 13)] (σ, M, N) _ _
        refine r_run J 4 (pc' := 97) (lv' := [(10, vI (x3 + (M (σ.2 12 13) (x5 + x8).toNatClampNeg))), (0, vR 12), (3, vI x3), (4, vI x4), (5, vI x5), (6, vI x6), (7, vI x7), (8, vI x8), (9, vI x9)]) (st' := [vI (x3 + (M (σ.2 12 13) (x5 + x8).toNatClampNeg)), vI (x4 + x8), vR (σ.2 12 13)]) rfl ?_
        refine r_iast J rfl (g_is_at hs67) (fun i97 => ?_)
        show g_H E 0 0 98 [(10, vI (x3 + (M (σ.2 12 13) (x5 + x8).toNatClampNeg))), (0, vR 12), (3, vI x3), (4, vI x4), (5, vI x5), (6, vI x6), (7, vI x7), (8, vI x8), (9, vI x9)] [] (σ, (g_up M (σ.2 12 13) ((x4 + x8).toNatClampNeg) (x3 + (M (σ.2 12 13) (x5 + x8).toNatClampNeg))), N) _ _
        refine r_sub [1, 2, 3, 4, 5, 6, 7, 8] (lv' := [(0, vR 12), (3, vI x3), (4, vI x4), (5, vI x5), (6, vI x6), (7, vI x7), (8, vI x8), (9, vI x9)]) rfl ?_
        exact p_X9_useRoom_98 J ih x3 x4 x5 x6 x7 x8 x9 σ (g_up M (σ.2 12 13) ((x4 + x8).toNatClampNeg) (x3 + (M (σ.2 12 13) (x5 + x8).toNatClampNeg))) N hL
      · refine r_sub [1, 2, 3, 4, 5, 6, 7, 8] (lv' := [(0, vR 12), (3, vI x3), (4, vI x4), (5, vI x5), (6, vI x6), (7, vI x7), (8, vI x8), (9, vI x9)]) rfl ?_
        exact p_X9_useRoom_98 J ih x3 x4 x5 x6 x7 x8 x9 σ M N hL
    · exact r_vret J rfl rfl rfl (by decide) (by decide)
set_option maxHeartbeats 4000000 in
set_option maxRecDepth 100000 in
theorem p_X9_useRoom_0 {l : Launch} {E : gE} (J : J_X9_useRoom E l) (x1 : Int32) (x2 : Int32) (x3 : Int32) (σ : gS) (M : gM) (N : gN) (hL : g_layC σ) : g_H E 0 0 0 [(0, vR 12), (1, vI x1), (2, vI x2), (3, vI x3)] [] (σ, M, N) (b_X9_useRoom_0 x1 x2 x3 σ M) (eVM σ N) := by
  unfold b_X9_useRoom_0
  refine r_run J 2 (pc' := 2) (lv' := [(0, vR 12), (1, vI x1), (2, vI x2), (3, vI x3)]) (st' := [vR 12, vI x1]) rfl ?_
  refine r_getI J cls9 rfl (k := 9) (by decide) wf_9_44 rfl (ly_12 hL) ?_
  show g_H E 0 0 5 [(0, vR 12), (1, vI x1), (2, vI x2), (3, vI x3)] [vI (M 12 9), vI x1] (σ, M, N) _ _
  refine r_run J 8 (pc' := 14) (lv' := [(4, vI ((x1 <<< ((M 12 9) &&& 31)) + x2)), (0, vR 12), (1, vI x1), (2, vI x2), (3, vI x3)]) (st' := [vR 12, vI (x1 + (1 : Int32))]) rfl ?_
  refine r_getI J cls9 rfl (k := 9) (by decide) wf_9_44 rfl (ly_12 hL) ?_
  show g_H E 0 0 17 [(4, vI ((x1 <<< ((M 12 9) &&& 31)) + x2)), (0, vR 12), (1, vI x1), (2, vI x2), (3, vI x3)] [vI (M 12 9), vI (x1 + (1 : Int32))] (σ, M, N) _ _
  refine r_run J 4 (pc' := 22) (lv' := [(5, vI ((x1 + (1 : Int32)) <<< ((M 12 9) &&& 31))), (4, vI ((x1 <<< ((M 12 9) &&& 31)) + x2)), (0, vR 12), (1, vI x1), (2, vI x2), (3, vI x3)]) (st' := [vR 12, vI 1]) rfl ?_
  refine r_getI J cls9 rfl (k := 9) (by decide) wf_9_44 rfl (ly_12 hL) ?_
  show g_H E 0 0 25 [(5, vI ((x1 + (1 : Int32)) <<< ((M 12 9) &&& 31))), (4, vI ((x1 <<< ((M 12 9) &&& 31)) + x2)), (0, vR 12), (1, vI x1), (2, vI x2), (3, vI x3)] [vI (M 12 9), vI 1] (σ, M, N) _ _
  refine r_run J 10 (pc' := 37) (lv' := [(6, vI ((((1 : Int32) <<< ((M 12 9) &&& 31)) - (1 : Int32)) &&& (x2 ^^^ (-1 : Int32)))), (5, vI ((x1 + (1 : Int32)) <<< ((M 12 9) &&& 31))), (4, vI ((x1 <<< ((M 12 9) &&& 31)) + x2)), (0, vR 12), (1, vI x1), (2, vI x2), (3, vI x3)]) (st' := [vI ((((1 : Int32) <<< ((M 12 9) &&& 31)) - (1 : Int32)) &&& (x2 ^^^ (-1 : Int32))), vI 1]) rfl ?_
  refine r_callS J (As := [vI ((((1 : Int32) <<< ((M 12 9) &&& 31)) - (1 : Int32)) &&& (x2 ^^^ (-1 : Int32)))]) (st := [vI 1]) (fun r hr => c_J_bitCount ((((1 : Int32) <<< ((M 12 9) &&& 31)) - (1 : Int32)) &&& (x2 ^^^ (-1 : Int32))) σ M N r hr) wm_9_80 wy_J_bitCount wd_J_bitCount ⟨by decide, by decide, by decide, by decide, Nat.le_of_ble_eq_true rfl⟩ rfl rfl (fun q37 hq37 => ?_)
  show g_H E 0 0 40 [(6, vI ((((1 : Int32) <<< ((M 12 9) &&& 31)) - (1 : Int32)) &&& (x2 ^^^ (-1 : Int32)))), (5, vI ((x1 + (1 : Int32)) <<< ((M 12 9) &&& 31))), (4, vI ((x1 <<< ((M 12 9) &&& 31)) + x2)), (0, vR 12), (1, vI x1), (2, vI x2), (3, vI x3)] [vI q37, vI 1] (σ, M, N) _ _
  refine r_run J 6 (pc' := 50) (lv' := [(9, vI 0), (8, vI ((((1 : Int32) <<< ((M 12 9) &&& 31)) - (1 : Int32)) &&& (x2 ^^^ (-1 : Int32)))), (7, vI ((1 : Int32) <<< (q37 &&& 31))), (6, vI ((((1 : Int32) <<< ((M 12 9) &&& 31)) - (1 : Int32)) &&& (x2 ^^^ (-1 : Int32)))), (5, vI ((x1 + (1 : Int32)) <<< ((M 12 9) &&& 31))), (4, vI ((x1 <<< ((M 12 9) &&& 31)) + x2)), (0, vR 12), (1, vI x1), (2, vI x2), (3, vI x3)]) (st' := []) rfl ?_
  refine r_sub [6, 9, 5, 4, 3, 2, 1, 0] (lv' := [(0, vR 12), (3, vI x3), (4, vI ((x1 <<< ((M 12 9) &&& 31)) + x2)), (5, vI ((x1 + (1 : Int32)) <<< ((M 12 9) &&& 31))), (6, vI ((((1 : Int32) <<< ((M 12 9) &&& 31)) - (1 : Int32)) &&& (x2 ^^^ (-1 : Int32)))), (7, vI ((1 : Int32) <<< (q37 &&& 31))), (8, vI ((((1 : Int32) <<< ((M 12 9) &&& 31)) - (1 : Int32)) &&& (x2 ^^^ (-1 : Int32)))), (9, vI 0)]) rfl ?_
  exact p_X9_useRoom_50 J g_FU x3 ((x1 <<< ((M 12 9) &&& 31)) + x2) ((x1 + (1 : Int32)) <<< ((M 12 9) &&& 31)) ((((1 : Int32) <<< ((M 12 9) &&& 31)) - (1 : Int32)) &&& (x2 ^^^ (-1 : Int32))) ((1 : Int32) <<< (q37 &&& 31)) ((((1 : Int32) <<< ((M 12 9) &&& 31)) - (1 : Int32)) &&& (x2 ^^^ (-1 : Int32))) 0 σ M N hL
theorem c_X9_useRoom {l : Launch} (x1 : Int32) (x2 : Int32) (x3 : Int32) (σ : gS) (M : gM) (N : gN) (hL : g_layC σ) (r : gM) (h : f_X9_useRoom x1 x2 x3 σ M = some r) : g_Ct l yX9_useRoom cX9_useRoom 11 none 2 0 0 [vR 12, vI x1, vI x2, vI x3] (σ, M, N) (eVM σ N r) :=
  g_Ct.of tb_X9_useRoom (by decide +kernel) tk_X9_useRoom (Nat.le_of_ble_eq_true rfl) (fun E J => p_X9_useRoom_0 J x1 x2 x3 σ M N hL r h)
def tb_X9_fillRow : gT := [(0, .iconst 1, 1, 1), (1, .aload_n 0, 1, 0), (2, .getfield 44, 3, 0), (5, .ishl, 1, 0), (6, .istore_n 2, 1, 0), (7, .aload_n 0, 1, 0), (8, .getfield 56, 3, 0), (11, .iload_n 1, 1, 0), (12, .iconst 1, 1, 1), (13, .iadd, 1, 0), (14, .iload_n 2, 1, 0), (15, .imul, 1, 0), (16, .aload_n 0, 1, 0), (17, .getfield 56, 3, 0), (20, .iload_n 1, 1, 0), (21, .iload_n 2, 1, 0), (22, .imul, 1, 0), (23, .iload_n 2, 1, 0), (24, .invokestatic 127, 3, 0), (27, .iconst 0, 1, 0), (28, .istore_n 3, 1, 0), (29, .iload_n 3, 1, 0), (30, .aload_n 0, 1, 0), (31, .getfield 44, 3, 0), (34, .if_icmp .ge 56, 3, 0), (37, .iconst 0, 1, 0), (38, .istore 4, 2, 0), (40, .iload 4, 2, 0), (42, .iload_n 3, 1, 0), (43, .if_icmp .gt 41, 3, 0), (46, .aload_n 0, 1, 0), (47, .iload_n 1, 1, 0), (48, .iload_n 3, 1, 0), (49, .iload 4, 2, 0), (51, .invokevirtual 133, 3, 0), (54, .istore 5, 2, 0), (56, .iload 5, 2, 0), (58, .ldc 70, 2, 0), (60, .if_icmp .ge 18, 3, 0), (63, .aload_n 0, 1, 0), (64, .iload_n 1, 1, 0), (65, .iconst 1, 1, 1), (66, .iload_n 3, 1, 0), (67, .ishl, 1, 0), (68, .iconst 1, 1, 1), (69, .iload 4, 2, 0), (71, .ishl, 1, 0), (72, .ior, 1, 0), (73, .iload 5, 2, 0), (75, .invokevirtual 137, 3, 0), (78, .iinc 4 1, 3, 1), (81, .goto (-41), 3, 0), (84, .iinc 3 1, 3, 1), (87, .goto (-58), 3, 0), (90, .return_, 1, 0)]
set_option maxRecDepth 100000 in
theorem tk_X9_fillRow : g_okT cX9_fillRow tb_X9_fillRow = true := by decide +kernel
abbrev J_X9_fillRow (E : gE) (l : Launch) : Prop := g_J E cX9_fillRow RX9 "fillRow" none 6 tb_X9_fillRow 3 0 0 l
set_option maxHeartbeats 4000000 in
set_option maxRecDepth 100000 in
theorem p_X9_fillRow_78 {l : Launch} {E : gE} (J : J_X9_fillRow E l) {k29 : Int32 → Int32 → gS → gM → Option (gM)} (H29 : ∀ (x1 : Int32) (x3 : Int32) (σ : gS) (M : gM) (N : gN) (_ : g_layC σ), g_H E 0 0 29 [(0, vR 12), (1, vI x1), (3, vI x3)] [] (σ, M, N) (k29 x1 x3 σ M) (eVM σ N)) {k40 : Int32 → Int32 → Int32 → gS → gM → Option (gM)} (H40 : ∀ (x1 : Int32) (x3 : Int32) (x4 : Int32) (σ : gS) (M : gM) (N : gN) (_ : g_layC σ), g_H E 0 0 40 [(0, vR 12), (1, vI x1), (3, vI x3), (4, vI x4)] [] (σ, M, N) (k40 x1 x3 x4 σ M) (eVM σ N)) (x1 : Int32) (x3 : Int32) (x4 : Int32) (σ : gS) (M : gM) (N : gN) (hL : g_layC σ) : g_H E 0 0 78 [(0, vR 12), (1, vI x1), (3, vI x3), (4, vI x4)] [] (σ, M, N) (b_X9_fillRow_78 k29 k40 x1 x3 x4 σ M) (eVM σ N) := by
  unfold b_X9_fillRow_78
  refine r_run J 2 (pc' := 40) (lv' := [(4, vI (x4 + 1)), (0, vR 12), (1, vI x1), (3, vI x3)]) (st' := []) rfl ?_
  refine r_sub [1, 2, 3, 0] (lv' := [(0, vR 12), (1, vI x1), (3, vI x3), (4, vI (x4 + 1))]) rfl ?_
  exact H40 x1 x3 (x4 + 1) σ M N hL
set_option maxHeartbeats 4000000 in
set_option maxRecDepth 100000 in
theorem p_X9_fillRow_40 {l : Launch} {E : gE} (J : J_X9_fillRow E l) {k29 : Int32 → Int32 → gS → gM → Option (gM)} (H29 : ∀ (x1 : Int32) (x3 : Int32) (σ : gS) (M : gM) (N : gN) (_ : g_layC σ), g_H E 0 0 29 [(0, vR 12), (1, vI x1), (3, vI x3)] [] (σ, M, N) (k29 x1 x3 σ M) (eVM σ N)) : ∀ (n : Nat) (x1 : Int32) (x3 : Int32) (x4 : Int32) (σ : gS) (M : gM) (N : gN) (hL : g_layC σ), g_H E 0 0 40 [(0, vR 12), (1, vI x1), (3, vI x3), (4, vI x4)] [] (σ, M, N) (l_X9_fillRow_40 k29 n x1 x3 x4 σ M) (eVM σ N) := by
  intro n
  induction n with
  | zero => intros; exact h_none
  | succ n ih =>
    intro x1 x3 x4 σ M N hL
    rw [l_X9_fillRow_40]
    refine r_run J 2 (pc' := 43) (lv' := [(0, vR 12), (1, vI x1), (3, vI x3), (4, vI x4)]) (st' := [vI x3, vI x4]) rfl ?_
    refine r_icmp_gt J (tgt := 84) rfl (by decide) (fun c43 => ?_) (fun c43 => ?_)
    · refine r_run J 2 (pc' := 29) (lv' := [(3, vI (x3 + 1)), (0, vR 12), (1, vI x1), (4, vI x4)]) (st' := []) rfl ?_
      refine r_sub [1, 2, 0] (lv' := [(0, vR 12), (1, vI x1), (3, vI (x3 + 1))]) rfl ?_
      exact H29 x1 (x3 + 1) σ M N hL
    · refine r_run J 4 (pc' := 51) (lv' := [(0, vR 12), (1, vI x1), (3, vI x3), (4, vI x4)]) (st' := [vI x4, vI x3, vI x1, vR 12]) rfl ?_
      refine r_callV J (As := [vI x1, vI x3, vI x4]) (st := []) (fun r hr => c_X9_weightOf x1 x3 x4 σ M N hL r hr) cls9 (ly_12 hL) wm_9_133 wy_X9_weightOf wd_X9_weightOf ⟨by decide, by decide, by decide, by decide, Nat.le_of_ble_eq_true rfl⟩ rfl rfl (fun q51 hq51 => ?_)
      show g_H E 0 0 54 [(0, vR 12), (1, vI x1), (3, vI x3), (4, vI x4)] [vI q51] (σ, M, N) _ _
      refine r_run J 2 (pc' := 58) (lv' := [(5, vI q51), (0, vR 12), (1, vI x1), (3, vI x3), (4, vI x4)]) (st' := [vI q51]) rfl ?_
      refine r_ldc J rfl wc_9_70 ?_
      refine r_icmp_ge J (tgt := 78) rfl (by decide) (fun c60 => ?_) (fun c60 => ?_)
      · refine r_run J 10 (pc' := 75) (lv' := [(5, vI q51), (0, vR 12), (1, vI x1), (3, vI x3), (4, vI x4)]) (st' := [vI q51, vI (((1 : Int32) <<< (x3 &&& 31)) ||| ((1 : Int32) <<< (x4 &&& 31))), vI x1, vR 12]) rfl ?_
        refine r_callV J (As := [vI x1, vI (((1 : Int32) <<< (x3 &&& 31)) ||| ((1 : Int32) <<< (x4 &&& 31))), vI q51]) (st := []) (fun r hr => c_X9_useRoom x1 (((1 : Int32) <<< (x3 &&& 31)) ||| ((1 : Int32) <<< (x4 &&& 31))) q51 σ M N hL r hr) cls9 (ly_12 hL) wm_9_137 wy_X9_useRoom wd_X9_useRoom ⟨by decide, by decide, by decide, by decide, Nat.le_of_ble_eq_true rfl⟩ rfl rfl (fun q75 hq75 => ?_)
        show g_H E 0 0 78 [(5, vI q51), (0, vR 12), (1, vI x1), (3, vI x3), (4, vI x4)] [] (σ, q75, N) _ _
        refine r_sub [1, 2, 3, 4] (lv' := [(0, vR 12), (1, vI x1), (3, vI x3), (4, vI x4)]) rfl ?_
        exact p_X9_fillRow_78 J H29 ih x1 x3 x4 σ q75 N hL
      · refine r_sub [1, 2, 3, 4] (lv' := [(0, vR 12), (1, vI x1), (3, vI x3), (4, vI x4)]) rfl ?_
        exact p_X9_fillRow_78 J H29 ih x1 x3 x4 σ M N hL
set_option maxHeartbeats 4000000 in
set_option maxRecDepth 100000 in
theorem p_X9_fillRow_29 {l : Launch} {E : gE} (J : J_X9_fillRow E l) : ∀ (n : Nat) (x1 : Int32) (x3 : Int32) (σ : gS) (M : gM) (N : gN) (hL : g_layC σ), g_H E 0 0 29 [(0, vR 12), (1, vI x1), (3, vI x3)] [] (σ, M, N) (l_X9_fillRow_29 n x1 x3 σ M) (eVM σ N) := by
  intro n
  induction n with
  | zero => intros; exact h_none
  | succ n ih =>
    intro x1 x3 σ M N hL
    rw [l_X9_fillRow_29]
    refine r_run J 2 (pc' := 31) (lv' := [(0, vR 12), (1, vI x1), (3, vI x3)]) (st' := [vR 12, vI x3]) rfl ?_
    refine r_getI J cls9 rfl (k := 9) (by decide) wf_9_44 rfl (ly_12 hL) ?_
    show g_H E 0 0 34 [(0, vR 12), (1, vI x1), (3, vI x3)] [vI (M 12 9), vI x3] (σ, M, N) _ _
    refine r_icmp_ge J (tgt := 90) rfl (by decide) (fun c34 => ?_) (fun c34 => ?_)
    · refine r_run J 2 (pc' := 40) (lv' := [(4, vI 0), (0, vR 12), (1, vI x1), (3, vI x3)]) (st' := []) rfl ?_
      refine r_sub [1, 2, 3, 0] (lv' := [(0, vR 12), (1, vI x1), (3, vI x3), (4, vI 0)]) rfl ?_
      exact p_X9_fillRow_40 J ih g_FU x1 x3 0 σ M N hL
    · exact r_vret J rfl rfl rfl (by decide) (by decide)
set_option maxHeartbeats 4000000 in
set_option maxRecDepth 100000 in
theorem p_X9_fillRow_0 {l : Launch} {E : gE} (J : J_X9_fillRow E l) (x1 : Int32) (σ : gS) (M : gM) (N : gN) (hL : g_layC σ) : g_H E 0 0 0 [(0, vR 12), (1, vI x1)] [] (σ, M, N) (b_X9_fillRow_0 x1 σ M) (eVM σ N) := by
  unfold b_X9_fillRow_0
  refine r_run J 2 (pc' := 2) (lv' := [(0, vR 12), (1, vI x1)]) (st' := [vR 12, vI 1]) rfl ?_
  refine r_getI J cls9 rfl (k := 9) (by decide) wf_9_44 rfl (ly_12 hL) ?_
  show g_H E 0 0 5 [(0, vR 12), (1, vI x1)] [vI (M 12 9), vI 1] (σ, M, N) _ _
  refine r_run J 3 (pc' := 8) (lv' := [(2, vI ((1 : Int32) <<< ((M 12 9) &&& 31))), (0, vR 12), (1, vI x1)]) (st' := [vR 12]) rfl ?_
  refine r_getR J cls9 rfl (k := 13) (t := 14) (by decide) wf_9_56 rfl rfl (ly_12 hL) rfl (fun _ => ?_)
  show g_H E 0 0 11 [(2, vI ((1 : Int32) <<< ((M 12 9) &&& 31))), (0, vR 12), (1, vI x1)] [vR (σ.2 12 13)] (σ, M, N) _ _
  refine r_run J 6 (pc' := 17) (lv' := [(2, vI ((1 : Int32) <<< ((M 12 9) &&& 31))), (0, vR 12), (1, vI x1)]) (st' := [vR 12, vI ((x1 + (1 : Int32)) * ((1 : Int32) <<< ((M 12 9) &&& 31))), vR (σ.2 12 13)]) rfl ?_
  refine r_getR J cls9 rfl (k := 13) (t := 14) (by decide) wf_9_56 rfl rfl (ly_12 hL) rfl (fun _ => ?_)
  show g_H E 0 0 20 [(2, vI ((1 : Int32) <<< ((M 12 9) &&& 31))), (0, vR 12), (1, vI x1)] [vR (σ.2 12 13), vI ((x1 + (1 : Int32)) * ((1 : Int32) <<< ((M 12 9) &&& 31))), vR (σ.2 12 13)] (σ, M, N) _ _
  refine r_run J 4 (pc' := 24) (lv' := [(2, vI ((1 : Int32) <<< ((M 12 9) &&& 31))), (0, vR 12), (1, vI x1)]) (st' := [vI ((1 : Int32) <<< ((M 12 9) &&& 31)), vI (x1 * ((1 : Int32) <<< ((M 12 9) &&& 31))), vR (σ.2 12 13), vI ((x1 + (1 : Int32)) * ((1 : Int32) <<< ((M 12 9) &&& 31))), vR (σ.2 12 13)]) rfl ?_
  refine r_chk (fun hs24 => ?_)
  refine r_copy J rfl ⟨wm_9_127, w_copy⟩ (g_is_at hs24) (g_is_at hs24) ⟨by decide, Nat.le_of_ble_eq_true rfl⟩ (fun i24 => ?_)
  show g_H E 0 0 27 [(2, vI ((1 : Int32) <<< ((M 12 9) &&& 31))), (0, vR 12), (1, vI x1)] [] (σ, (g_cpM M (σ.2 12 13) (σ.2 12 13) ((x1 + (1 : Int32)) * ((1 : Int32) <<< ((M 12 9) &&& 31))).toNatClampNeg (x1 * ((1 : Int32) <<< ((M 12 9) &&& 31))).toNatClampNeg ((1 : Int32) <<< ((M 12 9) &&& 31)).toNatClampNeg), N) _ _
  refine r_run J 2 (pc' := 29) (lv' := [(3, vI 0), (2, vI ((1 : Int32) <<< ((M 12 9) &&& 31))), (0, vR 12), (1, vI x1)]) (st' := []) rfl ?_
  refine r_sub [2, 3, 0] (lv' := [(0, vR 12), (1, vI x1), (3, vI 0)]) rfl ?_
  exact p_X9_fillRow_29 J g_FU x1 0 σ (g_cpM M (σ.2 12 13) (σ.2 12 13) ((x1 + (1 : Int32)) * ((1 : Int32) <<< ((M 12 9) &&& 31))).toNatClampNeg (x1 * ((1 : Int32) <<< ((M 12 9) &&& 31))).toNatClampNeg ((1 : Int32) <<< ((M 12 9) &&& 31)).toNatClampNeg) N hL
theorem c_X9_fillRow {l : Launch} (x1 : Int32) (σ : gS) (M : gM) (N : gN) (hL : g_layC σ) (r : gM) (h : f_X9_fillRow x1 σ M = some r) : g_Ct l yX9_fillRow cX9_fillRow 6 none 3 0 0 [vR 12, vI x1] (σ, M, N) (eVM σ N r) :=
  g_Ct.of tb_X9_fillRow (by decide +kernel) tk_X9_fillRow (Nat.le_of_ble_eq_true rfl) (fun E J => p_X9_fillRow_0 J x1 σ M N hL r h)
def tb_X9_fillTable : gT := [(0, .aload_n 0, 1, 0), (1, .getfield 47, 3, 0), (4, .iconst 1, 1, 1), (5, .iadd, 1, 0), (6, .aload_n 0, 1, 0), (7, .getfield 44, 3, 0), (10, .ishl, 1, 0), (11, .istore_n 1, 1, 0), (12, .aload_n 0, 1, 0), (13, .getfield 56, 3, 0), (16, .arraylength, 1, 0), (17, .iload_n 1, 1, 0), (18, .if_icmp .ge 10, 3, 0), (21, .aload_n 0, 1, 0), (22, .iload_n 1, 1, 0), (23, .newarray .int, 2, 0), (25, .putfield 56, 3, 0), (28, .aload_n 0, 1, 0), (29, .getfield 47, 3, 0), (32, .aload_n 0, 1, 0), (33, .getfield 44, 3, 0), (36, .ishl, 1, 0), (37, .istore_n 2, 1, 0), (38, .aload_n 0, 1, 0), (39, .getfield 56, 3, 0), (42, .iload_n 2, 1, 0), (43, .iconst 0, 1, 0), (44, .iastore, 1, 0), (45, .iload_n 2, 1, 0), (46, .iconst 1, 1, 1), (47, .iadd, 1, 0), (48, .istore_n 3, 1, 0), (49, .iload_n 3, 1, 0), (50, .iload_n 1, 1, 0), (51, .if_icmp .ge 17, 3, 0), (54, .aload_n 0, 1, 0), (55, .getfield 56, 3, 0), (58, .iload_n 3, 1, 0), (59, .ldc 70, 2, 0), (61, .iastore, 1, 0), (62, .iinc 3 1, 3, 1), (65, .goto (-16), 3, 0), (68, .aload_n 0, 1, 0), (69, .getfield 47, 3, 0), (72, .iconst 1, 1, 1), (73, .isub, 1, 0), (74, .istore_n 3, 1, 0), (75, .iload_n 3, 1, 0), (76, .ifCond .lt 14, 3, 0), (79, .aload_n 0, 1, 0), (80, .iload_n 3, 1, 0), (81, .invokevirtual 123, 3, 0), (84, .iinc 3 (-1), 3, (-1)), (87, .goto (-12), 3, 0), (90, .return_, 1, 0)]
set_option maxRecDepth 100000 in
theorem tk_X9_fillTable : g_okT cX9_fillTable tb_X9_fillTable = true := by decide +kernel
abbrev J_X9_fillTable (E : gE) (l : Launch) : Prop := g_J E cX9_fillTable RX9 "fillTable" none 4 tb_X9_fillTable 4 1 11264 l
set_option maxHeartbeats 4000000 in
set_option maxRecDepth 100000 in
theorem p_X9_fillTable_75 {l : Launch} {E : gE} (J : J_X9_fillTable E l) : ∀ (n : Nat) (x3 : Int32) (σ : gS) (M : gM) (N : gN) (hL : g_layC σ), g_H E 1 11264 75 [(0, vR 12), (3, vI x3)] [] (σ, M, N) (l_X9_fillTable_75 n x3 σ M N) (eVSMN) := by
  intro n
  induction n with
  | zero => intros; exact h_none
  | succ n ih =>
    intro x3 σ M N hL
    rw [l_X9_fillTable_75]
    refine r_run J 1 (pc' := 76) (lv' := [(0, vR 12), (3, vI x3)]) (st' := [vI x3]) rfl ?_
    refine r_if_lt J (tgt := 90) rfl (by decide) (fun c76 => ?_) (fun c76 => ?_)
    · exact r_vret J rfl rfl rfl (by decide) (by decide)
    · refine r_run J 2 (pc' := 81) (lv' := [(0, vR 12), (3, vI x3)]) (st' := [vI x3, vR 12]) rfl ?_
      refine r_callV J (As := [vI x3]) (st := []) (fun r hr => c_X9_fillRow x3 σ M N hL r hr) cls9 (ly_12 hL) wm_9_123 wy_X9_fillRow wd_X9_fillRow ⟨by decide, by decide, by decide, by decide, Nat.le_of_ble_eq_true rfl⟩ rfl rfl (fun q81 hq81 => ?_)
      show g_H E 1 11264 84 [(0, vR 12), (3, vI x3)] [] (σ, q81, N) _ _
      refine r_run J 2 (pc' := 75) (lv' := [(3, vI (x3 + (-1))), (0, vR 12)]) (st' := []) rfl ?_
      refine r_sub [1, 0] (lv' := [(0, vR 12), (3, vI (x3 + (-1)))]) rfl ?_
      exact ih (x3 + (-1)) σ q81 N hL
set_option maxHeartbeats 4000000 in
set_option maxRecDepth 100000 in
theorem p_X9_fillTable_49 {l : Launch} {E : gE} (J : J_X9_fillTable E l) : ∀ (n : Nat) (x1 : Int32) (x3 : Int32) (σ : gS) (M : gM) (N : gN) (hL : g_layC σ), g_H E 1 11264 49 [(0, vR 12), (1, vI x1), (3, vI x3)] [] (σ, M, N) (l_X9_fillTable_49 n x1 x3 σ M N) (eVSMN) := by
  intro n
  induction n with
  | zero => intros; exact h_none
  | succ n ih =>
    intro x1 x3 σ M N hL
    rw [l_X9_fillTable_49]
    refine r_run J 2 (pc' := 51) (lv' := [(0, vR 12), (1, vI x1), (3, vI x3)]) (st' := [vI x1, vI x3]) rfl ?_
    refine r_icmp_ge J (tgt := 68) rfl (by decide) (fun c51 => ?_) (fun c51 => ?_)
    · refine r_run J 1 (pc' := 55) (lv' := [(0, vR 12), (1, vI x1), (3, vI x3)]) (st' := [vR 12]) rfl ?_
      refine r_getR J cls9 rfl (k := 13) (t := 14) (by decide) wf_9_56 rfl rfl (ly_12 hL) rfl (fun _ => ?_)
      show g_H E 1 11264 58 [(0, vR 12), (1, vI x1), (3, vI x3)] [vR (σ.2 12 13)] (σ, M, N) _ _
      refine r_run J 1 (pc' := 59) (lv' := [(0, vR 12), (1, vI x1), (3, vI x3)]) (st' := [vI x3, vR (σ.2 12 13)]) rfl ?_
      refine r_ldc J rfl wc_9_70 ?_
      refine r_chk (fun hs61 => ?_)
      refine r_iast J rfl (g_is_at hs61) (fun i61 => ?_)
      show g_H E 1 11264 62 [(0, vR 12), (1, vI x1), (3, vI x3)] [] (σ, (g_up M (σ.2 12 13) (x3.toNatClampNeg) 268435456), N) _ _
      refine r_run J 2 (pc' := 49) (lv' := [(3, vI (x3 + 1)), (0, vR 12), (1, vI x1)]) (st' := []) rfl ?_
      refine r_sub [1, 2, 0] (lv' := [(0, vR 12), (1, vI x1), (3, vI (x3 + 1))]) rfl ?_
      exact ih x1 (x3 + 1) σ (g_up M (σ.2 12 13) (x3.toNatClampNeg) 268435456) N hL
    · refine r_run J 1 (pc' := 69) (lv' := [(0, vR 12), (1, vI x1), (3, vI x3)]) (st' := [vR 12]) rfl ?_
      refine r_getI J cls9 rfl (k := 10) (by decide) wf_9_47 rfl (ly_12 hL) ?_
      show g_H E 1 11264 72 [(0, vR 12), (1, vI x1), (3, vI x3)] [vI (M 12 10)] (σ, M, N) _ _
      refine r_run J 3 (pc' := 75) (lv' := [(3, vI ((M 12 10) - (1 : Int32))), (0, vR 12), (1, vI x1)]) (st' := []) rfl ?_
      refine r_sub [1, 0] (lv' := [(0, vR 12), (3, vI ((M 12 10) - (1 : Int32)))]) rfl ?_
      exact p_X9_fillTable_75 J g_FU ((M 12 10) - (1 : Int32)) σ M N hL
set_option maxHeartbeats 4000000 in
set_option maxRecDepth 100000 in
theorem p_X9_fillTable_28 {l : Launch} {E : gE} (J : J_X9_fillTable E l) (x1 : Int32) (σ : gS) (M : gM) (N : gN) (hL : g_layC σ) : g_H E 1 11264 28 [(0, vR 12), (1, vI x1)] [] (σ, M, N) (b_X9_fillTable_28 x1 σ M N) (eVSMN) := by
  unfold b_X9_fillTable_28
  refine r_run J 1 (pc' := 29) (lv' := [(0, vR 12), (1, vI x1)]) (st' := [vR 12]) rfl ?_
  refine r_getI J cls9 rfl (k := 10) (by decide) wf_9_47 rfl (ly_12 hL) ?_
  show g_H E 1 11264 32 [(0, vR 12), (1, vI x1)] [vI (M 12 10)] (σ, M, N) _ _
  refine r_run J 1 (pc' := 33) (lv' := [(0, vR 12), (1, vI x1)]) (st' := [vR 12, vI (M 12 10)]) rfl ?_
  refine r_getI J cls9 rfl (k := 9) (by decide) wf_9_44 rfl (ly_12 hL) ?_
  show g_H E 1 11264 36 [(0, vR 12), (1, vI x1)] [vI (M 12 9), vI (M 12 10)] (σ, M, N) _ _
  refine r_run J 3 (pc' := 39) (lv' := [(2, vI ((M 12 10) <<< ((M 12 9) &&& 31))), (0, vR 12), (1, vI x1)]) (st' := [vR 12]) rfl ?_
  refine r_getR J cls9 rfl (k := 13) (t := 14) (by decide) wf_9_56 rfl rfl (ly_12 hL) rfl (fun _ => ?_)
  show g_H E 1 11264 42 [(2, vI ((M 12 10) <<< ((M 12 9) &&& 31))), (0, vR 12), (1, vI x1)] [vR (σ.2 12 13)] (σ, M, N) _ _
  refine r_run J 2 (pc' := 44) (lv' := [(2, vI ((M 12 10) <<< ((M 12 9) &&& 31))), (0, vR 12), (1, vI x1)]) (st' := [vI 0, vI ((M 12 10) <<< ((M 12 9) &&& 31)), vR (σ.2 12 13)]) rfl ?_
  refine r_chk (fun hs44 => ?_)
  refine r_iast J rfl (g_is_at hs44) (fun i44 => ?_)
  show g_H E 1 11264 45 [(2, vI ((M 12 10) <<< ((M 12 9) &&& 31))), (0, vR 12), (1, vI x1)] [] (σ, (g_up M (σ.2 12 13) (((M 12 10) <<< ((M 12 9) &&& 31)).toNatClampNeg) 0), N) _ _
  refine r_run J 4 (pc' := 49) (lv' := [(3, vI (((M 12 10) <<< ((M 12 9) &&& 31)) + (1 : Int32))), (2, vI ((M 12 10) <<< ((M 12 9) &&& 31))), (0, vR 12), (1, vI x1)]) (st' := []) rfl ?_
  refine r_sub [2, 3, 0] (lv' := [(0, vR 12), (1, vI x1), (3, vI (((M 12 10) <<< ((M 12 9) &&& 31)) + (1 : Int32)))]) rfl ?_
  exact p_X9_fillTable_49 J g_FU x1 (((M 12 10) <<< ((M 12 9) &&& 31)) + (1 : Int32)) σ (g_up M (σ.2 12 13) (((M 12 10) <<< ((M 12 9) &&& 31)).toNatClampNeg) 0) N hL
set_option maxHeartbeats 4000000 in
set_option maxRecDepth 100000 in
theorem p_X9_fillTable_0 {l : Launch} {E : gE} (J : J_X9_fillTable E l) (σ : gS) (M : gM) (N : gN) (hL : g_layC σ) : g_H E 0 0 0 [(0, vR 12)] [] (σ, M, N) (b_X9_fillTable_0 σ M N) (eVSMN) := by
  unfold b_X9_fillTable_0
  refine r_run J 1 (pc' := 1) (lv' := [(0, vR 12)]) (st' := [vR 12]) rfl ?_
  refine r_getI J cls9 rfl (k := 10) (by decide) wf_9_47 rfl (ly_12 hL) ?_
  show g_H E 0 0 4 [(0, vR 12)] [vI (M 12 10)] (σ, M, N) _ _
  refine r_run J 3 (pc' := 7) (lv' := [(0, vR 12)]) (st' := [vR 12, vI ((M 12 10) + (1 : Int32))]) rfl ?_
  refine r_getI J cls9 rfl (k := 9) (by decide) wf_9_44 rfl (ly_12 hL) ?_
  show g_H E 0 0 10 [(0, vR 12)] [vI (M 12 9), vI ((M 12 10) + (1 : Int32))] (σ, M, N) _ _
  refine r_run J 3 (pc' := 13) (lv' := [(1, vI (((M 12 10) + (1 : Int32)) <<< ((M 12 9) &&& 31))), (0, vR 12)]) (st' := [vR 12]) rfl ?_
  refine r_getR J cls9 rfl (k := 13) (t := 14) (by decide) wf_9_56 rfl rfl (ly_12 hL) rfl (fun _ => ?_)
  show g_H E 0 0 16 [(1, vI (((M 12 10) + (1 : Int32)) <<< ((M 12 9) &&& 31))), (0, vR 12)] [vR (σ.2 12 13)] (σ, M, N) _ _
  refine r_chk (fun hs16 => ?_)
  refine r_alen J rfl (by decide) (fun _ => rfl) (g_is_at hs16) ?_
  show g_H E 0 0 17 [(1, vI (((M 12 10) + (1 : Int32)) <<< ((M 12 9) &&& 31))), (0, vR 12)] [vI (Int32.ofNat (g_ln σ (σ.2 12 13)))] (σ, M, N) _ _
  refine r_run J 1 (pc' := 18) (lv' := [(1, vI (((M 12 10) + (1 : Int32)) <<< ((M 12 9) &&& 31))), (0, vR 12)]) (st' := [vI (((M 12 10) + (1 : Int32)) <<< ((M 12 9) &&& 31)), vI (Int32.ofNat (g_ln σ (σ.2 12 13)))]) rfl ?_
  refine r_icmp_ge J (tgt := 28) rfl (by decide) (fun c18 => ?_) (fun c18 => ?_)
  · refine r_run J 2 (pc' := 23) (lv' := [(1, vI (((M 12 10) + (1 : Int32)) <<< ((M 12 9) &&& 31))), (0, vR 12)]) (st' := [vI (((M 12 10) + (1 : Int32)) <<< ((M 12 9) &&& 31)), vR 12]) rfl ?_
    refine r_chk (fun hf23 => ?_)
    refine r_chk (fun hn23 => ?_)
    refine r_newI J (B := 11264) rfl wa_int (g_nn_0 hn23) rfl (g_nn_B hn23) (by decide) (g_fr_0 hf23) (g_fr_n hf23) (by decide) (by decide) ?_
    show g_H E 1 11264 25 [(1, vI (((M 12 10) + (1 : Int32)) <<< ((M 12 9) &&& 31))), (0, vR 12)] [vR (10000 + (((M 12 10) + (1 : Int32)) <<< ((M 12 9) &&& 31)).toNatClampNeg), vR 12] ((g_nS σ (10000 + (((M 12 10) + (1 : Int32)) <<< ((M 12 9) &&& 31)).toNatClampNeg) 14 ((((M 12 10) + (1 : Int32)) <<< ((M 12 9) &&& 31)).toNatClampNeg)), (g_z M (10000 + (((M 12 10) + (1 : Int32)) <<< ((M 12 9) &&& 31)).toNatClampNeg) 0), (g_z N (10000 + (((M 12 10) + (1 : Int32)) <<< ((M 12 9) &&& 31)).toNatClampNeg) 0)) _ _
    refine r_chk (fun hl25 => ?_)
    refine r_putR J cls9 rfl (k := 13) (t := 14) (by decide) wf_9_56 rfl rfl (Or.inl rfl) (ly_12 (g_layC.of hl25)) (Or.inr ⟨_, (g_nS_at σ (10000 + (((M 12 10) + (1 : Int32)) <<< ((M 12 9) &&& 31)).toNatClampNeg) 14 ((((M 12 10) + (1 : Int32)) <<< ((M 12 9) &&& 31)).toNatClampNeg))⟩) ?_
    show g_H E 1 11264 28 [(1, vI (((M 12 10) + (1 : Int32)) <<< ((M 12 9) &&& 31))), (0, vR 12)] [] ((g_pS (g_nS σ (10000 + (((M 12 10) + (1 : Int32)) <<< ((M 12 9) &&& 31)).toNatClampNeg) 14 ((((M 12 10) + (1 : Int32)) <<< ((M 12 9) &&& 31)).toNatClampNeg)) 12 13 (10000 + (((M 12 10) + (1 : Int32)) <<< ((M 12 9) &&& 31)).toNatClampNeg)), (g_z M (10000 + (((M 12 10) + (1 : Int32)) <<< ((M 12 9) &&& 31)).toNatClampNeg) 0), (g_z N (10000 + (((M 12 10) + (1 : Int32)) <<< ((M 12 9) &&& 31)).toNatClampNeg) 0)) _ _
    refine r_chk (fun hl28 => ?_)
    refine r_sub [1, 0] (lv' := [(0, vR 12), (1, vI (((M 12 10) + (1 : Int32)) <<< ((M 12 9) &&& 31)))]) rfl ?_
    exact p_X9_fillTable_28 J (((M 12 10) + (1 : Int32)) <<< ((M 12 9) &&& 31)) (g_pS (g_nS σ (10000 + (((M 12 10) + (1 : Int32)) <<< ((M 12 9) &&& 31)).toNatClampNeg) 14 ((((M 12 10) + (1 : Int32)) <<< ((M 12 9) &&& 31)).toNatClampNeg)) 12 13 (10000 + (((M 12 10) + (1 : Int32)) <<< ((M 12 9) &&& 31)).toNatClampNeg)) (g_z M (10000 + (((M 12 10) + (1 : Int32)) <<< ((M 12 9) &&& 31)).toNatClampNeg) 0) (g_z N (10000 + (((M 12 10) + (1 : Int32)) <<< ((M 12 9) &&& 31)).toNatClampNeg) 0) (g_layC.of hl28)
  · refine r_sub [1, 0] (lv' := [(0, vR 12), (1, vI (((M 12 10) + (1 : Int32)) <<< ((M 12 9) &&& 31)))]) rfl ?_
    refine r_widen (ce' := 1) (sl' := 11264) (by decide) (by decide) ?_
    exact p_X9_fillTable_28 J (((M 12 10) + (1 : Int32)) <<< ((M 12 9) &&& 31)) σ M N hL
theorem c_X9_fillTable {l : Launch} (σ : gS) (M : gM) (N : gN) (hL : g_layC σ) (r : gS × gM × gN) (h : f_X9_fillTable σ M N = some r) : g_Ct l yX9_fillTable cX9_fillTable 4 none 4 1 11264 [vR 12] (σ, M, N) (eVSMN r) :=
  g_Ct.of tb_X9_fillTable (by decide +kernel) tk_X9_fillTable (Nat.le_of_ble_eq_true rfl) (fun E J => p_X9_fillTable_0 J σ M N hL r h)
def tb_X9_firstSetOf : gT := [(0, .aload_n 0, 1, 0), (1, .getfield 56, 3, 0), (4, .iload_n 1, 1, 0), (5, .aload_n 0, 1, 0), (6, .getfield 44, 3, 0), (9, .ishl, 1, 0), (10, .iload_n 2, 1, 0), (11, .iadd, 1, 0), (12, .iaload, 1, 0), (13, .istore_n 3, 1, 0), (14, .iload_n 1, 1, 0), (15, .iconst 1, 1, 1), (16, .iadd, 1, 0), (17, .aload_n 0, 1, 0), (18, .getfield 44, 3, 0), (21, .ishl, 1, 0), (22, .istore 4, 2, 0), (24, .aload_n 0, 1, 0), (25, .getfield 56, 3, 0), (28, .iload 4, 2, 0), (30, .iload_n 2, 1, 0), (31, .iadd, 1, 0), (32, .iaload, 1, 0), (33, .iload_n 3, 1, 0), (34, .if_icmp .ne 5, 3, 0), (37, .iconst 0, 1, 0), (38, .ireturn, 1, 0), (39, .iconst 0, 1, 0), (40, .istore 5, 2, 0), (42, .iload 5, 2, 0), (44, .aload_n 0, 1, 0), (45, .getfield 44, 3, 0), (48, .if_icmp .ge 108, 3, 0), (51, .iconst 0, 1, 0), (52, .istore 6, 2, 0), (54, .iload 6, 2, 0), (56, .iload 5, 2, 0), (58, .if_icmp .gt 92, 3, 0), (61, .iload 6, 2, 0), (63, .ifCond .ne 8, 3, 0), (66, .iload 5, 2, 0), (68, .goto 7, 3, 0), (71, .iload 6, 2, 0), (73, .iconst 1, 1, 1), (74, .isub, 1, 0), (75, .istore 7, 2, 0), (77, .iconst 1, 1, 1), (78, .iload 5, 2, 0), (80, .ishl, 1, 0), (81, .iconst 1, 1, 1), (82, .iload 7, 2, 0), (84, .ishl, 1, 0), (85, .ior, 1, 0), (86, .istore 8, 2, 0), (88, .iload 8, 2, 0), (90, .iload_n 2, 1, 0), (91, .iconst (-1), 1, (-1)), (92, .ixor, 1, 0), (93, .iand, 1, 0), (94, .ifCond .ne 15, 3, 0), (97, .aload_n 0, 1, 0), (98, .iload_n 1, 1, 0), (99, .iload 5, 2, 0), (101, .iload 7, 2, 0), (103, .invokevirtual 133, 3, 0), (106, .goto 5, 3, 0), (109, .ldc 70, 2, 0), (111, .istore 9, 2, 0), (113, .iload 9, 2, 0), (115, .ldc 70, 2, 0), (117, .if_icmp .ge 27, 3, 0), (120, .iload 9, 2, 0), (122, .aload_n 0, 1, 0), (123, .getfield 56, 3, 0), (126, .iload 4, 2, 0), (128, .iload_n 2, 1, 0), (129, .iload 8, 2, 0), (131, .iconst (-1), 1, (-1)), (132, .ixor, 1, 0), (133, .iand, 1, 0), (134, .iadd, 1, 0), (135, .iaload, 1, 0), (136, .iadd, 1, 0), (137, .iload_n 3, 1, 0), (138, .if_icmp .ne 6, 3, 0), (141, .iload 8, 2, 0), (143, .ireturn, 1, 0), (144, .iinc 6 1, 3, 1), (147, .goto (-93), 3, 0), (150, .iinc 5 1, 3, 1), (153, .goto (-111), 3, 0), (156, .iconst 0, 1, 0), (157, .ireturn, 1, 0)]
set_option maxRecDepth 100000 in
theorem tk_X9_firstSetOf : g_okT cX9_firstSetOf tb_X9_firstSetOf = true := by decide +kernel
abbrev J_X9_firstSetOf (E : gE) (l : Launch) : Prop := g_J E cX9_firstSetOf RX9 "firstSetOf" (some .int) 10 tb_X9_firstSetOf 3 0 0 l
set_option maxHeartbeats 4000000 in
set_option maxRecDepth 100000 in
theorem p_X9_firstSetOf_144 {l : Launch} {E : gE} (J : J_X9_firstSetOf E l) {k42 : Int32 → Int32 → Int32 → Int32 → Int32 → gS → gM → Option (Int32)} (H42 : ∀ (x1 : Int32) (x2 : Int32) (x3 : Int32) (x4 : Int32) (x5 : Int32) (σ : gS) (M : gM) (N : gN) (_ : g_layC σ), g_H E 0 0 42 [(0, vR 12), (1, vI x1), (2, vI x2), (3, vI x3), (4, vI x4), (5, vI x5)] [] (σ, M, N) (k42 x1 x2 x3 x4 x5 σ M) (eI σ M N)) {k54 : Int32 → Int32 → Int32 → Int32 → Int32 → Int32 → gS → gM → Option (Int32)} (H54 : ∀ (x1 : Int32) (x2 : Int32) (x3 : Int32) (x4 : Int32) (x5 : Int32) (x6 : Int32) (σ : gS) (M : gM) (N : gN) (_ : g_layC σ), g_H E 0 0 54 [(0, vR 12), (1, vI x1), (2, vI x2), (3, vI x3), (4, vI x4), (5, vI x5), (6, vI x6)] [] (σ, M, N) (k54 x1 x2 x3 x4 x5 x6 σ M) (eI σ M N)) (x1 : Int32) (x2 : Int32) (x3 : Int32) (x4 : Int32) (x5 : Int32) (x6 : Int32) (σ : gS) (M : gM) (N : gN) (hL : g_layC σ) : g_H E 0 0 144 [(0, vR 12), (1, vI x1), (2, vI x2), (3, vI x3), (4, vI x4), (5, vI x5), (6, vI x6)] [] (σ, M, N) (b_X9_firstSetOf_144 k42 k54 x1 x2 x3 x4 x5 x6 σ M) (eI σ M N) := by
  unfold b_X9_firstSetOf_144
  refine r_run J 2 (pc' := 54) (lv' := [(6, vI (x6 + 1)), (0, vR 12), (1, vI x1), (2, vI x2), (3, vI x3), (4, vI x4), (5, vI x5)]) (st' := []) rfl ?_
  refine r_sub [1, 2, 3, 4, 5, 6, 0] (lv' := [(0, vR 12), (1, vI x1), (2, vI x2), (3, vI x3), (4, vI x4), (5, vI x5), (6, vI (x6 + 1))]) rfl ?_
  exact H54 x1 x2 x3 x4 x5 (x6 + 1) σ M N hL
set_option maxHeartbeats 4000000 in
set_option maxRecDepth 100000 in
theorem p_X9_firstSetOf_111 {l : Launch} {E : gE} (J : J_X9_firstSetOf E l) {k42 : Int32 → Int32 → Int32 → Int32 → Int32 → gS → gM → Option (Int32)} (H42 : ∀ (x1 : Int32) (x2 : Int32) (x3 : Int32) (x4 : Int32) (x5 : Int32) (σ : gS) (M : gM) (N : gN) (_ : g_layC σ), g_H E 0 0 42 [(0, vR 12), (1, vI x1), (2, vI x2), (3, vI x3), (4, vI x4), (5, vI x5)] [] (σ, M, N) (k42 x1 x2 x3 x4 x5 σ M) (eI σ M N)) {k54 : Int32 → Int32 → Int32 → Int32 → Int32 → Int32 → gS → gM → Option (Int32)} (H54 : ∀ (x1 : Int32) (x2 : Int32) (x3 : Int32) (x4 : Int32) (x5 : Int32) (x6 : Int32) (σ : gS) (M : gM) (N : gN) (_ : g_layC σ), g_H E 0 0 54 [(0, vR 12), (1, vI x1), (2, vI x2), (3, vI x3), (4, vI x4), (5, vI x5), (6, vI x6)] [] (σ, M, N) (k54 x1 x2 x3 x4 x5 x6 σ M) (eI σ M N)) (x1 : Int32) (x2 : Int32) (x3 : Int32) (x4 : Int32) (x5 : Int32) (x6 : Int32) (x8 : Int32) (sx0 : Int32) (σ : gS) (M : gM) (N : gN) (hL : g_layC σ) : g_H E 0 0 111 [(0, vR 12), (1, vI x1), (2, vI x2), (3, vI x3), (4, vI x4), (5, vI x5), (6, vI x6), (8, vI x8)] [vI sx0] (σ, M, N) (b_X9_firstSetOf_111 k42 k54 x1 x2 x3 x4 x5 x6 x8 sx0 σ M) (eI σ M N) := by
  unfold b_X9_firstSetOf_111
  refine r_run J 2 (pc' := 115) (lv' := [(9, vI sx0), (0, vR 12), (1, vI x1), (2, vI x2), (3, vI x3), (4, vI x4), (5, vI x5), (6, vI x6), (8, vI x8)]) (st' := [vI sx0]) rfl ?_
  refine r_ldc J rfl wc_9_70 ?_
  refine r_icmp_ge J (tgt := 144) rfl (by decide) (fun c117 => ?_) (fun c117 => ?_)
  · refine r_run J 2 (pc' := 123) (lv' := [(9, vI sx0), (0, vR 12), (1, vI x1), (2, vI x2), (3, vI x3), (4, vI x4), (5, vI x5), (6, vI x6), (8, vI x8)]) (st' := [vR 12, vI sx0]) rfl ?_
    refine r_getR J cls9 rfl (k := 13) (t := 14) (by decide) wf_9_56 rfl rfl (ly_12 hL) rfl (fun _ => ?_)
    show g_H E 0 0 126 [(9, vI sx0), (0, vR 12), (1, vI x1), (2, vI x2), (3, vI x3), (4, vI x4), (5, vI x5), (6, vI x6), (8, vI x8)] [vR (σ.2 12 13), vI sx0] (σ, M, N) _ _
    refine r_run J 7 (pc' := 135) (lv' := [(9, vI sx0), (0, vR 12), (1, vI x1), (2, vI x2), (3, vI x3), (4, vI x4), (5, vI x5), (6, vI x6), (8, vI x8)]) (st' := [vI (x4 + (x2 &&& (x8 ^^^ (-1 : Int32)))), vR (σ.2 12 13), vI sx0]) rfl ?_
    refine r_chk (fun hs135 => ?_)
    refine r_iald J rfl (g_is_at hs135) (fun i135 => ?_)
    show g_H E 0 0 136 [(9, vI sx0), (0, vR 12), (1, vI x1), (2, vI x2), (3, vI x3), (4, vI x4), (5, vI x5), (6, vI x6), (8, vI x8)] [vI (M (σ.2 12 13) (x4 + (x2 &&& (x8 ^^^ (-1 : Int32)))).toNatClampNeg), vI sx0] (σ, M, N) _ _
    refine r_run J 2 (pc' := 138) (lv' := [(9, vI sx0), (0, vR 12), (1, vI x1), (2, vI x2), (3, vI x3), (4, vI x4), (5, vI x5), (6, vI x6), (8, vI x8)]) (st' := [vI x3, vI (sx0 + (M (σ.2 12 13) (x4 + (x2 &&& (x8 ^^^ (-1 : Int32)))).toNatClampNeg))]) rfl ?_
    refine r_icmp_ne J (tgt := 144) rfl (by decide) (fun c138 => ?_) (fun c138 => ?_)
    · refine r_run J 1 (pc' := 143) (lv' := [(9, vI sx0), (0, vR 12), (1, vI x1), (2, vI x2), (3, vI x3), (4, vI x4), (5, vI x5), (6, vI x6), (8, vI x8)]) (st' := [vI x8]) rfl ?_
      exact r_iret J rfl rfl rfl rfl (by decide) (by decide)
    · refine r_sub [1, 2, 3, 4, 5, 6, 7] (lv' := [(0, vR 12), (1, vI x1), (2, vI x2), (3, vI x3), (4, vI x4), (5, vI x5), (6, vI x6)]) rfl ?_
      exact p_X9_firstSetOf_144 J H42 H54 x1 x2 x3 x4 x5 x6 σ M N hL
  · refine r_sub [1, 2, 3, 4, 5, 6, 7] (lv' := [(0, vR 12), (1, vI x1), (2, vI x2), (3, vI x3), (4, vI x4), (5, vI x5), (6, vI x6)]) rfl ?_
    exact p_X9_firstSetOf_144 J H42 H54 x1 x2 x3 x4 x5 x6 σ M N hL
set_option maxHeartbeats 4000000 in
set_option maxRecDepth 100000 in
theorem p_X9_firstSetOf_75 {l : Launch} {E : gE} (J : J_X9_firstSetOf E l) {k42 : Int32 → Int32 → Int32 → Int32 → Int32 → gS → gM → Option (Int32)} (H42 : ∀ (x1 : Int32) (x2 : Int32) (x3 : Int32) (x4 : Int32) (x5 : Int32) (σ : gS) (M : gM) (N : gN) (_ : g_layC σ), g_H E 0 0 42 [(0, vR 12), (1, vI x1), (2, vI x2), (3, vI x3), (4, vI x4), (5, vI x5)] [] (σ, M, N) (k42 x1 x2 x3 x4 x5 σ M) (eI σ M N)) {k54 : Int32 → Int32 → Int32 → Int32 → Int32 → Int32 → gS → gM → Option (Int32)} (H54 : ∀ (x1 : Int32) (x2 : Int32) (x3 : Int32) (x4 : Int32) (x5 : Int32) (x6 : Int32) (σ : gS) (M : gM) (N : gN) (_ : g_layC σ), g_H E 0 0 54 [(0, vR 12), (1, vI x1), (2, vI x2), (3, vI x3), (4, vI x4), (5, vI x5), (6, vI x6)] [] (σ, M, N) (k54 x1 x2 x3 x4 x5 x6 σ M) (eI σ M N)) (x1 : Int32) (x2 : Int32) (x3 : Int32) (x4 : Int32) (x5 : Int32) (x6 : Int32) (sx0 : Int32) (σ : gS) (M : gM) (N : gN) (hL : g_layC σ) : g_H E 0 0 75 [(0, vR 12), (1, vI x1), (2, vI x2), (3, vI x3), (4, vI x4), (5, vI x5), (6, vI x6)] [vI sx0] (σ, M, N) (b_X9_firstSetOf_75 k42 k54 x1 x2 x3 x4 x5 x6 sx0 σ M) (eI σ M N) := by
  unfold b_X9_firstSetOf_75
  refine r_run J 14 (pc' := 94) (lv' := [(8, vI (((1 : Int32) <<< (x5 &&& 31)) ||| ((1 : Int32) <<< (sx0 &&& 31)))), (7, vI sx0), (0, vR 12), (1, vI x1), (2, vI x2), (3, vI x3), (4, vI x4), (5, vI x5), (6, vI x6)]) (st' := [vI ((((1 : Int32) <<< (x5 &&& 31)) ||| ((1 : Int32) <<< (sx0 &&& 31))) &&& (x2 ^^^ (-1 : Int32)))]) rfl ?_
  refine r_if_ne J (tgt := 109) rfl (by decide) (fun c94 => ?_) (fun c94 => ?_)
  · refine r_run J 4 (pc' := 103) (lv' := [(8, vI (((1 : Int32) <<< (x5 &&& 31)) ||| ((1 : Int32) <<< (sx0 &&& 31)))), (7, vI sx0), (0, vR 12), (1, vI x1), (2, vI x2), (3, vI x3), (4, vI x4), (5, vI x5), (6, vI x6)]) (st' := [vI sx0, vI x5, vI x1, vR 12]) rfl ?_
    refine r_callV J (As := [vI x1, vI x5, vI sx0]) (st := []) (fun r hr => c_X9_weightOf x1 x5 sx0 σ M N hL r hr) cls9 (ly_12 hL) wm_9_133 wy_X9_weightOf wd_X9_weightOf ⟨by decide, by decide, by decide, by decide, Nat.le_of_ble_eq_true rfl⟩ rfl rfl (fun q103 hq103 => ?_)
    show g_H E 0 0 106 [(8, vI (((1 : Int32) <<< (x5 &&& 31)) ||| ((1 : Int32) <<< (sx0 &&& 31)))), (7, vI sx0), (0, vR 12), (1, vI x1), (2, vI x2), (3, vI x3), (4, vI x4), (5, vI x5), (6, vI x6)] [vI q103] (σ, M, N) _ _
    refine r_run J 1 (pc' := 111) (lv' := [(8, vI (((1 : Int32) <<< (x5 &&& 31)) ||| ((1 : Int32) <<< (sx0 &&& 31)))), (7, vI sx0), (0, vR 12), (1, vI x1), (2, vI x2), (3, vI x3), (4, vI x4), (5, vI x5), (6, vI x6)]) (st' := [vI q103]) rfl ?_
    refine r_sub [2, 3, 4, 5, 6, 7, 8, 0] (lv' := [(0, vR 12), (1, vI x1), (2, vI x2), (3, vI x3), (4, vI x4), (5, vI x5), (6, vI x6), (8, vI (((1 : Int32) <<< (x5 &&& 31)) ||| ((1 : Int32) <<< (sx0 &&& 31))))]) rfl ?_
    exact p_X9_firstSetOf_111 J H42 H54 x1 x2 x3 x4 x5 x6 (((1 : Int32) <<< (x5 &&& 31)) ||| ((1 : Int32) <<< (sx0 &&& 31))) q103 σ M N hL
  · refine r_ldc J rfl wc_9_70 ?_
    refine r_sub [2, 3, 4, 5, 6, 7, 8, 0] (lv' := [(0, vR 12), (1, vI x1), (2, vI x2), (3, vI x3), (4, vI x4), (5, vI x5), (6, vI x6), (8, vI (((1 : Int32) <<< (x5 &&& 31)) ||| ((1 : Int32) <<< (sx0 &&& 31))))]) rfl ?_
    exact p_X9_firstSetOf_111 J H42 H54 x1 x2 x3 x4 x5 x6 (((1 : Int32) <<< (x5 &&& 31)) ||| ((1 : Int32) <<< (sx0 &&& 31))) 268435456 σ M N hL
set_option maxHeartbeats 4000000 in
set_option maxRecDepth 100000 in
theorem p_X9_firstSetOf_54 {l : Launch} {E : gE} (J : J_X9_firstSetOf E l) {k42 : Int32 → Int32 → Int32 → Int32 → Int32 → gS → gM → Option (Int32)} (H42 : ∀ (x1 : Int32) (x2 : Int32) (x3 : Int32) (x4 : Int32) (x5 : Int32) (σ : gS) (M : gM) (N : gN) (_ : g_layC σ), g_H E 0 0 42 [(0, vR 12), (1, vI x1), (2, vI x2), (3, vI x3), (4, vI x4), (5, vI x5)] [] (σ, M, N) (k42 x1 x2 x3 x4 x5 σ M) (eI σ M N)) : ∀ (n : Nat) (x1 : Int32) (x2 : Int32) (x3 : Int32) (x4 : Int32) (x5 : Int32) (x6 : Int32) (σ : gS) (M : gM) (N : gN) (hL : g_layC σ), g_H E 0 0 54 [(0, vR 12), (1, vI x1), (2, vI x2), (3, vI x3), (4, vI x4), (5, vI x5), (6, vI x6)] [] (σ, M, N) (l_X9_firstSetOf_54 k42 n x1 x2 x3 x4 x5 x6 σ M) (eI σ M N) := by
  intro n
  induction n with
  | zero => intros; exact h_none
  | succ n ih =>
    intro x1 x2 x3 x4 x5 x6 σ M N hL
    rw [l_X9_firstSetOf_54]
    refine r_run J 2 (pc' := 58) (lv' := [(0, vR 12), (1, vI x1), (2, vI x2), (3, vI x3), (4, vI x4), (5, vI x5), (6, vI x6)]) (st' := [vI x5, vI x6]) rfl ?_
    refine r_icmp_gt J (tgt := 150) rfl (by decide) (fun c58 => ?_) (fun c58 => ?_)
    · refine r_run J 2 (pc' := 42) (lv' := [(5, vI (x5 + 1)), (0, vR 12), (1, vI x1), (2, vI x2), (3, vI x3), (4, vI x4), (6, vI x6)]) (st' := []) rfl ?_
      refine r_sub [1, 2, 3, 4, 5, 0] (lv' := [(0, vR 12), (1, vI x1), (2, vI x2), (3, vI x3), (4, vI x4), (5, vI (x5 + 1))]) rfl ?_
      exact H42 x1 x2 x3 x4 (x5 + 1) σ M N hL
    · refine r_run J 1 (pc' := 63) (lv' := [(0, vR 12), (1, vI x1), (2, vI x2), (3, vI x3), (4, vI x4), (5, vI x5), (6, vI x6)]) (st' := [vI x6]) rfl ?_
      refine r_if_ne J (tgt := 71) rfl (by decide) (fun c63 => ?_) (fun c63 => ?_)
      · refine r_run J 2 (pc' := 75) (lv' := [(0, vR 12), (1, vI x1), (2, vI x2), (3, vI x3), (4, vI x4), (5, vI x5), (6, vI x6)]) (st' := [vI x5]) rfl ?_
        exact p_X9_firstSetOf_75 J H42 ih x1 x2 x3 x4 x5 x6 x5 σ M N hL
      · refine r_run J 3 (pc' := 75) (lv' := [(0, vR 12), (1, vI x1), (2, vI x2), (3, vI x3), (4, vI x4), (5, vI x5), (6, vI x6)]) (st' := [vI (x6 - (1 : Int32))]) rfl ?_
        exact p_X9_firstSetOf_75 J H42 ih x1 x2 x3 x4 x5 x6 (x6 - (1 : Int32)) σ M N hL
set_option maxHeartbeats 4000000 in
set_option maxRecDepth 100000 in
theorem p_X9_firstSetOf_42 {l : Launch} {E : gE} (J : J_X9_firstSetOf E l) : ∀ (n : Nat) (x1 : Int32) (x2 : Int32) (x3 : Int32) (x4 : Int32) (x5 : Int32) (σ : gS) (M : gM) (N : gN) (hL : g_layC σ), g_H E 0 0 42 [(0, vR 12), (1, vI x1), (2, vI x2), (3, vI x3), (4, vI x4), (5, vI x5)] [] (σ, M, N) (l_X9_firstSetOf_42 n x1 x2 x3 x4 x5 σ M) (eI σ M N) := by
  intro n
  induction n with
  | zero => intros; exact h_none
  | succ n ih =>
    intro x1 x2 x3 x4 x5 σ M N hL
    rw [l_X9_firstSetOf_42]
    refine r_run J 2 (pc' := 45) (lv' := [(0, vR 12), (1, vI x1), (2, vI x2), (3, vI x3), (4, vI x4), (5, vI x5)]) (st' := [vR 12, vI x5]) rfl ?_
    refine r_getI J cls9 rfl (k := 9) (by decide) wf_9_44 rfl (ly_12 hL) ?_
    show g_H E 0 0 48 [(0, vR 12), (1, vI x1), (2, vI x2), (3, vI x3), (4, vI x4), (5, vI x5)] [vI (M 12 9), vI x5] (σ, M, N) _ _
    refine r_icmp_ge J (tgt := 156) rfl (by decide) (fun c48 => ?_) (fun c48 => ?_)
    · refine r_run J 2 (pc' := 54) (lv' := [(6, vI 0), (0, vR 12), (1, vI x1), (2, vI x2), (3, vI x3), (4, vI x4), (5, vI x5)]) (st' := []) rfl ?_
      refine r_sub [1, 2, 3, 4, 5, 6, 0] (lv' := [(0, vR 12), (1, vI x1), (2, vI x2), (3, vI x3), (4, vI x4), (5, vI x5), (6, vI 0)]) rfl ?_
      exact p_X9_firstSetOf_54 J ih g_FU x1 x2 x3 x4 x5 0 σ M N hL
    · refine r_run J 1 (pc' := 157) (lv' := [(0, vR 12), (1, vI x1), (2, vI x2), (3, vI x3), (4, vI x4), (5, vI x5)]) (st' := [vI 0]) rfl ?_
      exact r_iret J rfl rfl rfl rfl (by decide) (by decide)
set_option maxHeartbeats 4000000 in
set_option maxRecDepth 100000 in
theorem p_X9_firstSetOf_0 {l : Launch} {E : gE} (J : J_X9_firstSetOf E l) (x1 : Int32) (x2 : Int32) (σ : gS) (M : gM) (N : gN) (hL : g_layC σ) : g_H E 0 0 0 [(0, vR 12), (1, vI x1), (2, vI x2)] [] (σ, M, N) (b_X9_firstSetOf_0 x1 x2 σ M) (eI σ M N) := by
  unfold b_X9_firstSetOf_0
  refine r_run J 1 (pc' := 1) (lv' := [(0, vR 12), (1, vI x1), (2, vI x2)]) (st' := [vR 12]) rfl ?_
  refine r_getR J cls9 rfl (k := 13) (t := 14) (by decide) wf_9_56 rfl rfl (ly_12 hL) rfl (fun _ => ?_)
  show g_H E 0 0 4 [(0, vR 12), (1, vI x1), (2, vI x2)] [vR (σ.2 12 13)] (σ, M, N) _ _
  refine r_run J 2 (pc' := 6) (lv' := [(0, vR 12), (1, vI x1), (2, vI x2)]) (st' := [vR 12, vI x1, vR (σ.2 12 13)]) rfl ?_
  refine r_getI J cls9 rfl (k := 9) (by decide) wf_9_44 rfl (ly_12 hL) ?_
  show g_H E 0 0 9 [(0, vR 12), (1, vI x1), (2, vI x2)] [vI (M 12 9), vI x1, vR (σ.2 12 13)] (σ, M, N) _ _
  refine r_run J 3 (pc' := 12) (lv' := [(0, vR 12), (1, vI x1), (2, vI x2)]) (st' := [vI ((x1 <<< ((M 12 9) &&& 31)) + x2), vR (σ.2 12 13)]) rfl ?_
  refine r_chk (fun hs12 => ?_)
  refine r_iald J rfl (g_is_at hs12) (fun i12 => ?_)
  show g_H E 0 0 13 [(0, vR 12), (1, vI x1), (2, vI x2)] [vI (M (σ.2 12 13) ((x1 <<< ((M 12 9) &&& 31)) + x2).toNatClampNeg)] (σ, M, N) _ _
  refine r_run J 5 (pc' := 18) (lv' := [(3, vI (M (σ.2 12 13) ((x1 <<< ((M 12 9) &&& 31)) + x2).toNatClampNeg)), (0, vR 12), (1, vI x1), (2, vI x2)]) (st' := [vR 12, vI (x1 + (1 : Int32))]) rfl ?_
  refine r_getI J cls9 rfl (k := 9) (by decide) wf_9_44 rfl (ly_12 hL) ?_
  show g_H E 0 0 21 [(3, vI (M (σ.2 12 13) ((x1 <<< ((M 12 9) &&& 31)) + x2).toNatClampNeg)), (0, vR 12), (1, vI x1), (2, vI x2)] [vI (M 12 9), vI (x1 + (1 : Int32))] (σ, M, N) _ _
  refine r_run J 3 (pc' := 25) (lv' := [(4, vI ((x1 + (1 : Int32)) <<< ((M 12 9) &&& 31))), (3, vI (M (σ.2 12 13) ((x1 <<< ((M 12 9) &&& 31)) + x2).toNatClampNeg)), (0, vR 12), (1, vI x1), (2, vI x2)]) (st' := [vR 12]) rfl ?_
  refine r_getR J cls9 rfl (k := 13) (t := 14) (by decide) wf_9_56 rfl rfl (ly_12 hL) rfl (fun _ => ?_)
  show g_H E 0 0 28 [(4, vI ((x1 + (1 : Int32)) <<< ((M 12 9) &&& 31))), (3, vI (M (σ.2 12 13) ((x1 <<< ((M 12 9) &&& 31)) + x2).toNatClampNeg)), (0, vR 12), (1, vI x1), (2, vI x2)] [vR (σ.2 12 13)] (σ, M, N) _ _
  refine r_run J 3 (pc' := 32) (lv' := [(4, vI ((x1 + (1 : Int32)) <<< ((M 12 9) &&& 31))), (3, vI (M (σ.2 12 13) ((x1 <<< ((M 12 9) &&& 31)) + x2).toNatClampNeg)), (0, vR 12), (1, vI x1), (2, vI x2)]) (st' := [vI (((x1 + (1 : Int32)) <<< ((M 12 9) &&& 31)) + x2), vR (σ.2 12 13)]) rfl ?_
  refine r_iald J rfl (g_is_at hs12) (fun i32 => ?_)
  show g_H E 0 0 33 [(4, vI ((x1 + (1 : Int32)) <<< ((M 12 9) &&& 31))), (3, vI (M (σ.2 12 13) ((x1 <<< ((M 12 9) &&& 31)) + x2).toNatClampNeg)), (0, vR 12), (1, vI x1), (2, vI x2)] [vI (M (σ.2 12 13) (((x1 + (1 : Int32)) <<< ((M 12 9) &&& 31)) + x2).toNatClampNeg)] (σ, M, N) _ _
  refine r_run J 1 (pc' := 34) (lv' := [(4, vI ((x1 + (1 : Int32)) <<< ((M 12 9) &&& 31))), (3, vI (M (σ.2 12 13) ((x1 <<< ((M 12 9) &&& 31)) + x2).toNatClampNeg)), (0, vR 12), (1, vI x1), (2, vI x2)]) (st' := [vI (M (σ.2 12 13) ((x1 <<< ((M 12 9) &&& 31)) + x2).toNatClampNeg), vI (M (σ.2 12 13) (((x1 + (1 : Int32)) <<< ((M 12 9) &&& 31)) + x2).toNatClampNeg)]) rfl ?_
  refine r_icmp_ne J (tgt := 39) rfl (by decide) (fun c34 => ?_) (fun c34 => ?_)
  · refine r_run J 1 (pc' := 38) (lv' := [(4, vI ((x1 + (1 : Int32)) <<< ((M 12 9) &&& 31))), (3, vI (M (σ.2 12 13) ((x1 <<< ((M 12 9) &&& 31)) + x2).toNatClampNeg)), (0, vR 12), (1, vI x1), (2, vI x2)]) (st' := [vI 0]) rfl ?_
    exact r_iret J rfl rfl rfl rfl (by decide) (by decide)
  · refine r_run J 2 (pc' := 42) (lv' := [(5, vI 0), (4, vI ((x1 + (1 : Int32)) <<< ((M 12 9) &&& 31))), (3, vI (M (σ.2 12 13) ((x1 <<< ((M 12 9) &&& 31)) + x2).toNatClampNeg)), (0, vR 12), (1, vI x1), (2, vI x2)]) (st' := []) rfl ?_
    refine r_sub [3, 4, 5, 2, 1, 0] (lv' := [(0, vR 12), (1, vI x1), (2, vI x2), (3, vI (M (σ.2 12 13) ((x1 <<< ((M 12 9) &&& 31)) + x2).toNatClampNeg)), (4, vI ((x1 + (1 : Int32)) <<< ((M 12 9) &&& 31))), (5, vI 0)]) rfl ?_
    exact p_X9_firstSetOf_42 J g_FU x1 x2 (M (σ.2 12 13) ((x1 <<< ((M 12 9) &&& 31)) + x2).toNatClampNeg) ((x1 + (1 : Int32)) <<< ((M 12 9) &&& 31)) 0 σ M N hL
theorem c_X9_firstSetOf {l : Launch} (x1 : Int32) (x2 : Int32) (σ : gS) (M : gM) (N : gN) (hL : g_layC σ) (r : Int32) (h : f_X9_firstSetOf x1 x2 σ M = some r) : g_Ct l yX9_firstSetOf cX9_firstSetOf 10 (some .int) 3 0 0 [vR 12, vI x1, vI x2] (σ, M, N) (eI σ M N r) :=
  g_Ct.of tb_X9_firstSetOf (by decide +kernel) tk_X9_firstSetOf (Nat.le_of_ble_eq_true rfl) (fun E J => p_X9_firstSetOf_0 J x1 x2 σ M N hL r h)
