def tb_X9_readPlan : gT := [(0, .iconst 0, 1, 0), (1, .istore_n 1, 1, 0), (2, .iload_n 1, 1, 0), (3, .bipush 10, 2, 10), (5, .if_icmp .ge 16, 3, 0), (8, .aload_n 0, 1, 0), (9, .getfield 9, 3, 0), (12, .iload_n 1, 1, 0), (13, .iconst (-1), 1, (-1)), (14, .iastore, 1, 0), (15, .iinc 1 1, 3, 1), (18, .goto (-16), 3, 0), (21, .iconst 1, 1, 1), (22, .aload_n 0, 1, 0), (23, .getfield 44, 3, 0), (26, .ishl, 1, 0), (27, .iconst 1, 1, 1), (28, .isub, 1, 0), (29, .istore_n 1, 1, 0), (30, .iconst 0, 1, 0), (31, .istore_n 2, 1, 0), (32, .iload_n 2, 1, 0), (33, .aload_n 0, 1, 0), (34, .getfield 47, 3, 0), (37, .if_icmp .ge 67, 3, 0), (40, .aload_n 0, 1, 0), (41, .iload_n 2, 1, 0), (42, .iload_n 1, 1, 0), (43, .invokevirtual 148, 3, 0), (46, .istore_n 3, 1, 0), (47, .iconst 0, 1, 0), (48, .istore 4, 2, 0), (50, .iload 4, 2, 0), (52, .aload_n 0, 1, 0), (53, .getfield 44, 3, 0), (56, .if_icmp .ge 36, 3, 0), (59, .iload_n 3, 1, 0), (60, .iload 4, 2, 0), (62, .ishr, 1, 0), (63, .iconst 1, 1, 1), (64, .iand, 1, 0), (65, .ifCond .eq 21, 3, 0), (68, .aload_n 0, 1, 0), (69, .getfield 9, 3, 0), (72, .aload_n 0, 1, 0), (73, .getfield 22, 3, 0), (76, .iload 4, 2, 0), (78, .iaload, 1, 0), (79, .aload_n 0, 1, 0), (80, .getfield 41, 3, 0), (83, .iload_n 2, 1, 0), (84, .iaload, 1, 0), (85, .iastore, 1, 0), (86, .iinc 4 1, 3, 1), (89, .goto (-39), 3, 0), (92, .iload_n 1, 1, 0), (93, .iload_n 3, 1, 0), (94, .iconst (-1), 1, (-1)), (95, .ixor, 1, 0), (96, .iand, 1, 0), (97, .istore_n 1, 1, 0), (98, .iinc 2 1, 3, 1), (101, .goto (-69), 3, 0), (104, .return_, 1, 0)]
set_option maxRecDepth 100000 in
theorem tk_X9_readPlan : g_okT cX9_readPlan tb_X9_readPlan = true := by decide +kernel
abbrev J_X9_readPlan (E : gE) (l : Launch) : Prop := g_J E cX9_readPlan RX9 "readPlan" none 5 tb_X9_readPlan 4 0 0 l
set_option maxHeartbeats 4000000 in
set_option maxRecDepth 100000 in
theorem p_X9_readPlan_86 {l : Launch} {E : gE} (J : J_X9_readPlan E l) {k32 : Int32 → Int32 → gS → gM → Option (gM)} (H32 : ∀ (x1 : Int32) (x2 : Int32) (σ : gS) (M : gM) (N : gN) (_ : g_layC σ), g_H E 0 0 32 [(0, vR 12), (1, vI x1), (2, vI x2)] [] (σ, M, N) (k32 x1 x2 σ M) (eVM σ N)) {k50 : Int32 → Int32 → Int32 → Int32 → gS → gM → Option (gM)} (H50 : ∀ (x1 : Int32) (x2 : Int32) (x3 : Int32) (x4 : Int32) (σ : gS) (M : gM) (N : gN) (_ : g_layC σ), g_H E 0 0 50 [(0, vR 12), (1, vI x1), (2, vI x2), (3, vI x3), (4, vI x4)] [] (σ, M, N) (k50 x1 x2 x3 x4 σ M) (eVM σ N)) (x1 : Int32) (x2 : Int32) (x3 : Int32) (x4 : Int32) (σ : gS) (M : gM) (N : gN) (hL : g_layC σ) : g_H E 0 0 86 [(0, vR 12), (1, vI x1), (2, vI x2), (3, vI x3), (4, vI x4)] [] (σ, M, N) (b_X9_readPlan_86 k32 k50 x1 x2 x3 x4 σ M) (eVM σ N) := by
  unfold b_X9_readPlan_86
  refine r_run J 2 (pc' := 50) (lv' := [(4, vI (x4 + 1)), (0, vR 12), (1, vI x1), (2, vI x2), (3, vI x3)]) (st' := []) rfl ?_
  refine r_sub [1, 2, 3, 4, 0] (lv' := [(0, vR 12), (1, vI x1), (2, vI x2), (3, vI x3), (4, vI (x4 + 1))]) rfl ?_
  exact H50 x1 x2 x3 (x4 + 1) σ M N hL
set_option maxHeartbeats 4000000 in
set_option maxRecDepth 100000 in
theorem p_X9_readPlan_50 {l : Launch} {E : gE} (J : J_X9_readPlan E l) {k32 : Int32 → Int32 → gS → gM → Option (gM)} (H32 : ∀ (x1 : Int32) (x2 : Int32) (σ : gS) (M : gM) (N : gN) (_ : g_layC σ), g_H E 0 0 32 [(0, vR 12), (1, vI x1), (2, vI x2)] [] (σ, M, N) (k32 x1 x2 σ M) (eVM σ N)) : ∀ (n : Nat) (x1 : Int32) (x2 : Int32) (x3 : Int32) (x4 : Int32) (σ : gS) (M : gM) (N : gN) (hL : g_layC σ), g_H E 0 0 50 [(0, vR 12), (1, vI x1), (2, vI x2), (3, vI x3), (4, vI x4)] [] (σ, M, N) (l_X9_readPlan_50 k32 n x1 x2 x3 x4 σ M) (eVM σ N) := by
  intro n
  induction n with
  | zero => intros; exact h_none
  | succ n ih =>
    intro x1 x2 x3 x4 σ M N hL
    rw [l_X9_readPlan_50]
    refine r_run J 2 (pc' := 53) (lv' := [(0, vR 12), (1, vI x1), (2, vI x2), (3, vI x3), (4, vI x4)]) (st' := [vR 12, vI x4]) rfl ?_
    refine r_getI J cls9 rfl (k := 9) (by decide) wf_9_44 rfl (ly_12 hL) ?_
    show g_H E 0 0 56 [(0, vR 12), (1, vI x1), (2, vI x2), (3, vI x3), (4, vI x4)] [vI (M 12 9), vI x4] (σ, M, N) _ _
    refine r_icmp_ge J (tgt := 92) rfl (by decide) (fun c56 => ?_) (fun c56 => ?_)
    · refine r_run J 5 (pc' := 65) (lv' := [(0, vR 12), (1, vI x1), (2, vI x2), (3, vI x3), (4, vI x4)]) (st' := [vI ((x3 >>> (x4 &&& 31)) &&& (1 : Int32))]) rfl ?_
      refine r_if_eq J (tgt := 86) rfl (by decide) (fun c65 => ?_) (fun c65 => ?_)
      · exact p_X9_readPlan_86 J H32 ih x1 x2 x3 x4 σ M N hL
      · refine r_run J 1 (pc' := 69) (lv' := [(0, vR 12), (1, vI x1), (2, vI x2), (3, vI x3), (4, vI x4)]) (st' := [vR 12]) rfl ?_
        refine r_getR J cls9 rfl (k := 0) (t := 14) (by decide) wf_9_9 rfl rfl (ly_12 hL) (lr_12_0 hL) (fun _ => ?_)
        show g_H E 0 0 72 [(0, vR 12), (1, vI x1), (2, vI x2), (3, vI x3), (4, vI x4)] [vR 13] (σ, M, N) _ _
        refine r_run J 1 (pc' := 73) (lv' := [(0, vR 12), (1, vI x1), (2, vI x2), (3, vI x3), (4, vI x4)]) (st' := [vR 12, vR 13]) rfl ?_
        refine r_getR J cls9 rfl (k := 3) (t := 14) (by decide) wf_9_22 rfl rfl (ly_12 hL) (lr_12_3 hL) (fun _ => ?_)
        show g_H E 0 0 76 [(0, vR 12), (1, vI x1), (2, vI x2), (3, vI x3), (4, vI x4)] [vR 14, vR 13] (σ, M, N) _ _
        refine r_run J 1 (pc' := 78) (lv' := [(0, vR 12), (1, vI x1), (2, vI x2), (3, vI x3), (4, vI x4)]) (st' := [vI x4, vR 14, vR 13]) rfl ?_
        refine r_iald J rfl (ly_14 hL) (fun i78 => ?_)
        show g_H E 0 0 79 [(0, vR 12), (1, vI x1), (2, vI x2), (3, vI x3), (4, vI x4)] [vI (M 14 x4.toNatClampNeg), vR 13] (σ, M, N) _ _
        refine r_run J 1 (pc' := 80) (lv' := [(0, vR 12), (1, vI x1), (2, vI x2), (3, vI x3), (4, vI x4)]) (st' := [vR 12, vI (M 14 x4.toNatClampNeg), vR 13]) rfl ?_
        refine r_getR J cls9 rfl (k := 8) (t := 14) (by decide) wf_9_41 rfl rfl (ly_12 hL) (lr_12_8 hL) (fun _ => ?_)
        show g_H E 0 0 83 [(0, vR 12), (1, vI x1), (2, vI x2), (3, vI x3), (4, vI x4)] [vR 19, vI (M 14 x4.toNatClampNeg), vR 13] (σ, M, N) _ _
        refine r_run J 1 (pc' := 84) (lv' := [(0, vR 12), (1, vI x1), (2, vI x2), (3, vI x3), (4, vI x4)]) (st' := [vI x2, vR 19, vI (M 14 x4.toNatClampNeg), vR 13]) rfl ?_
        refine r_iald J rfl (ly_19 hL) (fun i84 => ?_)
        show g_H E 0 0 85 [(0, vR 12), (1, vI x1), (2, vI x2), (3, vI x3), (4, vI x4)] [vI (M 19 x2.toNatClampNeg), vI (M 14 x4.toNatClampNeg), vR 13] (σ, M, N) _ _
        refine r_iast J rfl (ly_13 hL) (fun i85 => ?_)
        show g_H E 0 0 86 [(0, vR 12), (1, vI x1), (2, vI x2), (3, vI x3), (4, vI x4)] [] (σ, (g_up M 13 ((M 14 x4.toNatClampNeg).toNatClampNeg) (M 19 x2.toNatClampNeg)), N) _ _
        exact p_X9_readPlan_86 J H32 ih x1 x2 x3 x4 σ (g_up M 13 ((M 14 x4.toNatClampNeg).toNatClampNeg) (M 19 x2.toNatClampNeg)) N hL
    · refine r_run J 8 (pc' := 32) (lv' := [(2, vI (x2 + 1)), (1, vI (x1 &&& (x3 ^^^ (-1 : Int32)))), (0, vR 12), (3, vI x3), (4, vI x4)]) (st' := []) rfl ?_
      refine r_sub [2, 1, 0] (lv' := [(0, vR 12), (1, vI (x1 &&& (x3 ^^^ (-1 : Int32)))), (2, vI (x2 + 1))]) rfl ?_
      exact H32 (x1 &&& (x3 ^^^ (-1 : Int32))) (x2 + 1) σ M N hL
set_option maxHeartbeats 4000000 in
set_option maxRecDepth 100000 in
theorem p_X9_readPlan_32 {l : Launch} {E : gE} (J : J_X9_readPlan E l) : ∀ (n : Nat) (x1 : Int32) (x2 : Int32) (σ : gS) (M : gM) (N : gN) (hL : g_layC σ), g_H E 0 0 32 [(0, vR 12), (1, vI x1), (2, vI x2)] [] (σ, M, N) (l_X9_readPlan_32 n x1 x2 σ M) (eVM σ N) := by
  intro n
  induction n with
  | zero => intros; exact h_none
  | succ n ih =>
    intro x1 x2 σ M N hL
    rw [l_X9_readPlan_32]
    refine r_run J 2 (pc' := 34) (lv' := [(0, vR 12), (1, vI x1), (2, vI x2)]) (st' := [vR 12, vI x2]) rfl ?_
    refine r_getI J cls9 rfl (k := 10) (by decide) wf_9_47 rfl (ly_12 hL) ?_
    show g_H E 0 0 37 [(0, vR 12), (1, vI x1), (2, vI x2)] [vI (M 12 10), vI x2] (σ, M, N) _ _
    refine r_icmp_ge J (tgt := 104) rfl (by decide) (fun c37 => ?_) (fun c37 => ?_)
    · refine r_run J 3 (pc' := 43) (lv' := [(0, vR 12), (1, vI x1), (2, vI x2)]) (st' := [vI x1, vI x2, vR 12]) rfl ?_
      refine r_callV J (As := [vI x2, vI x1]) (st := []) (fun r hr => c_X9_firstSetOf x2 x1 σ M N hL r hr) cls9 (ly_12 hL) wm_9_148 wy_X9_firstSetOf wd_X9_firstSetOf ⟨by decide, by decide, by decide, by decide, Nat.le_of_ble_eq_true rfl⟩ rfl rfl (fun q43 hq43 => ?_)
      show g_H E 0 0 46 [(0, vR 12), (1, vI x1), (2, vI x2)] [vI q43] (σ, M, N) _ _
      refine r_run J 3 (pc' := 50) (lv' := [(4, vI 0), (3, vI q43), (0, vR 12), (1, vI x1), (2, vI x2)]) (st' := []) rfl ?_
      refine r_sub [2, 3, 4, 1, 0] (lv' := [(0, vR 12), (1, vI x1), (2, vI x2), (3, vI q43), (4, vI 0)]) rfl ?_
      exact p_X9_readPlan_50 J ih g_FU x1 x2 q43 0 σ M N hL
    · exact r_vret J rfl rfl rfl (by decide) (by decide)
set_option maxHeartbeats 4000000 in
set_option maxRecDepth 100000 in
theorem p_X9_readPlan_2 {l : Launch} {E : gE} (J : J_X9_readPlan E l) : ∀ (n : Nat) (x1 : Int32) (σ : gS) (M : gM) (N : gN) (hL : g_layC σ), g_H E 0 0 2 [(0, vR 12), (1, vI x1)] [] (σ, M, N) (l_X9_readPlan_2 n x1 σ M) (eVM σ N) := by
  intro n
  induction n with
  | zero => intros; exact h_none
  | succ n ih =>
    intro x1 σ M N hL
    rw [l_X9_readPlan_2]
    refine r_run J 2 (pc' := 5) (lv' := [(0, vR 12), (1, vI x1)]) (st' := [vI 10, vI x1]) rfl ?_
    refine r_icmp_ge J (tgt := 21) rfl (by decide) (fun c5 => ?_) (fun c5 => ?_)
    · refine r_run J 1 (pc' := 9) (lv' := [(0, vR 12), (1, vI x1)]) (st' := [vR 12]) rfl ?_
      refine r_getR J cls9 rfl (k := 0) (t := 14) (by decide) wf_9_9 rfl rfl (ly_12 hL) (lr_12_0 hL) (fun _ => ?_)
      show g_H E 0 0 12 [(0, vR 12), (1, vI x1)] [vR 13] (σ, M, N) _ _
      refine r_run J 2 (pc' := 14) (lv' := [(0, vR 12), (1, vI x1)]) (st' := [vI (-1), vI x1, vR 13]) rfl ?_
      refine r_iast J rfl (ly_13 hL) (fun i14 => ?_)
      show g_H E 0 0 15 [(0, vR 12), (1, vI x1)] [] (σ, (g_up M 13 (x1.toNatClampNeg) (-1)), N) _ _
      refine r_run J 2 (pc' := 2) (lv' := [(1, vI (x1 + 1)), (0, vR 12)]) (st' := []) rfl ?_
      refine r_sub [1, 0] (lv' := [(0, vR 12), (1, vI (x1 + 1))]) rfl ?_
      exact ih (x1 + 1) σ (g_up M 13 (x1.toNatClampNeg) (-1)) N hL
    · refine r_run J 2 (pc' := 23) (lv' := [(0, vR 12), (1, vI x1)]) (st' := [vR 12, vI 1]) rfl ?_
      refine r_getI J cls9 rfl (k := 9) (by decide) wf_9_44 rfl (ly_12 hL) ?_
      show g_H E 0 0 26 [(0, vR 12), (1, vI x1)] [vI (M 12 9), vI 1] (σ, M, N) _ _
      refine r_run J 6 (pc' := 32) (lv' := [(2, vI 0), (1, vI (((1 : Int32) <<< ((M 12 9) &&& 31)) - (1 : Int32))), (0, vR 12)]) (st' := []) rfl ?_
      refine r_sub [2, 1, 0] (lv' := [(0, vR 12), (1, vI (((1 : Int32) <<< ((M 12 9) &&& 31)) - (1 : Int32))), (2, vI 0)]) rfl ?_
      exact p_X9_readPlan_32 J g_FU (((1 : Int32) <<< ((M 12 9) &&& 31)) - (1 : Int32)) 0 σ M N hL
set_option maxHeartbeats 4000000 in
set_option maxRecDepth 100000 in
theorem p_X9_readPlan_0 {l : Launch} {E : gE} (J : J_X9_readPlan E l) (σ : gS) (M : gM) (N : gN) (hL : g_layC σ) : g_H E 0 0 0 [(0, vR 12)] [] (σ, M, N) (b_X9_readPlan_0 σ M) (eVM σ N) := by
  unfold b_X9_readPlan_0
  refine r_run J 2 (pc' := 2) (lv' := [(1, vI 0), (0, vR 12)]) (st' := []) rfl ?_
  refine r_sub [1, 0] (lv' := [(0, vR 12), (1, vI 0)]) rfl ?_
  exact p_X9_readPlan_2 J g_FU 0 σ M N hL
theorem c_X9_readPlan {l : Launch} (σ : gS) (M : gM) (N : gN) (hL : g_layC σ) (r : gM) (h : f_X9_readPlan σ M = some r) : g_Ct l yX9_readPlan cX9_readPlan 5 none 4 0 0 [vR 12] (σ, M, N) (eVM σ N r) :=
  g_Ct.of tb_X9_readPlan (by decide +kernel) tk_X9_readPlan (Nat.le_of_ble_eq_true rfl) (fun E J => p_X9_readPlan_0 J σ M N hL r h)
def tb_X9_findList : gT := [(0, .aload_n 0, 1, 0), (1, .aload_n 1, 1, 0), (2, .aload_n 2, 1, 0), (3, .invokevirtual 59, 3, 0), (6, .aload_n 0, 1, 0), (7, .aload_n 2, 1, 0), (8, .invokevirtual 63, 3, 0), (11, .aload_n 0, 1, 0), (12, .getfield 44, 3, 0), (15, .aload_n 0, 1, 0), (16, .getfield 50, 3, 0), (19, .if_icmp .le 5, 3, 0), (22, .iconst 0, 1, 0), (23, .ireturn, 1, 0), (24, .aload_n 0, 1, 0), (25, .iload_n 3, 1, 0), (26, .putfield 53, 3, 0), (29, .aload_n 0, 1, 0), (30, .invokevirtual 67, 3, 0), (33, .aload_n 0, 1, 0), (34, .getfield 56, 3, 0), (37, .iconst 1, 1, 1), (38, .aload_n 0, 1, 0), (39, .getfield 44, 3, 0), (42, .ishl, 1, 0), (43, .iconst 1, 1, 1), (44, .isub, 1, 0), (45, .iaload, 1, 0), (46, .istore 4, 2, 0), (48, .iload 4, 2, 0), (50, .ldc 70, 2, 0), (52, .if_icmp .lt 5, 3, 0), (55, .iconst 0, 1, 0), (56, .ireturn, 1, 0), (57, .aload_n 0, 1, 0), (58, .invokevirtual 71, 3, 0), (61, .aload_n 0, 1, 0), (62, .aload_n 0, 1, 0), (63, .getfield 53, 3, 0), (66, .ifCond .ne 11, 3, 0), (69, .iload 4, 2, 0), (71, .bipush 15, 2, 15), (73, .iand, 1, 0), (74, .goto 8, 3, 0), (77, .iload 4, 2, 0), (79, .bipush 14, 2, 14), (81, .ishr, 1, 0), (82, .putfield 15, 3, 0), (85, .aload_n 0, 1, 0), (86, .aload_n 0, 1, 0), (87, .getfield 53, 3, 0), (90, .ifCond .ne 10, 3, 0), (93, .iload 4, 2, 0), (95, .iconst 4, 1, 4), (96, .ishr, 1, 0), (97, .goto 9, 3, 0), (100, .iload 4, 2, 0), (102, .sipush 16383, 3, 16383), (105, .iand, 1, 0), (106, .putfield 19, 3, 0), (109, .iconst 1, 1, 1), (110, .ireturn, 1, 0)]
set_option maxRecDepth 100000 in
theorem tk_X9_findList : g_okT cX9_findList tb_X9_findList = true := by decide +kernel
abbrev J_X9_findList (E : gE) (l : Launch) : Prop := g_J E cX9_findList RX9 "findList" (some .boolean) 5 tb_X9_findList 5 1 11264 l
set_option maxHeartbeats 4000000 in
set_option maxRecDepth 100000 in
theorem p_X9_findList_106 {l : Launch} {E : gE} (J : J_X9_findList E l) (sx0 : Int32) (σ : gS) (M : gM) (N : gN) (hL : g_layC σ) : g_H E 1 11264 106 [] [vI sx0, vR 12] (σ, M, N) (b_X9_findList_106 sx0 σ M N) (eISMN) := by
  unfold b_X9_findList_106
  refine r_putI J cls9 rfl (k := 2) (by decide) wf_9_19 rfl (Or.inl rfl) ⟨rfl, rfl⟩ (ly_12 hL) ?_
  show g_H E 1 11264 109 [] [] (σ, (g_up M 12 2 sx0), N) _ _
  refine r_run J 1 (pc' := 110) (lv' := []) (st' := [vI 1]) rfl ?_
  exact r_iret J rfl rfl rfl rfl (by decide) (by decide)
set_option maxHeartbeats 4000000 in
set_option maxRecDepth 100000 in
theorem p_X9_findList_82 {l : Launch} {E : gE} (J : J_X9_findList E l) (x4 : Int32) (sx0 : Int32) (σ : gS) (M : gM) (N : gN) (hL : g_layC σ) : g_H E 1 11264 82 [(0, vR 12), (4, vI x4)] [vI sx0, vR 12] (σ, M, N) (b_X9_findList_82 x4 sx0 σ M N) (eISMN) := by
  unfold b_X9_findList_82
  refine r_putI J cls9 rfl (k := 1) (by decide) wf_9_15 rfl (Or.inl rfl) ⟨rfl, rfl⟩ (ly_12 hL) ?_
  show g_H E 1 11264 85 [(0, vR 12), (4, vI x4)] [] (σ, (g_up M 12 1 sx0), N) _ _
  refine r_run J 2 (pc' := 87) (lv' := [(0, vR 12), (4, vI x4)]) (st' := [vR 12, vR 12]) rfl ?_
  refine r_getI J cls9 rfl (k := 12) (by decide) wf_9_53 rfl (ly_12 hL) ?_
  show g_H E 1 11264 90 [(0, vR 12), (4, vI x4)] [vI ((g_up M 12 1 sx0) 12 12), vR 12] (σ, (g_up M 12 1 sx0), N) _ _
  refine r_if_ne J (tgt := 100) rfl (by decide) (fun c90 => ?_) (fun c90 => ?_)
  · refine r_run J 4 (pc' := 106) (lv' := [(0, vR 12), (4, vI x4)]) (st' := [vI (x4 >>> ((4 : Int32) &&& 31)), vR 12]) rfl ?_
    refine r_sub [] (lv' := []) rfl ?_
    exact p_X9_findList_106 J (x4 >>> ((4 : Int32) &&& 31)) σ (g_up M 12 1 sx0) N hL
  · refine r_run J 3 (pc' := 106) (lv' := [(0, vR 12), (4, vI x4)]) (st' := [vI (x4 &&& (16383 : Int32)), vR 12]) rfl ?_
    refine r_sub [] (lv' := []) rfl ?_
    exact p_X9_findList_106 J (x4 &&& (16383 : Int32)) σ (g_up M 12 1 sx0) N hL
set_option maxHeartbeats 4000000 in
set_option maxRecDepth 100000 in
theorem p_X9_findList_0 {l : Launch} {E : gE} (J : J_X9_findList E l) (r2 : Nat) (x3 : Int32) (σ : gS) (M : gM) (N : gN) (hL : g_layC σ) : g_H E 0 0 0 [(0, vR 12), (1, vR 2), (2, vR r2), (3, vI x3)] [] (σ, M, N) (b_X9_findList_0 r2 x3 σ M N) (eISMN) := by
  unfold b_X9_findList_0
  refine r_run J 3 (pc' := 3) (lv' := [(0, vR 12), (1, vR 2), (2, vR r2), (3, vI x3)]) (st' := [vR r2, vR 2, vR 12]) rfl ?_
  refine r_callV J (As := [vR 2, vR r2]) (st := []) (fun r hr => c_X9_gatherGuests r2 σ M N hL r hr) cls9 (ly_12 hL) wm_9_59 wy_X9_gatherGuests wd_X9_gatherGuests ⟨by decide, by decide, by decide, by decide, Nat.le_of_ble_eq_true rfl⟩ rfl rfl (fun q3 hq3 => ?_)
  show g_H E 0 0 6 [(0, vR 12), (1, vR 2), (2, vR r2), (3, vI x3)] [] (σ, q3, N) _ _
  refine r_run J 2 (pc' := 8) (lv' := [(0, vR 12), (1, vR 2), (2, vR r2), (3, vI x3)]) (st' := [vR r2, vR 12]) rfl ?_
  refine r_callV J (As := [vR r2]) (st := []) (fun r hr => c_X9_gatherRooms r2 σ q3 N hL r hr) cls9 (ly_12 hL) wm_9_63 wy_X9_gatherRooms wd_X9_gatherRooms ⟨by decide, by decide, by decide, by decide, Nat.le_of_ble_eq_true rfl⟩ rfl rfl (fun q8 hq8 => ?_)
  show g_H E 0 0 11 [(0, vR 12), (1, vR 2), (2, vR r2), (3, vI x3)] [] (q8.1, q8.2, N) _ _
  refine r_chk (fun hl11 => ?_)
  refine r_run J 1 (pc' := 12) (lv' := [(0, vR 12), (1, vR 2), (2, vR r2), (3, vI x3)]) (st' := [vR 12]) rfl ?_
  refine r_getI J cls9 rfl (k := 9) (by decide) wf_9_44 rfl (ly_12 (g_layC.of hl11)) ?_
  show g_H E 0 0 15 [(0, vR 12), (1, vR 2), (2, vR r2), (3, vI x3)] [vI (q8.2 12 9)] (q8.1, q8.2, N) _ _
  refine r_run J 1 (pc' := 16) (lv' := [(0, vR 12), (1, vR 2), (2, vR r2), (3, vI x3)]) (st' := [vR 12, vI (q8.2 12 9)]) rfl ?_
  refine r_getI J cls9 rfl (k := 11) (by decide) wf_9_50 rfl (ly_12 (g_layC.of hl11)) ?_
  show g_H E 0 0 19 [(0, vR 12), (1, vR 2), (2, vR r2), (3, vI x3)] [vI (q8.2 12 11), vI (q8.2 12 9)] (q8.1, q8.2, N) _ _
  refine r_icmp_le J (tgt := 24) rfl (by decide) (fun c19 => ?_) (fun c19 => ?_)
  · refine r_run J 1 (pc' := 23) (lv' := [(0, vR 12), (1, vR 2), (2, vR r2), (3, vI x3)]) (st' := [vI 0]) rfl ?_
    exact r_iret J rfl rfl rfl rfl (by decide) (by decide)
  · refine r_run J 2 (pc' := 26) (lv' := [(0, vR 12), (1, vR 2), (2, vR r2), (3, vI x3)]) (st' := [vI x3, vR 12]) rfl ?_
    refine r_putI J cls9 rfl (k := 12) (by decide) wf_9_53 rfl (Or.inl rfl) ⟨rfl, rfl⟩ (ly_12 (g_layC.of hl11)) ?_
    show g_H E 0 0 29 [(0, vR 12), (1, vR 2), (2, vR r2), (3, vI x3)] [] (q8.1, (g_up q8.2 12 12 x3), N) _ _
    refine r_run J 1 (pc' := 30) (lv' := [(0, vR 12), (1, vR 2), (2, vR r2), (3, vI x3)]) (st' := [vR 12]) rfl ?_
    refine r_callV J (As := []) (st := []) (fun r hr => c_X9_fillTable q8.1 (g_up q8.2 12 12 x3) N (g_layC.of hl11) r hr) cls9 (ly_12 (g_layC.of hl11)) wm_9_67 wy_X9_fillTable wd_X9_fillTable ⟨by decide, by decide, by decide, by decide, Nat.le_of_ble_eq_true rfl⟩ rfl rfl (fun q30 hq30 => ?_)
    show g_H E 1 11264 33 [(0, vR 12), (1, vR 2), (2, vR r2), (3, vI x3)] [] (q30.1, q30.2.1, q30.2.2) _ _
    refine r_chk (fun hl33 => ?_)
    refine r_run J 1 (pc' := 34) (lv' := [(0, vR 12), (1, vR 2), (2, vR r2), (3, vI x3)]) (st' := [vR 12]) rfl ?_
    refine r_getR J cls9 rfl (k := 13) (t := 14) (by decide) wf_9_56 rfl rfl (ly_12 (g_layC.of hl33)) rfl (fun _ => ?_)
    show g_H E 1 11264 37 [(0, vR 12), (1, vR 2), (2, vR r2), (3, vI x3)] [vR (q30.1.2 12 13)] (q30.1, q30.2.1, q30.2.2) _ _
    refine r_run J 2 (pc' := 39) (lv' := [(0, vR 12), (1, vR 2), (2, vR r2), (3, vI x3)]) (st' := [vR 12, vI 1, vR (q30.1.2 12 13)]) rfl ?_
    refine r_getI J cls9 rfl (k := 9) (by decide) wf_9_44 rfl (ly_12 (g_layC.of hl33)) ?_
    show g_H E 1 11264 42 [(0, vR 12), (1, vR 2), (2, vR r2), (3, vI x3)] [vI (q30.2.1 12 9), vI 1, vR (q30.1.2 12 13)] (q30.1, q30.2.1, q30.2.2) _ _
    refine r_run J 3 (pc' := 45) (lv' := [(0, vR 12), (1, vR 2), (2, vR r2), (3, vI x3)]) (st' := [vI (((1 : Int32) <<< ((q30.2.1 12 9) &&& 31)) - (1 : Int32)), vR (q30.1.2 12 13)]) rfl ?_
    refine r_chk (fun hs45 => ?_)
    refine r_iald J rfl (g_is_at hs45) (fun i45 => ?_)
    show g_H E 1 11264 46 [(0, vR 12), (1, vR 2), (2, vR r2), (3, vI x3)] [vI (q30.2.1 (q30.1.2 12 13) (((1 : Int32) <<< ((q30.2.1 12 9) &&& 31)) - (1 : Int32)).toNatClampNeg)] (q30.1, q30.2.1, q30.2.2) _ _
    refine r_run J 2 (pc' := 50) (lv' := [(4, vI (q30.2.1 (q30.1.2 12 13) (((1 : Int32) <<< ((q30.2.1 12 9) &&& 31)) - (1 : Int32)).toNatClampNeg)), (0, vR 12), (1, vR 2), (2, vR r2), (3, vI x3)]) (st' := [vI (q30.2.1 (q30.1.2 12 13) (((1 : Int32) <<< ((q30.2.1 12 9) &&& 31)) - (1 : Int32)).toNatClampNeg)]) rfl ?_
    refine r_ldc J rfl wc_9_70 ?_
    refine r_icmp_lt J (tgt := 57) rfl (by decide) (fun c52 => ?_) (fun c52 => ?_)
    · refine r_run J 1 (pc' := 58) (lv' := [(4, vI (q30.2.1 (q30.1.2 12 13) (((1 : Int32) <<< ((q30.2.1 12 9) &&& 31)) - (1 : Int32)).toNatClampNeg)), (0, vR 12), (1, vR 2), (2, vR r2), (3, vI x3)]) (st' := [vR 12]) rfl ?_
      refine r_callV J (As := []) (st := []) (fun r hr => c_X9_readPlan q30.1 q30.2.1 q30.2.2 (g_layC.of hl33) r hr) cls9 (ly_12 (g_layC.of hl33)) wm_9_71 wy_X9_readPlan wd_X9_readPlan ⟨by decide, by decide, by decide, by decide, Nat.le_of_ble_eq_true rfl⟩ rfl rfl (fun q58 hq58 => ?_)
      show g_H E 1 11264 61 [(4, vI (q30.2.1 (q30.1.2 12 13) (((1 : Int32) <<< ((q30.2.1 12 9) &&& 31)) - (1 : Int32)).toNatClampNeg)), (0, vR 12), (1, vR 2), (2, vR r2), (3, vI x3)] [] (q30.1, q58, q30.2.2) _ _
      refine r_run J 2 (pc' := 63) (lv' := [(4, vI (q30.2.1 (q30.1.2 12 13) (((1 : Int32) <<< ((q30.2.1 12 9) &&& 31)) - (1 : Int32)).toNatClampNeg)), (0, vR 12), (1, vR 2), (2, vR r2), (3, vI x3)]) (st' := [vR 12, vR 12]) rfl ?_
      refine r_getI J cls9 rfl (k := 12) (by decide) wf_9_53 rfl (ly_12 (g_layC.of hl33)) ?_
      show g_H E 1 11264 66 [(4, vI (q30.2.1 (q30.1.2 12 13) (((1 : Int32) <<< ((q30.2.1 12 9) &&& 31)) - (1 : Int32)).toNatClampNeg)), (0, vR 12), (1, vR 2), (2, vR r2), (3, vI x3)] [vI (q58 12 12), vR 12] (q30.1, q58, q30.2.2) _ _
      refine r_if_ne J (tgt := 77) rfl (by decide) (fun c66 => ?_) (fun c66 => ?_)
      · refine r_run J 4 (pc' := 82) (lv' := [(4, vI (q30.2.1 (q30.1.2 12 13) (((1 : Int32) <<< ((q30.2.1 12 9) &&& 31)) - (1 : Int32)).toNatClampNeg)), (0, vR 12), (1, vR 2), (2, vR r2), (3, vI x3)]) (st' := [vI ((q30.2.1 (q30.1.2 12 13) (((1 : Int32) <<< ((q30.2.1 12 9) &&& 31)) - (1 : Int32)).toNatClampNeg) &&& (15 : Int32)), vR 12]) rfl ?_
        refine r_sub [1, 0] (lv' := [(0, vR 12), (4, vI (q30.2.1 (q30.1.2 12 13) (((1 : Int32) <<< ((q30.2.1 12 9) &&& 31)) - (1 : Int32)).toNatClampNeg))]) rfl ?_
        exact p_X9_findList_82 J (q30.2.1 (q30.1.2 12 13) (((1 : Int32) <<< ((q30.2.1 12 9) &&& 31)) - (1 : Int32)).toNatClampNeg) ((q30.2.1 (q30.1.2 12 13) (((1 : Int32) <<< ((q30.2.1 12 9) &&& 31)) - (1 : Int32)).toNatClampNeg) &&& (15 : Int32)) q30.1 q58 q30.2.2 (g_layC.of hl33)
      · refine r_run J 3 (pc' := 82) (lv' := [(4, vI (q30.2.1 (q30.1.2 12 13) (((1 : Int32) <<< ((q30.2.1 12 9) &&& 31)) - (1 : Int32)).toNatClampNeg)), (0, vR 12), (1, vR 2), (2, vR r2), (3, vI x3)]) (st' := [vI ((q30.2.1 (q30.1.2 12 13) (((1 : Int32) <<< ((q30.2.1 12 9) &&& 31)) - (1 : Int32)).toNatClampNeg) >>> ((14 : Int32) &&& 31)), vR 12]) rfl ?_
        refine r_sub [1, 0] (lv' := [(0, vR 12), (4, vI (q30.2.1 (q30.1.2 12 13) (((1 : Int32) <<< ((q30.2.1 12 9) &&& 31)) - (1 : Int32)).toNatClampNeg))]) rfl ?_
        exact p_X9_findList_82 J (q30.2.1 (q30.1.2 12 13) (((1 : Int32) <<< ((q30.2.1 12 9) &&& 31)) - (1 : Int32)).toNatClampNeg) ((q30.2.1 (q30.1.2 12 13) (((1 : Int32) <<< ((q30.2.1 12 9) &&& 31)) - (1 : Int32)).toNatClampNeg) >>> ((14 : Int32) &&& 31)) q30.1 q58 q30.2.2 (g_layC.of hl33)
    · refine r_run J 1 (pc' := 56) (lv' := [(4, vI (q30.2.1 (q30.1.2 12 13) (((1 : Int32) <<< ((q30.2.1 12 9) &&& 31)) - (1 : Int32)).toNatClampNeg)), (0, vR 12), (1, vR 2), (2, vR r2), (3, vI x3)]) (st' := [vI 0]) rfl ?_
      exact r_iret J rfl rfl rfl rfl (by decide) (by decide)
theorem c_X9_findList {l : Launch} (r2 : Nat) (x3 : Int32) (σ : gS) (M : gM) (N : gN) (hL : g_layC σ) (r : Int32 × gS × gM × gN) (h : f_X9_findList r2 x3 σ M N = some r) : g_Ct l yX9_findList cX9_findList 5 (some .boolean) 5 1 11264 [vR 12, vR 2, vR r2, vI x3] (σ, M, N) (eISMN r) :=
  g_Ct.of tb_X9_findList (by decide +kernel) tk_X9_findList (Nat.le_of_ble_eq_true rfl) (fun E J => p_X9_findList_0 J r2 x3 σ M N hL r h)
def tb_X9_changes : gT := [(0, .iconst 0, 1, 0), (1, .istore_n 2, 1, 0), (2, .iconst 0, 1, 0), (3, .istore_n 3, 1, 0), (4, .iload_n 3, 1, 0), (5, .bipush 10, 2, 10), (7, .if_icmp .ge 26, 3, 0), (10, .aload_n 1, 1, 0), (11, .iload_n 3, 1, 0), (12, .invokevirtual 74, 3, 0), (15, .aload_n 0, 1, 0), (16, .getfield 9, 3, 0), (19, .iload_n 3, 1, 0), (20, .iaload, 1, 0), (21, .if_icmp .eq 6, 3, 0), (24, .iinc 2 1, 3, 1), (27, .iinc 3 1, 3, 1), (30, .goto (-26), 3, 0), (33, .iload_n 2, 1, 0), (34, .ireturn, 1, 0)]
set_option maxRecDepth 100000 in
theorem tk_X9_changes : g_okT cX9_changes tb_X9_changes = true := by decide +kernel
abbrev J_X9_changes (E : gE) (l : Launch) : Prop := g_J E cX9_changes RX9 "changes" (some .int) 4 tb_X9_changes 2 0 0 l
set_option maxHeartbeats 4000000 in
set_option maxRecDepth 100000 in
theorem p_X9_changes_27 {l : Launch} {E : gE} (J : J_X9_changes E l) {k4 : Nat → Int32 → Int32 → gS → gM → Option (Int32)} (H4 : ∀ (r1 : Nat) (x2 : Int32) (x3 : Int32) (σ : gS) (M : gM) (N : gN) (_ : g_layC σ), g_H E 0 0 4 [(0, vR 12), (1, vR r1), (2, vI x2), (3, vI x3)] [] (σ, M, N) (k4 r1 x2 x3 σ M) (eI σ M N)) (r1 : Nat) (x2 : Int32) (x3 : Int32) (σ : gS) (M : gM) (N : gN) (hL : g_layC σ) : g_H E 0 0 27 [(0, vR 12), (1, vR r1), (2, vI x2), (3, vI x3)] [] (σ, M, N) (b_X9_changes_27 k4 r1 x2 x3 σ M) (eI σ M N) := by
  unfold b_X9_changes_27
  refine r_run J 2 (pc' := 4) (lv' := [(3, vI (x3 + 1)), (0, vR 12), (1, vR r1), (2, vI x2)]) (st' := []) rfl ?_
  refine r_sub [1, 2, 3, 0] (lv' := [(0, vR 12), (1, vR r1), (2, vI x2), (3, vI (x3 + 1))]) rfl ?_
  exact H4 r1 x2 (x3 + 1) σ M N hL
set_option maxHeartbeats 4000000 in
set_option maxRecDepth 100000 in
theorem p_X9_changes_4 {l : Launch} {E : gE} (J : J_X9_changes E l) : ∀ (n : Nat) (r1 : Nat) (x2 : Int32) (x3 : Int32) (σ : gS) (M : gM) (N : gN) (hL : g_layC σ), g_H E 0 0 4 [(0, vR 12), (1, vR r1), (2, vI x2), (3, vI x3)] [] (σ, M, N) (l_X9_changes_4 n r1 x2 x3 σ M) (eI σ M N) := by
  intro n
  induction n with
  | zero => intros; exact h_none
  | succ n ih =>
    intro r1 x2 x3 σ M N hL
    rw [l_X9_changes_4]
    refine r_run J 2 (pc' := 7) (lv' := [(0, vR 12), (1, vR r1), (2, vI x2), (3, vI x3)]) (st' := [vI 10, vI x3]) rfl ?_
    refine r_icmp_ge J (tgt := 33) rfl (by decide) (fun c7 => ?_) (fun c7 => ?_)
    · refine r_run J 2 (pc' := 12) (lv' := [(0, vR 12), (1, vR r1), (2, vI x2), (3, vI x3)]) (st' := [vI x3, vR r1]) rfl ?_
      refine r_chk (fun hs12 => ?_)
      refine r_callV J (As := [vI x3]) (st := []) (fun r hr => c_X10_roomOfGuest r1 x3 σ M N hL r hr) cls10 (g_is_at hs12) wm_9_74 wy_X10_roomOfGuest wd_X10_roomOfGuest ⟨by decide, by decide, by decide, by decide, Nat.le_of_ble_eq_true rfl⟩ rfl rfl (fun q12 hq12 => ?_)
      show g_H E 0 0 15 [(0, vR 12), (1, vR r1), (2, vI x2), (3, vI x3)] [vI q12] (σ, M, N) _ _
      refine r_run J 1 (pc' := 16) (lv' := [(0, vR 12), (1, vR r1), (2, vI x2), (3, vI x3)]) (st' := [vR 12, vI q12]) rfl ?_
      refine r_getR J cls9 rfl (k := 0) (t := 14) (by decide) wf_9_9 rfl rfl (ly_12 hL) (lr_12_0 hL) (fun _ => ?_)
      show g_H E 0 0 19 [(0, vR 12), (1, vR r1), (2, vI x2), (3, vI x3)] [vR 13, vI q12] (σ, M, N) _ _
      refine r_run J 1 (pc' := 20) (lv' := [(0, vR 12), (1, vR r1), (2, vI x2), (3, vI x3)]) (st' := [vI x3, vR 13, vI q12]) rfl ?_
      refine r_iald J rfl (ly_13 hL) (fun i20 => ?_)
      show g_H E 0 0 21 [(0, vR 12), (1, vR r1), (2, vI x2), (3, vI x3)] [vI (M 13 x3.toNatClampNeg), vI q12] (σ, M, N) _ _
      refine r_icmp_eq J (tgt := 27) rfl (by decide) (fun c21 => ?_) (fun c21 => ?_)
      · exact p_X9_changes_27 J ih r1 x2 x3 σ M N hL
      · refine r_run J 1 (pc' := 27) (lv' := [(2, vI (x2 + 1)), (0, vR 12), (1, vR r1), (3, vI x3)]) (st' := []) rfl ?_
        refine r_sub [1, 2, 0, 3] (lv' := [(0, vR 12), (1, vR r1), (2, vI (x2 + 1)), (3, vI x3)]) rfl ?_
        exact p_X9_changes_27 J ih r1 (x2 + 1) x3 σ M N hL
    · refine r_run J 1 (pc' := 34) (lv' := [(0, vR 12), (1, vR r1), (2, vI x2), (3, vI x3)]) (st' := [vI x2]) rfl ?_
      exact r_iret J rfl rfl rfl rfl (by decide) (by decide)
set_option maxHeartbeats 4000000 in
set_option maxRecDepth 100000 in
theorem p_X9_changes_0 {l : Launch} {E : gE} (J : J_X9_changes E l) (r1 : Nat) (σ : gS) (M : gM) (N : gN) (hL : g_layC σ) : g_H E 0 0 0 [(0, vR 12), (1, vR r1)] [] (σ, M, N) (b_X9_changes_0 r1 σ M) (eI σ M N) := by
  unfold b_X9_changes_0
  refine r_run J 4 (pc' := 4) (lv' := [(3, vI 0), (2, vI 0), (0, vR 12), (1, vR r1)]) (st' := []) rfl ?_
  refine r_sub [2, 3, 1, 0] (lv' := [(0, vR 12), (1, vR r1), (2, vI 0), (3, vI 0)]) rfl ?_
  exact p_X9_changes_4 J g_FU r1 0 0 σ M N hL
theorem c_X9_changes {l : Launch} (r1 : Nat) (σ : gS) (M : gM) (N : gN) (hL : g_layC σ) (r : Int32) (h : f_X9_changes r1 σ M = some r) : g_Ct l yX9_changes cX9_changes 4 (some .int) 2 0 0 [vR 12, vR r1] (σ, M, N) (eI σ M N r) :=
  g_Ct.of tb_X9_changes (by decide +kernel) tk_X9_changes (Nat.le_of_ble_eq_true rfl) (fun E J => p_X9_changes_0 J r1 σ M N hL r h)
def tb_X9_mostGuests : gT := [(0, .aload_n 0, 1, 0), (1, .aload_n 1, 1, 0), (2, .aload_n 2, 1, 0), (3, .invokevirtual 59, 3, 0), (6, .aload_n 0, 1, 0), (7, .aload_n 2, 1, 0), (8, .invokevirtual 63, 3, 0), (11, .aload_n 0, 1, 0), (12, .iconst 2, 1, 2), (13, .putfield 53, 3, 0), (16, .aload_n 0, 1, 0), (17, .invokevirtual 67, 3, 0), (20, .iconst 0, 1, 0), (21, .istore_n 3, 1, 0), (22, .iconst 0, 1, 0), (23, .istore 4, 2, 0), (25, .iload 4, 2, 0), (27, .iconst 1, 1, 1), (28, .aload_n 0, 1, 0), (29, .getfield 44, 3, 0), (32, .ishl, 1, 0), (33, .if_icmp .ge 31, 3, 0), (36, .aload_n 0, 1, 0), (37, .getfield 56, 3, 0), (40, .iload 4, 2, 0), (42, .iaload, 1, 0), (43, .ldc 70, 2, 0), (45, .if_icmp .ge 13, 3, 0), (48, .iload_n 3, 1, 0), (49, .iload 4, 2, 0), (51, .invokestatic 80, 3, 0), (54, .invokestatic 85, 3, 0), (57, .istore_n 3, 1, 0), (58, .iinc 4 1, 3, 1), (61, .goto (-36), 3, 0), (64, .iload_n 3, 1, 0), (65, .ireturn, 1, 0)]
set_option maxRecDepth 100000 in
theorem tk_X9_mostGuests : g_okT cX9_mostGuests tb_X9_mostGuests = true := by decide +kernel
abbrev J_X9_mostGuests (E : gE) (l : Launch) : Prop := g_J E cX9_mostGuests RX9 "mostGuests" (some .int) 5 tb_X9_mostGuests 5 1 11264 l
set_option maxHeartbeats 4000000 in
set_option maxRecDepth 100000 in
theorem p_X9_mostGuests_58 {l : Launch} {E : gE} (J : J_X9_mostGuests E l) {k25 : Int32 → Int32 → gS → gM → gN → Option (Int32 × gS × gM × gN)} (H25 : ∀ (x3 : Int32) (x4 : Int32) (σ : gS) (M : gM) (N : gN) (_ : g_layC σ), g_H E 1 11264 25 [(0, vR 12), (3, vI x3), (4, vI x4)] [] (σ, M, N) (k25 x3 x4 σ M N) (eISMN)) (x3 : Int32) (x4 : Int32) (σ : gS) (M : gM) (N : gN) (hL : g_layC σ) : g_H E 1 11264 58 [(0, vR 12), (3, vI x3), (4, vI x4)] [] (σ, M, N) (b_X9_mostGuests_58 k25 x3 x4 σ M N) (eISMN) := by
  unfold b_X9_mostGuests_58
  refine r_run J 2 (pc' := 25) (lv' := [(4, vI (x4 + 1)), (0, vR 12), (3, vI x3)]) (st' := []) rfl ?_
  refine r_sub [1, 2, 0] (lv' := [(0, vR 12), (3, vI x3), (4, vI (x4 + 1))]) rfl ?_
  exact H25 x3 (x4 + 1) σ M N hL
set_option maxHeartbeats 4000000 in
set_option maxRecDepth 100000 in
theorem p_X9_mostGuests_25 {l : Launch} {E : gE} (J : J_X9_mostGuests E l) : ∀ (n : Nat) (x3 : Int32) (x4 : Int32) (σ : gS) (M : gM) (N : gN) (hL : g_layC σ), g_H E 1 11264 25 [(0, vR 12), (3, vI x3), (4, vI x4)] [] (σ, M, N) (l_X9_mostGuests_25 n x3 x4 σ M N) (eISMN) := by
  intro n
  induction n with
  | zero => intros; exact h_none
  | succ n ih =>
    intro x3 x4 σ M N hL
    rw [l_X9_mostGuests_25]
    refine r_run J 3 (pc' := 29) (lv' := [(0, vR 12), (3, vI x3), (4, vI x4)]) (st' := [vR 12, vI 1, vI x4]) rfl ?_
    refine r_getI J cls9 rfl (k := 9) (by decide) wf_9_44 rfl (ly_12 hL) ?_
    show g_H E 1 11264 32 [(0, vR 12), (3, vI x3), (4, vI x4)] [vI (M 12 9), vI 1, vI x4] (σ, M, N) _ _
    refine r_run J 1 (pc' := 33) (lv' := [(0, vR 12), (3, vI x3), (4, vI x4)]) (st' := [vI ((1 : Int32) <<< ((M 12 9) &&& 31)), vI x4]) rfl ?_
    refine r_icmp_ge J (tgt := 64) rfl (by decide) (fun c33 => ?_) (fun c33 => ?_)
    · refine r_run J 1 (pc' := 37) (lv' := [(0, vR 12), (3, vI x3), (4, vI x4)]) (st' := [vR 12]) rfl ?_
      refine r_getR J cls9 rfl (k := 13) (t := 14) (by decide) wf_9_56 rfl rfl (ly_12 hL) rfl (fun _ => ?_)
      show g_H E 1 11264 40 [(0, vR 12), (3, vI x3), (4, vI x4)] [vR (σ.2 12 13)] (σ, M, N) _ _
      refine r_run J 1 (pc' := 42) (lv' := [(0, vR 12), (3, vI x3), (4, vI x4)]) (st' := [vI x4, vR (σ.2 12 13)]) rfl ?_
      refine r_chk (fun hs42 => ?_)
      refine r_iald J rfl (g_is_at hs42) (fun i42 => ?_)
      show g_H E 1 11264 43 [(0, vR 12), (3, vI x3), (4, vI x4)] [vI (M (σ.2 12 13) x4.toNatClampNeg)] (σ, M, N) _ _
      refine r_ldc J rfl wc_9_70 ?_
      refine r_icmp_ge J (tgt := 58) rfl (by decide) (fun c45 => ?_) (fun c45 => ?_)
      · refine r_run J 2 (pc' := 51) (lv' := [(0, vR 12), (3, vI x3), (4, vI x4)]) (st' := [vI x4, vI x3]) rfl ?_
        refine r_callS J (As := [vI x4]) (st := [vI x3]) (fun r hr => c_J_bitCount x4 σ M N r hr) wm_9_80 wy_J_bitCount wd_J_bitCount ⟨by decide, by decide, by decide, by decide, Nat.le_of_ble_eq_true rfl⟩ rfl rfl (fun q51 hq51 => ?_)
        show g_H E 1 11264 54 [(0, vR 12), (3, vI x3), (4, vI x4)] [vI q51, vI x3] (σ, M, N) _ _
        refine r_mmax J rfl wm_9_85 ⟨by omega, Nat.le_of_ble_eq_true rfl, by decide, by decide⟩ ?_
        show g_H E 1 11264 57 [(0, vR 12), (3, vI x3), (4, vI x4)] [vI (if x3 < q51 then q51 else x3)] (σ, M, N) _ _
        refine r_run J 1 (pc' := 58) (lv' := [(3, vI (if x3 < q51 then q51 else x3)), (0, vR 12), (4, vI x4)]) (st' := []) rfl ?_
        refine r_sub [1, 0, 2] (lv' := [(0, vR 12), (3, vI (if x3 < q51 then q51 else x3)), (4, vI x4)]) rfl ?_
        exact p_X9_mostGuests_58 J ih (if x3 < q51 then q51 else x3) x4 σ M N hL
      · exact p_X9_mostGuests_58 J ih x3 x4 σ M N hL
    · refine r_run J 1 (pc' := 65) (lv' := [(0, vR 12), (3, vI x3), (4, vI x4)]) (st' := [vI x3]) rfl ?_
      exact r_iret J rfl rfl rfl rfl (by decide) (by decide)
set_option maxHeartbeats 4000000 in
set_option maxRecDepth 100000 in
theorem p_X9_mostGuests_0 {l : Launch} {E : gE} (J : J_X9_mostGuests E l) (r2 : Nat) (σ : gS) (M : gM) (N : gN) (hL : g_layC σ) : g_H E 0 0 0 [(0, vR 12), (1, vR 2), (2, vR r2)] [] (σ, M, N) (b_X9_mostGuests_0 r2 σ M N) (eISMN) := by
  unfold b_X9_mostGuests_0
  refine r_run J 3 (pc' := 3) (lv' := [(0, vR 12), (1, vR 2), (2, vR r2)]) (st' := [vR r2, vR 2, vR 12]) rfl ?_
  refine r_callV J (As := [vR 2, vR r2]) (st := []) (fun r hr => c_X9_gatherGuests r2 σ M N hL r hr) cls9 (ly_12 hL) wm_9_59 wy_X9_gatherGuests wd_X9_gatherGuests ⟨by decide, by decide, by decide, by decide, Nat.le_of_ble_eq_true rfl⟩ rfl rfl (fun q3 hq3 => ?_)
  show g_H E 0 0 6 [(0, vR 12), (1, vR 2), (2, vR r2)] [] (σ, q3, N) _ _
  refine r_run J 2 (pc' := 8) (lv' := [(0, vR 12), (1, vR 2), (2, vR r2)]) (st' := [vR r2, vR 12]) rfl ?_
  refine r_callV J (As := [vR r2]) (st := []) (fun r hr => c_X9_gatherRooms r2 σ q3 N hL r hr) cls9 (ly_12 hL) wm_9_63 wy_X9_gatherRooms wd_X9_gatherRooms ⟨by decide, by decide, by decide, by decide, Nat.le_of_ble_eq_true rfl⟩ rfl rfl (fun q8 hq8 => ?_)
  show g_H E 0 0 11 [(0, vR 12), (1, vR 2), (2, vR r2)] [] (q8.1, q8.2, N) _ _
  refine r_chk (fun hl11 => ?_)
  refine r_run J 2 (pc' := 13) (lv' := [(0, vR 12), (1, vR 2), (2, vR r2)]) (st' := [vI 2, vR 12]) rfl ?_
  refine r_putI J cls9 rfl (k := 12) (by decide) wf_9_53 rfl (Or.inl rfl) ⟨rfl, rfl⟩ (ly_12 (g_layC.of hl11)) ?_
  show g_H E 0 0 16 [(0, vR 12), (1, vR 2), (2, vR r2)] [] (q8.1, (g_up q8.2 12 12 2), N) _ _
  refine r_run J 1 (pc' := 17) (lv' := [(0, vR 12), (1, vR 2), (2, vR r2)]) (st' := [vR 12]) rfl ?_
  refine r_callV J (As := []) (st := []) (fun r hr => c_X9_fillTable q8.1 (g_up q8.2 12 12 2) N (g_layC.of hl11) r hr) cls9 (ly_12 (g_layC.of hl11)) wm_9_67 wy_X9_fillTable wd_X9_fillTable ⟨by decide, by decide, by decide, by decide, Nat.le_of_ble_eq_true rfl⟩ rfl rfl (fun q17 hq17 => ?_)
  show g_H E 1 11264 20 [(0, vR 12), (1, vR 2), (2, vR r2)] [] (q17.1, q17.2.1, q17.2.2) _ _
  refine r_chk (fun hl20 => ?_)
  refine r_run J 4 (pc' := 25) (lv' := [(4, vI 0), (3, vI 0), (0, vR 12), (1, vR 2), (2, vR r2)]) (st' := []) rfl ?_
  refine r_sub [2, 1, 0] (lv' := [(0, vR 12), (3, vI 0), (4, vI 0)]) rfl ?_
  exact p_X9_mostGuests_25 J g_FU 0 0 q17.1 q17.2.1 q17.2.2 (g_layC.of hl20)
theorem c_X9_mostGuests {l : Launch} (r2 : Nat) (σ : gS) (M : gM) (N : gN) (hL : g_layC σ) (r : Int32 × gS × gM × gN) (h : f_X9_mostGuests r2 σ M N = some r) : g_Ct l yX9_mostGuests cX9_mostGuests 5 (some .int) 5 1 11264 [vR 12, vR 2, vR r2] (σ, M, N) (eISMN r) :=
  g_Ct.of tb_X9_mostGuests (by decide +kernel) tk_X9_mostGuests (Nat.le_of_ble_eq_true rfl) (fun E J => p_X9_mostGuests_0 J r2 σ M N hL r h)
def tb_X10_init : gT := [(0, .aload_n 0, 1, 0), (1, .invokespecial 3, 3, 0), (4, .aload_n 0, 1, 0), (5, .bipush 10, 2, 10), (7, .anewarray 9, 3, 0), (10, .putfield 11, 3, 0), (13, .aload_n 0, 1, 0), (14, .bipush 10, 2, 10), (16, .newarray .int, 2, 0), (18, .putfield 17, 3, 0), (21, .aload_n 0, 1, 0), (22, .new 21, 3, 0), (25, .dup, 1, 0), (26, .invokespecial 23, 3, 0), (29, .putfield 24, 3, 0), (32, .aload_n 0, 1, 0), (33, .iconst 0, 1, 0), (34, .putfield 28, 3, 0), (37, .aload_n 0, 1, 0), (38, .iload_n 1, 1, 0), (39, .putfield 32, 3, 0), (42, .aload_n 0, 1, 0), (43, .iload_n 2, 1, 0), (44, .putfield 35, 3, 0), (47, .aload_n 0, 1, 0), (48, .iload_n 3, 1, 0), (49, .putfield 38, 3, 0), (52, .iconst 0, 1, 0), (53, .istore 4, 2, 0), (55, .iload 4, 2, 0), (57, .bipush 10, 2, 10), (59, .if_icmp .ge 17, 3, 0), (62, .aload_n 0, 1, 0), (63, .getfield 17, 3, 0), (66, .iload 4, 2, 0), (68, .iconst (-1), 1, (-1)), (69, .iastore, 1, 0), (70, .iinc 4 1, 3, 1), (73, .goto (-18), 3, 0), (76, .return_, 1, 0)]
set_option maxRecDepth 100000 in
theorem tk_X10_init : g_okT cX10_init tb_X10_init = true := by decide +kernel
abbrev J_X10_init (E : gE) (l : Launch) : Prop := g_J E cX10_init RX10 "<init>" none 5 tb_X10_init 2 8 99 l
set_option maxHeartbeats 4000000 in
set_option maxRecDepth 100000 in
theorem p_X10_init_70 {l : Launch} {E : gE} (J : J_X10_init E l) {k55 : Nat → Int32 → gS → gM → gN → Option (gS × gM × gN)} (H55 : ∀ (r0 : Nat) (x4 : Int32) (σ : gS) (M : gM) (N : gN), g_H E 8 99 55 [(0, vR r0), (4, vI x4)] [] (σ, M, N) (k55 r0 x4 σ M N) (eVSMN)) (r0 : Nat) (x4 : Int32) (σ : gS) (M : gM) (N : gN) : g_H E 8 99 70 [(0, vR r0), (4, vI x4)] [] (σ, M, N) (b_X10_init_70 k55 r0 x4 σ M N) (eVSMN) := by
  unfold b_X10_init_70
  refine r_run J 2 (pc' := 55) (lv' := [(4, vI (x4 + 1)), (0, vR r0)]) (st' := []) rfl ?_
  refine r_sub [1, 0] (lv' := [(0, vR r0), (4, vI (x4 + 1))]) rfl ?_
  exact H55 r0 (x4 + 1) σ M N
set_option maxHeartbeats 4000000 in
set_option maxRecDepth 100000 in
theorem p_X10_init_55 {l : Launch} {E : gE} (J : J_X10_init E l) : ∀ (n : Nat) (r0 : Nat) (x4 : Int32) (σ : gS) (M : gM) (N : gN), g_H E 8 99 55 [(0, vR r0), (4, vI x4)] [] (σ, M, N) (l_X10_init_55 n r0 x4 σ M N) (eVSMN) := by
  intro n
  induction n with
  | zero => intros; exact h_none
  | succ n ih =>
    intro r0 x4 σ M N
    rw [l_X10_init_55]
    refine r_run J 2 (pc' := 59) (lv' := [(0, vR r0), (4, vI x4)]) (st' := [vI 10, vI x4]) rfl ?_
    refine r_icmp_ge J (tgt := 76) rfl (by decide) (fun c59 => ?_) (fun c59 => ?_)
    · refine r_run J 1 (pc' := 63) (lv' := [(0, vR r0), (4, vI x4)]) (st' := [vR r0]) rfl ?_
      refine r_chk (fun hs63 => ?_)
      refine r_getR J cls10 rfl (k := 4) (t := 14) (by decide) wf_10_17 rfl rfl (g_is_at hs63) rfl (fun _ => ?_)
      show g_H E 8 99 66 [(0, vR r0), (4, vI x4)] [vR (σ.2 r0 4)] (σ, M, N) _ _
      refine r_run J 2 (pc' := 69) (lv' := [(0, vR r0), (4, vI x4)]) (st' := [vI (-1), vI x4, vR (σ.2 r0 4)]) rfl ?_
      refine r_chk (fun hs69 => ?_)
      refine r_iast J rfl (g_is_at hs69) (fun i69 => ?_)
      show g_H E 8 99 70 [(0, vR r0), (4, vI x4)] [] (σ, (g_up M (σ.2 r0 4) (x4.toNatClampNeg) (-1)), N) _ _
      exact p_X10_init_70 J ih r0 x4 σ (g_up M (σ.2 r0 4) (x4.toNatClampNeg) (-1)) N
    · exact r_vret J rfl rfl rfl (by decide) (by decide)
set_option maxHeartbeats 4000000 in
set_option maxRecDepth 100000 in
theorem p_X10_init_52 {l : Launch} {E : gE} (J : J_X10_init E l) (r0 : Nat) (σ : gS) (M : gM) (N : gN) : g_H E 8 99 52 [(0, vR r0)] [] (σ, M, N) (b_X10_init_52 r0 σ M N) (eVSMN) := by
  unfold b_X10_init_52
  refine r_run J 2 (pc' := 55) (lv' := [(4, vI 0), (0, vR r0)]) (st' := []) rfl ?_
  refine r_sub [1, 0] (lv' := [(0, vR r0), (4, vI 0)]) rfl ?_
  exact p_X10_init_55 J g_FU r0 0 σ M N
set_option maxHeartbeats 4000000 in
set_option maxRecDepth 100000 in
theorem p_X10_init_47 {l : Launch} {E : gE} (J : J_X10_init E l) (r0 : Nat) (x3 : Int32) (σ : gS) (M : gM) (N : gN) : g_H E 8 99 47 [(0, vR r0), (3, vI x3)] [] (σ, M, N) (b_X10_init_47 r0 x3 σ M N) (eVSMN) := by
  unfold b_X10_init_47
  refine r_run J 2 (pc' := 49) (lv' := [(0, vR r0), (3, vI x3)]) (st' := [vI x3, vR r0]) rfl ?_
  refine r_chk (fun hs49 => ?_)
  refine r_putI J cls10 rfl (k := 2) (by decide) wf_10_38 rfl (Or.inr ⟨rfl, rfl, rfl⟩) ⟨rfl, rfl⟩ (g_is_at hs49) ?_
  show g_H E 8 99 52 [(0, vR r0), (3, vI x3)] [] (σ, (g_up M r0 2 x3), N) _ _
  refine r_sub [0] (lv' := [(0, vR r0)]) rfl ?_
  exact p_X10_init_52 J r0 σ (g_up M r0 2 x3) N
set_option maxHeartbeats 4000000 in
set_option maxRecDepth 100000 in
theorem p_X10_init_42 {l : Launch} {E : gE} (J : J_X10_init E l) (r0 : Nat) (x2 : Int32) (x3 : Int32) (σ : gS) (M : gM) (N : gN) : g_H E 8 99 42 [(0, vR r0), (2, vI x2), (3, vI x3)] [] (σ, M, N) (b_X10_init_42 r0 x2 x3 σ M N) (eVSMN) := by
  unfold b_X10_init_42
  refine r_run J 2 (pc' := 44) (lv' := [(0, vR r0), (2, vI x2), (3, vI x3)]) (st' := [vI x2, vR r0]) rfl ?_
  refine r_chk (fun hs44 => ?_)
  refine r_putI J cls10 rfl (k := 1) (by decide) wf_10_35 rfl (Or.inr ⟨rfl, rfl, rfl⟩) ⟨rfl, rfl⟩ (g_is_at hs44) ?_
  show g_H E 8 99 47 [(0, vR r0), (2, vI x2), (3, vI x3)] [] (σ, (g_up M r0 1 x2), N) _ _
  refine r_sub [0, 2] (lv' := [(0, vR r0), (3, vI x3)]) rfl ?_
  exact p_X10_init_47 J r0 x3 σ (g_up M r0 1 x2) N
set_option maxHeartbeats 4000000 in
set_option maxRecDepth 100000 in
theorem p_X10_init_37 {l : Launch} {E : gE} (J : J_X10_init E l) (r0 : Nat) (x1 : Int32) (x2 : Int32) (x3 : Int32) (σ : gS) (M : gM) (N : gN) : g_H E 8 99 37 [(0, vR r0), (1, vI x1), (2, vI x2), (3, vI x3)] [] (σ, M, N) (b_X10_init_37 r0 x1 x2 x3 σ M N) (eVSMN) := by
  unfold b_X10_init_37
  refine r_run J 2 (pc' := 39) (lv' := [(0, vR r0), (1, vI x1), (2, vI x2), (3, vI x3)]) (st' := [vI x1, vR r0]) rfl ?_
  refine r_chk (fun hs39 => ?_)
  refine r_putI J cls10 rfl (k := 0) (by decide) wf_10_32 rfl (Or.inr ⟨rfl, rfl, rfl⟩) ⟨rfl, rfl⟩ (g_is_at hs39) ?_
  show g_H E 8 99 42 [(0, vR r0), (1, vI x1), (2, vI x2), (3, vI x3)] [] (σ, (g_up M r0 0 x1), N) _ _
  refine r_sub [0, 2, 3] (lv' := [(0, vR r0), (2, vI x2), (3, vI x3)]) rfl ?_
  exact p_X10_init_42 J r0 x2 x3 σ (g_up M r0 0 x1) N
set_option maxHeartbeats 4000000 in
set_option maxRecDepth 100000 in
theorem p_X10_init_32 {l : Launch} {E : gE} (J : J_X10_init E l) (r0 : Nat) (x1 : Int32) (x2 : Int32) (x3 : Int32) (σ : gS) (M : gM) (N : gN) : g_H E 8 99 32 [(0, vR r0), (1, vI x1), (2, vI x2), (3, vI x3)] [] (σ, M, N) (b_X10_init_32 r0 x1 x2 x3 σ M N) (eVSMN) := by
  unfold b_X10_init_32
  refine r_run J 2 (pc' := 34) (lv' := [(0, vR r0), (1, vI x1), (2, vI x2), (3, vI x3)]) (st' := [vI 0, vR r0]) rfl ?_
  refine r_chk (fun hs34 => ?_)
  refine r_putI J cls10 rfl (k := 6) (by decide) wf_10_28 rfl (Or.inl rfl) ⟨rfl, rfl⟩ (g_is_at hs34) ?_
  show g_H E 8 99 37 [(0, vR r0), (1, vI x1), (2, vI x2), (3, vI x3)] [] (σ, (g_up M r0 6 0), N) _ _
  exact p_X10_init_37 J r0 x1 x2 x3 σ (g_up M r0 6 0) N
set_option maxHeartbeats 4000000 in
set_option maxRecDepth 100000 in
theorem p_X10_init_21 {l : Launch} {E : gE} (J : J_X10_init E l) (r0 : Nat) (x1 : Int32) (x2 : Int32) (x3 : Int32) (σ : gS) (M : gM) (N : gN) : g_H E 2 20 21 [(0, vR r0), (1, vI x1), (2, vI x2), (3, vI x3)] [] (σ, M, N) (b_X10_init_21 r0 x1 x2 x3 σ M N) (eVSMN) := by
  unfold b_X10_init_21
  refine r_run J 1 (pc' := 22) (lv' := [(0, vR r0), (1, vI x1), (2, vI x2), (3, vI x3)]) (st' := [vR r0]) rfl ?_
  refine r_chk (fun hf22 => ?_)
  refine r_new J cls2 rfl ⟨wk_10_21, wi_2⟩ df_2 (g_fr_0 hf22) (g_fr_n hf22) (by decide) (by decide) ?_
  show g_H E 3 26 25 [(0, vR r0), (1, vI x1), (2, vI x2), (3, vI x3)] [vR (r0 + 30), vR r0] ((g_nS σ (r0 + 30) 2 0), (g_z M (r0 + 30) 0), (g_z N (r0 + 30) 0)) _ _
  refine r_run J 1 (pc' := 26) (lv' := [(0, vR r0), (1, vI x1), (2, vI x2), (3, vI x3)]) (st' := [vR (r0 + 30), vR (r0 + 30), vR r0]) rfl ?_
  refine r_callIN J (As := []) (st := [vR (r0 + 30), vR r0]) (fun r hr => c_X2_init (r0 + 30) (g_nS σ (r0 + 30) 2 0) (g_z M (r0 + 30) 0) (g_z N (r0 + 30) 0) r hr) (by rw [(g_nS_at σ (r0 + 30) 2 0)]; exact Option.some_ne_none _) wn_10_23 wy_X2_init rfl wd_X2_init ⟨by decide, by decide, by decide, by decide, Nat.le_of_ble_eq_true rfl⟩ rfl rfl (fun q26 hq26 => ?_)
  show g_H E 8 99 29 [(0, vR r0), (1, vI x1), (2, vI x2), (3, vI x3)] [vR (r0 + 30), vR r0] (q26.1, q26.2.1, q26.2.2) _ _
  refine r_chk (fun hs29 => ?_)
  refine r_chk (fun ht29 => ?_)
  refine r_putR J cls10 rfl (k := 5) (t := 2) (by decide) wf_10_24 rfl rfl (Or.inr ⟨rfl, rfl, rfl⟩) (g_is_at hs29) (Or.inr ⟨_, (g_is_at ht29)⟩) ?_
  show g_H E 8 99 32 [(0, vR r0), (1, vI x1), (2, vI x2), (3, vI x3)] [] ((g_pS q26.1 r0 5 (r0 + 30)), q26.2.1, q26.2.2) _ _
  exact p_X10_init_32 J r0 x1 x2 x3 (g_pS q26.1 r0 5 (r0 + 30)) q26.2.1 q26.2.2
set_option maxHeartbeats 4000000 in
set_option maxRecDepth 100000 in
theorem p_X10_init_13 {l : Launch} {E : gE} (J : J_X10_init E l) (r0 : Nat) (x1 : Int32) (x2 : Int32) (x3 : Int32) (σ : gS) (M : gM) (N : gN) : g_H E 1 10 13 [(0, vR r0), (1, vI x1), (2, vI x2), (3, vI x3)] [] (σ, M, N) (b_X10_init_13 r0 x1 x2 x3 σ M N) (eVSMN) := by
  unfold b_X10_init_13
  refine r_run J 2 (pc' := 16) (lv' := [(0, vR r0), (1, vI x1), (2, vI x2), (3, vI x3)]) (st' := [vI 10, vR r0]) rfl ?_
  refine r_chk (fun hf16 => ?_)
  refine r_newI J (B := 10) rfl wa_int (by decide) rfl (Nat.le_refl _) (by decide) (g_fr_0 hf16) (g_fr_n hf16) (by decide) (by decide) ?_
  show g_H E 2 20 18 [(0, vR r0), (1, vI x1), (2, vI x2), (3, vI x3)] [vR (r0 + 20), vR r0] ((g_nS σ (r0 + 20) 14 10), (g_z M (r0 + 20) 0), (g_z N (r0 + 20) 0)) _ _
  refine r_chk (fun hs18 => ?_)
  refine r_putR J cls10 rfl (k := 4) (t := 14) (by decide) wf_10_17 rfl rfl (Or.inr ⟨rfl, rfl, rfl⟩) (g_is_at hs18) (Or.inr ⟨_, (g_nS_at σ (r0 + 20) 14 10)⟩) ?_
  show g_H E 2 20 21 [(0, vR r0), (1, vI x1), (2, vI x2), (3, vI x3)] [] ((g_pS (g_nS σ (r0 + 20) 14 10) r0 4 (r0 + 20)), (g_z M (r0 + 20) 0), (g_z N (r0 + 20) 0)) _ _
  exact p_X10_init_21 J r0 x1 x2 x3 (g_pS (g_nS σ (r0 + 20) 14 10) r0 4 (r0 + 20)) (g_z M (r0 + 20) 0) (g_z N (r0 + 20) 0)
set_option maxHeartbeats 4000000 in
set_option maxRecDepth 100000 in
theorem p_X10_init_0 {l : Launch} {E : gE} (J : J_X10_init E l) (r0 : Nat) (x1 : Int32) (x2 : Int32) (x3 : Int32) (σ : gS) (M : gM) (N : gN) : g_H E 0 0 0 [(0, vR r0), (1, vI x1), (2, vI x2), (3, vI x3)] [] (σ, M, N) (b_X10_init_0 r0 x1 x2 x3 σ M N) (eVSMN) := by
  unfold b_X10_init_0
  refine r_run J 1 (pc' := 1) (lv' := [(0, vR r0), (1, vI x1), (2, vI x2), (3, vI x3)]) (st' := [vR r0]) rfl ?_
  refine r_chk (fun hs1 => ?_)
  refine r_objI J (by rw [(g_is_at hs1)]; exact Option.some_ne_none _) wm_10_3 w_obj rfl ⟨by decide, Nat.le_of_ble_eq_true rfl⟩ ?_
  refine r_run J 2 (pc' := 7) (lv' := [(0, vR r0), (1, vI x1), (2, vI x2), (3, vI x3)]) (st' := [vI 10, vR r0]) rfl ?_
  refine r_chk (fun hf7 => ?_)
  refine r_anew J (B := 10) (Or.inr (Or.inl ⟨rfl, rfl⟩)) rfl wk_10_9 (by decide) rfl (Nat.le_refl _) (by decide) (g_fr_0 hf7) (g_fr_n hf7) (by decide) (by decide) ?_
  show g_H E 1 10 10 [(0, vR r0), (1, vI x1), (2, vI x2), (3, vI x3)] [vR (r0 + 10), vR r0] ((g_nS σ (r0 + 10) 18 10), (g_z M (r0 + 10) 0), (g_z N (r0 + 10) 0)) _ _
  refine r_chk (fun hs10 => ?_)
  refine r_putR J cls10 rfl (k := 3) (t := 18) (by decide) wf_10_11 rfl rfl (Or.inr ⟨rfl, rfl, rfl⟩) (g_is_at hs10) (Or.inr ⟨_, (g_nS_at σ (r0 + 10) 18 10)⟩) ?_
  show g_H E 1 10 13 [(0, vR r0), (1, vI x1), (2, vI x2), (3, vI x3)] [] ((g_pS (g_nS σ (r0 + 10) 18 10) r0 3 (r0 + 10)), (g_z M (r0 + 10) 0), (g_z N (r0 + 10) 0)) _ _
  exact p_X10_init_13 J r0 x1 x2 x3 (g_pS (g_nS σ (r0 + 10) 18 10) r0 3 (r0 + 10)) (g_z M (r0 + 10) 0) (g_z N (r0 + 10) 0)
theorem c_X10_init {l : Launch} (r0 : Nat) (x1 : Int32) (x2 : Int32) (x3 : Int32) (σ : gS) (M : gM) (N : gN) (r : gS × gM × gN) (h : f_X10_init r0 x1 x2 x3 σ M N = some r) : g_Ct l yX10_init cX10_init 5 none 2 8 99 [vR r0, vI x1, vI x2, vI x3] (σ, M, N) (eVSMN r) :=
  g_Ct.of tb_X10_init (by decide +kernel) tk_X10_init (Nat.le_of_ble_eq_true rfl) (fun E J => p_X10_init_0 J r0 x1 x2 x3 σ M N r h)
def tb_X10_add : gT := [(0, .aload_n 0, 1, 0), (1, .getfield 28, 3, 0), (4, .bipush 10, 2, 10), (6, .if_icmp .lt 5, 3, 0), (9, .iconst (-1), 1, (-1)), (10, .ireturn, 1, 0), (11, .aload_n 0, 1, 0), (12, .getfield 11, 3, 0), (15, .aload_n 0, 1, 0), (16, .getfield 28, 3, 0), (19, .aload_n 1, 1, 0), (20, .aastore, 1, 0), (21, .aload_n 0, 1, 0), (22, .dup, 1, 0), (23, .getfield 28, 3, 0), (26, .iconst 1, 1, 1), (27, .iadd, 1, 0), (28, .putfield 28, 3, 0), (31, .aload_n 0, 1, 0), (32, .getfield 28, 3, 0), (35, .iconst 1, 1, 1), (36, .isub, 1, 0), (37, .ireturn, 1, 0)]
set_option maxRecDepth 100000 in
theorem tk_X10_add : g_okT cX10_add tb_X10_add = true := by decide +kernel
abbrev J_X10_add (E : gE) (l : Launch) : Prop := g_J E cX10_add RX10 "add" (some .int) 2 tb_X10_add 1 0 0 l
set_option maxHeartbeats 4000000 in
set_option maxRecDepth 100000 in
theorem p_X10_add_0 {l : Launch} {E : gE} (J : J_X10_add E l) (r0 : Nat) (r1 : Nat) (σ : gS) (M : gM) (N : gN) (hL : g_layC σ) : g_H E 0 0 0 [(0, vR r0), (1, vR r1)] [] (σ, M, N) (b_X10_add_0 r0 r1 σ M) (eISM N) := by
  unfold b_X10_add_0
  refine r_run J 1 (pc' := 1) (lv' := [(0, vR r0), (1, vR r1)]) (st' := [vR r0]) rfl ?_
  refine r_chk (fun hs1 => ?_)
  refine r_getI J cls10 rfl (k := 6) (by decide) wf_10_28 rfl (g_is_at hs1) ?_
  show g_H E 0 0 4 [(0, vR r0), (1, vR r1)] [vI (M r0 6)] (σ, M, N) _ _
  refine r_run J 1 (pc' := 6) (lv' := [(0, vR r0), (1, vR r1)]) (st' := [vI 10, vI (M r0 6)]) rfl ?_
  refine r_icmp_lt J (tgt := 11) rfl (by decide) (fun c6 => ?_) (fun c6 => ?_)
  · refine r_run J 1 (pc' := 12) (lv' := [(0, vR r0), (1, vR r1)]) (st' := [vR r0]) rfl ?_
    refine r_getR J cls10 rfl (k := 3) (t := 18) (by decide) wf_10_11 rfl rfl (g_is_at hs1) rfl (fun _ => ?_)
    show g_H E 0 0 15 [(0, vR r0), (1, vR r1)] [vR (σ.2 r0 3)] (σ, M, N) _ _
    refine r_run J 1 (pc' := 16) (lv' := [(0, vR r0), (1, vR r1)]) (st' := [vR r0, vR (σ.2 r0 3)]) rfl ?_
    refine r_getI J cls10 rfl (k := 6) (by decide) wf_10_28 rfl (g_is_at hs1) ?_
    show g_H E 0 0 19 [(0, vR r0), (1, vR r1)] [vI (M r0 6), vR (σ.2 r0 3)] (σ, M, N) _ _
    refine r_run J 1 (pc' := 20) (lv' := [(0, vR r0), (1, vR r1)]) (st' := [vR r1, vI (M r0 6), vR (σ.2 r0 3)]) rfl ?_
    refine r_chk (fun hs20 => ?_)
    refine r_chk (fun ht20 => ?_)
    refine r_aast J rfl (Or.inr (Or.inl ⟨rfl, rfl⟩)) (g_is_at hs20) (g_is_at ht20) cls8 (fun i20 => ?_)
    show g_H E 0 0 21 [(0, vR r0), (1, vR r1)] [] ((g_pS σ (σ.2 r0 3) ((M r0 6).toNatClampNeg) r1), M, N) _ _
    refine r_chk (fun hl21 => ?_)
    refine r_run J 2 (pc' := 23) (lv' := [(0, vR r0), (1, vR r1)]) (st' := [vR r0, vR r0]) rfl ?_
    refine r_chk (fun hs23 => ?_)
    refine r_getI J cls10 rfl (k := 6) (by decide) wf_10_28 rfl (g_is_at hs23) ?_
    show g_H E 0 0 26 [(0, vR r0), (1, vR r1)] [vI (M r0 6), vR r0] ((g_pS σ (σ.2 r0 3) ((M r0 6).toNatClampNeg) r1), M, N) _ _
    refine r_run J 2 (pc' := 28) (lv' := [(0, vR r0), (1, vR r1)]) (st' := [vI ((M r0 6) + (1 : Int32)), vR r0]) rfl ?_
    refine r_putI J cls10 rfl (k := 6) (by decide) wf_10_28 rfl (Or.inl rfl) ⟨rfl, rfl⟩ (g_is_at hs23) ?_
    show g_H E 0 0 31 [(0, vR r0), (1, vR r1)] [] ((g_pS σ (σ.2 r0 3) ((M r0 6).toNatClampNeg) r1), (g_up M r0 6 ((M r0 6) + (1 : Int32))), N) _ _
    refine r_run J 1 (pc' := 32) (lv' := [(0, vR r0), (1, vR r1)]) (st' := [vR r0]) rfl ?_
    refine r_getI J cls10 rfl (k := 6) (by decide) wf_10_28 rfl (g_is_at hs23) ?_
    show g_H E 0 0 35 [(0, vR r0), (1, vR r1)] [vI ((g_up M r0 6 ((M r0 6) + (1 : Int32))) r0 6)] ((g_pS σ (σ.2 r0 3) ((M r0 6).toNatClampNeg) r1), (g_up M r0 6 ((M r0 6) + (1 : Int32))), N) _ _
    refine r_run J 2 (pc' := 37) (lv' := [(0, vR r0), (1, vR r1)]) (st' := [vI (((g_up M r0 6 ((M r0 6) + (1 : Int32))) r0 6) - (1 : Int32))]) rfl ?_
    exact r_iret J rfl rfl rfl rfl (by decide) (by decide)
  · refine r_run J 1 (pc' := 10) (lv' := [(0, vR r0), (1, vR r1)]) (st' := [vI (-1)]) rfl ?_
    exact r_iret J rfl rfl rfl rfl (by decide) (by decide)
theorem c_X10_add {l : Launch} (r0 : Nat) (r1 : Nat) (σ : gS) (M : gM) (N : gN) (hL : g_layC σ) (r : Int32 × gS × gM) (h : f_X10_add r0 r1 σ M = some r) : g_Ct l yX10_add cX10_add 2 (some .int) 1 0 0 [vR r0, vR r1] (σ, M, N) (eISM N r) :=
  g_Ct.of tb_X10_add (by decide +kernel) tk_X10_add (Nat.le_of_ble_eq_true rfl) (fun E J => p_X10_add_0 J r0 r1 σ M N hL r h)
def tb_X10_move : gT := [(0, .iload_n 1, 1, 0), (1, .ifCond .lt 16, 3, 0), (4, .iload_n 1, 1, 0), (5, .bipush 10, 2, 10), (7, .if_icmp .ge 10, 3, 0), (10, .aload_n 0, 1, 0), (11, .getfield 17, 3, 0), (14, .iload_n 1, 1, 0), (15, .iload_n 2, 1, 0), (16, .iastore, 1, 0), (17, .return_, 1, 0)]
set_option maxRecDepth 100000 in
theorem tk_X10_move : g_okT cX10_move tb_X10_move = true := by decide +kernel
abbrev J_X10_move (E : gE) (l : Launch) : Prop := g_J E cX10_move RX10 "move" none 3 tb_X10_move 1 0 0 l
set_option maxHeartbeats 4000000 in
set_option maxRecDepth 100000 in
theorem p_X10_move_0 {l : Launch} {E : gE} (J : J_X10_move E l) (r0 : Nat) (x1 : Int32) (x2 : Int32) (σ : gS) (M : gM) (N : gN) (hL : g_layC σ) : g_H E 0 0 0 [(0, vR r0), (1, vI x1), (2, vI x2)] [] (σ, M, N) (b_X10_move_0 r0 x1 x2 σ M) (eVM σ N) := by
  unfold b_X10_move_0
  refine r_run J 1 (pc' := 1) (lv' := [(0, vR r0), (1, vI x1), (2, vI x2)]) (st' := [vI x1]) rfl ?_
  refine r_if_lt J (tgt := 17) rfl (by decide) (fun c1 => ?_) (fun c1 => ?_)
  · exact r_vret J rfl rfl rfl (by decide) (by decide)
  · refine r_run J 2 (pc' := 7) (lv' := [(0, vR r0), (1, vI x1), (2, vI x2)]) (st' := [vI 10, vI x1]) rfl ?_
    refine r_icmp_ge J (tgt := 17) rfl (by decide) (fun c7 => ?_) (fun c7 => ?_)
    · refine r_run J 1 (pc' := 11) (lv' := [(0, vR r0), (1, vI x1), (2, vI x2)]) (st' := [vR r0]) rfl ?_
      refine r_chk (fun hs11 => ?_)
      refine r_getR J cls10 rfl (k := 4) (t := 14) (by decide) wf_10_17 rfl rfl (g_is_at hs11) rfl (fun _ => ?_)
      show g_H E 0 0 14 [(0, vR r0), (1, vI x1), (2, vI x2)] [vR (σ.2 r0 4)] (σ, M, N) _ _
      refine r_run J 2 (pc' := 16) (lv' := [(0, vR r0), (1, vI x1), (2, vI x2)]) (st' := [vI x2, vI x1, vR (σ.2 r0 4)]) rfl ?_
      refine r_chk (fun hs16 => ?_)
      refine r_iast J rfl (g_is_at hs16) (fun i16 => ?_)
      show g_H E 0 0 17 [(0, vR r0), (1, vI x1), (2, vI x2)] [] (σ, (g_up M (σ.2 r0 4) (x1.toNatClampNeg) x2), N) _ _
      exact r_vret J rfl rfl rfl (by decide) (by decide)
    · exact r_vret J rfl rfl rfl (by decide) (by decide)
theorem c_X10_move {l : Launch} (r0 : Nat) (x1 : Int32) (x2 : Int32) (σ : gS) (M : gM) (N : gN) (hL : g_layC σ) (r : gM) (h : f_X10_move r0 x1 x2 σ M = some r) : g_Ct l yX10_move cX10_move 3 none 1 0 0 [vR r0, vI x1, vI x2] (σ, M, N) (eVM σ N r) :=
  g_Ct.of tb_X10_move (by decide +kernel) tk_X10_move (Nat.le_of_ble_eq_true rfl) (fun E J => p_X10_move_0 J r0 x1 x2 σ M N hL r h)
def tb_X10_usedRooms : gT := [(0, .iconst 0, 1, 0), (1, .istore_n 1, 1, 0), (2, .iconst 0, 1, 0), (3, .istore_n 2, 1, 0), (4, .iload_n 2, 1, 0), (5, .bipush 10, 2, 10), (7, .if_icmp .ge 30, 3, 0), (10, .aload_n 0, 1, 0), (11, .getfield 17, 3, 0), (14, .iload_n 2, 1, 0), (15, .iaload, 1, 0), (16, .iconst (-1), 1, (-1)), (17, .if_icmp .eq 14, 3, 0), (20, .iload_n 1, 1, 0), (21, .iconst 1, 1, 1), (22, .aload_n 0, 1, 0), (23, .getfield 17, 3, 0), (26, .iload_n 2, 1, 0), (27, .iaload, 1, 0), (28, .ishl, 1, 0), (29, .ior, 1, 0), (30, .istore_n 1, 1, 0), (31, .iinc 2 1, 3, 1), (34, .goto (-30), 3, 0), (37, .iload_n 1, 1, 0), (38, .ireturn, 1, 0)]
set_option maxRecDepth 100000 in
theorem tk_X10_usedRooms : g_okT cX10_usedRooms tb_X10_usedRooms = true := by decide +kernel
abbrev J_X10_usedRooms (E : gE) (l : Launch) : Prop := g_J E cX10_usedRooms RX10 "usedRooms" (some .int) 3 tb_X10_usedRooms 1 0 0 l
set_option maxHeartbeats 4000000 in
set_option maxRecDepth 100000 in
theorem p_X10_usedRooms_31 {l : Launch} {E : gE} (J : J_X10_usedRooms E l) {k4 : Nat → Int32 → Int32 → gS → gM → Option (Int32)} (H4 : ∀ (r0 : Nat) (x1 : Int32) (x2 : Int32) (σ : gS) (M : gM) (N : gN) (_ : g_layC σ), g_H E 0 0 4 [(0, vR r0), (1, vI x1), (2, vI x2)] [] (σ, M, N) (k4 r0 x1 x2 σ M) (eI σ M N)) (r0 : Nat) (x1 : Int32) (x2 : Int32) (σ : gS) (M : gM) (N : gN) (hL : g_layC σ) : g_H E 0 0 31 [(0, vR r0), (1, vI x1), (2, vI x2)] [] (σ, M, N) (b_X10_usedRooms_31 k4 r0 x1 x2 σ M) (eI σ M N) := by
  unfold b_X10_usedRooms_31
  refine r_run J 2 (pc' := 4) (lv' := [(2, vI (x2 + 1)), (0, vR r0), (1, vI x1)]) (st' := []) rfl ?_
  refine r_sub [1, 2, 0] (lv' := [(0, vR r0), (1, vI x1), (2, vI (x2 + 1))]) rfl ?_
  exact H4 r0 x1 (x2 + 1) σ M N hL
set_option maxHeartbeats 4000000 in
set_option maxRecDepth 100000 in
theorem p_X10_usedRooms_4 {l : Launch} {E : gE} (J : J_X10_usedRooms E l) : ∀ (n : Nat) (r0 : Nat) (x1 : Int32) (x2 : Int32) (σ : gS) (M : gM) (N : gN) (hL : g_layC σ), g_H E 0 0 4 [(0, vR r0), (1, vI x1), (2, vI x2)] [] (σ, M, N) (l_X10_usedRooms_4 n r0 x1 x2 σ M) (eI σ M N) := by
  intro n
  induction n with
  | zero => intros; exact h_none
  | succ n ih =>
    intro r0 x1 x2 σ M N hL
    rw [l_X10_usedRooms_4]
    refine r_run J 2 (pc' := 7) (lv' := [(0, vR r0), (1, vI x1), (2, vI x2)]) (st' := [vI 10, vI x2]) rfl ?_
    refine r_icmp_ge J (tgt := 37) rfl (by decide) (fun c7 => ?_) (fun c7 => ?_)
    · refine r_run J 1 (pc' := 11) (lv' := [(0, vR r0), (1, vI x1), (2, vI x2)]) (st' := [vR r0]) rfl ?_
      refine r_chk (fun hs11 => ?_)
      refine r_getR J cls10 rfl (k := 4) (t := 14) (by decide) wf_10_17 rfl rfl (g_is_at hs11) rfl (fun _ => ?_)
      show g_H E 0 0 14 [(0, vR r0), (1, vI x1), (2, vI x2)] [vR (σ.2 r0 4)] (σ, M, N) _ _
      refine r_run J 1 (pc' := 15) (lv' := [(0, vR r0), (1, vI x1), (2, vI x2)]) (st' := [vI x2, vR (σ.2 r0 4)]) rfl ?_
      refine r_chk (fun hs15 => ?_)
      refine r_iald J rfl (g_is_at hs15) (fun i15 => ?_)
      show g_H E 0 0 16 [(0, vR r0), (1, vI x1), (2, vI x2)] [vI (M (σ.2 r0 4) x2.toNatClampNeg)] (σ, M, N) _ _
      refine r_run J 1 (pc' := 17) (lv' := [(0, vR r0), (1, vI x1), (2, vI x2)]) (st' := [vI (-1), vI (M (σ.2 r0 4) x2.toNatClampNeg)]) rfl ?_
      refine r_icmp_eq J (tgt := 31) rfl (by decide) (fun c17 => ?_) (fun c17 => ?_)
      · exact p_X10_usedRooms_31 J ih r0 x1 x2 σ M N hL
      · refine r_run J 3 (pc' := 23) (lv' := [(0, vR r0), (1, vI x1), (2, vI x2)]) (st' := [vR r0, vI 1, vI x1]) rfl ?_
        refine r_getR J cls10 rfl (k := 4) (t := 14) (by decide) wf_10_17 rfl rfl (g_is_at hs11) rfl (fun _ => ?_)
        show g_H E 0 0 26 [(0, vR r0), (1, vI x1), (2, vI x2)] [vR (σ.2 r0 4), vI 1, vI x1] (σ, M, N) _ _
        refine r_run J 1 (pc' := 27) (lv' := [(0, vR r0), (1, vI x1), (2, vI x2)]) (st' := [vI x2, vR (σ.2 r0 4), vI 1, vI x1]) rfl ?_
        refine r_iald J rfl (g_is_at hs15) (fun i27 => ?_)
        show g_H E 0 0 28 [(0, vR r0), (1, vI x1), (2, vI x2)] [vI (M (σ.2 r0 4) x2.toNatClampNeg), vI 1, vI x1] (σ, M, N) _ _
        refine r_run J 3 (pc' := 31) (lv' := [(1, vI (x1 ||| ((1 : Int32) <<< ((M (σ.2 r0 4) x2.toNatClampNeg) &&& 31)))), (0, vR r0), (2, vI x2)]) (st' := []) rfl ?_
        refine r_sub [1, 0, 2] (lv' := [(0, vR r0), (1, vI (x1 ||| ((1 : Int32) <<< ((M (σ.2 r0 4) x2.toNatClampNeg) &&& 31)))), (2, vI x2)]) rfl ?_
        exact p_X10_usedRooms_31 J ih r0 (x1 ||| ((1 : Int32) <<< ((M (σ.2 r0 4) x2.toNatClampNeg) &&& 31))) x2 σ M N hL
    · refine r_run J 1 (pc' := 38) (lv' := [(0, vR r0), (1, vI x1), (2, vI x2)]) (st' := [vI x1]) rfl ?_
      exact r_iret J rfl rfl rfl rfl (by decide) (by decide)
set_option maxHeartbeats 4000000 in
set_option maxRecDepth 100000 in
theorem p_X10_usedRooms_0 {l : Launch} {E : gE} (J : J_X10_usedRooms E l) (r0 : Nat) (σ : gS) (M : gM) (N : gN) (hL : g_layC σ) : g_H E 0 0 0 [(0, vR r0)] [] (σ, M, N) (b_X10_usedRooms_0 r0 σ M) (eI σ M N) := by
  unfold b_X10_usedRooms_0
  refine r_run J 4 (pc' := 4) (lv' := [(2, vI 0), (1, vI 0), (0, vR r0)]) (st' := []) rfl ?_
  refine r_sub [2, 1, 0] (lv' := [(0, vR r0), (1, vI 0), (2, vI 0)]) rfl ?_
  exact p_X10_usedRooms_4 J g_FU r0 0 0 σ M N hL
theorem c_X10_usedRooms {l : Launch} (r0 : Nat) (σ : gS) (M : gM) (N : gN) (hL : g_layC σ) (r : Int32) (h : f_X10_usedRooms r0 σ M = some r) : g_Ct l yX10_usedRooms cX10_usedRooms 3 (some .int) 1 0 0 [vR r0] (σ, M, N) (eI σ M N r) :=
  g_Ct.of tb_X10_usedRooms (by decide +kernel) tk_X10_usedRooms (Nat.le_of_ble_eq_true rfl) (fun E J => p_X10_usedRooms_0 J r0 σ M N hL r h)
def tb_X10_guests : gT := [(0, .bipush 10, 2, 10), (2, .aload_n 0, 1, 0), (3, .iconst (-1), 1, (-1)), (4, .invokevirtual 41, 3, 0), (7, .invokestatic 45, 3, 0), (10, .isub, 1, 0), (11, .ireturn, 1, 0)]
set_option maxRecDepth 100000 in
theorem tk_X10_guests : g_okT cX10_guests tb_X10_guests = true := by decide +kernel
abbrev J_X10_guests (E : gE) (l : Launch) : Prop := g_J E cX10_guests RX10 "guests" (some .int) 1 tb_X10_guests 2 0 0 l
set_option maxHeartbeats 4000000 in
set_option maxRecDepth 100000 in
theorem p_X10_guests_0 {l : Launch} {E : gE} (J : J_X10_guests E l) (r0 : Nat) (σ : gS) (M : gM) (N : gN) (hL : g_layC σ) : g_H E 0 0 0 [(0, vR r0)] [] (σ, M, N) (b_X10_guests_0 r0 σ M) (eI σ M N) := by
  unfold b_X10_guests_0
  refine r_run J 3 (pc' := 4) (lv' := [(0, vR r0)]) (st' := [vI (-1), vR r0, vI 10]) rfl ?_
  refine r_chk (fun hs4 => ?_)
  refine r_callV J (As := [vI (-1)]) (st := [vI 10]) (fun r hr => c_X10_guestsOf r0 (-1) σ M N hL r hr) cls10 (g_is_at hs4) wm_10_41 wy_X10_guestsOf wd_X10_guestsOf ⟨by decide, by decide, by decide, by decide, Nat.le_of_ble_eq_true rfl⟩ rfl rfl (fun q4 hq4 => ?_)
  show g_H E 0 0 7 [(0, vR r0)] [vI q4, vI 10] (σ, M, N) _ _
  refine r_callS J (As := [vI q4]) (st := [vI 10]) (fun r hr => c_J_bitCount q4 σ M N r hr) wm_10_45 wy_J_bitCount wd_J_bitCount ⟨by decide, by decide, by decide, by decide, Nat.le_of_ble_eq_true rfl⟩ rfl rfl (fun q7 hq7 => ?_)
  show g_H E 0 0 10 [(0, vR r0)] [vI q7, vI 10] (σ, M, N) _ _
  refine r_run J 1 (pc' := 11) (lv' := [(0, vR r0)]) (st' := [vI ((10 : Int32) - q7)]) rfl ?_
  exact r_iret J rfl rfl rfl rfl (by decide) (by decide)
theorem c_X10_guests {l : Launch} (r0 : Nat) (σ : gS) (M : gM) (N : gN) (hL : g_layC σ) (r : Int32) (h : f_X10_guests r0 σ M = some r) : g_Ct l yX10_guests cX10_guests 1 (some .int) 2 0 0 [vR r0] (σ, M, N) (eI σ M N r) :=
  g_Ct.of tb_X10_guests (by decide +kernel) tk_X10_guests (Nat.le_of_ble_eq_true rfl) (fun E J => p_X10_guests_0 J r0 σ M N hL r h)
def tb_X10_heldRooms : gT := [(0, .iconst 0, 1, 0), (1, .istore_n 1, 1, 0), (2, .iconst 0, 1, 0), (3, .istore_n 2, 1, 0), (4, .iload_n 2, 1, 0), (5, .aload_n 0, 1, 0), (6, .getfield 28, 3, 0), (9, .if_icmp .ge 24, 3, 0), (12, .aload_n 0, 1, 0), (13, .getfield 11, 3, 0), (16, .iload_n 2, 1, 0), (17, .aaload, 1, 0), (18, .getfield 50, 3, 0), (21, .ifCond .eq 6, 3, 0), (24, .iinc 1 1, 3, 1), (27, .iinc 2 1, 3, 1), (30, .goto (-26), 3, 0), (33, .iload_n 1, 1, 0), (34, .ireturn, 1, 0)]
set_option maxRecDepth 100000 in
theorem tk_X10_heldRooms : g_okT cX10_heldRooms tb_X10_heldRooms = true := by decide +kernel
abbrev J_X10_heldRooms (E : gE) (l : Launch) : Prop := g_J E cX10_heldRooms RX10 "heldRooms" (some .int) 3 tb_X10_heldRooms 1 0 0 l
set_option maxHeartbeats 4000000 in
set_option maxRecDepth 100000 in
theorem p_X10_heldRooms_27 {l : Launch} {E : gE} (J : J_X10_heldRooms E l) {k4 : Nat → Int32 → Int32 → gS → gM → Option (Int32)} (H4 : ∀ (r0 : Nat) (x1 : Int32) (x2 : Int32) (σ : gS) (M : gM) (N : gN) (_ : g_layC σ), g_H E 0 0 4 [(0, vR r0), (1, vI x1), (2, vI x2)] [] (σ, M, N) (k4 r0 x1 x2 σ M) (eI σ M N)) (r0 : Nat) (x1 : Int32) (x2 : Int32) (σ : gS) (M : gM) (N : gN) (hL : g_layC σ) : g_H E 0 0 27 [(0, vR r0), (1, vI x1), (2, vI x2)] [] (σ, M, N) (b_X10_heldRooms_27 k4 r0 x1 x2 σ M) (eI σ M N) := by
  unfold b_X10_heldRooms_27
  refine r_run J 2 (pc' := 4) (lv' := [(2, vI (x2 + 1)), (0, vR r0), (1, vI x1)]) (st' := []) rfl ?_
  refine r_sub [1, 2, 0] (lv' := [(0, vR r0), (1, vI x1), (2, vI (x2 + 1))]) rfl ?_
  exact H4 r0 x1 (x2 + 1) σ M N hL
set_option maxHeartbeats 4000000 in
set_option maxRecDepth 100000 in
theorem p_X10_heldRooms_4 {l : Launch} {E : gE} (J : J_X10_heldRooms E l) : ∀ (n : Nat) (r0 : Nat) (x1 : Int32) (x2 : Int32) (σ : gS) (M : gM) (N : gN) (hL : g_layC σ), g_H E 0 0 4 [(0, vR r0), (1, vI x1), (2, vI x2)] [] (σ, M, N) (l_X10_heldRooms_4 n r0 x1 x2 σ M) (eI σ M N) := by
  intro n
  induction n with
  | zero => intros; exact h_none
  | succ n ih =>
    intro r0 x1 x2 σ M N hL
    rw [l_X10_heldRooms_4]
    refine r_run J 2 (pc' := 6) (lv' := [(0, vR r0), (1, vI x1), (2, vI x2)]) (st' := [vR r0, vI x2]) rfl ?_
    refine r_chk (fun hs6 => ?_)
    refine r_getI J cls10 rfl (k := 6) (by decide) wf_10_28 rfl (g_is_at hs6) ?_
    show g_H E 0 0 9 [(0, vR r0), (1, vI x1), (2, vI x2)] [vI (M r0 6), vI x2] (σ, M, N) _ _
    refine r_icmp_ge J (tgt := 33) rfl (by decide) (fun c9 => ?_) (fun c9 => ?_)
    · refine r_run J 1 (pc' := 13) (lv' := [(0, vR r0), (1, vI x1), (2, vI x2)]) (st' := [vR r0]) rfl ?_
      refine r_getR J cls10 rfl (k := 3) (t := 18) (by decide) wf_10_11 rfl rfl (g_is_at hs6) rfl (fun _ => ?_)
      show g_H E 0 0 16 [(0, vR r0), (1, vI x1), (2, vI x2)] [vR (σ.2 r0 3)] (σ, M, N) _ _
      refine r_run J 1 (pc' := 17) (lv' := [(0, vR r0), (1, vI x1), (2, vI x2)]) (st' := [vI x2, vR (σ.2 r0 3)]) rfl ?_
      refine r_chk (fun hs17 => ?_)
      refine r_aald J rfl (Or.inr (Or.inl ⟨rfl, rfl⟩)) (g_is_at hs17) (fun i17 _ => ?_)
      show g_H E 0 0 18 [(0, vR r0), (1, vI x1), (2, vI x2)] [vR (σ.2 (σ.2 r0 3) x2.toNatClampNeg)] (σ, M, N) _ _
      refine r_chk (fun hs18 => ?_)
      refine r_getI J cls8 rfl (k := 3) (by decide) wf_10_50 rfl (g_is_at hs18) ?_
      show g_H E 0 0 21 [(0, vR r0), (1, vI x1), (2, vI x2)] [vI (M (σ.2 (σ.2 r0 3) x2.toNatClampNeg) 3)] (σ, M, N) _ _
      refine r_if_eq J (tgt := 27) rfl (by decide) (fun c21 => ?_) (fun c21 => ?_)
      · exact p_X10_heldRooms_27 J ih r0 x1 x2 σ M N hL
      · refine r_run J 1 (pc' := 27) (lv' := [(1, vI (x1 + 1)), (0, vR r0), (2, vI x2)]) (st' := []) rfl ?_
        refine r_sub [1, 0, 2] (lv' := [(0, vR r0), (1, vI (x1 + 1)), (2, vI x2)]) rfl ?_
        exact p_X10_heldRooms_27 J ih r0 (x1 + 1) x2 σ M N hL
    · refine r_run J 1 (pc' := 34) (lv' := [(0, vR r0), (1, vI x1), (2, vI x2)]) (st' := [vI x1]) rfl ?_
      exact r_iret J rfl rfl rfl rfl (by decide) (by decide)
set_option maxHeartbeats 4000000 in
set_option maxRecDepth 100000 in
theorem p_X10_heldRooms_0 {l : Launch} {E : gE} (J : J_X10_heldRooms E l) (r0 : Nat) (σ : gS) (M : gM) (N : gN) (hL : g_layC σ) : g_H E 0 0 0 [(0, vR r0)] [] (σ, M, N) (b_X10_heldRooms_0 r0 σ M) (eI σ M N) := by
  unfold b_X10_heldRooms_0
  refine r_run J 4 (pc' := 4) (lv' := [(2, vI 0), (1, vI 0), (0, vR r0)]) (st' := []) rfl ?_
  refine r_sub [2, 1, 0] (lv' := [(0, vR r0), (1, vI 0), (2, vI 0)]) rfl ?_
  exact p_X10_heldRooms_4 J g_FU r0 0 0 σ M N hL
theorem c_X10_heldRooms {l : Launch} (r0 : Nat) (σ : gS) (M : gM) (N : gN) (hL : g_layC σ) (r : Int32) (h : f_X10_heldRooms r0 σ M = some r) : g_Ct l yX10_heldRooms cX10_heldRooms 3 (some .int) 1 0 0 [vR r0] (σ, M, N) (eI σ M N r) :=
  g_Ct.of tb_X10_heldRooms (by decide +kernel) tk_X10_heldRooms (Nat.le_of_ble_eq_true rfl) (fun E J => p_X10_heldRooms_0 J r0 σ M N hL r h)
def tb_X10_cheapestOf : gT := [(0, .iconst (-1), 1, (-1)), (1, .istore_n 2, 1, 0), (2, .iconst 0, 1, 0), (3, .istore_n 3, 1, 0), (4, .iload_n 3, 1, 0), (5, .aload_n 0, 1, 0), (6, .getfield 28, 3, 0), (9, .if_icmp .ge 57, 3, 0), (12, .iload_n 1, 1, 0), (13, .iload_n 3, 1, 0), (14, .ishr, 1, 0), (15, .iconst 1, 1, 1), (16, .iand, 1, 0), (17, .ifCond .eq 7, 3, 0), (20, .iconst 1, 1, 1), (21, .goto 4, 3, 0), (24, .iconst 0, 1, 0), (25, .istore 4, 2, 0), (27, .iload 4, 2, 0), (29, .ifCond .eq 31, 3, 0), (32, .iload_n 2, 1, 0), (33, .iconst (-1), 1, (-1)), (34, .if_icmp .eq 24, 3, 0), (37, .aload_n 0, 1, 0), (38, .getfield 11, 3, 0), (41, .iload_n 3, 1, 0), (42, .aaload, 1, 0), (43, .getfield 61, 3, 0), (46, .aload_n 0, 1, 0), (47, .getfield 11, 3, 0), (50, .iload_n 2, 1, 0), (51, .aaload, 1, 0), (52, .getfield 61, 3, 0), (55, .if_icmp .ge 5, 3, 0), (58, .iload_n 3, 1, 0), (59, .istore_n 2, 1, 0), (60, .iinc 3 1, 3, 1), (63, .goto (-59), 3, 0), (66, .iload_n 2, 1, 0), (67, .ireturn, 1, 0)]
set_option maxRecDepth 100000 in
theorem tk_X10_cheapestOf : g_okT cX10_cheapestOf tb_X10_cheapestOf = true := by decide +kernel
abbrev J_X10_cheapestOf (E : gE) (l : Launch) : Prop := g_J E cX10_cheapestOf RX10 "cheapestOf" (some .int) 5 tb_X10_cheapestOf 1 0 0 l
set_option maxHeartbeats 4000000 in
set_option maxRecDepth 100000 in
theorem p_X10_cheapestOf_60 {l : Launch} {E : gE} (J : J_X10_cheapestOf E l) {k4 : Nat → Int32 → Int32 → Int32 → gS → gM → Option (Int32)} (H4 : ∀ (r0 : Nat) (x1 : Int32) (x2 : Int32) (x3 : Int32) (σ : gS) (M : gM) (N : gN) (_ : g_layC σ), g_H E 0 0 4 [(0, vR r0), (1, vI x1), (2, vI x2), (3, vI x3)] [] (σ, M, N) (k4 r0 x1 x2 x3 σ M) (eI σ M N)) (r0 : Nat) (x1 : Int32) (x2 : Int32) (x3 : Int32) (σ : gS) (M : gM) (N : gN) (hL : g_layC σ) : g_H E 0 0 60 [(0, vR r0), (1, vI x1), (2, vI x2), (3, vI x3)] [] (σ, M, N) (b_X10_cheapestOf_60 k4 r0 x1 x2 x3 σ M) (eI σ M N) := by
  unfold b_X10_cheapestOf_60
  refine r_run J 2 (pc' := 4) (lv' := [(3, vI (x3 + 1)), (0, vR r0), (1, vI x1), (2, vI x2)]) (st' := []) rfl ?_
  refine r_sub [1, 2, 3, 0] (lv' := [(0, vR r0), (1, vI x1), (2, vI x2), (3, vI (x3 + 1))]) rfl ?_
  exact H4 r0 x1 x2 (x3 + 1) σ M N hL
set_option maxHeartbeats 4000000 in
set_option maxRecDepth 100000 in
theorem p_X10_cheapestOf_58 {l : Launch} {E : gE} (J : J_X10_cheapestOf E l) {k4 : Nat → Int32 → Int32 → Int32 → gS → gM → Option (Int32)} (H4 : ∀ (r0 : Nat) (x1 : Int32) (x2 : Int32) (x3 : Int32) (σ : gS) (M : gM) (N : gN) (_ : g_layC σ), g_H E 0 0 4 [(0, vR r0), (1, vI x1), (2, vI x2), (3, vI x3)] [] (σ, M, N) (k4 r0 x1 x2 x3 σ M) (eI σ M N)) (r0 : Nat) (x1 : Int32) (x3 : Int32) (σ : gS) (M : gM) (N : gN) (hL : g_layC σ) : g_H E 0 0 58 [(0, vR r0), (1, vI x1), (3, vI x3)] [] (σ, M, N) (b_X10_cheapestOf_58 k4 r0 x1 x3 σ M) (eI σ M N) := by
  unfold b_X10_cheapestOf_58
  refine r_run J 2 (pc' := 60) (lv' := [(2, vI x3), (0, vR r0), (1, vI x1), (3, vI x3)]) (st' := []) rfl ?_
  refine r_sub [1, 2, 0, 3] (lv' := [(0, vR r0), (1, vI x1), (2, vI x3), (3, vI x3)]) rfl ?_
  exact p_X10_cheapestOf_60 J H4 r0 x1 x3 x3 σ M N hL
set_option maxHeartbeats 4000000 in
set_option maxRecDepth 100000 in
theorem p_X10_cheapestOf_25 {l : Launch} {E : gE} (J : J_X10_cheapestOf E l) {k4 : Nat → Int32 → Int32 → Int32 → gS → gM → Option (Int32)} (H4 : ∀ (r0 : Nat) (x1 : Int32) (x2 : Int32) (x3 : Int32) (σ : gS) (M : gM) (N : gN) (_ : g_layC σ), g_H E 0 0 4 [(0, vR r0), (1, vI x1), (2, vI x2), (3, vI x3)] [] (σ, M, N) (k4 r0 x1 x2 x3 σ M) (eI σ M N)) (r0 : Nat) (x1 : Int32) (x2 : Int32) (x3 : Int32) (sx0 : Int32) (σ : gS) (M : gM) (N : gN) (hL : g_layC σ) : g_H E 0 0 25 [(0, vR r0), (1, vI x1), (2, vI x2), (3, vI x3)] [vI sx0] (σ, M, N) (b_X10_cheapestOf_25 k4 r0 x1 x2 x3 sx0 σ M) (eI σ M N) := by
  unfold b_X10_cheapestOf_25
  refine r_run J 2 (pc' := 29) (lv' := [(4, vI sx0), (0, vR r0), (1, vI x1), (2, vI x2), (3, vI x3)]) (st' := [vI sx0]) rfl ?_
  refine r_if_eq J (tgt := 60) rfl (by decide) (fun c29 => ?_) (fun c29 => ?_)
  · refine r_sub [1, 2, 3, 4] (lv' := [(0, vR r0), (1, vI x1), (2, vI x2), (3, vI x3)]) rfl ?_
    exact p_X10_cheapestOf_60 J H4 r0 x1 x2 x3 σ M N hL
  · refine r_run J 2 (pc' := 34) (lv' := [(4, vI sx0), (0, vR r0), (1, vI x1), (2, vI x2), (3, vI x3)]) (st' := [vI (-1), vI x2]) rfl ?_
    refine r_icmp_eq J (tgt := 58) rfl (by decide) (fun c34 => ?_) (fun c34 => ?_)
    · refine r_sub [1, 2, 4] (lv' := [(0, vR r0), (1, vI x1), (3, vI x3)]) rfl ?_
      exact p_X10_cheapestOf_58 J H4 r0 x1 x3 σ M N hL
    · refine r_run J 1 (pc' := 38) (lv' := [(4, vI sx0), (0, vR r0), (1, vI x1), (2, vI x2), (3, vI x3)]) (st' := [vR r0]) rfl ?_
      refine r_chk (fun hs38 => ?_)
      refine r_getR J cls10 rfl (k := 3) (t := 18) (by decide) wf_10_11 rfl rfl (g_is_at hs38) rfl (fun _ => ?_)
      show g_H E 0 0 41 [(4, vI sx0), (0, vR r0), (1, vI x1), (2, vI x2), (3, vI x3)] [vR (σ.2 r0 3)] (σ, M, N) _ _
      refine r_run J 1 (pc' := 42) (lv' := [(4, vI sx0), (0, vR r0), (1, vI x1), (2, vI x2), (3, vI x3)]) (st' := [vI x3, vR (σ.2 r0 3)]) rfl ?_
      refine r_chk (fun hs42 => ?_)
      refine r_aald J rfl (Or.inr (Or.inl ⟨rfl, rfl⟩)) (g_is_at hs42) (fun i42 _ => ?_)
      show g_H E 0 0 43 [(4, vI sx0), (0, vR r0), (1, vI x1), (2, vI x2), (3, vI x3)] [vR (σ.2 (σ.2 r0 3) x3.toNatClampNeg)] (σ, M, N) _ _
      refine r_chk (fun hs43 => ?_)
      refine r_getI J cls8 rfl (k := 2) (by decide) wf_10_61 rfl (g_is_at hs43) ?_
      show g_H E 0 0 46 [(4, vI sx0), (0, vR r0), (1, vI x1), (2, vI x2), (3, vI x3)] [vI (M (σ.2 (σ.2 r0 3) x3.toNatClampNeg) 2)] (σ, M, N) _ _
      refine r_run J 1 (pc' := 47) (lv' := [(4, vI sx0), (0, vR r0), (1, vI x1), (2, vI x2), (3, vI x3)]) (st' := [vR r0, vI (M (σ.2 (σ.2 r0 3) x3.toNatClampNeg) 2)]) rfl ?_
      refine r_getR J cls10 rfl (k := 3) (t := 18) (by decide) wf_10_11 rfl rfl (g_is_at hs38) rfl (fun _ => ?_)
      show g_H E 0 0 50 [(4, vI sx0), (0, vR r0), (1, vI x1), (2, vI x2), (3, vI x3)] [vR (σ.2 r0 3), vI (M (σ.2 (σ.2 r0 3) x3.toNatClampNeg) 2)] (σ, M, N) _ _
      refine r_run J 1 (pc' := 51) (lv' := [(4, vI sx0), (0, vR r0), (1, vI x1), (2, vI x2), (3, vI x3)]) (st' := [vI x2, vR (σ.2 r0 3), vI (M (σ.2 (σ.2 r0 3) x3.toNatClampNeg) 2)]) rfl ?_
      refine r_aald J rfl (Or.inr (Or.inl ⟨rfl, rfl⟩)) (g_is_at hs42) (fun i51 _ => ?_)
      show g_H E 0 0 52 [(4, vI sx0), (0, vR r0), (1, vI x1), (2, vI x2), (3, vI x3)] [vR (σ.2 (σ.2 r0 3) x2.toNatClampNeg), vI (M (σ.2 (σ.2 r0 3) x3.toNatClampNeg) 2)] (σ, M, N) _ _
      refine r_chk (fun hs52 => ?_)
      refine r_getI J cls8 rfl (k := 2) (by decide) wf_10_61 rfl (g_is_at hs52) ?_
      show g_H E 0 0 55 [(4, vI sx0), (0, vR r0), (1, vI x1), (2, vI x2), (3, vI x3)] [vI (M (σ.2 (σ.2 r0 3) x2.toNatClampNeg) 2), vI (M (σ.2 (σ.2 r0 3) x3.toNatClampNeg) 2)] (σ, M, N) _ _
      refine r_icmp_ge J (tgt := 60) rfl (by decide) (fun c55 => ?_) (fun c55 => ?_)
      · refine r_sub [1, 2, 4] (lv' := [(0, vR r0), (1, vI x1), (3, vI x3)]) rfl ?_
        exact p_X10_cheapestOf_58 J H4 r0 x1 x3 σ M N hL
      · refine r_sub [1, 2, 3, 4] (lv' := [(0, vR r0), (1, vI x1), (2, vI x2), (3, vI x3)]) rfl ?_
        exact p_X10_cheapestOf_60 J H4 r0 x1 x2 x3 σ M N hL
set_option maxHeartbeats 4000000 in
set_option maxRecDepth 100000 in
theorem p_X10_cheapestOf_4 {l : Launch} {E : gE} (J : J_X10_cheapestOf E l) : ∀ (n : Nat) (r0 : Nat) (x1 : Int32) (x2 : Int32) (x3 : Int32) (σ : gS) (M : gM) (N : gN) (hL : g_layC σ), g_H E 0 0 4 [(0, vR r0), (1, vI x1), (2, vI x2), (3, vI x3)] [] (σ, M, N) (l_X10_cheapestOf_4 n r0 x1 x2 x3 σ M) (eI σ M N) := by
  intro n
  induction n with
  | zero => intros; exact h_none
  | succ n ih =>
    intro r0 x1 x2 x3 σ M N hL
    rw [l_X10_cheapestOf_4]
    refine r_run J 2 (pc' := 6) (lv' := [(0, vR r0), (1, vI x1), (2, vI x2), (3, vI x3)]) (st' := [vR r0, vI x3]) rfl ?_
    refine r_chk (fun hs6 => ?_)
    refine r_getI J cls10 rfl (k := 6) (by decide) wf_10_28 rfl (g_is_at hs6) ?_
    show g_H E 0 0 9 [(0, vR r0), (1, vI x1), (2, vI x2), (3, vI x3)] [vI (M r0 6), vI x3] (σ, M, N) _ _
    refine r_icmp_ge J (tgt := 66) rfl (by decide) (fun c9 => ?_) (fun c9 => ?_)
    · refine r_run J 5 (pc' := 17) (lv' := [(0, vR r0), (1, vI x1), (2, vI x2), (3, vI x3)]) (st' := [vI ((x1 >>> (x3 &&& 31)) &&& (1 : Int32))]) rfl ?_
      refine r_if_eq J (tgt := 24) rfl (by decide) (fun c17 => ?_) (fun c17 => ?_)
      · refine r_run J 1 (pc' := 25) (lv' := [(0, vR r0), (1, vI x1), (2, vI x2), (3, vI x3)]) (st' := [vI 0]) rfl ?_
        exact p_X10_cheapestOf_25 J ih r0 x1 x2 x3 0 σ M N hL
      · refine r_run J 2 (pc' := 25) (lv' := [(0, vR r0), (1, vI x1), (2, vI x2), (3, vI x3)]) (st' := [vI 1]) rfl ?_
        exact p_X10_cheapestOf_25 J ih r0 x1 x2 x3 1 σ M N hL
    · refine r_run J 1 (pc' := 67) (lv' := [(0, vR r0), (1, vI x1), (2, vI x2), (3, vI x3)]) (st' := [vI x2]) rfl ?_
      exact r_iret J rfl rfl rfl rfl (by decide) (by decide)
set_option maxHeartbeats 4000000 in
set_option maxRecDepth 100000 in
theorem p_X10_cheapestOf_0 {l : Launch} {E : gE} (J : J_X10_cheapestOf E l) (r0 : Nat) (x1 : Int32) (σ : gS) (M : gM) (N : gN) (hL : g_layC σ) : g_H E 0 0 0 [(0, vR r0), (1, vI x1)] [] (σ, M, N) (b_X10_cheapestOf_0 r0 x1 σ M) (eI σ M N) := by
  unfold b_X10_cheapestOf_0
  refine r_run J 4 (pc' := 4) (lv' := [(3, vI 0), (2, vI (-1)), (0, vR r0), (1, vI x1)]) (st' := []) rfl ?_
  refine r_sub [2, 3, 1, 0] (lv' := [(0, vR r0), (1, vI x1), (2, vI (-1)), (3, vI 0)]) rfl ?_
  exact p_X10_cheapestOf_4 J g_FU r0 x1 (-1) 0 σ M N hL
theorem c_X10_cheapestOf {l : Launch} (r0 : Nat) (x1 : Int32) (σ : gS) (M : gM) (N : gN) (hL : g_layC σ) (r : Int32) (h : f_X10_cheapestOf r0 x1 σ M = some r) : g_Ct l yX10_cheapestOf cX10_cheapestOf 5 (some .int) 1 0 0 [vR r0, vI x1] (σ, M, N) (eI σ M N r) :=
  g_Ct.of tb_X10_cheapestOf (by decide +kernel) tk_X10_cheapestOf (Nat.le_of_ble_eq_true rfl) (fun E J => p_X10_cheapestOf_0 J r0 x1 σ M N hL r h)
def tb_X10_billBut : gT := [(0, .aload_n 0, 1, 0), (1, .invokevirtual 54, 3, 0), (4, .istore_n 2, 1, 0), (5, .iconst 0, 1, 0), (6, .istore_n 3, 1, 0), (7, .iload_n 3, 1, 0), (8, .iload_n 1, 1, 0), (9, .if_icmp .ge 25, 3, 0), (12, .iload_n 2, 1, 0), (13, .ifCond .eq 21, 3, 0), (16, .iload_n 2, 1, 0), (17, .iconst 1, 1, 1), (18, .aload_n 0, 1, 0), (19, .iload_n 2, 1, 0), (20, .invokevirtual 58, 3, 0), (23, .ishl, 1, 0), (24, .iconst (-1), 1, (-1)), (25, .ixor, 1, 0), (26, .iand, 1, 0), (27, .istore_n 2, 1, 0), (28, .iinc 3 1, 3, 1), (31, .goto (-24), 3, 0), (34, .iconst 0, 1, 0), (35, .istore_n 3, 1, 0), (36, .iconst 0, 1, 0), (37, .istore 4, 2, 0), (39, .iload 4, 2, 0), (41, .aload_n 0, 1, 0), (42, .getfield 28, 3, 0), (45, .if_icmp .ge 31, 3, 0), (48, .iload_n 2, 1, 0), (49, .iload 4, 2, 0), (51, .ishr, 1, 0), (52, .iconst 1, 1, 1), (53, .iand, 1, 0), (54, .ifCond .eq 16, 3, 0), (57, .iload_n 3, 1, 0), (58, .aload_n 0, 1, 0), (59, .getfield 11, 3, 0), (62, .iload 4, 2, 0), (64, .aaload, 1, 0), (65, .getfield 61, 3, 0), (68, .iadd, 1, 0), (69, .istore_n 3, 1, 0), (70, .iinc 4 1, 3, 1), (73, .goto (-34), 3, 0), (76, .iload_n 3, 1, 0), (77, .ireturn, 1, 0)]
set_option maxRecDepth 100000 in
theorem tk_X10_billBut : g_okT cX10_billBut tb_X10_billBut = true := by decide +kernel
abbrev J_X10_billBut (E : gE) (l : Launch) : Prop := g_J E cX10_billBut RX10 "billBut" (some .int) 5 tb_X10_billBut 2 0 0 l
set_option maxHeartbeats 4000000 in
set_option maxRecDepth 100000 in
theorem p_X10_billBut_70 {l : Launch} {E : gE} (J : J_X10_billBut E l) {k39 : Nat → Int32 → Int32 → Int32 → gS → gM → Option (Int32)} (H39 : ∀ (r0 : Nat) (x2 : Int32) (x3 : Int32) (x4 : Int32) (σ : gS) (M : gM) (N : gN) (_ : g_layC σ), g_H E 0 0 39 [(0, vR r0), (2, vI x2), (3, vI x3), (4, vI x4)] [] (σ, M, N) (k39 r0 x2 x3 x4 σ M) (eI σ M N)) (r0 : Nat) (x2 : Int32) (x3 : Int32) (x4 : Int32) (σ : gS) (M : gM) (N : gN) (hL : g_layC σ) : g_H E 0 0 70 [(0, vR r0), (2, vI x2), (3, vI x3), (4, vI x4)] [] (σ, M, N) (b_X10_billBut_70 k39 r0 x2 x3 x4 σ M) (eI σ M N) := by
  unfold b_X10_billBut_70
  refine r_run J 2 (pc' := 39) (lv' := [(4, vI (x4 + 1)), (0, vR r0), (2, vI x2), (3, vI x3)]) (st' := []) rfl ?_
  refine r_sub [1, 2, 3, 0] (lv' := [(0, vR r0), (2, vI x2), (3, vI x3), (4, vI (x4 + 1))]) rfl ?_
  exact H39 r0 x2 x3 (x4 + 1) σ M N hL
set_option maxHeartbeats 4000000 in
set_option maxRecDepth 100000 in
theorem p_X10_billBut_39 {l : Launch} {E : gE} (J : J_X10_billBut E l) : ∀ (n : Nat) (r0 : Nat) (x2 : Int32) (x3 : Int32) (x4 : Int32) (σ : gS) (M : gM) (N : gN) (hL : g_layC σ), g_H E 0 0 39 [(0, vR r0), (2, vI x2), (3, vI x3), (4, vI x4)] [] (σ, M, N) (l_X10_billBut_39 n r0 x2 x3 x4 σ M) (eI σ M N) := by
  intro n
  induction n with
  | zero => intros; exact h_none
  | succ n ih =>
    intro r0 x2 x3 x4 σ M N hL
    rw [l_X10_billBut_39]
    refine r_run J 2 (pc' := 42) (lv' := [(0, vR r0), (2, vI x2), (3, vI x3), (4, vI x4)]) (st' := [vR r0, vI x4]) rfl ?_
    refine r_chk (fun hs42 => ?_)
    refine r_getI J cls10 rfl (k := 6) (by decide) wf_10_28 rfl (g_is_at hs42) ?_
    show g_H E 0 0 45 [(0, vR r0), (2, vI x2), (3, vI x3), (4, vI x4)] [vI (M r0 6), vI x4] (σ, M, N) _ _
    refine r_icmp_ge J (tgt := 76) rfl (by decide) (fun c45 => ?_) (fun c45 => ?_)
    · refine r_run J 5 (pc' := 54) (lv' := [(0, vR r0), (2, vI x2), (3, vI x3), (4, vI x4)]) (st' := [vI ((x2 >>> (x4 &&& 31)) &&& (1 : Int32))]) rfl ?_
      refine r_if_eq J (tgt := 70) rfl (by decide) (fun c54 => ?_) (fun c54 => ?_)
      · exact p_X10_billBut_70 J ih r0 x2 x3 x4 σ M N hL
      · refine r_run J 2 (pc' := 59) (lv' := [(0, vR r0), (2, vI x2), (3, vI x3), (4, vI x4)]) (st' := [vR r0, vI x3]) rfl ?_
        refine r_getR J cls10 rfl (k := 3) (t := 18) (by decide) wf_10_11 rfl rfl (g_is_at hs42) rfl (fun _ => ?_)
        show g_H E 0 0 62 [(0, vR r0), (2, vI x2), (3, vI x3), (4, vI x4)] [vR (σ.2 r0 3), vI x3] (σ, M, N) _ _
        refine r_run J 1 (pc' := 64) (lv' := [(0, vR r0), (2, vI x2), (3, vI x3), (4, vI x4)]) (st' := [vI x4, vR (σ.2 r0 3), vI x3]) rfl ?_
        refine r_chk (fun hs64 => ?_)
        refine r_aald J rfl (Or.inr (Or.inl ⟨rfl, rfl⟩)) (g_is_at hs64) (fun i64 _ => ?_)
        show g_H E 0 0 65 [(0, vR r0), (2, vI x2), (3, vI x3), (4, vI x4)] [vR (σ.2 (σ.2 r0 3) x4.toNatClampNeg), vI x3] (σ, M, N) _ _
        refine r_chk (fun hs65 => ?_)
        refine r_getI J cls8 rfl (k := 2) (by decide) wf_10_61 rfl (g_is_at hs65) ?_
        show g_H E 0 0 68 [(0, vR r0), (2, vI x2), (3, vI x3), (4, vI x4)] [vI (M (σ.2 (σ.2 r0 3) x4.toNatClampNeg) 2), vI x3] (σ, M, N) _ _
        refine r_run J 2 (pc' := 70) (lv' := [(3, vI (x3 + (M (σ.2 (σ.2 r0 3) x4.toNatClampNeg) 2))), (0, vR r0), (2, vI x2), (4, vI x4)]) (st' := []) rfl ?_
        refine r_sub [1, 2, 0, 3] (lv' := [(0, vR r0), (2, vI x2), (3, vI (x3 + (M (σ.2 (σ.2 r0 3) x4.toNatClampNeg) 2))), (4, vI x4)]) rfl ?_
        exact p_X10_billBut_70 J ih r0 x2 (x3 + (M (σ.2 (σ.2 r0 3) x4.toNatClampNeg) 2)) x4 σ M N hL
    · refine r_run J 1 (pc' := 77) (lv' := [(0, vR r0), (2, vI x2), (3, vI x3), (4, vI x4)]) (st' := [vI x3]) rfl ?_
      exact r_iret J rfl rfl rfl rfl (by decide) (by decide)
set_option maxHeartbeats 4000000 in
set_option maxRecDepth 100000 in
theorem p_X10_billBut_34 {l : Launch} {E : gE} (J : J_X10_billBut E l) (r0 : Nat) (x2 : Int32) (σ : gS) (M : gM) (N : gN) (hL : g_layC σ) : g_H E 0 0 34 [(0, vR r0), (2, vI x2)] [] (σ, M, N) (b_X10_billBut_34 r0 x2 σ M) (eI σ M N) := by
  unfold b_X10_billBut_34
  refine r_run J 4 (pc' := 39) (lv' := [(4, vI 0), (3, vI 0), (0, vR r0), (2, vI x2)]) (st' := []) rfl ?_
  refine r_sub [2, 3, 1, 0] (lv' := [(0, vR r0), (2, vI x2), (3, vI 0), (4, vI 0)]) rfl ?_
  exact p_X10_billBut_39 J g_FU r0 x2 0 0 σ M N hL
set_option maxHeartbeats 4000000 in
set_option maxRecDepth 100000 in
theorem p_X10_billBut_7 {l : Launch} {E : gE} (J : J_X10_billBut E l) : ∀ (n : Nat) (r0 : Nat) (x1 : Int32) (x2 : Int32) (x3 : Int32) (σ : gS) (M : gM) (N : gN) (hL : g_layC σ), g_H E 0 0 7 [(0, vR r0), (1, vI x1), (2, vI x2), (3, vI x3)] [] (σ, M, N) (l_X10_billBut_7 n r0 x1 x2 x3 σ M) (eI σ M N) := by
  intro n
  induction n with
  | zero => intros; exact h_none
  | succ n ih =>
    intro r0 x1 x2 x3 σ M N hL
    rw [l_X10_billBut_7]
    refine r_run J 2 (pc' := 9) (lv' := [(0, vR r0), (1, vI x1), (2, vI x2), (3, vI x3)]) (st' := [vI x1, vI x3]) rfl ?_
    refine r_icmp_ge J (tgt := 34) rfl (by decide) (fun c9 => ?_) (fun c9 => ?_)
    · refine r_run J 1 (pc' := 13) (lv' := [(0, vR r0), (1, vI x1), (2, vI x2), (3, vI x3)]) (st' := [vI x2]) rfl ?_
      refine r_if_eq J (tgt := 34) rfl (by decide) (fun c13 => ?_) (fun c13 => ?_)
      · refine r_sub [0, 2] (lv' := [(0, vR r0), (2, vI x2)]) rfl ?_
        exact p_X10_billBut_34 J r0 x2 σ M N hL
      · refine r_run J 4 (pc' := 20) (lv' := [(0, vR r0), (1, vI x1), (2, vI x2), (3, vI x3)]) (st' := [vI x2, vR r0, vI 1, vI x2]) rfl ?_
        refine r_chk (fun hs20 => ?_)
        refine r_callV J (As := [vI x2]) (st := [vI 1, vI x2]) (fun r hr => c_X10_cheapestOf r0 x2 σ M N hL r hr) cls10 (g_is_at hs20) wm_10_58 wy_X10_cheapestOf wd_X10_cheapestOf ⟨by decide, by decide, by decide, by decide, Nat.le_of_ble_eq_true rfl⟩ rfl rfl (fun q20 hq20 => ?_)
        show g_H E 0 0 23 [(0, vR r0), (1, vI x1), (2, vI x2), (3, vI x3)] [vI q20, vI 1, vI x2] (σ, M, N) _ _
        refine r_run J 7 (pc' := 7) (lv' := [(3, vI (x3 + 1)), (2, vI (x2 &&& (((1 : Int32) <<< (q20 &&& 31)) ^^^ (-1 : Int32)))), (0, vR r0), (1, vI x1)]) (st' := []) rfl ?_
        refine r_sub [2, 3, 1, 0] (lv' := [(0, vR r0), (1, vI x1), (2, vI (x2 &&& (((1 : Int32) <<< (q20 &&& 31)) ^^^ (-1 : Int32)))), (3, vI (x3 + 1))]) rfl ?_
        exact ih r0 x1 (x2 &&& (((1 : Int32) <<< (q20 &&& 31)) ^^^ (-1 : Int32))) (x3 + 1) σ M N hL
    · refine r_sub [0, 2] (lv' := [(0, vR r0), (2, vI x2)]) rfl ?_
      exact p_X10_billBut_34 J r0 x2 σ M N hL
set_option maxHeartbeats 4000000 in
set_option maxRecDepth 100000 in
theorem p_X10_billBut_0 {l : Launch} {E : gE} (J : J_X10_billBut E l) (r0 : Nat) (x1 : Int32) (σ : gS) (M : gM) (N : gN) (hL : g_layC σ) : g_H E 0 0 0 [(0, vR r0), (1, vI x1)] [] (σ, M, N) (b_X10_billBut_0 r0 x1 σ M) (eI σ M N) := by
  unfold b_X10_billBut_0
  refine r_run J 1 (pc' := 1) (lv' := [(0, vR r0), (1, vI x1)]) (st' := [vR r0]) rfl ?_
  refine r_chk (fun hs1 => ?_)
  refine r_callV J (As := []) (st := []) (fun r hr => c_X10_usedRooms r0 σ M N hL r hr) cls10 (g_is_at hs1) wm_10_54 wy_X10_usedRooms wd_X10_usedRooms ⟨by decide, by decide, by decide, by decide, Nat.le_of_ble_eq_true rfl⟩ rfl rfl (fun q1 hq1 => ?_)
  show g_H E 0 0 4 [(0, vR r0), (1, vI x1)] [vI q1] (σ, M, N) _ _
  refine r_run J 3 (pc' := 7) (lv' := [(3, vI 0), (2, vI q1), (0, vR r0), (1, vI x1)]) (st' := []) rfl ?_
  refine r_sub [2, 3, 1, 0] (lv' := [(0, vR r0), (1, vI x1), (2, vI q1), (3, vI 0)]) rfl ?_
  exact p_X10_billBut_7 J g_FU r0 x1 q1 0 σ M N hL
theorem c_X10_billBut {l : Launch} (r0 : Nat) (x1 : Int32) (σ : gS) (M : gM) (N : gN) (hL : g_layC σ) (r : Int32) (h : f_X10_billBut r0 x1 σ M = some r) : g_Ct l yX10_billBut cX10_billBut 5 (some .int) 2 0 0 [vR r0, vI x1] (σ, M, N) (eI σ M N r) :=
  g_Ct.of tb_X10_billBut (by decide +kernel) tk_X10_billBut (Nat.le_of_ble_eq_true rfl) (fun E J => p_X10_billBut_0 J r0 x1 σ M N hL r h)
def tb_X11_init : gT := [(0, .aload_n 0, 1, 0), (1, .invokespecial 1, 3, 0), (4, .aload_n 0, 1, 0), (5, .new 7, 3, 0), (8, .dup, 1, 0), (9, .invokespecial 9, 3, 0), (12, .putfield 10, 3, 0), (15, .aload_n 0, 1, 0), (16, .bipush 6, 2, 6), (18, .anewarray 16, 3, 0), (21, .putfield 18, 3, 0), (24, .aload_n 0, 1, 0), (25, .new 22, 3, 0), (28, .dup, 1, 0), (29, .invokespecial 24, 3, 0), (32, .putfield 25, 3, 0), (35, .aload_n 0, 1, 0), (36, .new 29, 3, 0), (39, .dup, 1, 0), (40, .invokespecial 31, 3, 0), (43, .putfield 32, 3, 0), (46, .aload_n 0, 1, 0), (47, .new 36, 3, 0), (50, .dup, 1, 0), (51, .invokespecial 38, 3, 0), (54, .putfield 39, 3, 0), (57, .aload_n 0, 1, 0), (58, .new 43, 3, 0), (61, .dup, 1, 0), (62, .invokespecial 45, 3, 0), (65, .putfield 46, 3, 0), (68, .aload_n 0, 1, 0), (69, .new 50, 3, 0), (72, .dup, 1, 0), (73, .invokespecial 52, 3, 0), (76, .putfield 53, 3, 0), (79, .aload_n 0, 1, 0), (80, .new 57, 3, 0), (83, .dup, 1, 0), (84, .invokespecial 59, 3, 0), (87, .putfield 60, 3, 0), (90, .aload_n 0, 1, 0), (91, .iconst 0, 1, 0), (92, .putfield 64, 3, 0), (95, .aload_n 0, 1, 0), (96, .iconst 0, 1, 0), (97, .putfield 68, 3, 0), (100, .aload_n 0, 1, 0), (101, .iconst 0, 1, 0), (102, .putfield 71, 3, 0), (105, .aload_n 0, 1, 0), (106, .bipush 30, 2, 30), (108, .putfield 74, 3, 0), (111, .aload_n 0, 1, 0), (112, .iconst 0, 1, 0), (113, .putfield 77, 3, 0), (116, .aload_n 0, 1, 0), (117, .iconst 0, 1, 0), (118, .putfield 80, 3, 0), (121, .aload_n 0, 1, 0), (122, .iconst (-1), 1, (-1)), (123, .putfield 83, 3, 0), (126, .return_, 1, 0)]
set_option maxRecDepth 100000 in
theorem tk_X11_init : g_okT cX11_init tb_X11_init = true := by decide +kernel
abbrev J_X11_init (E : gE) (l : Launch) : Prop := g_J E cX11_init RX11 "<init>" none 1 tb_X11_init 2 37 3082 l
set_option maxHeartbeats 4000000 in
set_option maxRecDepth 100000 in
theorem p_X11_init_121 {l : Launch} {E : gE} (J : J_X11_init E l) (σ : gS) (M : gM) (N : gN) : g_H E 37 3082 121 [(0, vR 1)] [] (σ, M, N) (b_X11_init_121 σ M N) (eVSMN) := by
  unfold b_X11_init_121
  refine r_run J 2 (pc' := 123) (lv' := [(0, vR 1)]) (st' := [vI (-1), vR 1]) rfl ?_
  refine r_chk (fun hs123 => ?_)
  refine r_putI J cls11 rfl (k := 14) (by decide) wf_11_83 rfl (Or.inl rfl) ⟨rfl, rfl⟩ (g_is_at hs123) ?_
  show g_H E 37 3082 126 [(0, vR 1)] [] (σ, (g_up M 1 14 (-1)), N) _ _
  exact r_vret J rfl rfl rfl (by decide) (by decide)
set_option maxHeartbeats 4000000 in
set_option maxRecDepth 100000 in
theorem p_X11_init_116 {l : Launch} {E : gE} (J : J_X11_init E l) (σ : gS) (M : gM) (N : gN) : g_H E 37 3082 116 [(0, vR 1)] [] (σ, M, N) (b_X11_init_116 σ M N) (eVSMN) := by
  unfold b_X11_init_116
  refine r_run J 2 (pc' := 118) (lv' := [(0, vR 1)]) (st' := [vI 0, vR 1]) rfl ?_
  refine r_chk (fun hs118 => ?_)
  refine r_putI J cls11 rfl (k := 13) (by decide) wf_11_80 rfl (Or.inl rfl) ⟨rfl, rfl⟩ (g_is_at hs118) ?_
  show g_H E 37 3082 121 [(0, vR 1)] [] (σ, (g_up M 1 13 0), N) _ _
  exact p_X11_init_121 J σ (g_up M 1 13 0) N
set_option maxHeartbeats 4000000 in
set_option maxRecDepth 100000 in
theorem p_X11_init_111 {l : Launch} {E : gE} (J : J_X11_init E l) (σ : gS) (M : gM) (N : gN) : g_H E 37 3082 111 [(0, vR 1)] [] (σ, M, N) (b_X11_init_111 σ M N) (eVSMN) := by
  unfold b_X11_init_111
  refine r_run J 2 (pc' := 113) (lv' := [(0, vR 1)]) (st' := [vI 0, vR 1]) rfl ?_
  refine r_chk (fun hs113 => ?_)
  refine r_putI J cls11 rfl (k := 12) (by decide) wf_11_77 rfl (Or.inl rfl) ⟨rfl, rfl⟩ (g_is_at hs113) ?_
  show g_H E 37 3082 116 [(0, vR 1)] [] (σ, (g_up M 1 12 0), N) _ _
  exact p_X11_init_116 J σ (g_up M 1 12 0) N
set_option maxHeartbeats 4000000 in
set_option maxRecDepth 100000 in
theorem p_X11_init_105 {l : Launch} {E : gE} (J : J_X11_init E l) (σ : gS) (M : gM) (N : gN) : g_H E 37 3082 105 [(0, vR 1)] [] (σ, M, N) (b_X11_init_105 σ M N) (eVSMN) := by
  unfold b_X11_init_105
  refine r_run J 2 (pc' := 108) (lv' := [(0, vR 1)]) (st' := [vI 30, vR 1]) rfl ?_
  refine r_chk (fun hs108 => ?_)
  refine r_putI J cls11 rfl (k := 11) (by decide) wf_11_74 rfl (Or.inl rfl) ⟨rfl, rfl⟩ (g_is_at hs108) ?_
  show g_H E 37 3082 111 [(0, vR 1)] [] (σ, (g_up M 1 11 30), N) _ _
  exact p_X11_init_111 J σ (g_up M 1 11 30) N
set_option maxHeartbeats 4000000 in
set_option maxRecDepth 100000 in
theorem p_X11_init_100 {l : Launch} {E : gE} (J : J_X11_init E l) (σ : gS) (M : gM) (N : gN) : g_H E 37 3082 100 [(0, vR 1)] [] (σ, M, N) (b_X11_init_100 σ M N) (eVSMN) := by
  unfold b_X11_init_100
  refine r_run J 2 (pc' := 102) (lv' := [(0, vR 1)]) (st' := [vI 0, vR 1]) rfl ?_
  refine r_chk (fun hs102 => ?_)
  refine r_putI J cls11 rfl (k := 10) (by decide) wf_11_71 rfl (Or.inl rfl) ⟨rfl, rfl⟩ (g_is_at hs102) ?_
  show g_H E 37 3082 105 [(0, vR 1)] [] (σ, (g_up M 1 10 0), N) _ _
  exact p_X11_init_105 J σ (g_up M 1 10 0) N
set_option maxHeartbeats 4000000 in
set_option maxRecDepth 100000 in
theorem p_X11_init_95 {l : Launch} {E : gE} (J : J_X11_init E l) (σ : gS) (M : gM) (N : gN) : g_H E 37 3082 95 [(0, vR 1)] [] (σ, M, N) (b_X11_init_95 σ M N) (eVSMN) := by
  unfold b_X11_init_95
  refine r_run J 2 (pc' := 97) (lv' := [(0, vR 1)]) (st' := [vI 0, vR 1]) rfl ?_
  refine r_chk (fun hs97 => ?_)
  refine r_putI J cls11 rfl (k := 9) (by decide) wf_11_68 rfl (Or.inl rfl) ⟨rfl, rfl⟩ (g_is_at hs97) ?_
  show g_H E 37 3082 100 [(0, vR 1)] [] (σ, (g_up M 1 9 0), N) _ _
  exact p_X11_init_100 J σ (g_up M 1 9 0) N
set_option maxHeartbeats 4000000 in
set_option maxRecDepth 100000 in
theorem p_X11_init_90 {l : Launch} {E : gE} (J : J_X11_init E l) (σ : gS) (M : gM) (N : gN) : g_H E 37 3082 90 [(0, vR 1)] [] (σ, M, N) (b_X11_init_90 σ M N) (eVSMN) := by
  unfold b_X11_init_90
  refine r_run J 2 (pc' := 92) (lv' := [(0, vR 1)]) (st' := [vI 0, vR 1]) rfl ?_
  refine r_chk (fun hs92 => ?_)
  refine r_putI J cls11 rfl (k := 8) (by decide) wf_11_64 rfl (Or.inl rfl) ⟨rfl, rfl⟩ (g_is_at hs92) ?_
  show g_H E 37 3082 95 [(0, vR 1)] [] (σ, (g_up M 1 8 0), N) _ _
  exact p_X11_init_95 J σ (g_up M 1 8 0) N
set_option maxHeartbeats 4000000 in
set_option maxRecDepth 100000 in
theorem p_X11_init_79 {l : Launch} {E : gE} (J : J_X11_init E l) (σ : gS) (M : gM) (N : gN) : g_H E 34 2749 79 [(0, vR 1)] [] (σ, M, N) (b_X11_init_79 σ M N) (eVSMN) := by
  unfold b_X11_init_79
  refine r_run J 1 (pc' := 80) (lv' := [(0, vR 1)]) (st' := [vR 1]) rfl ?_
  refine r_chk (fun hf80 => ?_)
  refine r_new J cls0 rfl ⟨wk_11_57, wi_0⟩ df_0 (g_fr_0 hf80) (g_fr_n hf80) (by decide) (by decide) ?_
  show g_H E 35 2752 83 [(0, vR 1)] [vR 33, vR 1] ((g_nS σ 33 0 0), (g_z M 33 0), (g_z N 33 0)) _ _
  refine r_run J 1 (pc' := 84) (lv' := [(0, vR 1)]) (st' := [vR 33, vR 33, vR 1]) rfl ?_
  refine r_callIN J (As := []) (st := [vR 33, vR 1]) (fun r hr => c_X0_init (g_nS σ 33 0 0) (g_z M 33 0) (g_z N 33 0) r hr) (by rw [(g_nS_at σ 33 0 0)]; exact Option.some_ne_none _) wn_11_59 wy_X0_init rfl wd_X0_init ⟨by decide, by decide, by decide, by decide, Nat.le_of_ble_eq_true rfl⟩ rfl rfl (fun q84 hq84 => ?_)
  show g_H E 37 3082 87 [(0, vR 1)] [vR 33, vR 1] (q84.1, q84.2.1, q84.2.2) _ _
  refine r_chk (fun hs87 => ?_)
  refine r_chk (fun ht87 => ?_)
  refine r_putR J cls11 rfl (k := 7) (t := 0) (by decide) wf_11_60 rfl rfl (Or.inr ⟨rfl, rfl, rfl⟩) (g_is_at hs87) (Or.inr ⟨_, (g_is_at ht87)⟩) ?_
  show g_H E 37 3082 90 [(0, vR 1)] [] ((g_pS q84.1 1 7 33), q84.2.1, q84.2.2) _ _
  exact p_X11_init_90 J (g_pS q84.1 1 7 33) q84.2.1 q84.2.2
set_option maxHeartbeats 4000000 in
set_option maxRecDepth 100000 in
theorem p_X11_init_68 {l : Launch} {E : gE} (J : J_X11_init E l) (σ : gS) (M : gM) (N : gN) : g_H E 25 2641 68 [(0, vR 1)] [] (σ, M, N) (b_X11_init_68 σ M N) (eVSMN) := by
  unfold b_X11_init_68
  refine r_run J 1 (pc' := 69) (lv' := [(0, vR 1)]) (st' := [vR 1]) rfl ?_
  refine r_chk (fun hf69 => ?_)
  refine r_new J cls1 rfl ⟨wk_11_50, wi_1⟩ df_1 (g_fr_0 hf69) (g_fr_n hf69) (by decide) (by decide) ?_
  show g_H E 26 2655 72 [(0, vR 1)] [vR 24, vR 1] ((g_nS σ 24 1 0), (g_z M 24 0), (g_z N 24 0)) _ _
  refine r_run J 1 (pc' := 73) (lv' := [(0, vR 1)]) (st' := [vR 24, vR 24, vR 1]) rfl ?_
  refine r_callIN J (As := []) (st := [vR 24, vR 1]) (fun r hr => c_X1_init (g_nS σ 24 1 0) (g_z M 24 0) (g_z N 24 0) r hr) (by rw [(g_nS_at σ 24 1 0)]; exact Option.some_ne_none _) wn_11_52 wy_X1_init rfl wd_X1_init ⟨by decide, by decide, by decide, by decide, Nat.le_of_ble_eq_true rfl⟩ rfl rfl (fun q73 hq73 => ?_)
  show g_H E 34 2749 76 [(0, vR 1)] [vR 24, vR 1] (q73.1, q73.2.1, q73.2.2) _ _
  refine r_chk (fun hs76 => ?_)
  refine r_chk (fun ht76 => ?_)
  refine r_putR J cls11 rfl (k := 6) (t := 1) (by decide) wf_11_53 rfl rfl (Or.inr ⟨rfl, rfl, rfl⟩) (g_is_at hs76) (Or.inr ⟨_, (g_is_at ht76)⟩) ?_
  show g_H E 34 2749 79 [(0, vR 1)] [] ((g_pS q73.1 1 6 24), q73.2.1, q73.2.2) _ _
  exact p_X11_init_79 J (g_pS q73.1 1 6 24) q73.2.1 q73.2.2
set_option maxHeartbeats 4000000 in
set_option maxRecDepth 100000 in
theorem p_X11_init_57 {l : Launch} {E : gE} (J : J_X11_init E l) (σ : gS) (M : gM) (N : gN) : g_H E 21 2268 57 [(0, vR 1)] [] (σ, M, N) (b_X11_init_57 σ M N) (eVSMN) := by
  unfold b_X11_init_57
  refine r_run J 1 (pc' := 58) (lv' := [(0, vR 1)]) (st' := [vR 1]) rfl ?_
  refine r_chk (fun hf58 => ?_)
  refine r_new J cls3 rfl ⟨wk_11_43, wi_3⟩ df_3 (g_fr_0 hf58) (g_fr_n hf58) (by decide) (by decide) ?_
  show g_H E 22 2278 61 [(0, vR 1)] [vR 20, vR 1] ((g_nS σ 20 3 0), (g_z M 20 0), (g_z N 20 0)) _ _
  refine r_run J 1 (pc' := 62) (lv' := [(0, vR 1)]) (st' := [vR 20, vR 20, vR 1]) rfl ?_
  refine r_callIN J (As := []) (st := [vR 20, vR 1]) (fun r hr => c_X3_init (g_nS σ 20 3 0) (g_z M 20 0) (g_z N 20 0) r hr) (by rw [(g_nS_at σ 20 3 0)]; exact Option.some_ne_none _) wn_11_45 wy_X3_init rfl wd_X3_init ⟨by decide, by decide, by decide, by decide, Nat.le_of_ble_eq_true rfl⟩ rfl rfl (fun q62 hq62 => ?_)
  show g_H E 25 2641 65 [(0, vR 1)] [vR 20, vR 1] (q62.1, q62.2.1, q62.2.2) _ _
  refine r_chk (fun hs65 => ?_)
  refine r_chk (fun ht65 => ?_)
  refine r_putR J cls11 rfl (k := 5) (t := 3) (by decide) wf_11_46 rfl rfl (Or.inr ⟨rfl, rfl, rfl⟩) (g_is_at hs65) (Or.inr ⟨_, (g_is_at ht65)⟩) ?_
  show g_H E 25 2641 68 [(0, vR 1)] [] ((g_pS q62.1 1 5 20), q62.2.1, q62.2.2) _ _
  exact p_X11_init_68 J (g_pS q62.1 1 5 20) q62.2.1 q62.2.2
set_option maxHeartbeats 4000000 in
set_option maxRecDepth 100000 in
theorem p_X11_init_46 {l : Launch} {E : gE} (J : J_X11_init E l) (σ : gS) (M : gM) (N : gN) : g_H E 12 2184 46 [(0, vR 1)] [] (σ, M, N) (b_X11_init_46 σ M N) (eVSMN) := by
  unfold b_X11_init_46
  refine r_run J 1 (pc' := 47) (lv' := [(0, vR 1)]) (st' := [vR 1]) rfl ?_
  refine r_chk (fun hf47 => ?_)
  refine r_new J cls9 rfl ⟨wk_11_36, wi_9⟩ df_9 (g_fr_0 hf47) (g_fr_n hf47) (by decide) (by decide) ?_
  show g_H E 13 2198 50 [(0, vR 1)] [vR 12, vR 1] ((g_nS σ 12 9 0), (g_z M 12 0), (g_z N 12 0)) _ _
  refine r_run J 1 (pc' := 51) (lv' := [(0, vR 1)]) (st' := [vR 12, vR 12, vR 1]) rfl ?_
  refine r_callIN J (As := []) (st := [vR 12, vR 1]) (fun r hr => c_X9_init (g_nS σ 12 9 0) (g_z M 12 0) (g_z N 12 0) r hr) (by rw [(g_nS_at σ 12 9 0)]; exact Option.some_ne_none _) wn_11_38 wy_X9_init rfl wd_X9_init ⟨by decide, by decide, by decide, by decide, Nat.le_of_ble_eq_true rfl⟩ rfl rfl (fun q51 hq51 => ?_)
  show g_H E 21 2268 54 [(0, vR 1)] [vR 12, vR 1] (q51.1, q51.2.1, q51.2.2) _ _
  refine r_chk (fun hs54 => ?_)
  refine r_chk (fun ht54 => ?_)
  refine r_putR J cls11 rfl (k := 4) (t := 9) (by decide) wf_11_39 rfl rfl (Or.inr ⟨rfl, rfl, rfl⟩) (g_is_at hs54) (Or.inr ⟨_, (g_is_at ht54)⟩) ?_
  show g_H E 21 2268 57 [(0, vR 1)] [] ((g_pS q51.1 1 4 12), q51.2.1, q51.2.2) _ _
  exact p_X11_init_57 J (g_pS q51.1 1 4 12) q51.2.1 q51.2.2
set_option maxHeartbeats 4000000 in
set_option maxRecDepth 100000 in
theorem p_X11_init_35 {l : Launch} {E : gE} (J : J_X11_init E l) (σ : gS) (M : gM) (N : gN) : g_H E 5 520 35 [(0, vR 1)] [] (σ, M, N) (b_X11_init_35 σ M N) (eVSMN) := by
  unfold b_X11_init_35
  refine r_run J 1 (pc' := 36) (lv' := [(0, vR 1)]) (st' := [vR 1]) rfl ?_
  refine r_chk (fun hf36 => ?_)
  refine r_new J cls7 rfl ⟨wk_11_29, wi_7⟩ df_7 (g_fr_0 hf36) (g_fr_n hf36) (by decide) (by decide) ?_
  show g_H E 6 534 39 [(0, vR 1)] [vR 7, vR 1] ((g_nS σ 7 7 0), (g_z M 7 0), (g_z N 7 0)) _ _
  refine r_run J 1 (pc' := 40) (lv' := [(0, vR 1)]) (st' := [vR 7, vR 7, vR 1]) rfl ?_
  refine r_callIN J (As := []) (st := [vR 7, vR 1]) (fun r hr => c_X7_init (g_nS σ 7 7 0) (g_z M 7 0) (g_z N 7 0) r hr) (by rw [(g_nS_at σ 7 7 0)]; exact Option.some_ne_none _) wn_11_31 wy_X7_init rfl wd_X7_init ⟨by decide, by decide, by decide, by decide, Nat.le_of_ble_eq_true rfl⟩ rfl rfl (fun q40 hq40 => ?_)
  show g_H E 12 2184 43 [(0, vR 1)] [vR 7, vR 1] (q40.1, q40.2.1, q40.2.2) _ _
  refine r_chk (fun hs43 => ?_)
  refine r_chk (fun ht43 => ?_)
  refine r_putR J cls11 rfl (k := 3) (t := 7) (by decide) wf_11_32 rfl rfl (Or.inr ⟨rfl, rfl, rfl⟩) (g_is_at hs43) (Or.inr ⟨_, (g_is_at ht43)⟩) ?_
  show g_H E 12 2184 46 [(0, vR 1)] [] ((g_pS q40.1 1 3 7), q40.2.1, q40.2.2) _ _
  exact p_X11_init_46 J (g_pS q40.1 1 3 7) q40.2.1 q40.2.2
set_option maxHeartbeats 4000000 in
set_option maxRecDepth 100000 in
theorem p_X11_init_24 {l : Launch} {E : gE} (J : J_X11_init E l) (σ : gS) (M : gM) (N : gN) : g_H E 3 18 24 [(0, vR 1)] [] (σ, M, N) (b_X11_init_24 σ M N) (eVSMN) := by
  unfold b_X11_init_24
  refine r_run J 1 (pc' := 25) (lv' := [(0, vR 1)]) (st' := [vR 1]) rfl ?_
  refine r_chk (fun hf25 => ?_)
  refine r_new J cls4 rfl ⟨wk_11_22, wi_4⟩ df_4 (g_fr_0 hf25) (g_fr_n hf25) (by decide) (by decide) ?_
  show g_H E 4 20 28 [(0, vR 1)] [vR 5, vR 1] ((g_nS σ 5 4 0), (g_z M 5 0), (g_z N 5 0)) _ _
  refine r_run J 1 (pc' := 29) (lv' := [(0, vR 1)]) (st' := [vR 5, vR 5, vR 1]) rfl ?_
  refine r_callIN J (As := []) (st := [vR 5, vR 1]) (fun r hr => c_X4_init (g_nS σ 5 4 0) (g_z M 5 0) (g_z N 5 0) r hr) (by rw [(g_nS_at σ 5 4 0)]; exact Option.some_ne_none _) wn_11_24 wy_X4_init rfl wd_X4_init ⟨by decide, by decide, by decide, by decide, Nat.le_of_ble_eq_true rfl⟩ rfl rfl (fun q29 hq29 => ?_)
  show g_H E 5 520 32 [(0, vR 1)] [vR 5, vR 1] (q29.1, q29.2.1, q29.2.2) _ _
  refine r_chk (fun hs32 => ?_)
  refine r_chk (fun ht32 => ?_)
  refine r_putR J cls11 rfl (k := 2) (t := 4) (by decide) wf_11_25 rfl rfl (Or.inr ⟨rfl, rfl, rfl⟩) (g_is_at hs32) (Or.inr ⟨_, (g_is_at ht32)⟩) ?_
  show g_H E 5 520 35 [(0, vR 1)] [] ((g_pS q29.1 1 2 5), q29.2.1, q29.2.2) _ _
  exact p_X11_init_35 J (g_pS q29.1 1 2 5) q29.2.1 q29.2.2
set_option maxHeartbeats 4000000 in
set_option maxRecDepth 100000 in
theorem p_X11_init_15 {l : Launch} {E : gE} (J : J_X11_init E l) (σ : gS) (M : gM) (N : gN) : g_H E 2 12 15 [(0, vR 1)] [] (σ, M, N) (b_X11_init_15 σ M N) (eVSMN) := by
  unfold b_X11_init_15
  refine r_run J 2 (pc' := 18) (lv' := [(0, vR 1)]) (st' := [vI 6, vR 1]) rfl ?_
  refine r_chk (fun hf18 => ?_)
  refine r_anew J (B := 6) (Or.inr (Or.inr ⟨rfl, rfl⟩)) rfl wk_11_16 (by decide) rfl (Nat.le_refl _) (by decide) (g_fr_0 hf18) (g_fr_n hf18) (by decide) (by decide) ?_
  show g_H E 3 18 21 [(0, vR 1)] [vR 4, vR 1] ((g_nS σ 4 19 6), (g_z M 4 0), (g_z N 4 0)) _ _
  refine r_chk (fun hs21 => ?_)
  refine r_putR J cls11 rfl (k := 1) (t := 19) (by decide) wf_11_18 rfl rfl (Or.inr ⟨rfl, rfl, rfl⟩) (g_is_at hs21) (Or.inr ⟨_, (g_nS_at σ 4 19 6)⟩) ?_
  show g_H E 3 18 24 [(0, vR 1)] [] ((g_pS (g_nS σ 4 19 6) 1 1 4), (g_z M 4 0), (g_z N 4 0)) _ _
  exact p_X11_init_24 J (g_pS (g_nS σ 4 19 6) 1 1 4) (g_z M 4 0) (g_z N 4 0)
set_option maxHeartbeats 4000000 in
set_option maxRecDepth 100000 in
theorem p_X11_init_0 {l : Launch} {E : gE} (J : J_X11_init E l) (σ : gS) (M : gM) (N : gN) : g_H E 0 0 0 [(0, vR 1)] [] (σ, M, N) (b_X11_init_0 σ M N) (eVSMN) := by
  unfold b_X11_init_0
  refine r_run J 1 (pc' := 1) (lv' := [(0, vR 1)]) (st' := [vR 1]) rfl ?_
  refine r_chk (fun hs1 => ?_)
  refine r_objI J (by rw [(g_is_at hs1)]; exact Option.some_ne_none _) wm_11_1 w_obj rfl ⟨by decide, Nat.le_of_ble_eq_true rfl⟩ ?_
  refine r_run J 1 (pc' := 5) (lv' := [(0, vR 1)]) (st' := [vR 1]) rfl ?_
  refine r_chk (fun hf5 => ?_)
  refine r_new J cls5 rfl ⟨wk_11_7, wi_5⟩ df_5 (g_fr_0 hf5) (g_fr_n hf5) (by decide) (by decide) ?_
  show g_H E 1 2 8 [(0, vR 1)] [vR 2, vR 1] ((g_nS σ 2 5 0), (g_z M 2 0), (g_z N 2 0)) _ _
  refine r_run J 1 (pc' := 9) (lv' := [(0, vR 1)]) (st' := [vR 2, vR 2, vR 1]) rfl ?_
  refine r_callIN J (As := []) (st := [vR 2, vR 1]) (fun r hr => c_X5_init (g_nS σ 2 5 0) (g_z M 2 0) (g_z N 2 0) r hr) (by rw [(g_nS_at σ 2 5 0)]; exact Option.some_ne_none _) wn_11_9 wy_X5_init rfl wd_X5_init ⟨by decide, by decide, by decide, by decide, Nat.le_of_ble_eq_true rfl⟩ rfl rfl (fun q9 hq9 => ?_)
  show g_H E 2 12 12 [(0, vR 1)] [vR 2, vR 1] (q9.1, q9.2.1, q9.2.2) _ _
  refine r_chk (fun hs12 => ?_)
  refine r_chk (fun ht12 => ?_)
  refine r_putR J cls11 rfl (k := 0) (t := 5) (by decide) wf_11_10 rfl rfl (Or.inr ⟨rfl, rfl, rfl⟩) (g_is_at hs12) (Or.inr ⟨_, (g_is_at ht12)⟩) ?_
  show g_H E 2 12 15 [(0, vR 1)] [] ((g_pS q9.1 1 0 2), q9.2.1, q9.2.2) _ _
  exact p_X11_init_15 J (g_pS q9.1 1 0 2) q9.2.1 q9.2.2
theorem c_X11_init {l : Launch} (σ : gS) (M : gM) (N : gN) (r : gS × gM × gN) (h : f_X11_init σ M N = some r) : g_Ct l yX11_init cX11_init 1 none 2 37 3082 [vR 1] (σ, M, N) (eVSMN r) :=
  g_Ct.of tb_X11_init (by decide +kernel) tk_X11_init (Nat.le_of_ble_eq_true rfl) (fun E J => p_X11_init_0 J σ M N r h)
def tb_X11_isStay : gT := [(0, .iload_n 0, 1, 0), (1, .ifCond .lt 18, 3, 0), (4, .iload_n 0, 1, 0), (5, .iload_n 1, 1, 0), (6, .if_icmp .gt 13, 3, 0), (9, .iload_n 1, 1, 0), (10, .bipush 6, 2, 6), (12, .if_icmp .ge 7, 3, 0), (15, .iconst 1, 1, 1), (16, .goto 4, 3, 0), (19, .iconst 0, 1, 0), (20, .ireturn, 1, 0)]
set_option maxRecDepth 100000 in
theorem tk_X11_isStay : g_okT cX11_isStay tb_X11_isStay = true := by decide +kernel
abbrev J_X11_isStay (E : gE) (l : Launch) : Prop := g_J E cX11_isStay RX11 "isStay" (some .boolean) 2 tb_X11_isStay 1 0 0 l
set_option maxHeartbeats 4000000 in
set_option maxRecDepth 100000 in
theorem p_X11_isStay_0 {l : Launch} {E : gE} (J : J_X11_isStay E l) (x0 : Int32) (x1 : Int32) (σ : gS) (M : gM) (N : gN) (hL : g_layC σ) : g_H E 0 0 0 [(0, vI x0), (1, vI x1)] [] (σ, M, N) (b_X11_isStay_0 x0 x1) (eI σ M N) := by
  unfold b_X11_isStay_0
  refine r_run J 1 (pc' := 1) (lv' := [(0, vI x0), (1, vI x1)]) (st' := [vI x0]) rfl ?_
  refine r_if_lt J (tgt := 19) rfl (by decide) (fun c1 => ?_) (fun c1 => ?_)
  · refine r_run J 1 (pc' := 20) (lv' := [(0, vI x0), (1, vI x1)]) (st' := [vI 0]) rfl ?_
    exact r_iret J rfl rfl rfl rfl (by decide) (by decide)
  · refine r_run J 2 (pc' := 6) (lv' := [(0, vI x0), (1, vI x1)]) (st' := [vI x1, vI x0]) rfl ?_
    refine r_icmp_gt J (tgt := 19) rfl (by decide) (fun c6 => ?_) (fun c6 => ?_)
    · refine r_run J 1 (pc' := 20) (lv' := [(0, vI x0), (1, vI x1)]) (st' := [vI 0]) rfl ?_
      exact r_iret J rfl rfl rfl rfl (by decide) (by decide)
    · refine r_run J 2 (pc' := 12) (lv' := [(0, vI x0), (1, vI x1)]) (st' := [vI 6, vI x1]) rfl ?_
      refine r_icmp_ge J (tgt := 19) rfl (by decide) (fun c12 => ?_) (fun c12 => ?_)
      · refine r_run J 2 (pc' := 20) (lv' := [(0, vI x0), (1, vI x1)]) (st' := [vI 1]) rfl ?_
        exact r_iret J rfl rfl rfl rfl (by decide) (by decide)
      · refine r_run J 1 (pc' := 20) (lv' := [(0, vI x0), (1, vI x1)]) (st' := [vI 0]) rfl ?_
        exact r_iret J rfl rfl rfl rfl (by decide) (by decide)
theorem c_X11_isStay {l : Launch} (x0 : Int32) (x1 : Int32) (σ : gS) (M : gM) (N : gN) (hL : g_layC σ) (r : Int32) (h : f_X11_isStay x0 x1 = some r) : g_Ct l yX11_isStay cX11_isStay 2 (some .boolean) 1 0 0 [vI x0, vI x1] (σ, M, N) (eI σ M N r) :=
  g_Ct.of tb_X11_isStay (by decide +kernel) tk_X11_isStay (Nat.le_of_ble_eq_true rfl) (fun E J => p_X11_isStay_0 J x0 x1 σ M N hL r h)
def tb_X11_person : gT := [(0, .iload_n 2, 1, 0), (1, .iconst 0, 1, 0), (2, .iconst 3, 1, 3), (3, .invokestatic 86, 3, 0), (6, .ifCond .eq 17, 3, 0), (9, .iload 4, 2, 0), (11, .iconst 0, 1, 0), (12, .iconst 3, 1, 3), (13, .invokestatic 86, 3, 0), (16, .ifCond .eq 7, 3, 0), (19, .iconst 1, 1, 1), (20, .goto 4, 3, 0), (23, .iconst 0, 1, 0), (24, .istore 7, 2, 0), (26, .iload 7, 2, 0), (28, .ifCond .eq 25, 3, 0), (31, .iload 5, 2, 0), (33, .iload 6, 2, 0), (35, .invokestatic 90, 3, 0), (38, .ifCond .eq 15, 3, 0), (41, .aload_n 0, 1, 0), (42, .getfield 10, 3, 0), (45, .getfield 94, 3, 0), (48, .bipush 10, 2, 10), (50, .if_icmp .lt 5, 3, 0), (53, .iconst (-1), 1, (-1)), (54, .ireturn, 1, 0), (55, .aload_n 0, 1, 0), (56, .getfield 10, 3, 0), (59, .new 97, 3, 0), (62, .dup, 1, 0), (63, .iload_n 1, 1, 0), (64, .iload_n 2, 1, 0), (65, .iload_n 3, 1, 0), (66, .iload 4, 2, 0), (68, .iload 5, 2, 0), (70, .iload 6, 2, 0), (72, .invokespecial 99, 3, 0), (75, .invokevirtual 102, 3, 0), (78, .ireturn, 1, 0)]
set_option maxRecDepth 100000 in
theorem tk_X11_person : g_okT cX11_person tb_X11_person = true := by decide +kernel
abbrev J_X11_person (E : gE) (l : Launch) : Prop := g_J E cX11_person RX11 "person" (some .int) 8 tb_X11_person 2 1 11 l
set_option maxHeartbeats 4000000 in
set_option maxRecDepth 100000 in
theorem p_X11_person_24 {l : Launch} {E : gE} (J : J_X11_person E l) (x1 : Int32) (x2 : Int32) (x3 : Int32) (x4 : Int32) (x5 : Int32) (x6 : Int32) (sx0 : Int32) (σ : gS) (M : gM) (N : gN) (hL : g_layC σ) : g_H E 0 0 24 [(0, vR 1), (1, vI x1), (2, vI x2), (3, vI x3), (4, vI x4), (5, vI x5), (6, vI x6)] [vI sx0] (σ, M, N) (b_X11_person_24 x1 x2 x3 x4 x5 x6 sx0 σ M N) (eISMN) := by
  unfold b_X11_person_24
  refine r_run J 2 (pc' := 28) (lv' := [(7, vI sx0), (0, vR 1), (1, vI x1), (2, vI x2), (3, vI x3), (4, vI x4), (5, vI x5), (6, vI x6)]) (st' := [vI sx0]) rfl ?_
  refine r_if_eq J (tgt := 53) rfl (by decide) (fun c28 => ?_) (fun c28 => ?_)
  · refine r_run J 1 (pc' := 54) (lv' := [(7, vI sx0), (0, vR 1), (1, vI x1), (2, vI x2), (3, vI x3), (4, vI x4), (5, vI x5), (6, vI x6)]) (st' := [vI (-1)]) rfl ?_
    exact r_iret J rfl rfl rfl rfl (by decide) (by decide)
  · refine r_run J 2 (pc' := 35) (lv' := [(7, vI sx0), (0, vR 1), (1, vI x1), (2, vI x2), (3, vI x3), (4, vI x4), (5, vI x5), (6, vI x6)]) (st' := [vI x6, vI x5]) rfl ?_
    refine r_callS J (As := [vI x5, vI x6]) (st := []) (fun r hr => c_X11_isStay x5 x6 σ M N hL r hr) wm_11_90 wy_X11_isStay wd_X11_isStay ⟨by decide, by decide, by decide, by decide, Nat.le_of_ble_eq_true rfl⟩ rfl rfl (fun q35 hq35 => ?_)
    show g_H E 0 0 38 [(7, vI sx0), (0, vR 1), (1, vI x1), (2, vI x2), (3, vI x3), (4, vI x4), (5, vI x5), (6, vI x6)] [vI q35] (σ, M, N) _ _
    refine r_if_eq J (tgt := 53) rfl (by decide) (fun c38 => ?_) (fun c38 => ?_)
    · refine r_run J 1 (pc' := 54) (lv' := [(7, vI sx0), (0, vR 1), (1, vI x1), (2, vI x2), (3, vI x3), (4, vI x4), (5, vI x5), (6, vI x6)]) (st' := [vI (-1)]) rfl ?_
      exact r_iret J rfl rfl rfl rfl (by decide) (by decide)
    · refine r_run J 1 (pc' := 42) (lv' := [(7, vI sx0), (0, vR 1), (1, vI x1), (2, vI x2), (3, vI x3), (4, vI x4), (5, vI x5), (6, vI x6)]) (st' := [vR 1]) rfl ?_
      refine r_getR J cls11 rfl (k := 0) (t := 5) (by decide) wf_11_10 rfl rfl (ly_1 hL) (lr_1_0 hL) (fun _ => ?_)
      show g_H E 0 0 45 [(7, vI sx0), (0, vR 1), (1, vI x1), (2, vI x2), (3, vI x3), (4, vI x4), (5, vI x5), (6, vI x6)] [vR 2] (σ, M, N) _ _
      refine r_getI J cls5 rfl (k := 1) (by decide) wf_11_94 rfl (ly_2 hL) ?_
      show g_H E 0 0 48 [(7, vI sx0), (0, vR 1), (1, vI x1), (2, vI x2), (3, vI x3), (4, vI x4), (5, vI x5), (6, vI x6)] [vI (M 2 1)] (σ, M, N) _ _
      refine r_run J 1 (pc' := 50) (lv' := [(7, vI sx0), (0, vR 1), (1, vI x1), (2, vI x2), (3, vI x3), (4, vI x4), (5, vI x5), (6, vI x6)]) (st' := [vI 10, vI (M 2 1)]) rfl ?_
      refine r_icmp_lt J (tgt := 55) rfl (by decide) (fun c50 => ?_) (fun c50 => ?_)
      · refine r_run J 1 (pc' := 56) (lv' := [(7, vI sx0), (0, vR 1), (1, vI x1), (2, vI x2), (3, vI x3), (4, vI x4), (5, vI x5), (6, vI x6)]) (st' := [vR 1]) rfl ?_
        refine r_getR J cls11 rfl (k := 0) (t := 5) (by decide) wf_11_10 rfl rfl (ly_1 hL) (lr_1_0 hL) (fun _ => ?_)
        show g_H E 0 0 59 [(7, vI sx0), (0, vR 1), (1, vI x1), (2, vI x2), (3, vI x3), (4, vI x4), (5, vI x5), (6, vI x6)] [vR 2] (σ, M, N) _ _
        refine r_chk (fun hf59 => ?_)
        refine r_new J cls6 rfl ⟨wk_11_97, wi_6⟩ df_6 (g_fr_0 hf59) (g_fr_n hf59) (by decide) (by decide) ?_
        show g_H E 1 11 62 [(7, vI sx0), (0, vR 1), (1, vI x1), (2, vI x2), (3, vI x3), (4, vI x4), (5, vI x5), (6, vI x6)] [vR (100 + (M 2 1).toNatClampNeg), vR 2] ((g_nS σ (100 + (M 2 1).toNatClampNeg) 6 0), (g_z M (100 + (M 2 1).toNatClampNeg) 0), (g_z N (100 + (M 2 1).toNatClampNeg) 0)) _ _
        refine r_chk (fun hl62 => ?_)
        refine r_run J 7 (pc' := 72) (lv' := [(7, vI sx0), (0, vR 1), (1, vI x1), (2, vI x2), (3, vI x3), (4, vI x4), (5, vI x5), (6, vI x6)]) (st' := [vI x6, vI x5, vI x4, vI x3, vI x2, vI x1, vR (100 + (M 2 1).toNatClampNeg), vR (100 + (M 2 1).toNatClampNeg), vR 2]) rfl ?_
        refine r_callI J (As := [vI x1, vI x2, vI x3, vI x4, vI x5, vI x6]) (st := [vR (100 + (M 2 1).toNatClampNeg), vR 2]) (fun r hr => c_X6_init (100 + (M 2 1).toNatClampNeg) x1 x2 x3 x4 x5 x6 (g_nS σ (100 + (M 2 1).toNatClampNeg) 6 0) (g_z M (100 + (M 2 1).toNatClampNeg) 0) (g_z N (100 + (M 2 1).toNatClampNeg) 0) r hr) (by rw [(g_nS_at σ (100 + (M 2 1).toNatClampNeg) 6 0)]; exact Option.some_ne_none _) wm_11_99 wy_X6_init rfl wd_X6_init ⟨by decide, by decide, by decide, by decide, Nat.le_of_ble_eq_true rfl⟩ rfl rfl (fun q72 hq72 => ?_)
        show g_H E 1 11 75 [(7, vI sx0), (0, vR 1), (1, vI x1), (2, vI x2), (3, vI x3), (4, vI x4), (5, vI x5), (6, vI x6)] [vR (100 + (M 2 1).toNatClampNeg), vR 2] ((g_nS σ (100 + (M 2 1).toNatClampNeg) 6 0), q72, (g_z N (100 + (M 2 1).toNatClampNeg) 0)) _ _
        refine r_callV J (As := [vR (100 + (M 2 1).toNatClampNeg)]) (st := []) (fun r hr => c_X5_add (100 + (M 2 1).toNatClampNeg) (g_nS σ (100 + (M 2 1).toNatClampNeg) 6 0) q72 (g_z N (100 + (M 2 1).toNatClampNeg) 0) (g_layC.of hl62) r hr) cls5 (ly_2 (g_layC.of hl62)) wm_11_102 wy_X5_add wd_X5_add ⟨by decide, by decide, by decide, by decide, Nat.le_of_ble_eq_true rfl⟩ rfl rfl (fun q75 hq75 => ?_)
        show g_H E 1 11 78 [(7, vI sx0), (0, vR 1), (1, vI x1), (2, vI x2), (3, vI x3), (4, vI x4), (5, vI x5), (6, vI x6)] [vI q75.1] (q75.2.1, q75.2.2, (g_z N (100 + (M 2 1).toNatClampNeg) 0)) _ _
        refine r_chk (fun hl78 => ?_)
        exact r_iret J rfl rfl rfl rfl (by decide) (by decide)
      · refine r_run J 1 (pc' := 54) (lv' := [(7, vI sx0), (0, vR 1), (1, vI x1), (2, vI x2), (3, vI x3), (4, vI x4), (5, vI x5), (6, vI x6)]) (st' := [vI (-1)]) rfl ?_
        exact r_iret J rfl rfl rfl rfl (by decide) (by decide)
set_option maxHeartbeats 4000000 in
set_option maxRecDepth 100000 in
theorem p_X11_person_23 {l : Launch} {E : gE} (J : J_X11_person E l) (x1 : Int32) (x2 : Int32) (x3 : Int32) (x4 : Int32) (x5 : Int32) (x6 : Int32) (σ : gS) (M : gM) (N : gN) (hL : g_layC σ) : g_H E 0 0 23 [(0, vR 1), (1, vI x1), (2, vI x2), (3, vI x3), (4, vI x4), (5, vI x5), (6, vI x6)] [] (σ, M, N) (b_X11_person_23 x1 x2 x3 x4 x5 x6 σ M N) (eISMN) := by
  unfold b_X11_person_23
  refine r_run J 1 (pc' := 24) (lv' := [(0, vR 1), (1, vI x1), (2, vI x2), (3, vI x3), (4, vI x4), (5, vI x5), (6, vI x6)]) (st' := [vI 0]) rfl ?_
  exact p_X11_person_24 J x1 x2 x3 x4 x5 x6 0 σ M N hL
set_option maxHeartbeats 4000000 in
set_option maxRecDepth 100000 in
theorem p_X11_person_0 {l : Launch} {E : gE} (J : J_X11_person E l) (x1 : Int32) (x2 : Int32) (x3 : Int32) (x4 : Int32) (x5 : Int32) (x6 : Int32) (σ : gS) (M : gM) (N : gN) (hL : g_layC σ) : g_H E 0 0 0 [(0, vR 1), (1, vI x1), (2, vI x2), (3, vI x3), (4, vI x4), (5, vI x5), (6, vI x6)] [] (σ, M, N) (b_X11_person_0 x1 x2 x3 x4 x5 x6 σ M N) (eISMN) := by
  unfold b_X11_person_0
  refine r_run J 3 (pc' := 3) (lv' := [(0, vR 1), (1, vI x1), (2, vI x2), (3, vI x3), (4, vI x4), (5, vI x5), (6, vI x6)]) (st' := [vI 3, vI 0, vI x2]) rfl ?_
  refine r_callS J (As := [vI x2, vI 0, vI 3]) (st := []) (fun r hr => c_X11_isWithin x2 0 3 σ M N hL r hr) wm_11_86 wy_X11_isWithin wd_X11_isWithin ⟨by decide, by decide, by decide, by decide, Nat.le_of_ble_eq_true rfl⟩ rfl rfl (fun q3 hq3 => ?_)
  show g_H E 0 0 6 [(0, vR 1), (1, vI x1), (2, vI x2), (3, vI x3), (4, vI x4), (5, vI x5), (6, vI x6)] [vI q3] (σ, M, N) _ _
  refine r_if_eq J (tgt := 23) rfl (by decide) (fun c6 => ?_) (fun c6 => ?_)
  · exact p_X11_person_23 J x1 x2 x3 x4 x5 x6 σ M N hL
  · refine r_run J 3 (pc' := 13) (lv' := [(0, vR 1), (1, vI x1), (2, vI x2), (3, vI x3), (4, vI x4), (5, vI x5), (6, vI x6)]) (st' := [vI 3, vI 0, vI x4]) rfl ?_
    refine r_callS J (As := [vI x4, vI 0, vI 3]) (st := []) (fun r hr => c_X11_isWithin x4 0 3 σ M N hL r hr) wm_11_86 wy_X11_isWithin wd_X11_isWithin ⟨by decide, by decide, by decide, by decide, Nat.le_of_ble_eq_true rfl⟩ rfl rfl (fun q13 hq13 => ?_)
    show g_H E 0 0 16 [(0, vR 1), (1, vI x1), (2, vI x2), (3, vI x3), (4, vI x4), (5, vI x5), (6, vI x6)] [vI q13] (σ, M, N) _ _
    refine r_if_eq J (tgt := 23) rfl (by decide) (fun c16 => ?_) (fun c16 => ?_)
    · exact p_X11_person_23 J x1 x2 x3 x4 x5 x6 σ M N hL
    · refine r_run J 2 (pc' := 24) (lv' := [(0, vR 1), (1, vI x1), (2, vI x2), (3, vI x3), (4, vI x4), (5, vI x5), (6, vI x6)]) (st' := [vI 1]) rfl ?_
      exact p_X11_person_24 J x1 x2 x3 x4 x5 x6 1 σ M N hL
theorem c_X11_person {l : Launch} (x1 : Int32) (x2 : Int32) (x3 : Int32) (x4 : Int32) (x5 : Int32) (x6 : Int32) (σ : gS) (M : gM) (N : gN) (hL : g_layC σ) (r : Int32 × gS × gM × gN) (h : f_X11_person x1 x2 x3 x4 x5 x6 σ M N = some r) : g_Ct l yX11_person cX11_person 8 (some .int) 2 1 11 [vR 1, vI x1, vI x2, vI x3, vI x4, vI x5, vI x6] (σ, M, N) (eISMN r) :=
  g_Ct.of tb_X11_person (by decide +kernel) tk_X11_person (Nat.le_of_ble_eq_true rfl) (fun E J => p_X11_person_0 J x1 x2 x3 x4 x5 x6 σ M N hL r h)
def tb_X11_friends : gT := [(0, .aload_n 0, 1, 0), (1, .getfield 10, 3, 0), (4, .iload_n 1, 1, 0), (5, .invokevirtual 106, 3, 0), (8, .astore 4, 2, 0), (10, .aload_n 0, 1, 0), (11, .getfield 10, 3, 0), (14, .iload_n 2, 1, 0), (15, .invokevirtual 106, 3, 0), (18, .astore 5, 2, 0), (20, .aload 4, 2, 0), (22, .ifnull 29, 3, 0), (25, .aload 5, 2, 0), (27, .ifnull 24, 3, 0), (30, .iload_n 1, 1, 0), (31, .iload_n 2, 1, 0), (32, .if_icmp .eq 19, 3, 0), (35, .aload 4, 2, 0), (37, .getfield 110, 3, 0), (40, .ifCond .ne 11, 3, 0), (43, .aload 5, 2, 0), (45, .getfield 110, 3, 0), (48, .ifCond .eq 5, 3, 0), (51, .iconst 0, 1, 0), (52, .ireturn, 1, 0), (53, .iload_n 3, 1, 0), (54, .ifCond .eq 37, 3, 0), (57, .aload 4, 2, 0), (59, .getfield 114, 3, 0), (62, .iconst (-1), 1, (-1)), (63, .if_icmp .ne 12, 3, 0), (66, .aload 5, 2, 0), (68, .getfield 114, 3, 0), (71, .iconst (-1), 1, (-1)), (72, .if_icmp .eq 5, 3, 0), (75, .iconst 0, 1, 0), (76, .ireturn, 1, 0), (77, .aload 4, 2, 0), (79, .iload_n 2, 1, 0), (80, .putfield 114, 3, 0), (83, .aload 5, 2, 0), (85, .iload_n 1, 1, 0), (86, .putfield 114, 3, 0), (89, .iconst 1, 1, 1), (90, .ireturn, 1, 0), (91, .aload 4, 2, 0), (93, .getfield 114, 3, 0), (96, .iload_n 2, 1, 0), (97, .if_icmp .eq 5, 3, 0), (100, .iconst 0, 1, 0), (101, .ireturn, 1, 0), (102, .aload 4, 2, 0), (104, .iconst (-1), 1, (-1)), (105, .putfield 114, 3, 0), (108, .aload 5, 2, 0), (110, .iconst (-1), 1, (-1)), (111, .putfield 114, 3, 0), (114, .iconst 1, 1, 1), (115, .ireturn, 1, 0)]
set_option maxRecDepth 100000 in
theorem tk_X11_friends : g_okT cX11_friends tb_X11_friends = true := by decide +kernel
abbrev J_X11_friends (E : gE) (l : Launch) : Prop := g_J E cX11_friends RX11 "friends" (some .boolean) 6 tb_X11_friends 2 0 0 l
set_option maxHeartbeats 4000000 in
set_option maxRecDepth 100000 in
theorem p_X11_friends_108 {l : Launch} {E : gE} (J : J_X11_friends E l) (r5 : Nat) (σ : gS) (M : gM) (N : gN) (hL : g_layC σ) : g_H E 0 0 108 [(5, vR r5)] [] (σ, M, N) (b_X11_friends_108 r5 σ M) (eIM σ N) := by
  unfold b_X11_friends_108
  refine r_run J 2 (pc' := 111) (lv' := [(5, vR r5)]) (st' := [vI (-1), vR r5]) rfl ?_
  refine r_chk (fun hs111 => ?_)
  refine r_putI J cls6 rfl (k := 7) (by decide) wf_11_114 rfl (Or.inl rfl) ⟨rfl, rfl⟩ (g_is_at hs111) ?_
  show g_H E 0 0 114 [(5, vR r5)] [] (σ, (g_up M r5 7 (-1)), N) _ _
  refine r_run J 1 (pc' := 115) (lv' := [(5, vR r5)]) (st' := [vI 1]) rfl ?_
  exact r_iret J rfl rfl rfl rfl (by decide) (by decide)
set_option maxHeartbeats 4000000 in
set_option maxRecDepth 100000 in
theorem p_X11_friends_0 {l : Launch} {E : gE} (J : J_X11_friends E l) (x1 : Int32) (x2 : Int32) (x3 : Int32) (σ : gS) (M : gM) (N : gN) (hL : g_layC σ) : g_H E 0 0 0 [(0, vR 1), (1, vI x1), (2, vI x2), (3, vI x3)] [] (σ, M, N) (b_X11_friends_0 x1 x2 x3 σ M) (eIM σ N) := by
  unfold b_X11_friends_0
  refine r_run J 1 (pc' := 1) (lv' := [(0, vR 1), (1, vI x1), (2, vI x2), (3, vI x3)]) (st' := [vR 1]) rfl ?_
  refine r_getR J cls11 rfl (k := 0) (t := 5) (by decide) wf_11_10 rfl rfl (ly_1 hL) (lr_1_0 hL) (fun _ => ?_)
  show g_H E 0 0 4 [(0, vR 1), (1, vI x1), (2, vI x2), (3, vI x3)] [vR 2] (σ, M, N) _ _
  refine r_run J 1 (pc' := 5) (lv' := [(0, vR 1), (1, vI x1), (2, vI x2), (3, vI x3)]) (st' := [vI x1, vR 2]) rfl ?_
  refine r_callV J (As := [vI x1]) (st := []) (fun r hr => c_X5_at x1 σ M N hL r hr) cls5 (ly_2 hL) wm_11_106 wy_X5_at wd_X5_at ⟨by decide, by decide, by decide, by decide, Nat.le_of_ble_eq_true rfl⟩ rfl rfl (fun q5 hq5 => ?_)
  show g_H E 0 0 8 [(0, vR 1), (1, vI x1), (2, vI x2), (3, vI x3)] [vR q5] (σ, M, N) _ _
  refine r_run J 2 (pc' := 11) (lv' := [(4, vR q5), (0, vR 1), (1, vI x1), (2, vI x2), (3, vI x3)]) (st' := [vR 1]) rfl ?_
  refine r_getR J cls11 rfl (k := 0) (t := 5) (by decide) wf_11_10 rfl rfl (ly_1 hL) (lr_1_0 hL) (fun _ => ?_)
  show g_H E 0 0 14 [(4, vR q5), (0, vR 1), (1, vI x1), (2, vI x2), (3, vI x3)] [vR 2] (σ, M, N) _ _
  refine r_run J 1 (pc' := 15) (lv' := [(4, vR q5), (0, vR 1), (1, vI x1), (2, vI x2), (3, vI x3)]) (st' := [vI x2, vR 2]) rfl ?_
  refine r_callV J (As := [vI x2]) (st := []) (fun r hr => c_X5_at x2 σ M N hL r hr) cls5 (ly_2 hL) wm_11_106 wy_X5_at wd_X5_at ⟨by decide, by decide, by decide, by decide, Nat.le_of_ble_eq_true rfl⟩ rfl rfl (fun q15 hq15 => ?_)
  show g_H E 0 0 18 [(4, vR q5), (0, vR 1), (1, vI x1), (2, vI x2), (3, vI x3)] [vR q15] (σ, M, N) _ _
  refine r_run J 2 (pc' := 22) (lv' := [(5, vR q15), (4, vR q5), (0, vR 1), (1, vI x1), (2, vI x2), (3, vI x3)]) (st' := [vR q5]) rfl ?_
  refine r_ifnull J (tgt := 51) rfl (by decide) (fun c22 => ?_) (fun c22 => ?_)
  · refine r_run J 1 (pc' := 52) (lv' := [(5, vR q15), (4, vR q5), (0, vR 1), (1, vI x1), (2, vI x2), (3, vI x3)]) (st' := [vI 0]) rfl ?_
    exact r_iret J rfl rfl rfl rfl (by decide) (by decide)
  · refine r_run J 1 (pc' := 27) (lv' := [(5, vR q15), (4, vR q5), (0, vR 1), (1, vI x1), (2, vI x2), (3, vI x3)]) (st' := [vR q15]) rfl ?_
    refine r_ifnull J (tgt := 51) rfl (by decide) (fun c27 => ?_) (fun c27 => ?_)
    · refine r_run J 1 (pc' := 52) (lv' := [(5, vR q15), (4, vR q5), (0, vR 1), (1, vI x1), (2, vI x2), (3, vI x3)]) (st' := [vI 0]) rfl ?_
      exact r_iret J rfl rfl rfl rfl (by decide) (by decide)
    · refine r_run J 2 (pc' := 32) (lv' := [(5, vR q15), (4, vR q5), (0, vR 1), (1, vI x1), (2, vI x2), (3, vI x3)]) (st' := [vI x2, vI x1]) rfl ?_
      refine r_icmp_eq J (tgt := 51) rfl (by decide) (fun c32 => ?_) (fun c32 => ?_)
      · refine r_run J 1 (pc' := 52) (lv' := [(5, vR q15), (4, vR q5), (0, vR 1), (1, vI x1), (2, vI x2), (3, vI x3)]) (st' := [vI 0]) rfl ?_
        exact r_iret J rfl rfl rfl rfl (by decide) (by decide)
      · refine r_run J 1 (pc' := 37) (lv' := [(5, vR q15), (4, vR q5), (0, vR 1), (1, vI x1), (2, vI x2), (3, vI x3)]) (st' := [vR q5]) rfl ?_
        refine r_chk (fun hs37 => ?_)
        refine r_getI J cls6 rfl (k := 6) (by decide) wf_11_110 rfl (g_is_at hs37) ?_
        show g_H E 0 0 40 [(5, vR q15), (4, vR q5), (0, vR 1), (1, vI x1), (2, vI x2), (3, vI x3)] [vI (M q5 6)] (σ, M, N) _ _
        refine r_if_ne J (tgt := 51) rfl (by decide) (fun c40 => ?_) (fun c40 => ?_)
        · refine r_run J 1 (pc' := 45) (lv' := [(5, vR q15), (4, vR q5), (0, vR 1), (1, vI x1), (2, vI x2), (3, vI x3)]) (st' := [vR q15]) rfl ?_
          refine r_chk (fun hs45 => ?_)
          refine r_getI J cls6 rfl (k := 6) (by decide) wf_11_110 rfl (g_is_at hs45) ?_
          show g_H E 0 0 48 [(5, vR q15), (4, vR q5), (0, vR 1), (1, vI x1), (2, vI x2), (3, vI x3)] [vI (M q15 6)] (σ, M, N) _ _
          refine r_if_eq J (tgt := 53) rfl (by decide) (fun c48 => ?_) (fun c48 => ?_)
          · refine r_run J 1 (pc' := 54) (lv' := [(5, vR q15), (4, vR q5), (0, vR 1), (1, vI x1), (2, vI x2), (3, vI x3)]) (st' := [vI x3]) rfl ?_
            refine r_if_eq J (tgt := 91) rfl (by decide) (fun c54 => ?_) (fun c54 => ?_)
            · refine r_run J 1 (pc' := 93) (lv' := [(5, vR q15), (4, vR q5), (0, vR 1), (1, vI x1), (2, vI x2), (3, vI x3)]) (st' := [vR q5]) rfl ?_
              refine r_getI J cls6 rfl (k := 7) (by decide) wf_11_114 rfl (g_is_at hs37) ?_
              show g_H E 0 0 96 [(5, vR q15), (4, vR q5), (0, vR 1), (1, vI x1), (2, vI x2), (3, vI x3)] [vI (M q5 7)] (σ, M, N) _ _
              refine r_run J 1 (pc' := 97) (lv' := [(5, vR q15), (4, vR q5), (0, vR 1), (1, vI x1), (2, vI x2), (3, vI x3)]) (st' := [vI x2, vI (M q5 7)]) rfl ?_
              refine r_icmp_eq J (tgt := 102) rfl (by decide) (fun c97 => ?_) (fun c97 => ?_)
              · refine r_run J 2 (pc' := 105) (lv' := [(5, vR q15), (4, vR q5), (0, vR 1), (1, vI x1), (2, vI x2), (3, vI x3)]) (st' := [vI (-1), vR q5]) rfl ?_
                refine r_putI J cls6 rfl (k := 7) (by decide) wf_11_114 rfl (Or.inl rfl) ⟨rfl, rfl⟩ (g_is_at hs37) ?_
                show g_H E 0 0 108 [(5, vR q15), (4, vR q5), (0, vR 1), (1, vI x1), (2, vI x2), (3, vI x3)] [] (σ, (g_up M q5 7 (-1)), N) _ _
                refine r_sub [0] (lv' := [(5, vR q15)]) rfl ?_
                exact p_X11_friends_108 J q15 σ (g_up M q5 7 (-1)) N hL
              · refine r_run J 1 (pc' := 101) (lv' := [(5, vR q15), (4, vR q5), (0, vR 1), (1, vI x1), (2, vI x2), (3, vI x3)]) (st' := [vI 0]) rfl ?_
                exact r_iret J rfl rfl rfl rfl (by decide) (by decide)
            · refine r_run J 1 (pc' := 59) (lv' := [(5, vR q15), (4, vR q5), (0, vR 1), (1, vI x1), (2, vI x2), (3, vI x3)]) (st' := [vR q5]) rfl ?_
              refine r_getI J cls6 rfl (k := 7) (by decide) wf_11_114 rfl (g_is_at hs37) ?_
              show g_H E 0 0 62 [(5, vR q15), (4, vR q5), (0, vR 1), (1, vI x1), (2, vI x2), (3, vI x3)] [vI (M q5 7)] (σ, M, N) _ _
              refine r_run J 1 (pc' := 63) (lv' := [(5, vR q15), (4, vR q5), (0, vR 1), (1, vI x1), (2, vI x2), (3, vI x3)]) (st' := [vI (-1), vI (M q5 7)]) rfl ?_
              refine r_icmp_ne J (tgt := 75) rfl (by decide) (fun c63 => ?_) (fun c63 => ?_)
              · refine r_run J 1 (pc' := 68) (lv' := [(5, vR q15), (4, vR q5), (0, vR 1), (1, vI x1), (2, vI x2), (3, vI x3)]) (st' := [vR q15]) rfl ?_
                refine r_getI J cls6 rfl (k := 7) (by decide) wf_11_114 rfl (g_is_at hs45) ?_
                show g_H E 0 0 71 [(5, vR q15), (4, vR q5), (0, vR 1), (1, vI x1), (2, vI x2), (3, vI x3)] [vI (M q15 7)] (σ, M, N) _ _
                refine r_run J 1 (pc' := 72) (lv' := [(5, vR q15), (4, vR q5), (0, vR 1), (1, vI x1), (2, vI x2), (3, vI x3)]) (st' := [vI (-1), vI (M q15 7)]) rfl ?_
                refine r_icmp_eq J (tgt := 77) rfl (by decide) (fun c72 => ?_) (fun c72 => ?_)
                · refine r_run J 2 (pc' := 80) (lv' := [(5, vR q15), (4, vR q5), (0, vR 1), (1, vI x1), (2, vI x2), (3, vI x3)]) (st' := [vI x2, vR q5]) rfl ?_
                  refine r_putI J cls6 rfl (k := 7) (by decide) wf_11_114 rfl (Or.inl rfl) ⟨rfl, rfl⟩ (g_is_at hs37) ?_
                  show g_H E 0 0 83 [(5, vR q15), (4, vR q5), (0, vR 1), (1, vI x1), (2, vI x2), (3, vI x3)] [] (σ, (g_up M q5 7 x2), N) _ _
                  refine r_run J 2 (pc' := 86) (lv' := [(5, vR q15), (4, vR q5), (0, vR 1), (1, vI x1), (2, vI x2), (3, vI x3)]) (st' := [vI x1, vR q15]) rfl ?_
                  refine r_putI J cls6 rfl (k := 7) (by decide) wf_11_114 rfl (Or.inl rfl) ⟨rfl, rfl⟩ (g_is_at hs45) ?_
                  show g_H E 0 0 89 [(5, vR q15), (4, vR q5), (0, vR 1), (1, vI x1), (2, vI x2), (3, vI x3)] [] (σ, (g_up (g_up M q5 7 x2) q15 7 x1), N) _ _
                  refine r_run J 1 (pc' := 90) (lv' := [(5, vR q15), (4, vR q5), (0, vR 1), (1, vI x1), (2, vI x2), (3, vI x3)]) (st' := [vI 1]) rfl ?_
                  exact r_iret J rfl rfl rfl rfl (by decide) (by decide)
                · refine r_run J 1 (pc' := 76) (lv' := [(5, vR q15), (4, vR q5), (0, vR 1), (1, vI x1), (2, vI x2), (3, vI x3)]) (st' := [vI 0]) rfl ?_
                  exact r_iret J rfl rfl rfl rfl (by decide) (by decide)
              · refine r_run J 1 (pc' := 76) (lv' := [(5, vR q15), (4, vR q5), (0, vR 1), (1, vI x1), (2, vI x2), (3, vI x3)]) (st' := [vI 0]) rfl ?_
                exact r_iret J rfl rfl rfl rfl (by decide) (by decide)
          · refine r_run J 1 (pc' := 52) (lv' := [(5, vR q15), (4, vR q5), (0, vR 1), (1, vI x1), (2, vI x2), (3, vI x3)]) (st' := [vI 0]) rfl ?_
            exact r_iret J rfl rfl rfl rfl (by decide) (by decide)
        · refine r_run J 1 (pc' := 52) (lv' := [(5, vR q15), (4, vR q5), (0, vR 1), (1, vI x1), (2, vI x2), (3, vI x3)]) (st' := [vI 0]) rfl ?_
          exact r_iret J rfl rfl rfl rfl (by decide) (by decide)
theorem c_X11_friends {l : Launch} (x1 : Int32) (x2 : Int32) (x3 : Int32) (σ : gS) (M : gM) (N : gN) (hL : g_layC σ) (r : Int32 × gM) (h : f_X11_friends x1 x2 x3 σ M = some r) : g_Ct l yX11_friends cX11_friends 6 (some .boolean) 2 0 0 [vR 1, vI x1, vI x2, vI x3] (σ, M, N) (eIM σ N r) :=
  g_Ct.of tb_X11_friends (by decide +kernel) tk_X11_friends (Nat.le_of_ble_eq_true rfl) (fun E J => p_X11_friends_0 J x1 x2 x3 σ M N hL r h)
def tb_X11_bar : gT := [(0, .aload_n 0, 1, 0), (1, .getfield 10, 3, 0), (4, .iload_n 1, 1, 0), (5, .invokevirtual 106, 3, 0), (8, .astore 4, 2, 0), (10, .aload_n 0, 1, 0), (11, .getfield 10, 3, 0), (14, .iload_n 2, 1, 0), (15, .invokevirtual 106, 3, 0), (18, .astore 5, 2, 0), (20, .aload 4, 2, 0), (22, .ifnull 23, 3, 0), (25, .aload 5, 2, 0), (27, .ifnull 18, 3, 0), (30, .iload_n 1, 1, 0), (31, .iload_n 2, 1, 0), (32, .if_icmp .eq 13, 3, 0), (35, .aload 4, 2, 0), (37, .iload_n 2, 1, 0), (38, .invokevirtual 117, 3, 0), (41, .iload_n 3, 1, 0), (42, .if_icmp .ne 5, 3, 0), (45, .iconst 0, 1, 0), (46, .ireturn, 1, 0), (47, .aload 4, 2, 0), (49, .aload 4, 2, 0), (51, .getfield 121, 3, 0), (54, .iconst 1, 1, 1), (55, .iload_n 2, 1, 0), (56, .ishl, 1, 0), (57, .ixor, 1, 0), (58, .putfield 121, 3, 0), (61, .aload 5, 2, 0), (63, .aload 5, 2, 0), (65, .getfield 121, 3, 0), (68, .iconst 1, 1, 1), (69, .iload_n 1, 1, 0), (70, .ishl, 1, 0), (71, .ixor, 1, 0), (72, .putfield 121, 3, 0), (75, .iconst 1, 1, 1), (76, .ireturn, 1, 0)]
set_option maxRecDepth 100000 in
theorem tk_X11_bar : g_okT cX11_bar tb_X11_bar = true := by decide +kernel
abbrev J_X11_bar (E : gE) (l : Launch) : Prop := g_J E cX11_bar RX11 "bar" (some .boolean) 6 tb_X11_bar 2 0 0 l
set_option maxHeartbeats 4000000 in
set_option maxRecDepth 100000 in
theorem p_X11_bar_0 {l : Launch} {E : gE} (J : J_X11_bar E l) (x1 : Int32) (x2 : Int32) (x3 : Int32) (σ : gS) (M : gM) (N : gN) (hL : g_layC σ) : g_H E 0 0 0 [(0, vR 1), (1, vI x1), (2, vI x2), (3, vI x3)] [] (σ, M, N) (b_X11_bar_0 x1 x2 x3 σ M) (eIM σ N) := by
  unfold b_X11_bar_0
  refine r_run J 1 (pc' := 1) (lv' := [(0, vR 1), (1, vI x1), (2, vI x2), (3, vI x3)]) (st' := [vR 1]) rfl ?_
  refine r_getR J cls11 rfl (k := 0) (t := 5) (by decide) wf_11_10 rfl rfl (ly_1 hL) (lr_1_0 hL) (fun _ => ?_)
  show g_H E 0 0 4 [(0, vR 1), (1, vI x1), (2, vI x2), (3, vI x3)] [vR 2] (σ, M, N) _ _
  refine r_run J 1 (pc' := 5) (lv' := [(0, vR 1), (1, vI x1), (2, vI x2), (3, vI x3)]) (st' := [vI x1, vR 2]) rfl ?_
  refine r_callV J (As := [vI x1]) (st := []) (fun r hr => c_X5_at x1 σ M N hL r hr) cls5 (ly_2 hL) wm_11_106 wy_X5_at wd_X5_at ⟨by decide, by decide, by decide, by decide, Nat.le_of_ble_eq_true rfl⟩ rfl rfl (fun q5 hq5 => ?_)
  show g_H E 0 0 8 [(0, vR 1), (1, vI x1), (2, vI x2), (3, vI x3)] [vR q5] (σ, M, N) _ _
  refine r_run J 2 (pc' := 11) (lv' := [(4, vR q5), (0, vR 1), (1, vI x1), (2, vI x2), (3, vI x3)]) (st' := [vR 1]) rfl ?_
  refine r_getR J cls11 rfl (k := 0) (t := 5) (by decide) wf_11_10 rfl rfl (ly_1 hL) (lr_1_0 hL) (fun _ => ?_)
  show g_H E 0 0 14 [(4, vR q5), (0, vR 1), (1, vI x1), (2, vI x2), (3, vI x3)] [vR 2] (σ, M, N) _ _
  refine r_run J 1 (pc' := 15) (lv' := [(4, vR q5), (0, vR 1), (1, vI x1), (2, vI x2), (3, vI x3)]) (st' := [vI x2, vR 2]) rfl ?_
  refine r_callV J (As := [vI x2]) (st := []) (fun r hr => c_X5_at x2 σ M N hL r hr) cls5 (ly_2 hL) wm_11_106 wy_X5_at wd_X5_at ⟨by decide, by decide, by decide, by decide, Nat.le_of_ble_eq_true rfl⟩ rfl rfl (fun q15 hq15 => ?_)
  show g_H E 0 0 18 [(4, vR q5), (0, vR 1), (1, vI x1), (2, vI x2), (3, vI x3)] [vR q15] (σ, M, N) _ _
  refine r_run J 2 (pc' := 22) (lv' := [(5, vR q15), (4, vR q5), (0, vR 1), (1, vI x1), (2, vI x2), (3, vI x3)]) (st' := [vR q5]) rfl ?_
  refine r_ifnull J (tgt := 45) rfl (by decide) (fun c22 => ?_) (fun c22 => ?_)
  · refine r_run J 1 (pc' := 46) (lv' := [(5, vR q15), (4, vR q5), (0, vR 1), (1, vI x1), (2, vI x2), (3, vI x3)]) (st' := [vI 0]) rfl ?_
    exact r_iret J rfl rfl rfl rfl (by decide) (by decide)
  · refine r_run J 1 (pc' := 27) (lv' := [(5, vR q15), (4, vR q5), (0, vR 1), (1, vI x1), (2, vI x2), (3, vI x3)]) (st' := [vR q15]) rfl ?_
    refine r_ifnull J (tgt := 45) rfl (by decide) (fun c27 => ?_) (fun c27 => ?_)
    · refine r_run J 1 (pc' := 46) (lv' := [(5, vR q15), (4, vR q5), (0, vR 1), (1, vI x1), (2, vI x2), (3, vI x3)]) (st' := [vI 0]) rfl ?_
      exact r_iret J rfl rfl rfl rfl (by decide) (by decide)
    · refine r_run J 2 (pc' := 32) (lv' := [(5, vR q15), (4, vR q5), (0, vR 1), (1, vI x1), (2, vI x2), (3, vI x3)]) (st' := [vI x2, vI x1]) rfl ?_
      refine r_icmp_eq J (tgt := 45) rfl (by decide) (fun c32 => ?_) (fun c32 => ?_)
      · refine r_run J 1 (pc' := 46) (lv' := [(5, vR q15), (4, vR q5), (0, vR 1), (1, vI x1), (2, vI x2), (3, vI x3)]) (st' := [vI 0]) rfl ?_
        exact r_iret J rfl rfl rfl rfl (by decide) (by decide)
      · refine r_run J 2 (pc' := 38) (lv' := [(5, vR q15), (4, vR q5), (0, vR 1), (1, vI x1), (2, vI x2), (3, vI x3)]) (st' := [vI x2, vR q5]) rfl ?_
        refine r_chk (fun hs38 => ?_)
        refine r_callV J (As := [vI x2]) (st := []) (fun r hr => c_X6_isBarred q5 x2 σ M N hL r hr) cls6 (g_is_at hs38) wm_11_117 wy_X6_isBarred wd_X6_isBarred ⟨by decide, by decide, by decide, by decide, Nat.le_of_ble_eq_true rfl⟩ rfl rfl (fun q38 hq38 => ?_)
        show g_H E 0 0 41 [(5, vR q15), (4, vR q5), (0, vR 1), (1, vI x1), (2, vI x2), (3, vI x3)] [vI q38] (σ, M, N) _ _
        refine r_run J 1 (pc' := 42) (lv' := [(5, vR q15), (4, vR q5), (0, vR 1), (1, vI x1), (2, vI x2), (3, vI x3)]) (st' := [vI x3, vI q38]) rfl ?_
        refine r_icmp_ne J (tgt := 47) rfl (by decide) (fun c42 => ?_) (fun c42 => ?_)
        · refine r_run J 1 (pc' := 46) (lv' := [(5, vR q15), (4, vR q5), (0, vR 1), (1, vI x1), (2, vI x2), (3, vI x3)]) (st' := [vI 0]) rfl ?_
          exact r_iret J rfl rfl rfl rfl (by decide) (by decide)
        · refine r_run J 2 (pc' := 51) (lv' := [(5, vR q15), (4, vR q5), (0, vR 1), (1, vI x1), (2, vI x2), (3, vI x3)]) (st' := [vR q5, vR q5]) rfl ?_
          refine r_getI J cls6 rfl (k := 8) (by decide) wf_11_121 rfl (g_is_at hs38) ?_
          show g_H E 0 0 54 [(5, vR q15), (4, vR q5), (0, vR 1), (1, vI x1), (2, vI x2), (3, vI x3)] [vI (M q5 8), vR q5] (σ, M, N) _ _
          refine r_run J 4 (pc' := 58) (lv' := [(5, vR q15), (4, vR q5), (0, vR 1), (1, vI x1), (2, vI x2), (3, vI x3)]) (st' := [vI ((M q5 8) ^^^ ((1 : Int32) <<< (x2 &&& 31))), vR q5]) rfl ?_
          refine r_putI J cls6 rfl (k := 8) (by decide) wf_11_121 rfl (Or.inl rfl) ⟨rfl, rfl⟩ (g_is_at hs38) ?_
          show g_H E 0 0 61 [(5, vR q15), (4, vR q5), (0, vR 1), (1, vI x1), (2, vI x2), (3, vI x3)] [] (σ, (g_up M q5 8 ((M q5 8) ^^^ ((1 : Int32) <<< (x2 &&& 31)))), N) _ _
          refine r_run J 2 (pc' := 65) (lv' := [(5, vR q15), (4, vR q5), (0, vR 1), (1, vI x1), (2, vI x2), (3, vI x3)]) (st' := [vR q15, vR q15]) rfl ?_
          refine r_chk (fun hs65 => ?_)
          refine r_getI J cls6 rfl (k := 8) (by decide) wf_11_121 rfl (g_is_at hs65) ?_
          show g_H E 0 0 68 [(5, vR q15), (4, vR q5), (0, vR 1), (1, vI x1), (2, vI x2), (3, vI x3)] [vI ((g_up M q5 8 ((M q5 8) ^^^ ((1 : Int32) <<< (x2 &&& 31)))) q15 8), vR q15] (σ, (g_up M q5 8 ((M q5 8) ^^^ ((1 : Int32) <<< (x2 &&& 31)))), N) _ _
          refine r_run J 4 (pc' := 72) (lv' := [(5, vR q15), (4, vR q5), (0, vR 1), (1, vI x1), (2, vI x2), (3, vI x3)]) (st' := [vI (((g_up M q5 8 ((M q5 8) ^^^ ((1 : Int32) <<< (x2 &&& 31)))) q15 8) ^^^ ((1 : Int32) <<< (x1 &&& 31))), vR q15]) rfl ?_
          refine r_putI J cls6 rfl (k := 8) (by decide) wf_11_121 rfl (Or.inl rfl) ⟨rfl, rfl⟩ (g_is_at hs65) ?_
          show g_H E 0 0 75 [(5, vR q15), (4, vR q5), (0, vR 1), (1, vI x1), (2, vI x2), (3, vI x3)] [] (σ, (g_up (g_up M q5 8 ((M q5 8) ^^^ ((1 : Int32) <<< (x2 &&& 31)))) q15 8 (((g_up M q5 8 ((M q5 8) ^^^ ((1 : Int32) <<< (x2 &&& 31)))) q15 8) ^^^ ((1 : Int32) <<< (x1 &&& 31)))), N) _ _
          refine r_run J 1 (pc' := 76) (lv' := [(5, vR q15), (4, vR q5), (0, vR 1), (1, vI x1), (2, vI x2), (3, vI x3)]) (st' := [vI 1]) rfl ?_
          exact r_iret J rfl rfl rfl rfl (by decide) (by decide)
theorem c_X11_bar {l : Launch} (x1 : Int32) (x2 : Int32) (x3 : Int32) (σ : gS) (M : gM) (N : gN) (hL : g_layC σ) (r : Int32 × gM) (h : f_X11_bar x1 x2 x3 σ M = some r) : g_Ct l yX11_bar cX11_bar 6 (some .boolean) 2 0 0 [vR 1, vI x1, vI x2, vI x3] (σ, M, N) (eIM σ N r) :=
  g_Ct.of tb_X11_bar (by decide +kernel) tk_X11_bar (Nat.le_of_ble_eq_true rfl) (fun E J => p_X11_bar_0 J x1 x2 x3 σ M N hL r h)
def tb_X11_isOver : gT := [(0, .aload_n 1, 1, 0), (1, .getfield 304, 3, 0), (4, .aload_n 1, 1, 0), (5, .getfield 303, 3, 0), (8, .iadd, 1, 0), (9, .aload_n 0, 1, 0), (10, .getfield 60, 3, 0), (13, .getfield 133, 3, 0), (16, .if_icmp .gt 7, 3, 0), (19, .iconst 1, 1, 1), (20, .goto 4, 3, 0), (23, .iconst 0, 1, 0), (24, .ireturn, 1, 0)]
set_option maxRecDepth 100000 in
theorem tk_X11_isOver : g_okT cX11_isOver tb_X11_isOver = true := by decide +kernel
abbrev J_X11_isOver (E : gE) (l : Launch) : Prop := g_J E cX11_isOver RX11 "isOver" (some .boolean) 2 tb_X11_isOver 1 0 0 l
set_option maxHeartbeats 4000000 in
set_option maxRecDepth 100000 in
theorem p_X11_isOver_0 {l : Launch} {E : gE} (J : J_X11_isOver E l) (r1 : Nat) (σ : gS) (M : gM) (N : gN) (hL : g_layC σ) : g_H E 0 0 0 [(0, vR 1), (1, vR r1)] [] (σ, M, N) (b_X11_isOver_0 r1 σ M) (eI σ M N) := by
  unfold b_X11_isOver_0
  refine r_run J 1 (pc' := 1) (lv' := [(0, vR 1), (1, vR r1)]) (st' := [vR r1]) rfl ?_
  refine r_chk (fun hs1 => ?_)
  refine r_getI J cls10 rfl (k := 2) (by decide) wf_11_304 rfl (g_is_at hs1) ?_
  show g_H E 0 0 4 [(0, vR 1), (1, vR r1)] [vI (M r1 2)] (σ, M, N) _ _
  refine r_run J 1 (pc' := 5) (lv' := [(0, vR 1), (1, vR r1)]) (st' := [vR r1, vI (M r1 2)]) rfl ?_
  refine r_getI J cls10 rfl (k := 1) (by decide) wf_11_303 rfl (g_is_at hs1) ?_
  show g_H E 0 0 8 [(0, vR 1), (1, vR r1)] [vI (M r1 1), vI (M r1 2)] (σ, M, N) _ _
  refine r_run J 2 (pc' := 10) (lv' := [(0, vR 1), (1, vR r1)]) (st' := [vR 1, vI ((M r1 2) + (M r1 1))]) rfl ?_
  refine r_getR J cls11 rfl (k := 7) (t := 0) (by decide) wf_11_60 rfl rfl (ly_1 hL) (lr_1_7 hL) (fun _ => ?_)
  show g_H E 0 0 13 [(0, vR 1), (1, vR r1)] [vR 33, vI ((M r1 2) + (M r1 1))] (σ, M, N) _ _
  refine r_getI J cls0 rfl (k := 0) (by decide) wf_11_133 rfl (ly_33 hL) ?_
  show g_H E 0 0 16 [(0, vR 1), (1, vR r1)] [vI (M 33 0), vI ((M r1 2) + (M r1 1))] (σ, M, N) _ _
  refine r_icmp_gt J (tgt := 23) rfl (by decide) (fun c16 => ?_) (fun c16 => ?_)
  · refine r_run J 1 (pc' := 24) (lv' := [(0, vR 1), (1, vR r1)]) (st' := [vI 0]) rfl ?_
    exact r_iret J rfl rfl rfl rfl (by decide) (by decide)
  · refine r_run J 2 (pc' := 24) (lv' := [(0, vR 1), (1, vR r1)]) (st' := [vI 1]) rfl ?_
    exact r_iret J rfl rfl rfl rfl (by decide) (by decide)
theorem c_X11_isOver {l : Launch} (r1 : Nat) (σ : gS) (M : gM) (N : gN) (hL : g_layC σ) (r : Int32) (h : f_X11_isOver r1 σ M = some r) : g_Ct l yX11_isOver cX11_isOver 2 (some .boolean) 1 0 0 [vR 1, vR r1] (σ, M, N) (eI σ M N r) :=
  g_Ct.of tb_X11_isOver (by decide +kernel) tk_X11_isOver (Nat.le_of_ble_eq_true rfl) (fun E J => p_X11_isOver_0 J r1 σ M N hL r h)
def tb_X11_mustLeave : gT := [(0, .aload_n 1, 1, 0), (1, .getfield 357, 3, 0), (4, .iload_n 3, 1, 0), (5, .if_icmp .lt 12, 3, 0), (8, .aload_n 1, 1, 0), (9, .getfield 357, 3, 0), (12, .iload 4, 2, 0), (14, .if_icmp .le 7, 3, 0), (17, .iconst 1, 1, 1), (18, .goto 4, 3, 0), (21, .iconst 0, 1, 0), (22, .istore 5, 2, 0), (24, .iload 5, 2, 0), (26, .ifCond .eq 24, 3, 0), (29, .aload_n 0, 1, 0), (30, .aload_n 1, 1, 0), (31, .invokevirtual 321, 3, 0), (34, .ifCond .ne 16, 3, 0), (37, .aload_n 1, 1, 0), (38, .iload_n 2, 1, 0), (39, .invokevirtual 164, 3, 0), (42, .iconst (-1), 1, (-1)), (43, .if_icmp .eq 7, 3, 0), (46, .iconst 1, 1, 1), (47, .goto 4, 3, 0), (50, .iconst 0, 1, 0), (51, .ireturn, 1, 0)]
set_option maxRecDepth 100000 in
theorem tk_X11_mustLeave : g_okT cX11_mustLeave tb_X11_mustLeave = true := by decide +kernel
abbrev J_X11_mustLeave (E : gE) (l : Launch) : Prop := g_J E cX11_mustLeave RX11 "mustLeave" (some .boolean) 6 tb_X11_mustLeave 2 0 0 l
set_option maxHeartbeats 4000000 in
set_option maxRecDepth 100000 in
theorem p_X11_mustLeave_22 {l : Launch} {E : gE} (J : J_X11_mustLeave E l) (r1 : Nat) (x2 : Int32) (sx0 : Int32) (σ : gS) (M : gM) (N : gN) (hL : g_layC σ) : g_H E 0 0 22 [(0, vR 1), (1, vR r1), (2, vI x2)] [vI sx0] (σ, M, N) (b_X11_mustLeave_22 r1 x2 sx0 σ M) (eI σ M N) := by
  unfold b_X11_mustLeave_22
  refine r_run J 2 (pc' := 26) (lv' := [(5, vI sx0), (0, vR 1), (1, vR r1), (2, vI x2)]) (st' := [vI sx0]) rfl ?_
  refine r_if_eq J (tgt := 50) rfl (by decide) (fun c26 => ?_) (fun c26 => ?_)
  · refine r_run J 1 (pc' := 51) (lv' := [(5, vI sx0), (0, vR 1), (1, vR r1), (2, vI x2)]) (st' := [vI 0]) rfl ?_
    exact r_iret J rfl rfl rfl rfl (by decide) (by decide)
  · refine r_run J 2 (pc' := 31) (lv' := [(5, vI sx0), (0, vR 1), (1, vR r1), (2, vI x2)]) (st' := [vR r1, vR 1]) rfl ?_
    refine r_callV J (As := [vR r1]) (st := []) (fun r hr => c_X11_isOver r1 σ M N hL r hr) cls11 (ly_1 hL) wm_11_321 wy_X11_isOver wd_X11_isOver ⟨by decide, by decide, by decide, by decide, Nat.le_of_ble_eq_true rfl⟩ rfl rfl (fun q31 hq31 => ?_)
    show g_H E 0 0 34 [(5, vI sx0), (0, vR 1), (1, vR r1), (2, vI x2)] [vI q31] (σ, M, N) _ _
    refine r_if_ne J (tgt := 50) rfl (by decide) (fun c34 => ?_) (fun c34 => ?_)
    · refine r_run J 2 (pc' := 39) (lv' := [(5, vI sx0), (0, vR 1), (1, vR r1), (2, vI x2)]) (st' := [vI x2, vR r1]) rfl ?_
      refine r_chk (fun hs39 => ?_)
      refine r_callV J (As := [vI x2]) (st := []) (fun r hr => c_X10_roomOfGuest r1 x2 σ M N hL r hr) cls10 (g_is_at hs39) wm_11_164 wy_X10_roomOfGuest wd_X10_roomOfGuest ⟨by decide, by decide, by decide, by decide, Nat.le_of_ble_eq_true rfl⟩ rfl rfl (fun q39 hq39 => ?_)
      show g_H E 0 0 42 [(5, vI sx0), (0, vR 1), (1, vR r1), (2, vI x2)] [vI q39] (σ, M, N) _ _
      refine r_run J 1 (pc' := 43) (lv' := [(5, vI sx0), (0, vR 1), (1, vR r1), (2, vI x2)]) (st' := [vI (-1), vI q39]) rfl ?_
      refine r_icmp_eq J (tgt := 50) rfl (by decide) (fun c43 => ?_) (fun c43 => ?_)
      · refine r_run J 1 (pc' := 51) (lv' := [(5, vI sx0), (0, vR 1), (1, vR r1), (2, vI x2)]) (st' := [vI 0]) rfl ?_
        exact r_iret J rfl rfl rfl rfl (by decide) (by decide)
      · refine r_run J 2 (pc' := 51) (lv' := [(5, vI sx0), (0, vR 1), (1, vR r1), (2, vI x2)]) (st' := [vI 1]) rfl ?_
        exact r_iret J rfl rfl rfl rfl (by decide) (by decide)
    · refine r_run J 1 (pc' := 51) (lv' := [(5, vI sx0), (0, vR 1), (1, vR r1), (2, vI x2)]) (st' := [vI 0]) rfl ?_
      exact r_iret J rfl rfl rfl rfl (by decide) (by decide)
set_option maxHeartbeats 4000000 in
set_option maxRecDepth 100000 in
theorem p_X11_mustLeave_17 {l : Launch} {E : gE} (J : J_X11_mustLeave E l) (r1 : Nat) (x2 : Int32) (σ : gS) (M : gM) (N : gN) (hL : g_layC σ) : g_H E 0 0 17 [(0, vR 1), (1, vR r1), (2, vI x2)] [] (σ, M, N) (b_X11_mustLeave_17 r1 x2 σ M) (eI σ M N) := by
  unfold b_X11_mustLeave_17
  refine r_run J 2 (pc' := 22) (lv' := [(0, vR 1), (1, vR r1), (2, vI x2)]) (st' := [vI 1]) rfl ?_
  exact p_X11_mustLeave_22 J r1 x2 1 σ M N hL
set_option maxHeartbeats 4000000 in
set_option maxRecDepth 100000 in
theorem p_X11_mustLeave_0 {l : Launch} {E : gE} (J : J_X11_mustLeave E l) (r1 : Nat) (x2 : Int32) (x3 : Int32) (x4 : Int32) (σ : gS) (M : gM) (N : gN) (hL : g_layC σ) : g_H E 0 0 0 [(0, vR 1), (1, vR r1), (2, vI x2), (3, vI x3), (4, vI x4)] [] (σ, M, N) (b_X11_mustLeave_0 r1 x2 x3 x4 σ M) (eI σ M N) := by
  unfold b_X11_mustLeave_0
  refine r_run J 1 (pc' := 1) (lv' := [(0, vR 1), (1, vR r1), (2, vI x2), (3, vI x3), (4, vI x4)]) (st' := [vR r1]) rfl ?_
  refine r_chk (fun hs1 => ?_)
  refine r_getI J cls10 rfl (k := 0) (by decide) wf_11_357 rfl (g_is_at hs1) ?_
  show g_H E 0 0 4 [(0, vR 1), (1, vR r1), (2, vI x2), (3, vI x3), (4, vI x4)] [vI (M r1 0)] (σ, M, N) _ _
  refine r_run J 1 (pc' := 5) (lv' := [(0, vR 1), (1, vR r1), (2, vI x2), (3, vI x3), (4, vI x4)]) (st' := [vI x3, vI (M r1 0)]) rfl ?_
  refine r_icmp_lt J (tgt := 17) rfl (by decide) (fun c5 => ?_) (fun c5 => ?_)
  · refine r_sub [0, 1, 2] (lv' := [(0, vR 1), (1, vR r1), (2, vI x2)]) rfl ?_
    exact p_X11_mustLeave_17 J r1 x2 σ M N hL
  · refine r_run J 1 (pc' := 9) (lv' := [(0, vR 1), (1, vR r1), (2, vI x2), (3, vI x3), (4, vI x4)]) (st' := [vR r1]) rfl ?_
    refine r_getI J cls10 rfl (k := 0) (by decide) wf_11_357 rfl (g_is_at hs1) ?_
    show g_H E 0 0 12 [(0, vR 1), (1, vR r1), (2, vI x2), (3, vI x3), (4, vI x4)] [vI (M r1 0)] (σ, M, N) _ _
    refine r_run J 1 (pc' := 14) (lv' := [(0, vR 1), (1, vR r1), (2, vI x2), (3, vI x3), (4, vI x4)]) (st' := [vI x4, vI (M r1 0)]) rfl ?_
    refine r_icmp_le J (tgt := 21) rfl (by decide) (fun c14 => ?_) (fun c14 => ?_)
    · refine r_sub [0, 1, 2] (lv' := [(0, vR 1), (1, vR r1), (2, vI x2)]) rfl ?_
      exact p_X11_mustLeave_17 J r1 x2 σ M N hL
    · refine r_run J 1 (pc' := 22) (lv' := [(0, vR 1), (1, vR r1), (2, vI x2), (3, vI x3), (4, vI x4)]) (st' := [vI 0]) rfl ?_
      refine r_sub [0, 1, 2] (lv' := [(0, vR 1), (1, vR r1), (2, vI x2)]) rfl ?_
      exact p_X11_mustLeave_22 J r1 x2 0 σ M N hL
theorem c_X11_mustLeave {l : Launch} (r1 : Nat) (x2 : Int32) (x3 : Int32) (x4 : Int32) (σ : gS) (M : gM) (N : gN) (hL : g_layC σ) (r : Int32) (h : f_X11_mustLeave r1 x2 x3 x4 σ M = some r) : g_Ct l yX11_mustLeave cX11_mustLeave 6 (some .boolean) 2 0 0 [vR 1, vR r1, vI x2, vI x3, vI x4] (σ, M, N) (eI σ M N r) :=
  g_Ct.of tb_X11_mustLeave (by decide +kernel) tk_X11_mustLeave (Nat.le_of_ble_eq_true rfl) (fun E J => p_X11_mustLeave_0 J r1 x2 x3 x4 σ M N hL r h)
def tb_X11_list : gT := [(0, .aload_n 1, 1, 0), (1, .iload_n 2, 1, 0), (2, .invokevirtual 164, 3, 0), (5, .iload_n 3, 1, 0), (6, .if_icmp .eq 26, 3, 0), (9, .aload_n 1, 1, 0), (10, .iload_n 2, 1, 0), (11, .iload_n 3, 1, 0), (12, .invokevirtual 353, 3, 0), (15, .aload_n 0, 1, 0), (16, .getfield 25, 3, 0), (19, .aload_n 1, 1, 0), (20, .getfield 357, 3, 0), (23, .iload_n 2, 1, 0), (24, .iload_n 3, 1, 0), (25, .aload_n 0, 1, 0), (26, .getfield 71, 3, 0), (29, .invokevirtual 360, 3, 0), (32, .return_, 1, 0)]
set_option maxRecDepth 100000 in
theorem tk_X11_list : g_okT cX11_list tb_X11_list = true := by decide +kernel
abbrev J_X11_list (E : gE) (l : Launch) : Prop := g_J E cX11_list RX11 "list" none 4 tb_X11_list 2 0 0 l
set_option maxHeartbeats 4000000 in
set_option maxRecDepth 100000 in
theorem p_X11_list_0 {l : Launch} {E : gE} (J : J_X11_list E l) (r1 : Nat) (x2 : Int32) (x3 : Int32) (σ : gS) (M : gM) (N : gN) (hL : g_layC σ) : g_H E 0 0 0 [(0, vR 1), (1, vR r1), (2, vI x2), (3, vI x3)] [] (σ, M, N) (b_X11_list_0 r1 x2 x3 σ M) (eVM σ N) := by
  unfold b_X11_list_0
  refine r_run J 2 (pc' := 2) (lv' := [(0, vR 1), (1, vR r1), (2, vI x2), (3, vI x3)]) (st' := [vI x2, vR r1]) rfl ?_
  refine r_chk (fun hs2 => ?_)
  refine r_callV J (As := [vI x2]) (st := []) (fun r hr => c_X10_roomOfGuest r1 x2 σ M N hL r hr) cls10 (g_is_at hs2) wm_11_164 wy_X10_roomOfGuest wd_X10_roomOfGuest ⟨by decide, by decide, by decide, by decide, Nat.le_of_ble_eq_true rfl⟩ rfl rfl (fun q2 hq2 => ?_)
  show g_H E 0 0 5 [(0, vR 1), (1, vR r1), (2, vI x2), (3, vI x3)] [vI q2] (σ, M, N) _ _
  refine r_run J 1 (pc' := 6) (lv' := [(0, vR 1), (1, vR r1), (2, vI x2), (3, vI x3)]) (st' := [vI x3, vI q2]) rfl ?_
  refine r_icmp_eq J (tgt := 32) rfl (by decide) (fun c6 => ?_) (fun c6 => ?_)
  · exact r_vret J rfl rfl rfl (by decide) (by decide)
  · refine r_run J 3 (pc' := 12) (lv' := [(0, vR 1), (1, vR r1), (2, vI x2), (3, vI x3)]) (st' := [vI x3, vI x2, vR r1]) rfl ?_
    refine r_callV J (As := [vI x2, vI x3]) (st := []) (fun r hr => c_X10_move r1 x2 x3 σ M N hL r hr) cls10 (g_is_at hs2) wm_11_353 wy_X10_move wd_X10_move ⟨by decide, by decide, by decide, by decide, Nat.le_of_ble_eq_true rfl⟩ rfl rfl (fun q12 hq12 => ?_)
    show g_H E 0 0 15 [(0, vR 1), (1, vR r1), (2, vI x2), (3, vI x3)] [] (σ, q12, N) _ _
    refine r_run J 1 (pc' := 16) (lv' := [(0, vR 1), (1, vR r1), (2, vI x2), (3, vI x3)]) (st' := [vR 1]) rfl ?_
    refine r_getR J cls11 rfl (k := 2) (t := 4) (by decide) wf_11_25 rfl rfl (ly_1 hL) (lr_1_2 hL) (fun _ => ?_)
    show g_H E 0 0 19 [(0, vR 1), (1, vR r1), (2, vI x2), (3, vI x3)] [vR 5] (σ, q12, N) _ _
    refine r_run J 1 (pc' := 20) (lv' := [(0, vR 1), (1, vR r1), (2, vI x2), (3, vI x3)]) (st' := [vR r1, vR 5]) rfl ?_
    refine r_getI J cls10 rfl (k := 0) (by decide) wf_11_357 rfl (g_is_at hs2) ?_
    show g_H E 0 0 23 [(0, vR 1), (1, vR r1), (2, vI x2), (3, vI x3)] [vI (q12 r1 0), vR 5] (σ, q12, N) _ _
    refine r_run J 3 (pc' := 26) (lv' := [(0, vR 1), (1, vR r1), (2, vI x2), (3, vI x3)]) (st' := [vR 1, vI x3, vI x2, vI (q12 r1 0), vR 5]) rfl ?_
    refine r_getI J cls11 rfl (k := 10) (by decide) wf_11_71 rfl (ly_1 hL) ?_
    show g_H E 0 0 29 [(0, vR 1), (1, vR r1), (2, vI x2), (3, vI x3)] [vI (q12 1 10), vI x3, vI x2, vI (q12 r1 0), vR 5] (σ, q12, N) _ _
    refine r_callV J (As := [vI (q12 r1 0), vI x2, vI x3, vI (q12 1 10)]) (st := []) (fun r hr => c_X4_add (q12 r1 0) x2 x3 (q12 1 10) σ q12 N hL r hr) cls4 (ly_5 hL) wm_11_360 wy_X4_add wd_X4_add ⟨by decide, by decide, by decide, by decide, Nat.le_of_ble_eq_true rfl⟩ rfl rfl (fun q29 hq29 => ?_)
    show g_H E 0 0 32 [(0, vR 1), (1, vR r1), (2, vI x2), (3, vI x3)] [] (σ, q29, N) _ _
    exact r_vret J rfl rfl rfl (by decide) (by decide)
theorem c_X11_list {l : Launch} (r1 : Nat) (x2 : Int32) (x3 : Int32) (σ : gS) (M : gM) (N : gN) (hL : g_layC σ) (r : gM) (h : f_X11_list r1 x2 x3 σ M = some r) : g_Ct l yX11_list cX11_list 4 none 2 0 0 [vR 1, vR r1, vI x2, vI x3] (σ, M, N) (eVM σ N r) :=
  g_Ct.of tb_X11_list (by decide +kernel) tk_X11_list (Nat.le_of_ble_eq_true rfl) (fun E J => p_X11_list_0 J r1 x2 x3 σ M N hL r h)
def tb_X11_leave : gT := [(0, .iconst 0, 1, 0), (1, .istore 4, 2, 0), (3, .iconst 0, 1, 0), (4, .istore 5, 2, 0), (6, .iload 5, 2, 0), (8, .aload_n 0, 1, 0), (9, .getfield 64, 3, 0), (12, .if_icmp .ge 29, 3, 0), (15, .aload_n 0, 1, 0), (16, .aload_n 0, 1, 0), (17, .getfield 18, 3, 0), (20, .iload 5, 2, 0), (22, .aaload, 1, 0), (23, .iload_n 1, 1, 0), (24, .iload_n 2, 1, 0), (25, .iload_n 3, 1, 0), (26, .invokevirtual 363, 3, 0), (29, .ifCond .eq 6, 3, 0), (32, .iinc 4 1, 3, 1), (35, .iinc 5 1, 3, 1), (38, .goto (-32), 3, 0), (41, .aload_n 0, 1, 0), (42, .getfield 25, 3, 0), (45, .iload 4, 2, 0), (47, .invokevirtual 168, 3, 0), (50, .ifCond .ne 5, 3, 0), (53, .iconst 0, 1, 0), (54, .ireturn, 1, 0), (55, .iconst 0, 1, 0), (56, .istore 5, 2, 0), (58, .iload 5, 2, 0), (60, .aload_n 0, 1, 0), (61, .getfield 64, 3, 0), (64, .if_icmp .ge 39, 3, 0), (67, .aload_n 0, 1, 0), (68, .aload_n 0, 1, 0), (69, .getfield 18, 3, 0), (72, .iload 5, 2, 0), (74, .aaload, 1, 0), (75, .iload_n 1, 1, 0), (76, .iload_n 2, 1, 0), (77, .iload_n 3, 1, 0), (78, .invokevirtual 363, 3, 0), (81, .ifCond .eq 16, 3, 0), (84, .aload_n 0, 1, 0), (85, .aload_n 0, 1, 0), (86, .getfield 18, 3, 0), (89, .iload 5, 2, 0), (91, .aaload, 1, 0), (92, .iload_n 1, 1, 0), (93, .iconst (-1), 1, (-1)), (94, .invokevirtual 171, 3, 0), (97, .iinc 5 1, 3, 1), (100, .goto (-42), 3, 0), (103, .iconst 1, 1, 1), (104, .ireturn, 1, 0)]
set_option maxRecDepth 100000 in
theorem tk_X11_leave : g_okT cX11_leave tb_X11_leave = true := by decide +kernel
abbrev J_X11_leave (E : gE) (l : Launch) : Prop := g_J E cX11_leave RX11 "leave" (some .boolean) 6 tb_X11_leave 3 0 0 l
set_option maxHeartbeats 4000000 in
set_option maxRecDepth 100000 in
theorem p_X11_leave_97 {l : Launch} {E : gE} (J : J_X11_leave E l) {k58 : Int32 → Int32 → Int32 → Int32 → gS → gM → Option (Int32 × gM)} (H58 : ∀ (x1 : Int32) (x2 : Int32) (x3 : Int32) (x5 : Int32) (σ : gS) (M : gM) (N : gN) (_ : g_layC σ), g_H E 0 0 58 [(0, vR 1), (1, vI x1), (2, vI x2), (3, vI x3), (5, vI x5)] [] (σ, M, N) (k58 x1 x2 x3 x5 σ M) (eIM σ N)) (x1 : Int32) (x2 : Int32) (x3 : Int32) (x5 : Int32) (σ : gS) (M : gM) (N : gN) (hL : g_layC σ) : g_H E 0 0 97 [(0, vR 1), (1, vI x1), (2, vI x2), (3, vI x3), (5, vI x5)] [] (σ, M, N) (b_X11_leave_97 k58 x1 x2 x3 x5 σ M) (eIM σ N) := by
  unfold b_X11_leave_97
  refine r_run J 2 (pc' := 58) (lv' := [(5, vI (x5 + 1)), (0, vR 1), (1, vI x1), (2, vI x2), (3, vI x3)]) (st' := []) rfl ?_
  refine r_sub [1, 2, 3, 4, 0] (lv' := [(0, vR 1), (1, vI x1), (2, vI x2), (3, vI x3), (5, vI (x5 + 1))]) rfl ?_
  exact H58 x1 x2 x3 (x5 + 1) σ M N hL
set_option maxHeartbeats 4000000 in
set_option maxRecDepth 100000 in
theorem p_X11_leave_58 {l : Launch} {E : gE} (J : J_X11_leave E l) : ∀ (n : Nat) (x1 : Int32) (x2 : Int32) (x3 : Int32) (x5 : Int32) (σ : gS) (M : gM) (N : gN) (hL : g_layC σ), g_H E 0 0 58 [(0, vR 1), (1, vI x1), (2, vI x2), (3, vI x3), (5, vI x5)] [] (σ, M, N) (l_X11_leave_58 n x1 x2 x3 x5 σ M) (eIM σ N) := by
  intro n
  induction n with
  | zero => intros; exact h_none
  | succ n ih =>
    intro x1 x2 x3 x5 σ M N hL
    rw [l_X11_leave_58]
    refine r_run J 2 (pc' := 61) (lv' := [(0, vR 1), (1, vI x1), (2, vI x2), (3, vI x3), (5, vI x5)]) (st' := [vR 1, vI x5]) rfl ?_
    refine r_getI J cls11 rfl (k := 8) (by decide) wf_11_64 rfl (ly_1 hL) ?_
    show g_H E 0 0 64 [(0, vR 1), (1, vI x1), (2, vI x2), (3, vI x3), (5, vI x5)] [vI (M 1 8), vI x5] (σ, M, N) _ _
    refine r_icmp_ge J (tgt := 103) rfl (by decide) (fun c64 => ?_) (fun c64 => ?_)
    · refine r_run J 2 (pc' := 69) (lv' := [(0, vR 1), (1, vI x1), (2, vI x2), (3, vI x3), (5, vI x5)]) (st' := [vR 1, vR 1]) rfl ?_
      refine r_getR J cls11 rfl (k := 1) (t := 19) (by decide) wf_11_18 rfl rfl (ly_1 hL) (lr_1_1 hL) (fun _ => ?_)
      show g_H E 0 0 72 [(0, vR 1), (1, vI x1), (2, vI x2), (3, vI x3), (5, vI x5)] [vR 4, vR 1] (σ, M, N) _ _
      refine r_run J 1 (pc' := 74) (lv' := [(0, vR 1), (1, vI x1), (2, vI x2), (3, vI x3), (5, vI x5)]) (st' := [vI x5, vR 4, vR 1]) rfl ?_
      refine r_aald J rfl (Or.inr (Or.inr ⟨rfl, rfl⟩)) (ly_4 hL) (fun i74 _ => ?_)
      show g_H E 0 0 75 [(0, vR 1), (1, vI x1), (2, vI x2), (3, vI x3), (5, vI x5)] [vR (σ.2 4 x5.toNatClampNeg), vR 1] (σ, M, N) _ _
      refine r_run J 3 (pc' := 78) (lv' := [(0, vR 1), (1, vI x1), (2, vI x2), (3, vI x3), (5, vI x5)]) (st' := [vI x3, vI x2, vI x1, vR (σ.2 4 x5.toNatClampNeg), vR 1]) rfl ?_
      refine r_callV J (As := [vR (σ.2 4 x5.toNatClampNeg), vI x1, vI x2, vI x3]) (st := []) (fun r hr => c_X11_mustLeave (σ.2 4 x5.toNatClampNeg) x1 x2 x3 σ M N hL r hr) cls11 (ly_1 hL) wm_11_363 wy_X11_mustLeave wd_X11_mustLeave ⟨by decide, by decide, by decide, by decide, Nat.le_of_ble_eq_true rfl⟩ rfl rfl (fun q78 hq78 => ?_)
      show g_H E 0 0 81 [(0, vR 1), (1, vI x1), (2, vI x2), (3, vI x3), (5, vI x5)] [vI q78] (σ, M, N) _ _
      refine r_if_eq J (tgt := 97) rfl (by decide) (fun c81 => ?_) (fun c81 => ?_)
      · exact p_X11_leave_97 J ih x1 x2 x3 x5 σ M N hL
      · refine r_run J 2 (pc' := 86) (lv' := [(0, vR 1), (1, vI x1), (2, vI x2), (3, vI x3), (5, vI x5)]) (st' := [vR 1, vR 1]) rfl ?_
        refine r_getR J cls11 rfl (k := 1) (t := 19) (by decide) wf_11_18 rfl rfl (ly_1 hL) (lr_1_1 hL) (fun _ => ?_)
        show g_H E 0 0 89 [(0, vR 1), (1, vI x1), (2, vI x2), (3, vI x3), (5, vI x5)] [vR 4, vR 1] (σ, M, N) _ _
        refine r_run J 1 (pc' := 91) (lv' := [(0, vR 1), (1, vI x1), (2, vI x2), (3, vI x3), (5, vI x5)]) (st' := [vI x5, vR 4, vR 1]) rfl ?_
        refine r_aald J rfl (Or.inr (Or.inr ⟨rfl, rfl⟩)) (ly_4 hL) (fun i91 _ => ?_)
        show g_H E 0 0 92 [(0, vR 1), (1, vI x1), (2, vI x2), (3, vI x3), (5, vI x5)] [vR (σ.2 4 x5.toNatClampNeg), vR 1] (σ, M, N) _ _
        refine r_run J 2 (pc' := 94) (lv' := [(0, vR 1), (1, vI x1), (2, vI x2), (3, vI x3), (5, vI x5)]) (st' := [vI (-1), vI x1, vR (σ.2 4 x5.toNatClampNeg), vR 1]) rfl ?_
        refine r_callV J (As := [vR (σ.2 4 x5.toNatClampNeg), vI x1, vI (-1)]) (st := []) (fun r hr => c_X11_list (σ.2 4 x5.toNatClampNeg) x1 (-1) σ M N hL r hr) cls11 (ly_1 hL) wm_11_171 wy_X11_list wd_X11_list ⟨by decide, by decide, by decide, by decide, Nat.le_of_ble_eq_true rfl⟩ rfl rfl (fun q94 hq94 => ?_)
        show g_H E 0 0 97 [(0, vR 1), (1, vI x1), (2, vI x2), (3, vI x3), (5, vI x5)] [] (σ, q94, N) _ _
        exact p_X11_leave_97 J ih x1 x2 x3 x5 σ q94 N hL
    · refine r_run J 1 (pc' := 104) (lv' := [(0, vR 1), (1, vI x1), (2, vI x2), (3, vI x3), (5, vI x5)]) (st' := [vI 1]) rfl ?_
      exact r_iret J rfl rfl rfl rfl (by decide) (by decide)
set_option maxHeartbeats 4000000 in
set_option maxRecDepth 100000 in
theorem p_X11_leave_35 {l : Launch} {E : gE} (J : J_X11_leave E l) {k6 : Int32 → Int32 → Int32 → Int32 → Int32 → gS → gM → Option (Int32 × gM)} (H6 : ∀ (x1 : Int32) (x2 : Int32) (x3 : Int32) (x4 : Int32) (x5 : Int32) (σ : gS) (M : gM) (N : gN) (_ : g_layC σ), g_H E 0 0 6 [(0, vR 1), (1, vI x1), (2, vI x2), (3, vI x3), (4, vI x4), (5, vI x5)] [] (σ, M, N) (k6 x1 x2 x3 x4 x5 σ M) (eIM σ N)) (x1 : Int32) (x2 : Int32) (x3 : Int32) (x4 : Int32) (x5 : Int32) (σ : gS) (M : gM) (N : gN) (hL : g_layC σ) : g_H E 0 0 35 [(0, vR 1), (1, vI x1), (2, vI x2), (3, vI x3), (4, vI x4), (5, vI x5)] [] (σ, M, N) (b_X11_leave_35 k6 x1 x2 x3 x4 x5 σ M) (eIM σ N) := by
  unfold b_X11_leave_35
  refine r_run J 2 (pc' := 6) (lv' := [(5, vI (x5 + 1)), (0, vR 1), (1, vI x1), (2, vI x2), (3, vI x3), (4, vI x4)]) (st' := []) rfl ?_
  refine r_sub [1, 2, 3, 4, 5, 0] (lv' := [(0, vR 1), (1, vI x1), (2, vI x2), (3, vI x3), (4, vI x4), (5, vI (x5 + 1))]) rfl ?_
  exact H6 x1 x2 x3 x4 (x5 + 1) σ M N hL
set_option maxHeartbeats 4000000 in
set_option maxRecDepth 100000 in
theorem p_X11_leave_6 {l : Launch} {E : gE} (J : J_X11_leave E l) : ∀ (n : Nat) (x1 : Int32) (x2 : Int32) (x3 : Int32) (x4 : Int32) (x5 : Int32) (σ : gS) (M : gM) (N : gN) (hL : g_layC σ), g_H E 0 0 6 [(0, vR 1), (1, vI x1), (2, vI x2), (3, vI x3), (4, vI x4), (5, vI x5)] [] (σ, M, N) (l_X11_leave_6 n x1 x2 x3 x4 x5 σ M) (eIM σ N) := by
  intro n
  induction n with
  | zero => intros; exact h_none
  | succ n ih =>
    intro x1 x2 x3 x4 x5 σ M N hL
    rw [l_X11_leave_6]
    refine r_run J 2 (pc' := 9) (lv' := [(0, vR 1), (1, vI x1), (2, vI x2), (3, vI x3), (4, vI x4), (5, vI x5)]) (st' := [vR 1, vI x5]) rfl ?_
    refine r_getI J cls11 rfl (k := 8) (by decide) wf_11_64 rfl (ly_1 hL) ?_
    show g_H E 0 0 12 [(0, vR 1), (1, vI x1), (2, vI x2), (3, vI x3), (4, vI x4), (5, vI x5)] [vI (M 1 8), vI x5] (σ, M, N) _ _
    refine r_icmp_ge J (tgt := 41) rfl (by decide) (fun c12 => ?_) (fun c12 => ?_)
    · refine r_run J 2 (pc' := 17) (lv' := [(0, vR 1), (1, vI x1), (2, vI x2), (3, vI x3), (4, vI x4), (5, vI x5)]) (st' := [vR 1, vR 1]) rfl ?_
      refine r_getR J cls11 rfl (k := 1) (t := 19) (by decide) wf_11_18 rfl rfl (ly_1 hL) (lr_1_1 hL) (fun _ => ?_)
      show g_H E 0 0 20 [(0, vR 1), (1, vI x1), (2, vI x2), (3, vI x3), (4, vI x4), (5, vI x5)] [vR 4, vR 1] (σ, M, N) _ _
      refine r_run J 1 (pc' := 22) (lv' := [(0, vR 1), (1, vI x1), (2, vI x2), (3, vI x3), (4, vI x4), (5, vI x5)]) (st' := [vI x5, vR 4, vR 1]) rfl ?_
      refine r_aald J rfl (Or.inr (Or.inr ⟨rfl, rfl⟩)) (ly_4 hL) (fun i22 _ => ?_)
      show g_H E 0 0 23 [(0, vR 1), (1, vI x1), (2, vI x2), (3, vI x3), (4, vI x4), (5, vI x5)] [vR (σ.2 4 x5.toNatClampNeg), vR 1] (σ, M, N) _ _
      refine r_run J 3 (pc' := 26) (lv' := [(0, vR 1), (1, vI x1), (2, vI x2), (3, vI x3), (4, vI x4), (5, vI x5)]) (st' := [vI x3, vI x2, vI x1, vR (σ.2 4 x5.toNatClampNeg), vR 1]) rfl ?_
      refine r_callV J (As := [vR (σ.2 4 x5.toNatClampNeg), vI x1, vI x2, vI x3]) (st := []) (fun r hr => c_X11_mustLeave (σ.2 4 x5.toNatClampNeg) x1 x2 x3 σ M N hL r hr) cls11 (ly_1 hL) wm_11_363 wy_X11_mustLeave wd_X11_mustLeave ⟨by decide, by decide, by decide, by decide, Nat.le_of_ble_eq_true rfl⟩ rfl rfl (fun q26 hq26 => ?_)
      show g_H E 0 0 29 [(0, vR 1), (1, vI x1), (2, vI x2), (3, vI x3), (4, vI x4), (5, vI x5)] [vI q26] (σ, M, N) _ _
      refine r_if_eq J (tgt := 35) rfl (by decide) (fun c29 => ?_) (fun c29 => ?_)
      · exact p_X11_leave_35 J ih x1 x2 x3 x4 x5 σ M N hL
      · refine r_run J 1 (pc' := 35) (lv' := [(4, vI (x4 + 1)), (0, vR 1), (1, vI x1), (2, vI x2), (3, vI x3), (5, vI x5)]) (st' := []) rfl ?_
        refine r_sub [1, 2, 3, 4, 0, 5] (lv' := [(0, vR 1), (1, vI x1), (2, vI x2), (3, vI x3), (4, vI (x4 + 1)), (5, vI x5)]) rfl ?_
        exact p_X11_leave_35 J ih x1 x2 x3 (x4 + 1) x5 σ M N hL
    · refine r_run J 1 (pc' := 42) (lv' := [(0, vR 1), (1, vI x1), (2, vI x2), (3, vI x3), (4, vI x4), (5, vI x5)]) (st' := [vR 1]) rfl ?_
      refine r_getR J cls11 rfl (k := 2) (t := 4) (by decide) wf_11_25 rfl rfl (ly_1 hL) (lr_1_2 hL) (fun _ => ?_)
      show g_H E 0 0 45 [(0, vR 1), (1, vI x1), (2, vI x2), (3, vI x3), (4, vI x4), (5, vI x5)] [vR 5] (σ, M, N) _ _
      refine r_run J 1 (pc' := 47) (lv' := [(0, vR 1), (1, vI x1), (2, vI x2), (3, vI x3), (4, vI x4), (5, vI x5)]) (st' := [vI x4, vR 5]) rfl ?_
      refine r_callV J (As := [vI x4]) (st := []) (fun r hr => c_X4_haveSpace x4 σ M N hL r hr) cls4 (ly_5 hL) wm_11_168 wy_X4_haveSpace wd_X4_haveSpace ⟨by decide, by decide, by decide, by decide, Nat.le_of_ble_eq_true rfl⟩ rfl rfl (fun q47 hq47 => ?_)
      show g_H E 0 0 50 [(0, vR 1), (1, vI x1), (2, vI x2), (3, vI x3), (4, vI x4), (5, vI x5)] [vI q47] (σ, M, N) _ _
      refine r_if_ne J (tgt := 55) rfl (by decide) (fun c50 => ?_) (fun c50 => ?_)
      · refine r_run J 1 (pc' := 54) (lv' := [(0, vR 1), (1, vI x1), (2, vI x2), (3, vI x3), (4, vI x4), (5, vI x5)]) (st' := [vI 0]) rfl ?_
        exact r_iret J rfl rfl rfl rfl (by decide) (by decide)
      · refine r_run J 2 (pc' := 58) (lv' := [(5, vI 0), (0, vR 1), (1, vI x1), (2, vI x2), (3, vI x3), (4, vI x4)]) (st' := []) rfl ?_
        refine r_sub [1, 2, 3, 4, 0] (lv' := [(0, vR 1), (1, vI x1), (2, vI x2), (3, vI x3), (5, vI 0)]) rfl ?_
        exact p_X11_leave_58 J g_FU x1 x2 x3 0 σ M N hL
set_option maxHeartbeats 4000000 in
set_option maxRecDepth 100000 in
theorem p_X11_leave_0 {l : Launch} {E : gE} (J : J_X11_leave E l) (x1 : Int32) (x2 : Int32) (x3 : Int32) (σ : gS) (M : gM) (N : gN) (hL : g_layC σ) : g_H E 0 0 0 [(0, vR 1), (1, vI x1), (2, vI x2), (3, vI x3)] [] (σ, M, N) (b_X11_leave_0 x1 x2 x3 σ M) (eIM σ N) := by
  unfold b_X11_leave_0
  refine r_run J 4 (pc' := 6) (lv' := [(5, vI 0), (4, vI 0), (0, vR 1), (1, vI x1), (2, vI x2), (3, vI x3)]) (st' := []) rfl ?_
  refine r_sub [2, 3, 4, 5, 1, 0] (lv' := [(0, vR 1), (1, vI x1), (2, vI x2), (3, vI x3), (4, vI 0), (5, vI 0)]) rfl ?_
  exact p_X11_leave_6 J g_FU x1 x2 x3 0 0 σ M N hL
theorem c_X11_leave {l : Launch} (x1 : Int32) (x2 : Int32) (x3 : Int32) (σ : gS) (M : gM) (N : gN) (hL : g_layC σ) (r : Int32 × gM) (h : f_X11_leave x1 x2 x3 σ M = some r) : g_Ct l yX11_leave cX11_leave 6 (some .boolean) 3 0 0 [vR 1, vI x1, vI x2, vI x3] (σ, M, N) (eIM σ N r) :=
  g_Ct.of tb_X11_leave (by decide +kernel) tk_X11_leave (Nat.le_of_ble_eq_true rfl) (fun E J => p_X11_leave_0 J x1 x2 x3 σ M N hL r h)
