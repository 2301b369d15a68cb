def tb_X12_findSets : gT := [(0, .aload_n 0, 1, 0), (1, .iload_n 1, 1, 0), (2, .invokevirtual 215, 3, 0), (5, .istore_n 2, 1, 0), (6, .iconst 0, 1, 0), (7, .istore_n 3, 1, 0), (8, .iload_n 3, 1, 0), (9, .aload_n 0, 1, 0), (10, .getfield 51, 3, 0), (13, .iload_n 1, 1, 0), (14, .iaload, 1, 0), (15, .if_icmp .ge 84, 3, 0), (18, .aload_n 0, 1, 0), (19, .getfield 93, 3, 0), (22, .iload_n 3, 1, 0), (23, .iconst 0, 1, 0), (24, .iastore, 1, 0), (25, .iconst 0, 1, 0), (26, .istore 4, 2, 0), (28, .iload 4, 2, 0), (30, .sipush 1024, 3, 1024), (33, .if_icmp .ge 60, 3, 0), (36, .iload 4, 2, 0), (38, .iload_n 2, 1, 0), (39, .iconst (-1), 1, (-1)), (40, .ixor, 1, 0), (41, .iand, 1, 0), (42, .ifCond .ne 45, 3, 0), (45, .aload_n 0, 1, 0), (46, .iload_n 1, 1, 0), (47, .iload_n 3, 1, 0), (48, .iload 4, 2, 0), (50, .invokevirtual 219, 3, 0), (53, .ifCond .ne 6, 3, 0), (56, .goto 31, 3, 0), (59, .aload_n 0, 1, 0), (60, .getfield 90, 3, 0), (63, .bipush 64, 2, 64), (65, .iload_n 3, 1, 0), (66, .imul, 1, 0), (67, .aload_n 0, 1, 0), (68, .getfield 93, 3, 0), (71, .iload_n 3, 1, 0), (72, .iaload, 1, 0), (73, .iadd, 1, 0), (74, .iload 4, 2, 0), (76, .iastore, 1, 0), (77, .aload_n 0, 1, 0), (78, .getfield 93, 3, 0), (81, .iload_n 3, 1, 0), (82, .dup2, 1, 0), (83, .iaload, 1, 0), (84, .iconst 1, 1, 1), (85, .iadd, 1, 0), (86, .iastore, 1, 0), (87, .iinc 4 1, 3, 1), (90, .goto (-62), 3, 0), (93, .iinc 3 1, 3, 1), (96, .goto (-88), 3, 0), (99, .return_, 1, 0)]
set_option maxRecDepth 100000 in
theorem tk_X12_findSets : g_okT cX12_findSets tb_X12_findSets = true := by decide +kernel
abbrev J_X12_findSets (E : gE) (l : Launch) : Prop := g_J E cX12_findSets RX12 "findSets" none 5 tb_X12_findSets 3 0 0 l
noncomputable def b_X12_findSets_87 (k8 : Int32 → Int32 → Int32 → gS → gM → Option (gM)) (k28 : Int32 → Int32 → Int32 → Int32 → gS → gM → Option (gM)) (x1 : Int32) (x2 : Int32) (x3 : Int32) (x4 : Int32) (σ : gS) (M : gM) : Option (gM) := k28 x1 x2 x3 (x4 + 1) σ M
noncomputable def l_X12_findSets_28 (k8 : Int32 → Int32 → Int32 → gS → gM → Option (gM)) : Nat → Int32 → Int32 → Int32 → Int32 → gS → gM → Option (gM)
  | 0, _, _, _, _, _, _ => none
  | n + 1, x1, x2, x3, x4, σ, M => if x4 < (1024 : Int32) then if (x4 &&& (x2 ^^^ (-1 : Int32))) = (0 : Int32) then (f_X12_mayBe x1 x3 x4 σ M).bind fun q50 => if q50 = (0 : Int32) then b_X12_findSets_87 k8 (fun x1 x2 x3 x4 σ M => l_X12_findSets_28 k8 n x1 x2 x3 x4 σ M) x1 x2 x3 x4 σ M else if g_in x3 10 = true then if g_in (((64 : Int32) * x3) + (M 66 x3.toNatClampNeg)) 640 = true then if g_in x3 10 = true then if g_in x3 10 = true then b_X12_findSets_87 k8 (fun x1 x2 x3 x4 σ M => l_X12_findSets_28 k8 n x1 x2 x3 x4 σ M) x1 x2 x3 x4 σ (g_up (g_up M 65 ((((64 : Int32) * x3) + (M 66 x3.toNatClampNeg)).toNatClampNeg) x4) 66 (x3.toNatClampNeg) (((g_up M 65 ((((64 : Int32) * x3) + (M 66 x3.toNatClampNeg)).toNatClampNeg) x4) 66 x3.toNatClampNeg) + (1 : Int32))) else none else none else none else none else b_X12_findSets_87 k8 (fun x1 x2 x3 x4 σ M => l_X12_findSets_28 k8 n x1 x2 x3 x4 σ M) x1 x2 x3 x4 σ M else k8 x1 x2 (x3 + 1) σ M
noncomputable def l_X12_findSets_8 : Nat → Int32 → Int32 → Int32 → gS → gM → Option (gM)
  | 0, _, _, _, _, _ => none
  | n + 1, x1, x2, x3, σ, M => if g_in x1 6 = true then if x3 < (M 52 x1.toNatClampNeg) then if g_in x3 10 = true then l_X12_findSets_28 (fun x1 x2 x3 σ M => l_X12_findSets_8 n x1 x2 x3 σ M) g_FU x1 x2 x3 0 σ (g_up M 66 (x3.toNatClampNeg) 0) else none else some M else none
noncomputable def b_X12_findSets_0 (x1 : Int32) (σ : gS) (M : gM) : Option (gM) := (f_X12_there x1 σ M).bind fun q2 => l_X12_findSets_8 g_FU x1 q2 0 σ M
set_option maxHeartbeats 4000000 in
set_option maxRecDepth 100000 in
theorem p_X12_findSets_87 {l : Launch} {E : gE} (J : J_X12_findSets E l) {k8 : Int32 → Int32 → Int32 → gS → gM → Option (gM)} (H8 : ∀ (x1 : Int32) (x2 : Int32) (x3 : Int32) (σ : gS) (M : gM) (N : gN) (_ : g_layM σ), g_H E 0 0 8 [(0, vR 40), (1, vI x1), (2, vI x2), (3, vI x3)] [] (σ, M, N) (k8 x1 x2 x3 σ M) (eVM σ N)) {k28 : Int32 → Int32 → Int32 → Int32 → gS → gM → Option (gM)} (H28 : ∀ (x1 : Int32) (x2 : Int32) (x3 : Int32) (x4 : Int32) (σ : gS) (M : gM) (N : gN) (_ : g_layM σ), g_H E 0 0 28 [(0, vR 40), (1, vI x1), (2, vI x2), (3, vI x3), (4, vI x4)] [] (σ, M, N) (k28 x1 x2 x3 x4 σ M) (eVM σ N)) (x1 : Int32) (x2 : Int32) (x3 : Int32) (x4 : Int32) (σ : gS) (M : gM) (N : gN) (hL : g_layM σ) : g_H E 0 0 87 [(0, vR 40), (1, vI x1), (2, vI x2), (3, vI x3), (4, vI x4)] [] (σ, M, N) (b_X12_findSets_87 k8 k28 x1 x2 x3 x4 σ M) (eVM σ N) := by
  unfold b_X12_findSets_87
  refine r_run J 2 (pc' := 28) (lv' := [(4, vI (x4 + 1)), (0, vR 40), (1, vI x1), (2, vI x2), (3, vI x3)]) (st' := []) rfl ?_
  refine r_sub [1, 2, 3, 4, 0] (lv' := [(0, vR 40), (1, vI x1), (2, vI x2), (3, vI x3), (4, vI (x4 + 1))]) rfl ?_
  exact H28 x1 x2 x3 (x4 + 1) σ M N hL
set_option maxHeartbeats 4000000 in
set_option maxRecDepth 100000 in
theorem p_X12_findSets_28 {l : Launch} {E : gE} (J : J_X12_findSets E l) {k8 : Int32 → Int32 → Int32 → gS → gM → Option (gM)} (H8 : ∀ (x1 : Int32) (x2 : Int32) (x3 : Int32) (σ : gS) (M : gM) (N : gN) (_ : g_layM σ), g_H E 0 0 8 [(0, vR 40), (1, vI x1), (2, vI x2), (3, vI x3)] [] (σ, M, N) (k8 x1 x2 x3 σ M) (eVM σ N)) : ∀ (n : Nat) (x1 : Int32) (x2 : Int32) (x3 : Int32) (x4 : Int32) (σ : gS) (M : gM) (N : gN) (hL : g_layM σ), g_H E 0 0 28 [(0, vR 40), (1, vI x1), (2, vI x2), (3, vI x3), (4, vI x4)] [] (σ, M, N) (l_X12_findSets_28 k8 n x1 x2 x3 x4 σ M) (eVM σ N) := by
  intro n
  induction n with
  | zero => intros; exact h_none
  | succ n ih =>
    intro x1 x2 x3 x4 σ M N hL
    rw [l_X12_findSets_28]
    refine r_run J 2 (pc' := 33) (lv' := [(0, vR 40), (1, vI x1), (2, vI x2), (3, vI x3), (4, vI x4)]) (st' := [vI 1024, vI x4]) rfl ?_
    refine r_icmp_ge J (tgt := 93) rfl (by decide) (fun c33 => ?_) (fun c33 => ?_)
    · refine r_run J 5 (pc' := 42) (lv' := [(0, vR 40), (1, vI x1), (2, vI x2), (3, vI x3), (4, vI x4)]) (st' := [vI (x4 &&& (x2 ^^^ (-1 : Int32)))]) rfl ?_
      refine r_if_ne J (tgt := 87) rfl (by decide) (fun c42 => ?_) (fun c42 => ?_)
      · refine r_run J 4 (pc' := 50) (lv' := [(0, vR 40), (1, vI x1), (2, vI x2), (3, vI x3), (4, vI x4)]) (st' := [vI x4, vI x3, vI x1, vR 40]) rfl ?_
        refine r_callV J (As := [vI x1, vI x3, vI x4]) (st := []) (fun r hr => c_X12_mayBe x1 x3 x4 σ M N hL r hr) cls12 (ly_40 hL) wm_12_219 wy_X12_mayBe wd_X12_mayBe ⟨by decide, by decide, by decide, by decide, Nat.le_of_ble_eq_true rfl⟩ rfl rfl (fun q50 hq50 => ?_)
        show g_H E 0 0 53 [(0, vR 40), (1, vI x1), (2, vI x2), (3, vI x3), (4, vI x4)] [vI q50] (σ, M, N) _ _
        refine r_if_ne J (tgt := 59) rfl (by decide) (fun c53 => ?_) (fun c53 => ?_)
        · refine r_run J 1 (pc' := 87) (lv' := [(0, vR 40), (1, vI x1), (2, vI x2), (3, vI x3), (4, vI x4)]) (st' := []) rfl ?_
          exact p_X12_findSets_87 J H8 ih x1 x2 x3 x4 σ M N hL
        · refine r_run J 1 (pc' := 60) (lv' := [(0, vR 40), (1, vI x1), (2, vI x2), (3, vI x3), (4, vI x4)]) (st' := [vR 40]) rfl ?_
          refine r_getR J cls12 rfl (k := 34) (t := 14) (by decide) wf_12_90 rfl rfl (ly_40 hL) (lr_40_34 hL) (fun _ => ?_)
          show g_H E 0 0 63 [(0, vR 40), (1, vI x1), (2, vI x2), (3, vI x3), (4, vI x4)] [vR 65] (σ, M, N) _ _
          refine r_run J 4 (pc' := 68) (lv' := [(0, vR 40), (1, vI x1), (2, vI x2), (3, vI x3), (4, vI x4)]) (st' := [vR 40, vI ((64 : Int32) * x3), vR 65]) rfl ?_
          refine r_getR J cls12 rfl (k := 35) (t := 14) (by decide) wf_12_93 rfl rfl (ly_40 hL) (lr_40_35 hL) (fun _ => ?_)
          show g_H E 0 0 71 [(0, vR 40), (1, vI x1), (2, vI x2), (3, vI x3), (4, vI x4)] [vR 66, vI ((64 : Int32) * x3), vR 65] (σ, M, N) _ _
          refine r_run J 1 (pc' := 72) (lv' := [(0, vR 40), (1, vI x1), (2, vI x2), (3, vI x3), (4, vI x4)]) (st' := [vI x3, vR 66, vI ((64 : Int32) * x3), vR 65]) rfl ?_
          refine r_iald J rfl (ly_66 hL) (fun i72 => ?_)
          show g_H E 0 0 73 [(0, vR 40), (1, vI x1), (2, vI x2), (3, vI x3), (4, vI x4)] [vI (M 66 x3.toNatClampNeg), vI ((64 : Int32) * x3), vR 65] (σ, M, N) _ _
          refine r_run J 2 (pc' := 76) (lv' := [(0, vR 40), (1, vI x1), (2, vI x2), (3, vI x3), (4, vI x4)]) (st' := [vI x4, vI (((64 : Int32) * x3) + (M 66 x3.toNatClampNeg)), vR 65]) rfl ?_
          refine r_iast J rfl (ly_65 hL) (fun i76 => ?_)
          show g_H E 0 0 77 [(0, vR 40), (1, vI x1), (2, vI x2), (3, vI x3), (4, vI x4)] [] (σ, (g_up M 65 ((((64 : Int32) * x3) + (M 66 x3.toNatClampNeg)).toNatClampNeg) x4), N) _ _
          refine r_run J 1 (pc' := 78) (lv' := [(0, vR 40), (1, vI x1), (2, vI x2), (3, vI x3), (4, vI x4)]) (st' := [vR 40]) rfl ?_
          refine r_getR J cls12 rfl (k := 35) (t := 14) (by decide) wf_12_93 rfl rfl (ly_40 hL) (lr_40_35 hL) (fun _ => ?_)
          show g_H E 0 0 81 [(0, vR 40), (1, vI x1), (2, vI x2), (3, vI x3), (4, vI x4)] [vR 66] (σ, (g_up M 65 ((((64 : Int32) * x3) + (M 66 x3.toNatClampNeg)).toNatClampNeg) x4), N) _ _
          refine r_run J 2 (pc' := 83) (lv' := [(0, vR 40), (1, vI x1), (2, vI x2), (3, vI x3), (4, vI x4)]) (st' := [vI x3, vR 66, vI x3, vR 66]) rfl ?_
          refine r_iald J rfl (ly_66 hL) (fun i83 => ?_)
          show g_H E 0 0 84 [(0, vR 40), (1, vI x1), (2, vI x2), (3, vI x3), (4, vI x4)] [vI ((g_up M 65 ((((64 : Int32) * x3) + (M 66 x3.toNatClampNeg)).toNatClampNeg) x4) 66 x3.toNatClampNeg), vI x3, vR 66] (σ, (g_up M 65 ((((64 : Int32) * x3) + (M 66 x3.toNatClampNeg)).toNatClampNeg) x4), N) _ _
          refine r_run J 2 (pc' := 86) (lv' := [(0, vR 40), (1, vI x1), (2, vI x2), (3, vI x3), (4, vI x4)]) (st' := [vI (((g_up M 65 ((((64 : Int32) * x3) + (M 66 x3.toNatClampNeg)).toNatClampNeg) x4) 66 x3.toNatClampNeg) + (1 : Int32)), vI x3, vR 66]) rfl ?_
          refine r_iast J rfl (ly_66 hL) (fun i86 => ?_)
          show g_H E 0 0 87 [(0, vR 40), (1, vI x1), (2, vI x2), (3, vI x3), (4, vI x4)] [] (σ, (g_up (g_up M 65 ((((64 : Int32) * x3) + (M 66 x3.toNatClampNeg)).toNatClampNeg) x4) 66 (x3.toNatClampNeg) (((g_up M 65 ((((64 : Int32) * x3) + (M 66 x3.toNatClampNeg)).toNatClampNeg) x4) 66 x3.toNatClampNeg) + (1 : Int32))), N) _ _
          exact p_X12_findSets_87 J H8 ih x1 x2 x3 x4 σ (g_up (g_up M 65 ((((64 : Int32) * x3) + (M 66 x3.toNatClampNeg)).toNatClampNeg) x4) 66 (x3.toNatClampNeg) (((g_up M 65 ((((64 : Int32) * x3) + (M 66 x3.toNatClampNeg)).toNatClampNeg) x4) 66 x3.toNatClampNeg) + (1 : Int32))) N hL
      · exact p_X12_findSets_87 J H8 ih x1 x2 x3 x4 σ M N hL
    · refine r_run J 2 (pc' := 8) (lv' := [(3, vI (x3 + 1)), (0, vR 40), (1, vI x1), (2, vI x2), (4, vI x4)]) (st' := []) rfl ?_
      refine r_sub [1, 2, 3, 0] (lv' := [(0, vR 40), (1, vI x1), (2, vI x2), (3, vI (x3 + 1))]) rfl ?_
      exact H8 x1 x2 (x3 + 1) σ M N hL
set_option maxHeartbeats 4000000 in
set_option maxRecDepth 100000 in
theorem p_X12_findSets_8 {l : Launch} {E : gE} (J : J_X12_findSets E l) : ∀ (n : Nat) (x1 : Int32) (x2 : Int32) (x3 : Int32) (σ : gS) (M : gM) (N : gN) (hL : g_layM σ), g_H E 0 0 8 [(0, vR 40), (1, vI x1), (2, vI x2), (3, vI x3)] [] (σ, M, N) (l_X12_findSets_8 n x1 x2 x3 σ M) (eVM σ N) := by
  intro n
  induction n with
  | zero => intros; exact h_none
  | succ n ih =>
    intro x1 x2 x3 σ M N hL
    rw [l_X12_findSets_8]
    refine r_run J 2 (pc' := 10) (lv' := [(0, vR 40), (1, vI x1), (2, vI x2), (3, vI x3)]) (st' := [vR 40, vI x3]) rfl ?_
    refine r_getR J cls12 rfl (k := 20) (t := 14) (by decide) wf_12_51 rfl rfl (ly_40 hL) (lr_40_20 hL) (fun _ => ?_)
    show g_H E 0 0 13 [(0, vR 40), (1, vI x1), (2, vI x2), (3, vI x3)] [vR 52, vI x3] (σ, M, N) _ _
    refine r_run J 1 (pc' := 14) (lv' := [(0, vR 40), (1, vI x1), (2, vI x2), (3, vI x3)]) (st' := [vI x1, vR 52, vI x3]) rfl ?_
    refine r_iald J rfl (ly_52 hL) (fun i14 => ?_)
    show g_H E 0 0 15 [(0, vR 40), (1, vI x1), (2, vI x2), (3, vI x3)] [vI (M 52 x1.toNatClampNeg), vI x3] (σ, M, N) _ _
    refine r_icmp_ge J (tgt := 99) rfl (by decide) (fun c15 => ?_) (fun c15 => ?_)
    · refine r_run J 1 (pc' := 19) (lv' := [(0, vR 40), (1, vI x1), (2, vI x2), (3, vI x3)]) (st' := [vR 40]) rfl ?_
      refine r_getR J cls12 rfl (k := 35) (t := 14) (by decide) wf_12_93 rfl rfl (ly_40 hL) (lr_40_35 hL) (fun _ => ?_)
      show g_H E 0 0 22 [(0, vR 40), (1, vI x1), (2, vI x2), (3, vI x3)] [vR 66] (σ, M, N) _ _
      refine r_run J 2 (pc' := 24) (lv' := [(0, vR 40), (1, vI x1), (2, vI x2), (3, vI x3)]) (st' := [vI 0, vI x3, vR 66]) rfl ?_
      refine r_iast J rfl (ly_66 hL) (fun i24 => ?_)
      show g_H E 0 0 25 [(0, vR 40), (1, vI x1), (2, vI x2), (3, vI x3)] [] (σ, (g_up M 66 (x3.toNatClampNeg) 0), N) _ _
      refine r_run J 2 (pc' := 28) (lv' := [(4, vI 0), (0, vR 40), (1, vI x1), (2, vI x2), (3, vI x3)]) (st' := []) rfl ?_
      refine r_sub [1, 2, 3, 4, 0] (lv' := [(0, vR 40), (1, vI x1), (2, vI x2), (3, vI x3), (4, vI 0)]) rfl ?_
      exact p_X12_findSets_28 J ih g_FU x1 x2 x3 0 σ (g_up M 66 (x3.toNatClampNeg) 0) N hL
    · exact r_vret J rfl rfl rfl (by decide) (by decide)
set_option maxHeartbeats 4000000 in
set_option maxRecDepth 100000 in
theorem p_X12_findSets_0 {l : Launch} {E : gE} (J : J_X12_findSets E l) (x1 : Int32) (σ : gS) (M : gM) (N : gN) (hL : g_layM σ) : g_H E 0 0 0 [(0, vR 40), (1, vI x1)] [] (σ, M, N) (b_X12_findSets_0 x1 σ M) (eVM σ N) := by
  unfold b_X12_findSets_0
  refine r_run J 2 (pc' := 2) (lv' := [(0, vR 40), (1, vI x1)]) (st' := [vI x1, vR 40]) rfl ?_
  refine r_callV J (As := [vI x1]) (st := []) (fun r hr => c_X12_there x1 σ M N hL r hr) cls12 (ly_40 hL) wm_12_215 wy_X12_there wd_X12_there ⟨by decide, by decide, by decide, by decide, Nat.le_of_ble_eq_true rfl⟩ rfl rfl (fun q2 hq2 => ?_)
  show g_H E 0 0 5 [(0, vR 40), (1, vI x1)] [vI q2] (σ, M, N) _ _
  refine r_run J 3 (pc' := 8) (lv' := [(3, vI 0), (2, vI q2), (0, vR 40), (1, vI x1)]) (st' := []) rfl ?_
  refine r_sub [2, 3, 1, 0] (lv' := [(0, vR 40), (1, vI x1), (2, vI q2), (3, vI 0)]) rfl ?_
  exact p_X12_findSets_8 J g_FU x1 q2 0 σ M N hL
noncomputable def f_X12_findSets (x1 : Int32) (σ : gS) (M : gM) : Option (gM) := b_X12_findSets_0 x1 σ M
theorem c_X12_findSets {l : Launch} (x1 : Int32) (σ : gS) (M : gM) (N : gN) (hL : g_layM σ) (r : gM) (h : f_X12_findSets x1 σ M = some r) : g_Ct l yX12_findSets cX12_findSets 5 none 3 0 0 [vR 40, vI x1] (σ, M, N) (eVM σ N r) :=
  g_Ct.of tb_X12_findSets (by decide +kernel) tk_X12_findSets (Nat.le_of_ble_eq_true rfl) (fun E J => p_X12_findSets_0 J x1 σ M N hL r h)
def tb_X12_movedBy : gT := [(0, .iconst 0, 1, 0), (1, .istore 4, 2, 0), (3, .iconst 0, 1, 0), (4, .istore 5, 2, 0), (6, .iload 5, 2, 0), (8, .aload_n 0, 1, 0), (9, .getfield 157, 3, 0), (12, .if_icmp .ge 61, 3, 0), (15, .iload 4, 2, 0), (17, .iload_n 3, 1, 0), (18, .iload 5, 2, 0), (20, .ishr, 1, 0), (21, .iconst 1, 1, 1), (22, .iand, 1, 0), (23, .iconst 1, 1, 1), (24, .if_icmp .ne 39, 3, 0), (27, .aload_n 0, 1, 0), (28, .getfield 66, 3, 0), (31, .bipush 10, 2, 10), (33, .iload_n 1, 1, 0), (34, .imul, 1, 0), (35, .iload 5, 2, 0), (37, .iadd, 1, 0), (38, .iaload, 1, 0), (39, .iconst (-1), 1, (-1)), (40, .if_icmp .eq 23, 3, 0), (43, .aload_n 0, 1, 0), (44, .getfield 66, 3, 0), (47, .bipush 10, 2, 10), (49, .iload_n 1, 1, 0), (50, .imul, 1, 0), (51, .iload 5, 2, 0), (53, .iadd, 1, 0), (54, .iaload, 1, 0), (55, .iload_n 2, 1, 0), (56, .if_icmp .eq 7, 3, 0), (59, .iconst 1, 1, 1), (60, .goto 4, 3, 0), (63, .iconst 0, 1, 0), (64, .iadd, 1, 0), (65, .istore 4, 2, 0), (67, .iinc 5 1, 3, 1), (70, .goto (-64), 3, 0), (73, .iload 4, 2, 0), (75, .ireturn, 1, 0)]
set_option maxRecDepth 100000 in
theorem tk_X12_movedBy : g_okT cX12_movedBy tb_X12_movedBy = true := by decide +kernel
abbrev J_X12_movedBy (E : gE) (l : Launch) : Prop := g_J E cX12_movedBy RX12 "movedBy" (some .int) 6 tb_X12_movedBy 1 0 0 l
noncomputable def b_X12_movedBy_64 (k6 : Int32 → Int32 → Int32 → Int32 → Int32 → gS → gM → Option (Int32)) (x1 : Int32) (x2 : Int32) (x3 : Int32) (x5 : Int32) (sx0 : Int32) (sx1 : Int32) (σ : gS) (M : gM) : Option (Int32) := k6 x1 x2 x3 (sx1 + sx0) (x5 + 1) σ M
noncomputable def b_X12_movedBy_63 (k6 : Int32 → Int32 → Int32 → Int32 → Int32 → gS → gM → Option (Int32)) (x1 : Int32) (x2 : Int32) (x3 : Int32) (x5 : Int32) (sx0 : Int32) (σ : gS) (M : gM) : Option (Int32) := b_X12_movedBy_64 k6 x1 x2 x3 x5 0 sx0 σ M
noncomputable def l_X12_movedBy_6 : Nat → Int32 → Int32 → Int32 → Int32 → Int32 → gS → gM → Option (Int32)
  | 0, _, _, _, _, _, _, _ => none
  | n + 1, x1, x2, x3, x4, x5, σ, M => if x5 < (M 40 1) then if ((x3 >>> (x5 &&& 31)) &&& (1 : Int32)) = (1 : Int32) then if g_in (((10 : Int32) * x1) + x5) 60 = true then if (M 57 (((10 : Int32) * x1) + x5).toNatClampNeg) = (-1 : Int32) then b_X12_movedBy_63 (fun x1 x2 x3 x4 x5 σ M => l_X12_movedBy_6 n x1 x2 x3 x4 x5 σ M) x1 x2 x3 x5 x4 σ M else if g_in (((10 : Int32) * x1) + x5) 60 = true then if (M 57 (((10 : Int32) * x1) + x5).toNatClampNeg) = x2 then b_X12_movedBy_63 (fun x1 x2 x3 x4 x5 σ M => l_X12_movedBy_6 n x1 x2 x3 x4 x5 σ M) x1 x2 x3 x5 x4 σ M else b_X12_movedBy_64 (fun x1 x2 x3 x4 x5 σ M => l_X12_movedBy_6 n x1 x2 x3 x4 x5 σ M) x1 x2 x3 x5 1 x4 σ M else none else none else b_X12_movedBy_63 (fun x1 x2 x3 x4 x5 σ M => l_X12_movedBy_6 n x1 x2 x3 x4 x5 σ M) x1 x2 x3 x5 x4 σ M else some x4
noncomputable def b_X12_movedBy_0 (x1 : Int32) (x2 : Int32) (x3 : Int32) (σ : gS) (M : gM) : Option (Int32) := l_X12_movedBy_6 g_FU x1 x2 x3 0 0 σ M
set_option maxHeartbeats 4000000 in
set_option maxRecDepth 100000 in
theorem p_X12_movedBy_64 {l : Launch} {E : gE} (J : J_X12_movedBy E l) {k6 : Int32 → Int32 → Int32 → Int32 → Int32 → gS → gM → Option (Int32)} (H6 : ∀ (x1 : Int32) (x2 : Int32) (x3 : Int32) (x4 : Int32) (x5 : Int32) (σ : gS) (M : gM) (N : gN) (_ : g_layM σ), g_H E 0 0 6 [(0, vR 40), (1, vI x1), (2, vI x2), (3, vI x3), (4, vI x4), (5, vI x5)] [] (σ, M, N) (k6 x1 x2 x3 x4 x5 σ M) (eI σ M N)) (x1 : Int32) (x2 : Int32) (x3 : Int32) (x5 : Int32) (sx0 : Int32) (sx1 : Int32) (σ : gS) (M : gM) (N : gN) (hL : g_layM σ) : g_H E 0 0 64 [(0, vR 40), (1, vI x1), (2, vI x2), (3, vI x3), (5, vI x5)] [vI sx0, vI sx1] (σ, M, N) (b_X12_movedBy_64 k6 x1 x2 x3 x5 sx0 sx1 σ M) (eI σ M N) := by
  unfold b_X12_movedBy_64
  refine r_run J 4 (pc' := 6) (lv' := [(5, vI (x5 + 1)), (4, vI (sx1 + sx0)), (0, vR 40), (1, vI x1), (2, vI x2), (3, vI x3)]) (st' := []) rfl ?_
  refine r_sub [2, 3, 4, 5, 1, 0] (lv' := [(0, vR 40), (1, vI x1), (2, vI x2), (3, vI x3), (4, vI (sx1 + sx0)), (5, vI (x5 + 1))]) rfl ?_
  exact H6 x1 x2 x3 (sx1 + sx0) (x5 + 1) σ M N hL
set_option maxHeartbeats 4000000 in
set_option maxRecDepth 100000 in
theorem p_X12_movedBy_63 {l : Launch} {E : gE} (J : J_X12_movedBy E l) {k6 : Int32 → Int32 → Int32 → Int32 → Int32 → gS → gM → Option (Int32)} (H6 : ∀ (x1 : Int32) (x2 : Int32) (x3 : Int32) (x4 : Int32) (x5 : Int32) (σ : gS) (M : gM) (N : gN) (_ : g_layM σ), g_H E 0 0 6 [(0, vR 40), (1, vI x1), (2, vI x2), (3, vI x3), (4, vI x4), (5, vI x5)] [] (σ, M, N) (k6 x1 x2 x3 x4 x5 σ M) (eI σ M N)) (x1 : Int32) (x2 : Int32) (x3 : Int32) (x5 : Int32) (sx0 : Int32) (σ : gS) (M : gM) (N : gN) (hL : g_layM σ) : g_H E 0 0 63 [(0, vR 40), (1, vI x1), (2, vI x2), (3, vI x3), (5, vI x5)] [vI sx0] (σ, M, N) (b_X12_movedBy_63 k6 x1 x2 x3 x5 sx0 σ M) (eI σ M N) := by
  unfold b_X12_movedBy_63
  refine r_run J 1 (pc' := 64) (lv' := [(0, vR 40), (1, vI x1), (2, vI x2), (3, vI x3), (5, vI x5)]) (st' := [vI 0, vI sx0]) rfl ?_
  exact p_X12_movedBy_64 J H6 x1 x2 x3 x5 0 sx0 σ M N hL
set_option maxHeartbeats 4000000 in
set_option maxRecDepth 100000 in
theorem p_X12_movedBy_6 {l : Launch} {E : gE} (J : J_X12_movedBy E l) : ∀ (n : Nat) (x1 : Int32) (x2 : Int32) (x3 : Int32) (x4 : Int32) (x5 : Int32) (σ : gS) (M : gM) (N : gN) (hL : g_layM σ), g_H E 0 0 6 [(0, vR 40), (1, vI x1), (2, vI x2), (3, vI x3), (4, vI x4), (5, vI x5)] [] (σ, M, N) (l_X12_movedBy_6 n x1 x2 x3 x4 x5 σ M) (eI σ M N) := by
  intro n
  induction n with
  | zero => intros; exact h_none
  | succ n ih =>
    intro x1 x2 x3 x4 x5 σ M N hL
    rw [l_X12_movedBy_6]
    refine r_run J 2 (pc' := 9) (lv' := [(0, vR 40), (1, vI x1), (2, vI x2), (3, vI x3), (4, vI x4), (5, vI x5)]) (st' := [vR 40, vI x5]) rfl ?_
    refine r_getI J cls12 rfl (k := 1) (by decide) wf_12_157 rfl (ly_40 hL) ?_
    show g_H E 0 0 12 [(0, vR 40), (1, vI x1), (2, vI x2), (3, vI x3), (4, vI x4), (5, vI x5)] [vI (M 40 1), vI x5] (σ, M, N) _ _
    refine r_icmp_ge J (tgt := 73) rfl (by decide) (fun c12 => ?_) (fun c12 => ?_)
    · refine r_run J 7 (pc' := 24) (lv' := [(0, vR 40), (1, vI x1), (2, vI x2), (3, vI x3), (4, vI x4), (5, vI x5)]) (st' := [vI 1, vI ((x3 >>> (x5 &&& 31)) &&& (1 : Int32)), vI x4]) rfl ?_
      refine r_icmp_ne J (tgt := 63) rfl (by decide) (fun c24 => ?_) (fun c24 => ?_)
      · refine r_run J 1 (pc' := 28) (lv' := [(0, vR 40), (1, vI x1), (2, vI x2), (3, vI x3), (4, vI x4), (5, vI x5)]) (st' := [vR 40, vI x4]) rfl ?_
        refine r_getR J cls12 rfl (k := 25) (t := 14) (by decide) wf_12_66 rfl rfl (ly_40 hL) (lr_40_25 hL) (fun _ => ?_)
        show g_H E 0 0 31 [(0, vR 40), (1, vI x1), (2, vI x2), (3, vI x3), (4, vI x4), (5, vI x5)] [vR 57, vI x4] (σ, M, N) _ _
        refine r_run J 5 (pc' := 38) (lv' := [(0, vR 40), (1, vI x1), (2, vI x2), (3, vI x3), (4, vI x4), (5, vI x5)]) (st' := [vI (((10 : Int32) * x1) + x5), vR 57, vI x4]) rfl ?_
        refine r_iald J rfl (ly_57 hL) (fun i38 => ?_)
        show g_H E 0 0 39 [(0, vR 40), (1, vI x1), (2, vI x2), (3, vI x3), (4, vI x4), (5, vI x5)] [vI (M 57 (((10 : Int32) * x1) + x5).toNatClampNeg), vI x4] (σ, M, N) _ _
        refine r_run J 1 (pc' := 40) (lv' := [(0, vR 40), (1, vI x1), (2, vI x2), (3, vI x3), (4, vI x4), (5, vI x5)]) (st' := [vI (-1), vI (M 57 (((10 : Int32) * x1) + x5).toNatClampNeg), vI x4]) rfl ?_
        refine r_icmp_eq J (tgt := 63) rfl (by decide) (fun c40 => ?_) (fun c40 => ?_)
        · refine r_sub [0, 1, 2, 3, 5] (lv' := [(0, vR 40), (1, vI x1), (2, vI x2), (3, vI x3), (5, vI x5)]) rfl ?_
          exact p_X12_movedBy_63 J ih x1 x2 x3 x5 x4 σ M N hL
        · refine r_run J 1 (pc' := 44) (lv' := [(0, vR 40), (1, vI x1), (2, vI x2), (3, vI x3), (4, vI x4), (5, vI x5)]) (st' := [vR 40, vI x4]) rfl ?_
          refine r_getR J cls12 rfl (k := 25) (t := 14) (by decide) wf_12_66 rfl rfl (ly_40 hL) (lr_40_25 hL) (fun _ => ?_)
          show g_H E 0 0 47 [(0, vR 40), (1, vI x1), (2, vI x2), (3, vI x3), (4, vI x4), (5, vI x5)] [vR 57, vI x4] (σ, M, N) _ _
          refine r_run J 5 (pc' := 54) (lv' := [(0, vR 40), (1, vI x1), (2, vI x2), (3, vI x3), (4, vI x4), (5, vI x5)]) (st' := [vI (((10 : Int32) * x1) + x5), vR 57, vI x4]) rfl ?_
          refine r_iald J rfl (ly_57 hL) (fun i54 => ?_)
          show g_H E 0 0 55 [(0, vR 40), (1, vI x1), (2, vI x2), (3, vI x3), (4, vI x4), (5, vI x5)] [vI (M 57 (((10 : Int32) * x1) + x5).toNatClampNeg), vI x4] (σ, M, N) _ _
          refine r_run J 1 (pc' := 56) (lv' := [(0, vR 40), (1, vI x1), (2, vI x2), (3, vI x3), (4, vI x4), (5, vI x5)]) (st' := [vI x2, vI (M 57 (((10 : Int32) * x1) + x5).toNatClampNeg), vI x4]) rfl ?_
          refine r_icmp_eq J (tgt := 63) rfl (by decide) (fun c56 => ?_) (fun c56 => ?_)
          · refine r_sub [0, 1, 2, 3, 5] (lv' := [(0, vR 40), (1, vI x1), (2, vI x2), (3, vI x3), (5, vI x5)]) rfl ?_
            exact p_X12_movedBy_63 J ih x1 x2 x3 x5 x4 σ M N hL
          · refine r_run J 2 (pc' := 64) (lv' := [(0, vR 40), (1, vI x1), (2, vI x2), (3, vI x3), (4, vI x4), (5, vI x5)]) (st' := [vI 1, vI x4]) rfl ?_
            refine r_sub [0, 1, 2, 3, 5] (lv' := [(0, vR 40), (1, vI x1), (2, vI x2), (3, vI x3), (5, vI x5)]) rfl ?_
            exact p_X12_movedBy_64 J ih x1 x2 x3 x5 1 x4 σ M N hL
      · refine r_sub [0, 1, 2, 3, 5] (lv' := [(0, vR 40), (1, vI x1), (2, vI x2), (3, vI x3), (5, vI x5)]) rfl ?_
        exact p_X12_movedBy_63 J ih x1 x2 x3 x5 x4 σ M N hL
    · refine r_run J 1 (pc' := 75) (lv' := [(0, vR 40), (1, vI x1), (2, vI x2), (3, vI x3), (4, vI x4), (5, vI x5)]) (st' := [vI x4]) rfl ?_
      exact r_iret J rfl rfl rfl rfl (by decide) (by decide)
set_option maxHeartbeats 4000000 in
set_option maxRecDepth 100000 in
theorem p_X12_movedBy_0 {l : Launch} {E : gE} (J : J_X12_movedBy E l) (x1 : Int32) (x2 : Int32) (x3 : Int32) (σ : gS) (M : gM) (N : gN) (hL : g_layM σ) : g_H E 0 0 0 [(0, vR 40), (1, vI x1), (2, vI x2), (3, vI x3)] [] (σ, M, N) (b_X12_movedBy_0 x1 x2 x3 σ M) (eI σ M N) := by
  unfold b_X12_movedBy_0
  refine r_run J 4 (pc' := 6) (lv' := [(5, vI 0), (4, vI 0), (0, vR 40), (1, vI x1), (2, vI x2), (3, vI x3)]) (st' := []) rfl ?_
  refine r_sub [2, 3, 4, 5, 1, 0] (lv' := [(0, vR 40), (1, vI x1), (2, vI x2), (3, vI x3), (4, vI 0), (5, vI 0)]) rfl ?_
  exact p_X12_movedBy_6 J g_FU x1 x2 x3 0 0 σ M N hL
noncomputable def f_X12_movedBy (x1 : Int32) (x2 : Int32) (x3 : Int32) (σ : gS) (M : gM) : Option (Int32) := b_X12_movedBy_0 x1 x2 x3 σ M
theorem c_X12_movedBy {l : Launch} (x1 : Int32) (x2 : Int32) (x3 : Int32) (σ : gS) (M : gM) (N : gN) (hL : g_layM σ) (r : Int32) (h : f_X12_movedBy x1 x2 x3 σ M = some r) : g_Ct l yX12_movedBy cX12_movedBy 6 (some .int) 1 0 0 [vR 40, vI x1, vI x2, vI x3] (σ, M, N) (eI σ M N r) :=
  g_Ct.of tb_X12_movedBy (by decide +kernel) tk_X12_movedBy (Nat.le_of_ble_eq_true rfl) (fun E J => p_X12_movedBy_0 J x1 x2 x3 σ M N hL r h)
def tb_X12_weight : gT := [(0, .iload_n 3, 1, 0), (1, .ifCond .ne 5, 3, 0), (4, .iconst 0, 1, 0), (5, .ireturn, 1, 0), (6, .aload_n 0, 1, 0), (7, .getfield 60, 3, 0), (10, .bipush 10, 2, 10), (12, .iload_n 1, 1, 0), (13, .imul, 1, 0), (14, .iload_n 2, 1, 0), (15, .iadd, 1, 0), (16, .iaload, 1, 0), (17, .istore 5, 2, 0), (19, .aload_n 0, 1, 0), (20, .iload_n 1, 1, 0), (21, .iload_n 2, 1, 0), (22, .iload_n 3, 1, 0), (23, .invokevirtual 222, 3, 0), (26, .istore 6, 2, 0), (28, .iload 4, 2, 0), (30, .ifCond .ne 14, 3, 0), (33, .bipush 32, 2, 32), (35, .iload 5, 2, 0), (37, .imul, 1, 0), (38, .iload 6, 2, 0), (40, .iadd, 1, 0), (41, .goto 11, 3, 0), (44, .ldc 226, 2, 0), (46, .iload 6, 2, 0), (48, .imul, 1, 0), (49, .iload 5, 2, 0), (51, .iadd, 1, 0), (52, .ireturn, 1, 0)]
set_option maxRecDepth 100000 in
theorem tk_X12_weight : g_okT cX12_weight tb_X12_weight = true := by decide +kernel
abbrev J_X12_weight (E : gE) (l : Launch) : Prop := g_J E cX12_weight RX12 "weight" (some .int) 7 tb_X12_weight 2 0 0 l
noncomputable def b_X12_weight_0 (x1 : Int32) (x2 : Int32) (x3 : Int32) (x4 : Int32) (σ : gS) (M : gM) : Option (Int32) := if x3 = (0 : Int32) then some 0 else if g_in (((10 : Int32) * x1) + x2) 60 = true then (f_X12_movedBy x1 x2 x3 σ M).bind fun q23 => if x4 = (0 : Int32) then some (((32 : Int32) * (M 55 (((10 : Int32) * x1) + x2).toNatClampNeg)) + q23) else some (((32768 : Int32) * q23) + (M 55 (((10 : Int32) * x1) + x2).toNatClampNeg)) else none
set_option maxHeartbeats 4000000 in
set_option maxRecDepth 100000 in
theorem p_X12_weight_0 {l : Launch} {E : gE} (J : J_X12_weight E l) (x1 : Int32) (x2 : Int32) (x3 : Int32) (x4 : Int32) (σ : gS) (M : gM) (N : gN) (hL : g_layM σ) : g_H E 0 0 0 [(0, vR 40), (1, vI x1), (2, vI x2), (3, vI x3), (4, vI x4)] [] (σ, M, N) (b_X12_weight_0 x1 x2 x3 x4 σ M) (eI σ M N) := by
  unfold b_X12_weight_0
  refine r_run J 1 (pc' := 1) (lv' := [(0, vR 40), (1, vI x1), (2, vI x2), (3, vI x3), (4, vI x4)]) (st' := [vI x3]) rfl ?_
  refine r_if_ne J (tgt := 6) rfl (by decide) (fun c1 => ?_) (fun c1 => ?_)
  · refine r_run J 1 (pc' := 5) (lv' := [(0, vR 40), (1, vI x1), (2, vI x2), (3, vI x3), (4, vI x4)]) (st' := [vI 0]) rfl ?_
    exact r_iret J rfl rfl rfl rfl (by decide) (by decide)
  · refine r_run J 1 (pc' := 7) (lv' := [(0, vR 40), (1, vI x1), (2, vI x2), (3, vI x3), (4, vI x4)]) (st' := [vR 40]) rfl ?_
    refine r_getR J cls12 rfl (k := 23) (t := 14) (by decide) wf_12_60 rfl rfl (ly_40 hL) (lr_40_23 hL) (fun _ => ?_)
    show g_H E 0 0 10 [(0, vR 40), (1, vI x1), (2, vI x2), (3, vI x3), (4, vI x4)] [vR 55] (σ, M, N) _ _
    refine r_run J 5 (pc' := 16) (lv' := [(0, vR 40), (1, vI x1), (2, vI x2), (3, vI x3), (4, vI x4)]) (st' := [vI (((10 : Int32) * x1) + x2), vR 55]) rfl ?_
    refine r_iald J rfl (ly_55 hL) (fun i16 => ?_)
    show g_H E 0 0 17 [(0, vR 40), (1, vI x1), (2, vI x2), (3, vI x3), (4, vI x4)] [vI (M 55 (((10 : Int32) * x1) + x2).toNatClampNeg)] (σ, M, N) _ _
    refine r_run J 5 (pc' := 23) (lv' := [(5, vI (M 55 (((10 : Int32) * x1) + x2).toNatClampNeg)), (0, vR 40), (1, vI x1), (2, vI x2), (3, vI x3), (4, vI x4)]) (st' := [vI x3, vI x2, vI x1, vR 40]) rfl ?_
    refine r_callV J (As := [vI x1, vI x2, vI x3]) (st := []) (fun r hr => c_X12_movedBy x1 x2 x3 σ M N hL r hr) cls12 (ly_40 hL) wm_12_222 wy_X12_movedBy wd_X12_movedBy ⟨by decide, by decide, by decide, by decide, Nat.le_of_ble_eq_true rfl⟩ rfl rfl (fun q23 hq23 => ?_)
    show g_H E 0 0 26 [(5, vI (M 55 (((10 : Int32) * x1) + x2).toNatClampNeg)), (0, vR 40), (1, vI x1), (2, vI x2), (3, vI x3), (4, vI x4)] [vI q23] (σ, M, N) _ _
    refine r_run J 2 (pc' := 30) (lv' := [(6, vI q23), (5, vI (M 55 (((10 : Int32) * x1) + x2).toNatClampNeg)), (0, vR 40), (1, vI x1), (2, vI x2), (3, vI x3), (4, vI x4)]) (st' := [vI x4]) rfl ?_
    refine r_if_ne J (tgt := 44) rfl (by decide) (fun c30 => ?_) (fun c30 => ?_)
    · refine r_run J 6 (pc' := 52) (lv' := [(6, vI q23), (5, vI (M 55 (((10 : Int32) * x1) + x2).toNatClampNeg)), (0, vR 40), (1, vI x1), (2, vI x2), (3, vI x3), (4, vI x4)]) (st' := [vI (((32 : Int32) * (M 55 (((10 : Int32) * x1) + x2).toNatClampNeg)) + q23)]) rfl ?_
      exact r_iret J rfl rfl rfl rfl (by decide) (by decide)
    · refine r_ldc J rfl wc_12_226 ?_
      refine r_run J 4 (pc' := 52) (lv' := [(6, vI q23), (5, vI (M 55 (((10 : Int32) * x1) + x2).toNatClampNeg)), (0, vR 40), (1, vI x1), (2, vI x2), (3, vI x3), (4, vI x4)]) (st' := [vI (((32768 : Int32) * q23) + (M 55 (((10 : Int32) * x1) + x2).toNatClampNeg))]) rfl ?_
      exact r_iret J rfl rfl rfl rfl (by decide) (by decide)
noncomputable def f_X12_weight (x1 : Int32) (x2 : Int32) (x3 : Int32) (x4 : Int32) (σ : gS) (M : gM) : Option (Int32) := b_X12_weight_0 x1 x2 x3 x4 σ M
theorem c_X12_weight {l : Launch} (x1 : Int32) (x2 : Int32) (x3 : Int32) (x4 : Int32) (σ : gS) (M : gM) (N : gN) (hL : g_layM σ) (r : Int32) (h : f_X12_weight x1 x2 x3 x4 σ M = some r) : g_Ct l yX12_weight cX12_weight 7 (some .int) 2 0 0 [vR 40, vI x1, vI x2, vI x3, vI x4] (σ, M, N) (eI σ M N r) :=
  g_Ct.of tb_X12_weight (by decide +kernel) tk_X12_weight (Nat.le_of_ble_eq_true rfl) (fun E J => p_X12_weight_0 J x1 x2 x3 x4 σ M N hL r h)
def tb_X12_isLeast : gT := [(0, .iload 4, 2, 0), (2, .iload_n 3, 1, 0), (3, .iconst (-1), 1, (-1)), (4, .ixor, 1, 0), (5, .iand, 1, 0), (6, .ifCond .eq 5, 3, 0), (9, .iconst 0, 1, 0), (10, .ireturn, 1, 0), (11, .aload_n 0, 1, 0), (12, .getfield 96, 3, 0), (15, .sipush 1024, 3, 1024), (18, .iload_n 2, 1, 0), (19, .iconst 1, 1, 1), (20, .iadd, 1, 0), (21, .imul, 1, 0), (22, .iload_n 3, 1, 0), (23, .iload 4, 2, 0), (25, .iconst (-1), 1, (-1)), (26, .ixor, 1, 0), (27, .iand, 1, 0), (28, .iadd, 1, 0), (29, .iaload, 1, 0), (30, .istore 6, 2, 0), (32, .iload 6, 2, 0), (34, .ldc 231, 2, 0), (36, .if_icmp .eq 35, 3, 0), (39, .iload 6, 2, 0), (41, .aload_n 0, 1, 0), (42, .iload_n 1, 1, 0), (43, .iload_n 2, 1, 0), (44, .iload 4, 2, 0), (46, .iload 5, 2, 0), (48, .invokevirtual 232, 3, 0), (51, .iadd, 1, 0), (52, .aload_n 0, 1, 0), (53, .getfield 96, 3, 0), (56, .sipush 1024, 3, 1024), (59, .iload_n 2, 1, 0), (60, .imul, 1, 0), (61, .iload_n 3, 1, 0), (62, .iadd, 1, 0), (63, .iaload, 1, 0), (64, .if_icmp .ne 7, 3, 0), (67, .iconst 1, 1, 1), (68, .goto 4, 3, 0), (71, .iconst 0, 1, 0), (72, .ireturn, 1, 0)]
set_option maxRecDepth 100000 in
theorem tk_X12_isLeast : g_okT cX12_isLeast tb_X12_isLeast = true := by decide +kernel
abbrev J_X12_isLeast (E : gE) (l : Launch) : Prop := g_J E cX12_isLeast RX12 "isLeast" (some .boolean) 7 tb_X12_isLeast 3 0 0 l
noncomputable def b_X12_isLeast_0 (x1 : Int32) (x2 : Int32) (x3 : Int32) (x4 : Int32) (x5 : Int32) (σ : gS) (M : gM) : Option (Int32) := if (x4 &&& (x3 ^^^ (-1 : Int32))) = (0 : Int32) then if g_in (((1024 : Int32) * (x2 + (1 : Int32))) + (x3 &&& (x4 ^^^ (-1 : Int32)))) 11264 = true then if (M 67 (((1024 : Int32) * (x2 + (1 : Int32))) + (x3 &&& (x4 ^^^ (-1 : Int32)))).toNatClampNeg) = (1073741824 : Int32) then some 0 else (f_X12_weight x1 x2 x4 x5 σ M).bind fun q48 => if g_in (((1024 : Int32) * x2) + x3) 11264 = true then if ((M 67 (((1024 : Int32) * (x2 + (1 : Int32))) + (x3 &&& (x4 ^^^ (-1 : Int32)))).toNatClampNeg) + q48) = (M 67 (((1024 : Int32) * x2) + x3).toNatClampNeg) then some 1 else some 0 else none else none else some 0
set_option maxHeartbeats 4000000 in
set_option maxRecDepth 100000 in
theorem p_X12_isLeast_0 {l : Launch} {E : gE} (J : J_X12_isLeast E l) (x1 : Int32) (x2 : Int32) (x3 : Int32) (x4 : Int32) (x5 : Int32) (σ : gS) (M : gM) (N : gN) (hL : g_layM σ) : g_H E 0 0 0 [(0, vR 40), (1, vI x1), (2, vI x2), (3, vI x3), (4, vI x4), (5, vI x5)] [] (σ, M, N) (b_X12_isLeast_0 x1 x2 x3 x4 x5 σ M) (eI σ M N) := by
  unfold b_X12_isLeast_0
  refine r_run J 5 (pc' := 6) (lv' := [(0, vR 40), (1, vI x1), (2, vI x2), (3, vI x3), (4, vI x4), (5, vI x5)]) (st' := [vI (x4 &&& (x3 ^^^ (-1 : Int32)))]) rfl ?_
  refine r_if_eq J (tgt := 11) rfl (by decide) (fun c6 => ?_) (fun c6 => ?_)
  · refine r_run J 1 (pc' := 12) (lv' := [(0, vR 40), (1, vI x1), (2, vI x2), (3, vI x3), (4, vI x4), (5, vI x5)]) (st' := [vR 40]) rfl ?_
    refine r_getR J cls12 rfl (k := 36) (t := 14) (by decide) wf_12_96 rfl rfl (ly_40 hL) (lr_40_36 hL) (fun _ => ?_)
    show g_H E 0 0 15 [(0, vR 40), (1, vI x1), (2, vI x2), (3, vI x3), (4, vI x4), (5, vI x5)] [vR 67] (σ, M, N) _ _
    refine r_run J 11 (pc' := 29) (lv' := [(0, vR 40), (1, vI x1), (2, vI x2), (3, vI x3), (4, vI x4), (5, vI x5)]) (st' := [vI (((1024 : Int32) * (x2 + (1 : Int32))) + (x3 &&& (x4 ^^^ (-1 : Int32)))), vR 67]) rfl ?_
    refine r_iald J rfl (ly_67 hL) (fun i29 => ?_)
    show g_H E 0 0 30 [(0, vR 40), (1, vI x1), (2, vI x2), (3, vI x3), (4, vI x4), (5, vI x5)] [vI (M 67 (((1024 : Int32) * (x2 + (1 : Int32))) + (x3 &&& (x4 ^^^ (-1 : Int32)))).toNatClampNeg)] (σ, M, N) _ _
    refine r_run J 2 (pc' := 34) (lv' := [(6, vI (M 67 (((1024 : Int32) * (x2 + (1 : Int32))) + (x3 &&& (x4 ^^^ (-1 : Int32)))).toNatClampNeg)), (0, vR 40), (1, vI x1), (2, vI x2), (3, vI x3), (4, vI x4), (5, vI x5)]) (st' := [vI (M 67 (((1024 : Int32) * (x2 + (1 : Int32))) + (x3 &&& (x4 ^^^ (-1 : Int32)))).toNatClampNeg)]) rfl ?_
    refine r_ldc J rfl wc_12_231 ?_
    refine r_icmp_eq J (tgt := 71) rfl (by decide) (fun c36 => ?_) (fun c36 => ?_)
    · refine r_run J 1 (pc' := 72) (lv' := [(6, vI (M 67 (((1024 : Int32) * (x2 + (1 : Int32))) + (x3 &&& (x4 ^^^ (-1 : Int32)))).toNatClampNeg)), (0, vR 40), (1, vI x1), (2, vI x2), (3, vI x3), (4, vI x4), (5, vI x5)]) (st' := [vI 0]) rfl ?_
      exact r_iret J rfl rfl rfl rfl (by decide) (by decide)
    · refine r_run J 6 (pc' := 48) (lv' := [(6, vI (M 67 (((1024 : Int32) * (x2 + (1 : Int32))) + (x3 &&& (x4 ^^^ (-1 : Int32)))).toNatClampNeg)), (0, vR 40), (1, vI x1), (2, vI x2), (3, vI x3), (4, vI x4), (5, vI x5)]) (st' := [vI x5, vI x4, vI x2, vI x1, vR 40, vI (M 67 (((1024 : Int32) * (x2 + (1 : Int32))) + (x3 &&& (x4 ^^^ (-1 : Int32)))).toNatClampNeg)]) rfl ?_
      refine r_callV J (As := [vI x1, vI x2, vI x4, vI x5]) (st := [vI (M 67 (((1024 : Int32) * (x2 + (1 : Int32))) + (x3 &&& (x4 ^^^ (-1 : Int32)))).toNatClampNeg)]) (fun r hr => c_X12_weight x1 x2 x4 x5 σ M N hL r hr) cls12 (ly_40 hL) wm_12_232 wy_X12_weight wd_X12_weight ⟨by decide, by decide, by decide, by decide, Nat.le_of_ble_eq_true rfl⟩ rfl rfl (fun q48 hq48 => ?_)
      show g_H E 0 0 51 [(6, vI (M 67 (((1024 : Int32) * (x2 + (1 : Int32))) + (x3 &&& (x4 ^^^ (-1 : Int32)))).toNatClampNeg)), (0, vR 40), (1, vI x1), (2, vI x2), (3, vI x3), (4, vI x4), (5, vI x5)] [vI q48, vI (M 67 (((1024 : Int32) * (x2 + (1 : Int32))) + (x3 &&& (x4 ^^^ (-1 : Int32)))).toNatClampNeg)] (σ, M, N) _ _
      refine r_run J 2 (pc' := 53) (lv' := [(6, vI (M 67 (((1024 : Int32) * (x2 + (1 : Int32))) + (x3 &&& (x4 ^^^ (-1 : Int32)))).toNatClampNeg)), (0, vR 40), (1, vI x1), (2, vI x2), (3, vI x3), (4, vI x4), (5, vI x5)]) (st' := [vR 40, vI ((M 67 (((1024 : Int32) * (x2 + (1 : Int32))) + (x3 &&& (x4 ^^^ (-1 : Int32)))).toNatClampNeg) + q48)]) rfl ?_
      refine r_getR J cls12 rfl (k := 36) (t := 14) (by decide) wf_12_96 rfl rfl (ly_40 hL) (lr_40_36 hL) (fun _ => ?_)
      show g_H E 0 0 56 [(6, vI (M 67 (((1024 : Int32) * (x2 + (1 : Int32))) + (x3 &&& (x4 ^^^ (-1 : Int32)))).toNatClampNeg)), (0, vR 40), (1, vI x1), (2, vI x2), (3, vI x3), (4, vI x4), (5, vI x5)] [vR 67, vI ((M 67 (((1024 : Int32) * (x2 + (1 : Int32))) + (x3 &&& (x4 ^^^ (-1 : Int32)))).toNatClampNeg) + q48)] (σ, M, N) _ _
      refine r_run J 5 (pc' := 63) (lv' := [(6, vI (M 67 (((1024 : Int32) * (x2 + (1 : Int32))) + (x3 &&& (x4 ^^^ (-1 : Int32)))).toNatClampNeg)), (0, vR 40), (1, vI x1), (2, vI x2), (3, vI x3), (4, vI x4), (5, vI x5)]) (st' := [vI (((1024 : Int32) * x2) + x3), vR 67, vI ((M 67 (((1024 : Int32) * (x2 + (1 : Int32))) + (x3 &&& (x4 ^^^ (-1 : Int32)))).toNatClampNeg) + q48)]) rfl ?_
      refine r_iald J rfl (ly_67 hL) (fun i63 => ?_)
      show g_H E 0 0 64 [(6, vI (M 67 (((1024 : Int32) * (x2 + (1 : Int32))) + (x3 &&& (x4 ^^^ (-1 : Int32)))).toNatClampNeg)), (0, vR 40), (1, vI x1), (2, vI x2), (3, vI x3), (4, vI x4), (5, vI x5)] [vI (M 67 (((1024 : Int32) * x2) + x3).toNatClampNeg), vI ((M 67 (((1024 : Int32) * (x2 + (1 : Int32))) + (x3 &&& (x4 ^^^ (-1 : Int32)))).toNatClampNeg) + q48)] (σ, M, N) _ _
      refine r_icmp_ne J (tgt := 71) rfl (by decide) (fun c64 => ?_) (fun c64 => ?_)
      · refine r_run J 2 (pc' := 72) (lv' := [(6, vI (M 67 (((1024 : Int32) * (x2 + (1 : Int32))) + (x3 &&& (x4 ^^^ (-1 : Int32)))).toNatClampNeg)), (0, vR 40), (1, vI x1), (2, vI x2), (3, vI x3), (4, vI x4), (5, vI x5)]) (st' := [vI 1]) rfl ?_
        exact r_iret J rfl rfl rfl rfl (by decide) (by decide)
      · refine r_run J 1 (pc' := 72) (lv' := [(6, vI (M 67 (((1024 : Int32) * (x2 + (1 : Int32))) + (x3 &&& (x4 ^^^ (-1 : Int32)))).toNatClampNeg)), (0, vR 40), (1, vI x1), (2, vI x2), (3, vI x3), (4, vI x4), (5, vI x5)]) (st' := [vI 0]) rfl ?_
        exact r_iret J rfl rfl rfl rfl (by decide) (by decide)
  · refine r_run J 1 (pc' := 10) (lv' := [(0, vR 40), (1, vI x1), (2, vI x2), (3, vI x3), (4, vI x4), (5, vI x5)]) (st' := [vI 0]) rfl ?_
    exact r_iret J rfl rfl rfl rfl (by decide) (by decide)
noncomputable def f_X12_isLeast (x1 : Int32) (x2 : Int32) (x3 : Int32) (x4 : Int32) (x5 : Int32) (σ : gS) (M : gM) : Option (Int32) := b_X12_isLeast_0 x1 x2 x3 x4 x5 σ M
theorem c_X12_isLeast {l : Launch} (x1 : Int32) (x2 : Int32) (x3 : Int32) (x4 : Int32) (x5 : Int32) (σ : gS) (M : gM) (N : gN) (hL : g_layM σ) (r : Int32) (h : f_X12_isLeast x1 x2 x3 x4 x5 σ M = some r) : g_Ct l yX12_isLeast cX12_isLeast 7 (some .boolean) 3 0 0 [vR 40, vI x1, vI x2, vI x3, vI x4, vI x5] (σ, M, N) (eI σ M N r) :=
  g_Ct.of tb_X12_isLeast (by decide +kernel) tk_X12_isLeast (Nat.le_of_ble_eq_true rfl) (fun E J => p_X12_isLeast_0 J x1 x2 x3 x4 x5 σ M N hL r h)
def tb_X12_takes : gT := [(0, .iload_n 3, 1, 0), (1, .istore 4, 2, 0), (3, .iconst 0, 1, 0), (4, .istore 5, 2, 0), (6, .iconst 0, 1, 0), (7, .istore 6, 2, 0), (9, .iconst 0, 1, 0), (10, .istore 7, 2, 0), (12, .iload 7, 2, 0), (14, .aload_n 0, 1, 0), (15, .getfield 157, 3, 0), (18, .if_icmp .ge 17, 3, 0), (21, .aload_n 0, 1, 0), (22, .getfield 102, 3, 0), (25, .iload 7, 2, 0), (27, .iconst (-1), 1, (-1)), (28, .iastore, 1, 0), (29, .iinc 7 1, 3, 1), (32, .goto (-20), 3, 0), (35, .iconst 0, 1, 0), (36, .istore 7, 2, 0), (38, .iload 7, 2, 0), (40, .aload_n 0, 1, 0), (41, .getfield 51, 3, 0), (44, .iload_n 1, 1, 0), (45, .iaload, 1, 0), (46, .if_icmp .ge 156, 3, 0), (49, .iconst 0, 1, 0), (50, .istore 8, 2, 0), (52, .aload_n 0, 1, 0), (53, .iload_n 1, 1, 0), (54, .iload 7, 2, 0), (56, .iload 4, 2, 0), (58, .aload_n 0, 1, 0), (59, .getfield 90, 3, 0), (62, .bipush 64, 2, 64), (64, .iload 7, 2, 0), (66, .imul, 1, 0), (67, .iload 8, 2, 0), (69, .iadd, 1, 0), (70, .iaload, 1, 0), (71, .iload_n 2, 1, 0), (72, .invokevirtual 239, 3, 0), (75, .ifCond .ne 9, 3, 0), (78, .iinc 8 1, 3, 1), (81, .goto (-29), 3, 0), (84, .aload_n 0, 1, 0), (85, .getfield 90, 3, 0), (88, .bipush 64, 2, 64), (90, .iload 7, 2, 0), (92, .imul, 1, 0), (93, .iload 8, 2, 0), (95, .iadd, 1, 0), (96, .iaload, 1, 0), (97, .istore 9, 2, 0), (99, .iconst 0, 1, 0), (100, .istore 10, 2, 0), (102, .iload 10, 2, 0), (104, .aload_n 0, 1, 0), (105, .getfield 157, 3, 0), (108, .if_icmp .ge 39, 3, 0), (111, .aload_n 0, 1, 0), (112, .getfield 102, 3, 0), (115, .iload 10, 2, 0), (117, .iload 9, 2, 0), (119, .iload 10, 2, 0), (121, .ishr, 1, 0), (122, .iconst 1, 1, 1), (123, .iand, 1, 0), (124, .iconst 1, 1, 1), (125, .if_icmp .ne 8, 3, 0), (128, .iload 7, 2, 0), (130, .goto 10, 3, 0), (133, .aload_n 0, 1, 0), (134, .getfield 102, 3, 0), (137, .iload 10, 2, 0), (139, .iaload, 1, 0), (140, .iastore, 1, 0), (141, .iinc 10 1, 3, 1), (144, .goto (-42), 3, 0), (147, .iload 5, 2, 0), (149, .iload 9, 2, 0), (151, .ifCond .ne 7, 3, 0), (154, .iconst 0, 1, 0), (155, .goto 15, 3, 0), (158, .aload_n 0, 1, 0), (159, .getfield 60, 3, 0), (162, .bipush 10, 2, 10), (164, .iload_n 1, 1, 0), (165, .imul, 1, 0), (166, .iload 7, 2, 0), (168, .iadd, 1, 0), (169, .iaload, 1, 0), (170, .iadd, 1, 0), (171, .istore 5, 2, 0), (173, .iload 6, 2, 0), (175, .aload_n 0, 1, 0), (176, .iload_n 1, 1, 0), (177, .iload 7, 2, 0), (179, .iload 9, 2, 0), (181, .invokevirtual 222, 3, 0), (184, .iadd, 1, 0), (185, .istore 6, 2, 0), (187, .iload 4, 2, 0), (189, .iload 9, 2, 0), (191, .iconst (-1), 1, (-1)), (192, .ixor, 1, 0), (193, .iand, 1, 0), (194, .istore 4, 2, 0), (196, .iinc 7 1, 3, 1), (199, .goto (-161), 3, 0), (202, .iconst 0, 1, 0), (203, .istore 7, 2, 0), (205, .iconst 0, 1, 0), (206, .istore 8, 2, 0), (208, .iload 8, 2, 0), (210, .aload_n 0, 1, 0), (211, .getfield 157, 3, 0), (214, .if_icmp .ge 41, 3, 0), (217, .iload 7, 2, 0), (219, .aload_n 0, 1, 0), (220, .getfield 102, 3, 0), (223, .iload 8, 2, 0), (225, .iaload, 1, 0), (226, .aload_n 0, 1, 0), (227, .getfield 66, 3, 0), (230, .bipush 10, 2, 10), (232, .iload_n 1, 1, 0), (233, .imul, 1, 0), (234, .iload 8, 2, 0), (236, .iadd, 1, 0), (237, .iaload, 1, 0), (238, .if_icmp .eq 7, 3, 0), (241, .iconst 1, 1, 1), (242, .goto 4, 3, 0), (245, .iconst 0, 1, 0), (246, .iadd, 1, 0), (247, .istore 7, 2, 0), (249, .iinc 8 1, 3, 1), (252, .goto (-44), 3, 0), (255, .aload_n 0, 1, 0), (256, .getfield 180, 3, 0), (259, .iload 7, 2, 0), (261, .iadd, 1, 0), (262, .sipush 500, 3, 500), (265, .if_icmp .le 5, 3, 0), (268, .iconst (-1), 1, (-1)), (269, .ireturn, 1, 0), (270, .iconst 0, 1, 0), (271, .istore 8, 2, 0), (273, .iload 8, 2, 0), (275, .aload_n 0, 1, 0), (276, .getfield 157, 3, 0), (279, .if_icmp .ge 23, 3, 0), (282, .aload_n 0, 1, 0), (283, .iload_n 1, 1, 0), (284, .iload 8, 2, 0), (286, .aload_n 0, 1, 0), (287, .getfield 102, 3, 0), (290, .iload 8, 2, 0), (292, .iaload, 1, 0), (293, .invokevirtual 186, 3, 0), (296, .iinc 8 1, 3, 1), (299, .goto (-26), 3, 0), (302, .aload_n 0, 1, 0), (303, .iload 6, 2, 0), (305, .putfield 99, 3, 0), (308, .iload 5, 2, 0), (310, .ireturn, 1, 0)]
set_option maxRecDepth 100000 in
theorem tk_X12_takes : g_okT cX12_takes tb_X12_takes = true := by decide +kernel
abbrev J_X12_takes (E : gE) (l : Launch) : Prop := g_J E cX12_takes RX12 "takes" (some .int) 11 tb_X12_takes 4 0 0 l
noncomputable def l_X12_takes_273 : Nat → Int32 → Int32 → Int32 → Int32 → gS → gM → Option (Int32 × gM)
  | 0, _, _, _, _, _, _ => none
  | n + 1, x1, x5, x6, x8, σ, M => if x8 < (M 40 1) then if g_in x8 10 = true then (f_X12_notes x1 x8 (M 68 x8.toNatClampNeg) σ M).bind fun q293 => l_X12_takes_273 n x1 x5 x6 (x8 + 1) σ q293 else none else some (x5, (g_up M 40 37 x6))
noncomputable def b_X12_takes_246 (k208 : Int32 → Int32 → Int32 → Int32 → Int32 → gS → gM → Option (Int32 × gM)) (x1 : Int32) (x5 : Int32) (x6 : Int32) (x8 : Int32) (sx0 : Int32) (sx1 : Int32) (σ : gS) (M : gM) : Option (Int32 × gM) := k208 x1 x5 x6 (sx1 + sx0) (x8 + 1) σ M
noncomputable def l_X12_takes_208 : Nat → Int32 → Int32 → Int32 → Int32 → Int32 → gS → gM → Option (Int32 × gM)
  | 0, _, _, _, _, _, _, _ => none
  | n + 1, x1, x5, x6, x7, x8, σ, M => if x8 < (M 40 1) then if g_in x8 10 = true then if g_in (((10 : Int32) * x1) + x8) 60 = true then if (M 68 x8.toNatClampNeg) = (M 57 (((10 : Int32) * x1) + x8).toNatClampNeg) then b_X12_takes_246 (fun x1 x5 x6 x7 x8 σ M => l_X12_takes_208 n x1 x5 x6 x7 x8 σ M) x1 x5 x6 x8 0 x7 σ M else b_X12_takes_246 (fun x1 x5 x6 x7 x8 σ M => l_X12_takes_208 n x1 x5 x6 x7 x8 σ M) x1 x5 x6 x8 1 x7 σ M else none else none else if (500 : Int32) < ((M 40 26) + x7) then some ((-1), M) else l_X12_takes_273 g_FU x1 x5 x6 0 σ M
noncomputable def b_X12_takes_170 (k38 : Int32 → Int32 → Int32 → Int32 → Int32 → Int32 → gS → gM → Option (Int32 × gM)) (x1 : Int32) (x2 : Int32) (x4 : Int32) (x6 : Int32) (x7 : Int32) (x9 : Int32) (sx0 : Int32) (sx1 : Int32) (σ : gS) (M : gM) : Option (Int32 × gM) := (f_X12_movedBy x1 x7 x9 σ M).bind fun q181 => k38 x1 x2 (x4 &&& (x9 ^^^ (-1 : Int32))) (sx1 + sx0) (x6 + q181) (x7 + 1) σ M
noncomputable def b_X12_takes_140 (k38 : Int32 → Int32 → Int32 → Int32 → Int32 → Int32 → gS → gM → Option (Int32 × gM)) (k102 : Int32 → Int32 → Int32 → Int32 → Int32 → Int32 → Int32 → Int32 → gS → gM → Option (Int32 × gM)) (x1 : Int32) (x2 : Int32) (x4 : Int32) (x5 : Int32) (x6 : Int32) (x7 : Int32) (x9 : Int32) (x10 : Int32) (sx0 : Int32) (sx1 : Int32) (σ : gS) (M : gM) : Option (Int32 × gM) := if g_in sx1 10 = true then k102 x1 x2 x4 x5 x6 x7 x9 (x10 + 1) σ (g_up M 68 (sx1.toNatClampNeg) sx0) else none
noncomputable def l_X12_takes_102 (k38 : Int32 → Int32 → Int32 → Int32 → Int32 → Int32 → gS → gM → Option (Int32 × gM)) : Nat → Int32 → Int32 → Int32 → Int32 → Int32 → Int32 → Int32 → Int32 → gS → gM → Option (Int32 × gM)
  | 0, _, _, _, _, _, _, _, _, _, _ => none
  | n + 1, x1, x2, x4, x5, x6, x7, x9, x10, σ, M => if x10 < (M 40 1) then if ((x9 >>> (x10 &&& 31)) &&& (1 : Int32)) = (1 : Int32) then b_X12_takes_140 k38 (fun x1 x2 x4 x5 x6 x7 x9 x10 σ M => l_X12_takes_102 k38 n x1 x2 x4 x5 x6 x7 x9 x10 σ M) x1 x2 x4 x5 x6 x7 x9 x10 x7 x10 σ M else if g_in x10 10 = true then b_X12_takes_140 k38 (fun x1 x2 x4 x5 x6 x7 x9 x10 σ M => l_X12_takes_102 k38 n x1 x2 x4 x5 x6 x7 x9 x10 σ M) x1 x2 x4 x5 x6 x7 x9 x10 (M 68 x10.toNatClampNeg) x10 σ M else none else if x9 = (0 : Int32) then b_X12_takes_170 k38 x1 x2 x4 x6 x7 x9 0 x5 σ M else if g_in (((10 : Int32) * x1) + x7) 60 = true then b_X12_takes_170 k38 x1 x2 x4 x6 x7 x9 (M 55 (((10 : Int32) * x1) + x7).toNatClampNeg) x5 σ M else none
noncomputable def l_X12_takes_52 (k38 : Int32 → Int32 → Int32 → Int32 → Int32 → Int32 → gS → gM → Option (Int32 × gM)) : Nat → Int32 → Int32 → Int32 → Int32 → Int32 → Int32 → Int32 → gS → gM → Option (Int32 × gM)
  | 0, _, _, _, _, _, _, _, _, _ => none
  | n + 1, x1, x2, x4, x5, x6, x7, x8, σ, M => if g_in (((64 : Int32) * x7) + x8) 640 = true then (f_X12_isLeast x1 x7 x4 (M 65 (((64 : Int32) * x7) + x8).toNatClampNeg) x2 σ M).bind fun q72 => if q72 = (0 : Int32) then l_X12_takes_52 k38 n x1 x2 x4 x5 x6 x7 (x8 + 1) σ M else if g_in (((64 : Int32) * x7) + x8) 640 = true then l_X12_takes_102 k38 g_FU x1 x2 x4 x5 x6 x7 (M 65 (((64 : Int32) * x7) + x8).toNatClampNeg) 0 σ M else none else none
noncomputable def l_X12_takes_38 : Nat → Int32 → Int32 → Int32 → Int32 → Int32 → Int32 → gS → gM → Option (Int32 × gM)
  | 0, _, _, _, _, _, _, _, _ => none
  | n + 1, x1, x2, x4, x5, x6, x7, σ, M => if g_in x1 6 = true then if x7 < (M 52 x1.toNatClampNeg) then l_X12_takes_52 (fun x1 x2 x4 x5 x6 x7 σ M => l_X12_takes_38 n x1 x2 x4 x5 x6 x7 σ M) g_FU x1 x2 x4 x5 x6 x7 0 σ M else l_X12_takes_208 g_FU x1 x5 x6 0 0 σ M else none
noncomputable def l_X12_takes_12 : Nat → Int32 → Int32 → Int32 → Int32 → Int32 → Int32 → gS → gM → Option (Int32 × gM)
  | 0, _, _, _, _, _, _, _, _ => none
  | n + 1, x1, x2, x4, x5, x6, x7, σ, M => if x7 < (M 40 1) then if g_in x7 10 = true then l_X12_takes_12 n x1 x2 x4 x5 x6 (x7 + 1) σ (g_up M 68 (x7.toNatClampNeg) (-1)) else none else l_X12_takes_38 g_FU x1 x2 x4 x5 x6 0 σ M
noncomputable def b_X12_takes_0 (x1 : Int32) (x2 : Int32) (x3 : Int32) (σ : gS) (M : gM) : Option (Int32 × gM) := l_X12_takes_12 g_FU x1 x2 x3 0 0 0 σ M
set_option maxHeartbeats 4000000 in
set_option maxRecDepth 100000 in
theorem p_X12_takes_273 {l : Launch} {E : gE} (J : J_X12_takes E l) : ∀ (n : Nat) (x1 : Int32) (x5 : Int32) (x6 : Int32) (x8 : Int32) (σ : gS) (M : gM) (N : gN) (hL : g_layM σ), g_H E 0 0 273 [(0, vR 40), (1, vI x1), (5, vI x5), (6, vI x6), (8, vI x8)] [] (σ, M, N) (l_X12_takes_273 n x1 x5 x6 x8 σ M) (eIM σ N) := by
  intro n
  induction n with
  | zero => intros; exact h_none
  | succ n ih =>
    intro x1 x5 x6 x8 σ M N hL
    rw [l_X12_takes_273]
    refine r_run J 2 (pc' := 276) (lv' := [(0, vR 40), (1, vI x1), (5, vI x5), (6, vI x6), (8, vI x8)]) (st' := [vR 40, vI x8]) rfl ?_
    refine r_getI J cls12 rfl (k := 1) (by decide) wf_12_157 rfl (ly_40 hL) ?_
    show g_H E 0 0 279 [(0, vR 40), (1, vI x1), (5, vI x5), (6, vI x6), (8, vI x8)] [vI (M 40 1), vI x8] (σ, M, N) _ _
    refine r_icmp_ge J (tgt := 302) rfl (by decide) (fun c279 => ?_) (fun c279 => ?_)
    · refine r_run J 4 (pc' := 287) (lv' := [(0, vR 40), (1, vI x1), (5, vI x5), (6, vI x6), (8, vI x8)]) (st' := [vR 40, vI x8, vI x1, vR 40]) rfl ?_
      refine r_getR J cls12 rfl (k := 38) (t := 14) (by decide) wf_12_102 rfl rfl (ly_40 hL) (lr_40_38 hL) (fun _ => ?_)
      show g_H E 0 0 290 [(0, vR 40), (1, vI x1), (5, vI x5), (6, vI x6), (8, vI x8)] [vR 68, vI x8, vI x1, vR 40] (σ, M, N) _ _
      refine r_run J 1 (pc' := 292) (lv' := [(0, vR 40), (1, vI x1), (5, vI x5), (6, vI x6), (8, vI x8)]) (st' := [vI x8, vR 68, vI x8, vI x1, vR 40]) rfl ?_
      refine r_iald J rfl (ly_68 hL) (fun i292 => ?_)
      show g_H E 0 0 293 [(0, vR 40), (1, vI x1), (5, vI x5), (6, vI x6), (8, vI x8)] [vI (M 68 x8.toNatClampNeg), vI x8, vI x1, vR 40] (σ, M, N) _ _
      refine r_callV J (As := [vI x1, vI x8, vI (M 68 x8.toNatClampNeg)]) (st := []) (fun r hr => c_X12_notes x1 x8 (M 68 x8.toNatClampNeg) σ M N hL r hr) cls12 (ly_40 hL) wm_12_186 wy_X12_notes wd_X12_notes ⟨by decide, by decide, by decide, by decide, Nat.le_of_ble_eq_true rfl⟩ rfl rfl (fun q293 hq293 => ?_)
      show g_H E 0 0 296 [(0, vR 40), (1, vI x1), (5, vI x5), (6, vI x6), (8, vI x8)] [] (σ, q293, N) _ _
      refine r_run J 2 (pc' := 273) (lv' := [(8, vI (x8 + 1)), (0, vR 40), (1, vI x1), (5, vI x5), (6, vI x6)]) (st' := []) rfl ?_
      refine r_sub [1, 2, 3, 4, 0] (lv' := [(0, vR 40), (1, vI x1), (5, vI x5), (6, vI x6), (8, vI (x8 + 1))]) rfl ?_
      exact ih x1 x5 x6 (x8 + 1) σ q293 N hL
    · refine r_run J 2 (pc' := 305) (lv' := [(0, vR 40), (1, vI x1), (5, vI x5), (6, vI x6), (8, vI x8)]) (st' := [vI x6, vR 40]) rfl ?_
      refine r_putI J cls12 rfl (k := 37) (by decide) wf_12_99 rfl (Or.inl rfl) ⟨rfl, rfl⟩ (ly_40 hL) ?_
      show g_H E 0 0 308 [(0, vR 40), (1, vI x1), (5, vI x5), (6, vI x6), (8, vI x8)] [] (σ, (g_up M 40 37 x6), N) _ _
      refine r_run J 1 (pc' := 310) (lv' := [(0, vR 40), (1, vI x1), (5, vI x5), (6, vI x6), (8, vI x8)]) (st' := [vI x5]) rfl ?_
      exact r_iret J rfl rfl rfl rfl (by decide) (by decide)
set_option maxHeartbeats 4000000 in
set_option maxRecDepth 100000 in
theorem p_X12_takes_246 {l : Launch} {E : gE} (J : J_X12_takes E l) {k208 : Int32 → Int32 → Int32 → Int32 → Int32 → gS → gM → Option (Int32 × gM)} (H208 : ∀ (x1 : Int32) (x5 : Int32) (x6 : Int32) (x7 : Int32) (x8 : Int32) (σ : gS) (M : gM) (N : gN) (_ : g_layM σ), g_H E 0 0 208 [(0, vR 40), (1, vI x1), (5, vI x5), (6, vI x6), (7, vI x7), (8, vI x8)] [] (σ, M, N) (k208 x1 x5 x6 x7 x8 σ M) (eIM σ N)) (x1 : Int32) (x5 : Int32) (x6 : Int32) (x8 : Int32) (sx0 : Int32) (sx1 : Int32) (σ : gS) (M : gM) (N : gN) (hL : g_layM σ) : g_H E 0 0 246 [(0, vR 40), (1, vI x1), (5, vI x5), (6, vI x6), (8, vI x8)] [vI sx0, vI sx1] (σ, M, N) (b_X12_takes_246 k208 x1 x5 x6 x8 sx0 sx1 σ M) (eIM σ N) := by
  unfold b_X12_takes_246
  refine r_run J 4 (pc' := 208) (lv' := [(8, vI (x8 + 1)), (7, vI (sx1 + sx0)), (0, vR 40), (1, vI x1), (5, vI x5), (6, vI x6)]) (st' := []) rfl ?_
  refine r_sub [2, 3, 4, 5, 1, 0] (lv' := [(0, vR 40), (1, vI x1), (5, vI x5), (6, vI x6), (7, vI (sx1 + sx0)), (8, vI (x8 + 1))]) rfl ?_
  exact H208 x1 x5 x6 (sx1 + sx0) (x8 + 1) σ M N hL
set_option maxHeartbeats 4000000 in
set_option maxRecDepth 100000 in
theorem p_X12_takes_208 {l : Launch} {E : gE} (J : J_X12_takes E l) : ∀ (n : Nat) (x1 : Int32) (x5 : Int32) (x6 : Int32) (x7 : Int32) (x8 : Int32) (σ : gS) (M : gM) (N : gN) (hL : g_layM σ), g_H E 0 0 208 [(0, vR 40), (1, vI x1), (5, vI x5), (6, vI x6), (7, vI x7), (8, vI x8)] [] (σ, M, N) (l_X12_takes_208 n x1 x5 x6 x7 x8 σ M) (eIM σ N) := by
  intro n
  induction n with
  | zero => intros; exact h_none
  | succ n ih =>
    intro x1 x5 x6 x7 x8 σ M N hL
    rw [l_X12_takes_208]
    refine r_run J 2 (pc' := 211) (lv' := [(0, vR 40), (1, vI x1), (5, vI x5), (6, vI x6), (7, vI x7), (8, vI x8)]) (st' := [vR 40, vI x8]) rfl ?_
    refine r_getI J cls12 rfl (k := 1) (by decide) wf_12_157 rfl (ly_40 hL) ?_
    show g_H E 0 0 214 [(0, vR 40), (1, vI x1), (5, vI x5), (6, vI x6), (7, vI x7), (8, vI x8)] [vI (M 40 1), vI x8] (σ, M, N) _ _
    refine r_icmp_ge J (tgt := 255) rfl (by decide) (fun c214 => ?_) (fun c214 => ?_)
    · refine r_run J 2 (pc' := 220) (lv' := [(0, vR 40), (1, vI x1), (5, vI x5), (6, vI x6), (7, vI x7), (8, vI x8)]) (st' := [vR 40, vI x7]) rfl ?_
      refine r_getR J cls12 rfl (k := 38) (t := 14) (by decide) wf_12_102 rfl rfl (ly_40 hL) (lr_40_38 hL) (fun _ => ?_)
      show g_H E 0 0 223 [(0, vR 40), (1, vI x1), (5, vI x5), (6, vI x6), (7, vI x7), (8, vI x8)] [vR 68, vI x7] (σ, M, N) _ _
      refine r_run J 1 (pc' := 225) (lv' := [(0, vR 40), (1, vI x1), (5, vI x5), (6, vI x6), (7, vI x7), (8, vI x8)]) (st' := [vI x8, vR 68, vI x7]) rfl ?_
      refine r_iald J rfl (ly_68 hL) (fun i225 => ?_)
      show g_H E 0 0 226 [(0, vR 40), (1, vI x1), (5, vI x5), (6, vI x6), (7, vI x7), (8, vI x8)] [vI (M 68 x8.toNatClampNeg), vI x7] (σ, M, N) _ _
      refine r_run J 1 (pc' := 227) (lv' := [(0, vR 40), (1, vI x1), (5, vI x5), (6, vI x6), (7, vI x7), (8, vI x8)]) (st' := [vR 40, vI (M 68 x8.toNatClampNeg), vI x7]) rfl ?_
      refine r_getR J cls12 rfl (k := 25) (t := 14) (by decide) wf_12_66 rfl rfl (ly_40 hL) (lr_40_25 hL) (fun _ => ?_)
      show g_H E 0 0 230 [(0, vR 40), (1, vI x1), (5, vI x5), (6, vI x6), (7, vI x7), (8, vI x8)] [vR 57, vI (M 68 x8.toNatClampNeg), vI x7] (σ, M, N) _ _
      refine r_run J 5 (pc' := 237) (lv' := [(0, vR 40), (1, vI x1), (5, vI x5), (6, vI x6), (7, vI x7), (8, vI x8)]) (st' := [vI (((10 : Int32) * x1) + x8), vR 57, vI (M 68 x8.toNatClampNeg), vI x7]) rfl ?_
      refine r_iald J rfl (ly_57 hL) (fun i237 => ?_)
      show g_H E 0 0 238 [(0, vR 40), (1, vI x1), (5, vI x5), (6, vI x6), (7, vI x7), (8, vI x8)] [vI (M 57 (((10 : Int32) * x1) + x8).toNatClampNeg), vI (M 68 x8.toNatClampNeg), vI x7] (σ, M, N) _ _
      refine r_icmp_eq J (tgt := 245) rfl (by decide) (fun c238 => ?_) (fun c238 => ?_)
      · refine r_run J 1 (pc' := 246) (lv' := [(0, vR 40), (1, vI x1), (5, vI x5), (6, vI x6), (7, vI x7), (8, vI x8)]) (st' := [vI 0, vI x7]) rfl ?_
        refine r_sub [0, 1, 2, 3, 5] (lv' := [(0, vR 40), (1, vI x1), (5, vI x5), (6, vI x6), (8, vI x8)]) rfl ?_
        exact p_X12_takes_246 J ih x1 x5 x6 x8 0 x7 σ M N hL
      · refine r_run J 2 (pc' := 246) (lv' := [(0, vR 40), (1, vI x1), (5, vI x5), (6, vI x6), (7, vI x7), (8, vI x8)]) (st' := [vI 1, vI x7]) rfl ?_
        refine r_sub [0, 1, 2, 3, 5] (lv' := [(0, vR 40), (1, vI x1), (5, vI x5), (6, vI x6), (8, vI x8)]) rfl ?_
        exact p_X12_takes_246 J ih x1 x5 x6 x8 1 x7 σ M N hL
    · refine r_run J 1 (pc' := 256) (lv' := [(0, vR 40), (1, vI x1), (5, vI x5), (6, vI x6), (7, vI x7), (8, vI x8)]) (st' := [vR 40]) rfl ?_
      refine r_getI J cls12 rfl (k := 26) (by decide) wf_12_180 rfl (ly_40 hL) ?_
      show g_H E 0 0 259 [(0, vR 40), (1, vI x1), (5, vI x5), (6, vI x6), (7, vI x7), (8, vI x8)] [vI (M 40 26)] (σ, M, N) _ _
      refine r_run J 3 (pc' := 265) (lv' := [(0, vR 40), (1, vI x1), (5, vI x5), (6, vI x6), (7, vI x7), (8, vI x8)]) (st' := [vI 500, vI ((M 40 26) + x7)]) rfl ?_
      refine r_icmp_le J (tgt := 270) rfl (by decide) (fun c265 => ?_) (fun c265 => ?_)
      · refine r_run J 1 (pc' := 269) (lv' := [(0, vR 40), (1, vI x1), (5, vI x5), (6, vI x6), (7, vI x7), (8, vI x8)]) (st' := [vI (-1)]) rfl ?_
        exact r_iret J rfl rfl rfl rfl (by decide) (by decide)
      · refine r_run J 2 (pc' := 273) (lv' := [(8, vI 0), (0, vR 40), (1, vI x1), (5, vI x5), (6, vI x6), (7, vI x7)]) (st' := []) rfl ?_
        refine r_sub [1, 2, 3, 4, 0] (lv' := [(0, vR 40), (1, vI x1), (5, vI x5), (6, vI x6), (8, vI 0)]) rfl ?_
        exact p_X12_takes_273 J g_FU x1 x5 x6 0 σ M N hL
set_option maxHeartbeats 4000000 in
set_option maxRecDepth 100000 in
theorem p_X12_takes_170 {l : Launch} {E : gE} (J : J_X12_takes E l) {k38 : Int32 → Int32 → Int32 → Int32 → Int32 → Int32 → gS → gM → Option (Int32 × gM)} (H38 : ∀ (x1 : Int32) (x2 : Int32) (x4 : Int32) (x5 : Int32) (x6 : Int32) (x7 : Int32) (σ : gS) (M : gM) (N : gN) (_ : g_layM σ), g_H E 0 0 38 [(0, vR 40), (1, vI x1), (2, vI x2), (4, vI x4), (5, vI x5), (6, vI x6), (7, vI x7)] [] (σ, M, N) (k38 x1 x2 x4 x5 x6 x7 σ M) (eIM σ N)) (x1 : Int32) (x2 : Int32) (x4 : Int32) (x6 : Int32) (x7 : Int32) (x9 : Int32) (sx0 : Int32) (sx1 : Int32) (σ : gS) (M : gM) (N : gN) (hL : g_layM σ) : g_H E 0 0 170 [(0, vR 40), (1, vI x1), (2, vI x2), (4, vI x4), (6, vI x6), (7, vI x7), (9, vI x9)] [vI sx0, vI sx1] (σ, M, N) (b_X12_takes_170 k38 x1 x2 x4 x6 x7 x9 sx0 sx1 σ M) (eIM σ N) := by
  unfold b_X12_takes_170
  refine r_run J 7 (pc' := 181) (lv' := [(5, vI (sx1 + sx0)), (0, vR 40), (1, vI x1), (2, vI x2), (4, vI x4), (6, vI x6), (7, vI x7), (9, vI x9)]) (st' := [vI x9, vI x7, vI x1, vR 40, vI x6]) rfl ?_
  refine r_callV J (As := [vI x1, vI x7, vI x9]) (st := [vI x6]) (fun r hr => c_X12_movedBy x1 x7 x9 σ M N hL r hr) cls12 (ly_40 hL) wm_12_222 wy_X12_movedBy wd_X12_movedBy ⟨by decide, by decide, by decide, by decide, Nat.le_of_ble_eq_true rfl⟩ rfl rfl (fun q181 hq181 => ?_)
  show g_H E 0 0 184 [(5, vI (sx1 + sx0)), (0, vR 40), (1, vI x1), (2, vI x2), (4, vI x4), (6, vI x6), (7, vI x7), (9, vI x9)] [vI q181, vI x6] (σ, M, N) _ _
  refine r_run J 10 (pc' := 38) (lv' := [(7, vI (x7 + 1)), (4, vI (x4 &&& (x9 ^^^ (-1 : Int32)))), (6, vI (x6 + q181)), (5, vI (sx1 + sx0)), (0, vR 40), (1, vI x1), (2, vI x2), (9, vI x9)]) (st' := []) rfl ?_
  refine r_sub [4, 5, 6, 1, 3, 2, 0] (lv' := [(0, vR 40), (1, vI x1), (2, vI x2), (4, vI (x4 &&& (x9 ^^^ (-1 : Int32)))), (5, vI (sx1 + sx0)), (6, vI (x6 + q181)), (7, vI (x7 + 1))]) rfl ?_
  exact H38 x1 x2 (x4 &&& (x9 ^^^ (-1 : Int32))) (sx1 + sx0) (x6 + q181) (x7 + 1) σ M N hL
set_option maxHeartbeats 4000000 in
set_option maxRecDepth 100000 in
theorem p_X12_takes_140 {l : Launch} {E : gE} (J : J_X12_takes E l) {k38 : Int32 → Int32 → Int32 → Int32 → Int32 → Int32 → gS → gM → Option (Int32 × gM)} (H38 : ∀ (x1 : Int32) (x2 : Int32) (x4 : Int32) (x5 : Int32) (x6 : Int32) (x7 : Int32) (σ : gS) (M : gM) (N : gN) (_ : g_layM σ), g_H E 0 0 38 [(0, vR 40), (1, vI x1), (2, vI x2), (4, vI x4), (5, vI x5), (6, vI x6), (7, vI x7)] [] (σ, M, N) (k38 x1 x2 x4 x5 x6 x7 σ M) (eIM σ N)) {k102 : Int32 → Int32 → Int32 → Int32 → Int32 → Int32 → Int32 → Int32 → gS → gM → Option (Int32 × gM)} (H102 : ∀ (x1 : Int32) (x2 : Int32) (x4 : Int32) (x5 : Int32) (x6 : Int32) (x7 : Int32) (x9 : Int32) (x10 : Int32) (σ : gS) (M : gM) (N : gN) (_ : g_layM σ), g_H E 0 0 102 [(0, vR 40), (1, vI x1), (2, vI x2), (4, vI x4), (5, vI x5), (6, vI x6), (7, vI x7), (9, vI x9), (10, vI x10)] [] (σ, M, N) (k102 x1 x2 x4 x5 x6 x7 x9 x10 σ M) (eIM σ N)) (x1 : Int32) (x2 : Int32) (x4 : Int32) (x5 : Int32) (x6 : Int32) (x7 : Int32) (x9 : Int32) (x10 : Int32) (sx0 : Int32) (sx1 : Int32) (σ : gS) (M : gM) (N : gN) (hL : g_layM σ) : g_H E 0 0 140 [(0, vR 40), (1, vI x1), (2, vI x2), (4, vI x4), (5, vI x5), (6, vI x6), (7, vI x7), (9, vI x9), (10, vI x10)] [vI sx0, vI sx1, vR 68] (σ, M, N) (b_X12_takes_140 k38 k102 x1 x2 x4 x5 x6 x7 x9 x10 sx0 sx1 σ M) (eIM σ N) := by
  unfold b_X12_takes_140
  refine r_iast J rfl (ly_68 hL) (fun i140 => ?_)
  show g_H E 0 0 141 [(0, vR 40), (1, vI x1), (2, vI x2), (4, vI x4), (5, vI x5), (6, vI x6), (7, vI x7), (9, vI x9), (10, vI x10)] [] (σ, (g_up M 68 (sx1.toNatClampNeg) sx0), N) _ _
  refine r_run J 2 (pc' := 102) (lv' := [(10, vI (x10 + 1)), (0, vR 40), (1, vI x1), (2, vI x2), (4, vI x4), (5, vI x5), (6, vI x6), (7, vI x7), (9, vI x9)]) (st' := []) rfl ?_
  refine r_sub [1, 2, 3, 4, 5, 6, 7, 8, 0] (lv' := [(0, vR 40), (1, vI x1), (2, vI x2), (4, vI x4), (5, vI x5), (6, vI x6), (7, vI x7), (9, vI x9), (10, vI (x10 + 1))]) rfl ?_
  exact H102 x1 x2 x4 x5 x6 x7 x9 (x10 + 1) σ (g_up M 68 (sx1.toNatClampNeg) sx0) N hL
set_option maxHeartbeats 4000000 in
set_option maxRecDepth 100000 in
theorem p_X12_takes_102 {l : Launch} {E : gE} (J : J_X12_takes E l) {k38 : Int32 → Int32 → Int32 → Int32 → Int32 → Int32 → gS → gM → Option (Int32 × gM)} (H38 : ∀ (x1 : Int32) (x2 : Int32) (x4 : Int32) (x5 : Int32) (x6 : Int32) (x7 : Int32) (σ : gS) (M : gM) (N : gN) (_ : g_layM σ), g_H E 0 0 38 [(0, vR 40), (1, vI x1), (2, vI x2), (4, vI x4), (5, vI x5), (6, vI x6), (7, vI x7)] [] (σ, M, N) (k38 x1 x2 x4 x5 x6 x7 σ M) (eIM σ N)) : ∀ (n : Nat) (x1 : Int32) (x2 : Int32) (x4 : Int32) (x5 : Int32) (x6 : Int32) (x7 : Int32) (x9 : Int32) (x10 : Int32) (σ : gS) (M : gM) (N : gN) (hL : g_layM σ), g_H E 0 0 102 [(0, vR 40), (1, vI x1), (2, vI x2), (4, vI x4), (5, vI x5), (6, vI x6), (7, vI x7), (9, vI x9), (10, vI x10)] [] (σ, M, N) (l_X12_takes_102 k38 n x1 x2 x4 x5 x6 x7 x9 x10 σ M) (eIM σ N) := by
  intro n
  induction n with
  | zero => intros; exact h_none
  | succ n ih =>
    intro x1 x2 x4 x5 x6 x7 x9 x10 σ M N hL
    rw [l_X12_takes_102]
    refine r_run J 2 (pc' := 105) (lv' := [(0, vR 40), (1, vI x1), (2, vI x2), (4, vI x4), (5, vI x5), (6, vI x6), (7, vI x7), (9, vI x9), (10, vI x10)]) (st' := [vR 40, vI x10]) rfl ?_
    refine r_getI J cls12 rfl (k := 1) (by decide) wf_12_157 rfl (ly_40 hL) ?_
    show g_H E 0 0 108 [(0, vR 40), (1, vI x1), (2, vI x2), (4, vI x4), (5, vI x5), (6, vI x6), (7, vI x7), (9, vI x9), (10, vI x10)] [vI (M 40 1), vI x10] (σ, M, N) _ _
    refine r_icmp_ge J (tgt := 147) rfl (by decide) (fun c108 => ?_) (fun c108 => ?_)
    · refine r_run J 1 (pc' := 112) (lv' := [(0, vR 40), (1, vI x1), (2, vI x2), (4, vI x4), (5, vI x5), (6, vI x6), (7, vI x7), (9, vI x9), (10, vI x10)]) (st' := [vR 40]) rfl ?_
      refine r_getR J cls12 rfl (k := 38) (t := 14) (by decide) wf_12_102 rfl rfl (ly_40 hL) (lr_40_38 hL) (fun _ => ?_)
      show g_H E 0 0 115 [(0, vR 40), (1, vI x1), (2, vI x2), (4, vI x4), (5, vI x5), (6, vI x6), (7, vI x7), (9, vI x9), (10, vI x10)] [vR 68] (σ, M, N) _ _
      refine r_run J 7 (pc' := 125) (lv' := [(0, vR 40), (1, vI x1), (2, vI x2), (4, vI x4), (5, vI x5), (6, vI x6), (7, vI x7), (9, vI x9), (10, vI x10)]) (st' := [vI 1, vI ((x9 >>> (x10 &&& 31)) &&& (1 : Int32)), vI x10, vR 68]) rfl ?_
      refine r_icmp_ne J (tgt := 133) rfl (by decide) (fun c125 => ?_) (fun c125 => ?_)
      · refine r_run J 2 (pc' := 140) (lv' := [(0, vR 40), (1, vI x1), (2, vI x2), (4, vI x4), (5, vI x5), (6, vI x6), (7, vI x7), (9, vI x9), (10, vI x10)]) (st' := [vI x7, vI x10, vR 68]) rfl ?_
        exact p_X12_takes_140 J H38 ih x1 x2 x4 x5 x6 x7 x9 x10 x7 x10 σ M N hL
      · refine r_run J 1 (pc' := 134) (lv' := [(0, vR 40), (1, vI x1), (2, vI x2), (4, vI x4), (5, vI x5), (6, vI x6), (7, vI x7), (9, vI x9), (10, vI x10)]) (st' := [vR 40, vI x10, vR 68]) rfl ?_
        refine r_getR J cls12 rfl (k := 38) (t := 14) (by decide) wf_12_102 rfl rfl (ly_40 hL) (lr_40_38 hL) (fun _ => ?_)
        show g_H E 0 0 137 [(0, vR 40), (1, vI x1), (2, vI x2), (4, vI x4), (5, vI x5), (6, vI x6), (7, vI x7), (9, vI x9), (10, vI x10)] [vR 68, vI x10, vR 68] (σ, M, N) _ _
        refine r_run J 1 (pc' := 139) (lv' := [(0, vR 40), (1, vI x1), (2, vI x2), (4, vI x4), (5, vI x5), (6, vI x6), (7, vI x7), (9, vI x9), (10, vI x10)]) (st' := [vI x10, vR 68, vI x10, vR 68]) rfl ?_
        refine r_iald J rfl (ly_68 hL) (fun i139 => ?_)
        show g_H E 0 0 140 [(0, vR 40), (1, vI x1), (2, vI x2), (4, vI x4), (5, vI x5), (6, vI x6), (7, vI x7), (9, vI x9), (10, vI x10)] [vI (M 68 x10.toNatClampNeg), vI x10, vR 68] (σ, M, N) _ _
        exact p_X12_takes_140 J H38 ih x1 x2 x4 x5 x6 x7 x9 x10 (M 68 x10.toNatClampNeg) x10 σ M N hL
    · refine r_run J 2 (pc' := 151) (lv' := [(0, vR 40), (1, vI x1), (2, vI x2), (4, vI x4), (5, vI x5), (6, vI x6), (7, vI x7), (9, vI x9), (10, vI x10)]) (st' := [vI x9, vI x5]) rfl ?_
      refine r_if_ne J (tgt := 158) rfl (by decide) (fun c151 => ?_) (fun c151 => ?_)
      · refine r_run J 2 (pc' := 170) (lv' := [(0, vR 40), (1, vI x1), (2, vI x2), (4, vI x4), (5, vI x5), (6, vI x6), (7, vI x7), (9, vI x9), (10, vI x10)]) (st' := [vI 0, vI x5]) rfl ?_
        refine r_sub [0, 1, 2, 3, 5, 6, 7] (lv' := [(0, vR 40), (1, vI x1), (2, vI x2), (4, vI x4), (6, vI x6), (7, vI x7), (9, vI x9)]) rfl ?_
        exact p_X12_takes_170 J H38 x1 x2 x4 x6 x7 x9 0 x5 σ M N hL
      · refine r_run J 1 (pc' := 159) (lv' := [(0, vR 40), (1, vI x1), (2, vI x2), (4, vI x4), (5, vI x5), (6, vI x6), (7, vI x7), (9, vI x9), (10, vI x10)]) (st' := [vR 40, vI x5]) rfl ?_
        refine r_getR J cls12 rfl (k := 23) (t := 14) (by decide) wf_12_60 rfl rfl (ly_40 hL) (lr_40_23 hL) (fun _ => ?_)
        show g_H E 0 0 162 [(0, vR 40), (1, vI x1), (2, vI x2), (4, vI x4), (5, vI x5), (6, vI x6), (7, vI x7), (9, vI x9), (10, vI x10)] [vR 55, vI x5] (σ, M, N) _ _
        refine r_run J 5 (pc' := 169) (lv' := [(0, vR 40), (1, vI x1), (2, vI x2), (4, vI x4), (5, vI x5), (6, vI x6), (7, vI x7), (9, vI x9), (10, vI x10)]) (st' := [vI (((10 : Int32) * x1) + x7), vR 55, vI x5]) rfl ?_
        refine r_iald J rfl (ly_55 hL) (fun i169 => ?_)
        show g_H E 0 0 170 [(0, vR 40), (1, vI x1), (2, vI x2), (4, vI x4), (5, vI x5), (6, vI x6), (7, vI x7), (9, vI x9), (10, vI x10)] [vI (M 55 (((10 : Int32) * x1) + x7).toNatClampNeg), vI x5] (σ, M, N) _ _
        refine r_sub [0, 1, 2, 3, 5, 6, 7] (lv' := [(0, vR 40), (1, vI x1), (2, vI x2), (4, vI x4), (6, vI x6), (7, vI x7), (9, vI x9)]) rfl ?_
        exact p_X12_takes_170 J H38 x1 x2 x4 x6 x7 x9 (M 55 (((10 : Int32) * x1) + x7).toNatClampNeg) x5 σ M N hL
set_option maxHeartbeats 4000000 in
set_option maxRecDepth 100000 in
theorem p_X12_takes_52 {l : Launch} {E : gE} (J : J_X12_takes E l) {k38 : Int32 → Int32 → Int32 → Int32 → Int32 → Int32 → gS → gM → Option (Int32 × gM)} (H38 : ∀ (x1 : Int32) (x2 : Int32) (x4 : Int32) (x5 : Int32) (x6 : Int32) (x7 : Int32) (σ : gS) (M : gM) (N : gN) (_ : g_layM σ), g_H E 0 0 38 [(0, vR 40), (1, vI x1), (2, vI x2), (4, vI x4), (5, vI x5), (6, vI x6), (7, vI x7)] [] (σ, M, N) (k38 x1 x2 x4 x5 x6 x7 σ M) (eIM σ N)) : ∀ (n : Nat) (x1 : Int32) (x2 : Int32) (x4 : Int32) (x5 : Int32) (x6 : Int32) (x7 : Int32) (x8 : Int32) (σ : gS) (M : gM) (N : gN) (hL : g_layM σ), g_H E 0 0 52 [(0, vR 40), (1, vI x1), (2, vI x2), (4, vI x4), (5, vI x5), (6, vI x6), (7, vI x7), (8, vI x8)] [] (σ, M, N) (l_X12_takes_52 k38 n x1 x2 x4 x5 x6 x7 x8 σ M) (eIM σ N) := by
  intro n
  induction n with
  | zero => intros; exact h_none
  | succ n ih =>
    intro x1 x2 x4 x5 x6 x7 x8 σ M N hL
    rw [l_X12_takes_52]
    refine r_run J 5 (pc' := 59) (lv' := [(0, vR 40), (1, vI x1), (2, vI x2), (4, vI x4), (5, vI x5), (6, vI x6), (7, vI x7), (8, vI x8)]) (st' := [vR 40, vI x4, vI x7, vI x1, vR 40]) rfl ?_
    refine r_getR J cls12 rfl (k := 34) (t := 14) (by decide) wf_12_90 rfl rfl (ly_40 hL) (lr_40_34 hL) (fun _ => ?_)
    show g_H E 0 0 62 [(0, vR 40), (1, vI x1), (2, vI x2), (4, vI x4), (5, vI x5), (6, vI x6), (7, vI x7), (8, vI x8)] [vR 65, vI x4, vI x7, vI x1, vR 40] (σ, M, N) _ _
    refine r_run J 5 (pc' := 70) (lv' := [(0, vR 40), (1, vI x1), (2, vI x2), (4, vI x4), (5, vI x5), (6, vI x6), (7, vI x7), (8, vI x8)]) (st' := [vI (((64 : Int32) * x7) + x8), vR 65, vI x4, vI x7, vI x1, vR 40]) rfl ?_
    refine r_iald J rfl (ly_65 hL) (fun i70 => ?_)
    show g_H E 0 0 71 [(0, vR 40), (1, vI x1), (2, vI x2), (4, vI x4), (5, vI x5), (6, vI x6), (7, vI x7), (8, vI x8)] [vI (M 65 (((64 : Int32) * x7) + x8).toNatClampNeg), vI x4, vI x7, vI x1, vR 40] (σ, M, N) _ _
    refine r_run J 1 (pc' := 72) (lv' := [(0, vR 40), (1, vI x1), (2, vI x2), (4, vI x4), (5, vI x5), (6, vI x6), (7, vI x7), (8, vI x8)]) (st' := [vI x2, vI (M 65 (((64 : Int32) * x7) + x8).toNatClampNeg), vI x4, vI x7, vI x1, vR 40]) rfl ?_
    refine r_callV J (As := [vI x1, vI x7, vI x4, vI (M 65 (((64 : Int32) * x7) + x8).toNatClampNeg), vI x2]) (st := []) (fun r hr => c_X12_isLeast x1 x7 x4 (M 65 (((64 : Int32) * x7) + x8).toNatClampNeg) x2 σ M N hL r hr) cls12 (ly_40 hL) wm_12_239 wy_X12_isLeast wd_X12_isLeast ⟨by decide, by decide, by decide, by decide, Nat.le_of_ble_eq_true rfl⟩ rfl rfl (fun q72 hq72 => ?_)
    show g_H E 0 0 75 [(0, vR 40), (1, vI x1), (2, vI x2), (4, vI x4), (5, vI x5), (6, vI x6), (7, vI x7), (8, vI x8)] [vI q72] (σ, M, N) _ _
    refine r_if_ne J (tgt := 84) rfl (by decide) (fun c75 => ?_) (fun c75 => ?_)
    · refine r_run J 2 (pc' := 52) (lv' := [(8, vI (x8 + 1)), (0, vR 40), (1, vI x1), (2, vI x2), (4, vI x4), (5, vI x5), (6, vI x6), (7, vI x7)]) (st' := []) rfl ?_
      refine r_sub [1, 2, 3, 4, 5, 6, 7, 0] (lv' := [(0, vR 40), (1, vI x1), (2, vI x2), (4, vI x4), (5, vI x5), (6, vI x6), (7, vI x7), (8, vI (x8 + 1))]) rfl ?_
      exact ih x1 x2 x4 x5 x6 x7 (x8 + 1) σ M N hL
    · refine r_run J 1 (pc' := 85) (lv' := [(0, vR 40), (1, vI x1), (2, vI x2), (4, vI x4), (5, vI x5), (6, vI x6), (7, vI x7), (8, vI x8)]) (st' := [vR 40]) rfl ?_
      refine r_getR J cls12 rfl (k := 34) (t := 14) (by decide) wf_12_90 rfl rfl (ly_40 hL) (lr_40_34 hL) (fun _ => ?_)
      show g_H E 0 0 88 [(0, vR 40), (1, vI x1), (2, vI x2), (4, vI x4), (5, vI x5), (6, vI x6), (7, vI x7), (8, vI x8)] [vR 65] (σ, M, N) _ _
      refine r_run J 5 (pc' := 96) (lv' := [(0, vR 40), (1, vI x1), (2, vI x2), (4, vI x4), (5, vI x5), (6, vI x6), (7, vI x7), (8, vI x8)]) (st' := [vI (((64 : Int32) * x7) + x8), vR 65]) rfl ?_
      refine r_iald J rfl (ly_65 hL) (fun i96 => ?_)
      show g_H E 0 0 97 [(0, vR 40), (1, vI x1), (2, vI x2), (4, vI x4), (5, vI x5), (6, vI x6), (7, vI x7), (8, vI x8)] [vI (M 65 (((64 : Int32) * x7) + x8).toNatClampNeg)] (σ, M, N) _ _
      refine r_run J 3 (pc' := 102) (lv' := [(10, vI 0), (9, vI (M 65 (((64 : Int32) * x7) + x8).toNatClampNeg)), (0, vR 40), (1, vI x1), (2, vI x2), (4, vI x4), (5, vI x5), (6, vI x6), (7, vI x7), (8, vI x8)]) (st' := []) rfl ?_
      refine r_sub [2, 3, 4, 5, 6, 7, 8, 1, 0] (lv' := [(0, vR 40), (1, vI x1), (2, vI x2), (4, vI x4), (5, vI x5), (6, vI x6), (7, vI x7), (9, vI (M 65 (((64 : Int32) * x7) + x8).toNatClampNeg)), (10, vI 0)]) rfl ?_
      exact p_X12_takes_102 J H38 g_FU x1 x2 x4 x5 x6 x7 (M 65 (((64 : Int32) * x7) + x8).toNatClampNeg) 0 σ M N hL
set_option maxHeartbeats 4000000 in
set_option maxRecDepth 100000 in
theorem p_X12_takes_38 {l : Launch} {E : gE} (J : J_X12_takes E l) : ∀ (n : Nat) (x1 : Int32) (x2 : Int32) (x4 : Int32) (x5 : Int32) (x6 : Int32) (x7 : Int32) (σ : gS) (M : gM) (N : gN) (hL : g_layM σ), g_H E 0 0 38 [(0, vR 40), (1, vI x1), (2, vI x2), (4, vI x4), (5, vI x5), (6, vI x6), (7, vI x7)] [] (σ, M, N) (l_X12_takes_38 n x1 x2 x4 x5 x6 x7 σ M) (eIM σ N) := by
  intro n
  induction n with
  | zero => intros; exact h_none
  | succ n ih =>
    intro x1 x2 x4 x5 x6 x7 σ M N hL
    rw [l_X12_takes_38]
    refine r_run J 2 (pc' := 41) (lv' := [(0, vR 40), (1, vI x1), (2, vI x2), (4, vI x4), (5, vI x5), (6, vI x6), (7, vI x7)]) (st' := [vR 40, vI x7]) rfl ?_
    refine r_getR J cls12 rfl (k := 20) (t := 14) (by decide) wf_12_51 rfl rfl (ly_40 hL) (lr_40_20 hL) (fun _ => ?_)
    show g_H E 0 0 44 [(0, vR 40), (1, vI x1), (2, vI x2), (4, vI x4), (5, vI x5), (6, vI x6), (7, vI x7)] [vR 52, vI x7] (σ, M, N) _ _
    refine r_run J 1 (pc' := 45) (lv' := [(0, vR 40), (1, vI x1), (2, vI x2), (4, vI x4), (5, vI x5), (6, vI x6), (7, vI x7)]) (st' := [vI x1, vR 52, vI x7]) rfl ?_
    refine r_iald J rfl (ly_52 hL) (fun i45 => ?_)
    show g_H E 0 0 46 [(0, vR 40), (1, vI x1), (2, vI x2), (4, vI x4), (5, vI x5), (6, vI x6), (7, vI x7)] [vI (M 52 x1.toNatClampNeg), vI x7] (σ, M, N) _ _
    refine r_icmp_ge J (tgt := 202) rfl (by decide) (fun c46 => ?_) (fun c46 => ?_)
    · refine r_run J 2 (pc' := 52) (lv' := [(8, vI 0), (0, vR 40), (1, vI x1), (2, vI x2), (4, vI x4), (5, vI x5), (6, vI x6), (7, vI x7)]) (st' := []) rfl ?_
      refine r_sub [1, 2, 3, 4, 5, 6, 7, 0] (lv' := [(0, vR 40), (1, vI x1), (2, vI x2), (4, vI x4), (5, vI x5), (6, vI x6), (7, vI x7), (8, vI 0)]) rfl ?_
      exact p_X12_takes_52 J ih g_FU x1 x2 x4 x5 x6 x7 0 σ M N hL
    · refine r_run J 4 (pc' := 208) (lv' := [(8, vI 0), (7, vI 0), (0, vR 40), (1, vI x1), (2, vI x2), (4, vI x4), (5, vI x5), (6, vI x6)]) (st' := []) rfl ?_
      refine r_sub [2, 3, 6, 7, 1, 0] (lv' := [(0, vR 40), (1, vI x1), (5, vI x5), (6, vI x6), (7, vI 0), (8, vI 0)]) rfl ?_
      exact p_X12_takes_208 J g_FU x1 x5 x6 0 0 σ M N hL
set_option maxHeartbeats 4000000 in
set_option maxRecDepth 100000 in
theorem p_X12_takes_12 {l : Launch} {E : gE} (J : J_X12_takes E l) : ∀ (n : Nat) (x1 : Int32) (x2 : Int32) (x4 : Int32) (x5 : Int32) (x6 : Int32) (x7 : Int32) (σ : gS) (M : gM) (N : gN) (hL : g_layM σ), g_H E 0 0 12 [(0, vR 40), (1, vI x1), (2, vI x2), (4, vI x4), (5, vI x5), (6, vI x6), (7, vI x7)] [] (σ, M, N) (l_X12_takes_12 n x1 x2 x4 x5 x6 x7 σ M) (eIM σ N) := by
  intro n
  induction n with
  | zero => intros; exact h_none
  | succ n ih =>
    intro x1 x2 x4 x5 x6 x7 σ M N hL
    rw [l_X12_takes_12]
    refine r_run J 2 (pc' := 15) (lv' := [(0, vR 40), (1, vI x1), (2, vI x2), (4, vI x4), (5, vI x5), (6, vI x6), (7, vI x7)]) (st' := [vR 40, vI x7]) rfl ?_
    refine r_getI J cls12 rfl (k := 1) (by decide) wf_12_157 rfl (ly_40 hL) ?_
    show g_H E 0 0 18 [(0, vR 40), (1, vI x1), (2, vI x2), (4, vI x4), (5, vI x5), (6, vI x6), (7, vI x7)] [vI (M 40 1), vI x7] (σ, M, N) _ _
    refine r_icmp_ge J (tgt := 35) rfl (by decide) (fun c18 => ?_) (fun c18 => ?_)
    · refine r_run J 1 (pc' := 22) (lv' := [(0, vR 40), (1, vI x1), (2, vI x2), (4, vI x4), (5, vI x5), (6, vI x6), (7, vI x7)]) (st' := [vR 40]) rfl ?_
      refine r_getR J cls12 rfl (k := 38) (t := 14) (by decide) wf_12_102 rfl rfl (ly_40 hL) (lr_40_38 hL) (fun _ => ?_)
      show g_H E 0 0 25 [(0, vR 40), (1, vI x1), (2, vI x2), (4, vI x4), (5, vI x5), (6, vI x6), (7, vI x7)] [vR 68] (σ, M, N) _ _
      refine r_run J 2 (pc' := 28) (lv' := [(0, vR 40), (1, vI x1), (2, vI x2), (4, vI x4), (5, vI x5), (6, vI x6), (7, vI x7)]) (st' := [vI (-1), vI x7, vR 68]) rfl ?_
      refine r_iast J rfl (ly_68 hL) (fun i28 => ?_)
      show g_H E 0 0 29 [(0, vR 40), (1, vI x1), (2, vI x2), (4, vI x4), (5, vI x5), (6, vI x6), (7, vI x7)] [] (σ, (g_up M 68 (x7.toNatClampNeg) (-1)), N) _ _
      refine r_run J 2 (pc' := 12) (lv' := [(7, vI (x7 + 1)), (0, vR 40), (1, vI x1), (2, vI x2), (4, vI x4), (5, vI x5), (6, vI x6)]) (st' := []) rfl ?_
      refine r_sub [1, 2, 3, 4, 5, 6, 0] (lv' := [(0, vR 40), (1, vI x1), (2, vI x2), (4, vI x4), (5, vI x5), (6, vI x6), (7, vI (x7 + 1))]) rfl ?_
      exact ih x1 x2 x4 x5 x6 (x7 + 1) σ (g_up M 68 (x7.toNatClampNeg) (-1)) N hL
    · refine r_run J 2 (pc' := 38) (lv' := [(7, vI 0), (0, vR 40), (1, vI x1), (2, vI x2), (4, vI x4), (5, vI x5), (6, vI x6)]) (st' := []) rfl ?_
      refine r_sub [1, 2, 3, 4, 5, 6, 0] (lv' := [(0, vR 40), (1, vI x1), (2, vI x2), (4, vI x4), (5, vI x5), (6, vI x6), (7, vI 0)]) rfl ?_
      exact p_X12_takes_38 J g_FU x1 x2 x4 x5 x6 0 σ M N hL
set_option maxHeartbeats 4000000 in
set_option maxRecDepth 100000 in
theorem p_X12_takes_0 {l : Launch} {E : gE} (J : J_X12_takes E l) (x1 : Int32) (x2 : Int32) (x3 : Int32) (σ : gS) (M : gM) (N : gN) (hL : g_layM σ) : g_H E 0 0 0 [(0, vR 40), (1, vI x1), (2, vI x2), (3, vI x3)] [] (σ, M, N) (b_X12_takes_0 x1 x2 x3 σ M) (eIM σ N) := by
  unfold b_X12_takes_0
  refine r_run J 8 (pc' := 12) (lv' := [(7, vI 0), (6, vI 0), (5, vI 0), (4, vI x3), (0, vR 40), (1, vI x1), (2, vI x2), (3, vI x3)]) (st' := []) rfl ?_
  refine r_sub [4, 5, 6, 3, 2, 1, 0] (lv' := [(0, vR 40), (1, vI x1), (2, vI x2), (4, vI x3), (5, vI 0), (6, vI 0), (7, vI 0)]) rfl ?_
  exact p_X12_takes_12 J g_FU x1 x2 x3 0 0 0 σ M N hL
noncomputable def f_X12_takes (x1 : Int32) (x2 : Int32) (x3 : Int32) (σ : gS) (M : gM) : Option (Int32 × gM) := b_X12_takes_0 x1 x2 x3 σ M
theorem c_X12_takes {l : Launch} (x1 : Int32) (x2 : Int32) (x3 : Int32) (σ : gS) (M : gM) (N : gN) (hL : g_layM σ) (r : Int32 × gM) (h : f_X12_takes x1 x2 x3 σ M = some r) : g_Ct l yX12_takes cX12_takes 11 (some .int) 4 0 0 [vR 40, vI x1, vI x2, vI x3] (σ, M, N) (eIM σ N r) :=
  g_Ct.of tb_X12_takes (by decide +kernel) tk_X12_takes (Nat.le_of_ble_eq_true rfl) (fun E J => p_X12_takes_0 J x1 x2 x3 σ M N hL r h)
def tb_X12_settle : gT := [(0, .aload_n 0, 1, 0), (1, .iload_n 1, 1, 0), (2, .invokevirtual 198, 3, 0), (5, .ifCond .eq 12, 3, 0), (8, .iload_n 2, 1, 0), (9, .iconst 0, 1, 0), (10, .iconst 1, 1, 1), (11, .invokestatic 160, 3, 0), (14, .ifCond .ne 5, 3, 0), (17, .iconst (-1), 1, (-1)), (18, .ireturn, 1, 0), (19, .aload_n 0, 1, 0), (20, .iload_n 1, 1, 0), (21, .invokevirtual 227, 3, 0), (24, .aload_n 0, 1, 0), (25, .iload_n 1, 1, 0), (26, .invokevirtual 215, 3, 0), (29, .istore_n 3, 1, 0), (30, .aload_n 0, 1, 0), (31, .getfield 51, 3, 0), (34, .iload_n 1, 1, 0), (35, .iaload, 1, 0), (36, .istore 4, 2, 0), (38, .iconst 0, 1, 0), (39, .istore 5, 2, 0), (41, .iload 5, 2, 0), (43, .sipush 1024, 3, 1024), (46, .if_icmp .ge 34, 3, 0), (49, .aload_n 0, 1, 0), (50, .getfield 96, 3, 0), (53, .sipush 1024, 3, 1024), (56, .iload 4, 2, 0), (58, .imul, 1, 0), (59, .iload 5, 2, 0), (61, .iadd, 1, 0), (62, .iload 5, 2, 0), (64, .ifCond .ne 7, 3, 0), (67, .iconst 0, 1, 0), (68, .goto 5, 3, 0), (71, .ldc 231, 2, 0), (73, .iastore, 1, 0), (74, .iinc 5 1, 3, 1), (77, .goto (-36), 3, 0), (80, .iload 4, 2, 0), (82, .iconst 1, 1, 1), (83, .isub, 1, 0), (84, .istore 5, 2, 0), (86, .iload 5, 2, 0), (88, .ifCond .lt 159, 3, 0), (91, .iconst 0, 1, 0), (92, .istore 6, 2, 0), (94, .iload 6, 2, 0), (96, .sipush 1024, 3, 1024), (99, .if_icmp .ge 142, 3, 0), (102, .ldc 231, 2, 0), (104, .istore 7, 2, 0), (106, .iconst 0, 1, 0), (107, .istore 8, 2, 0), (109, .iload 8, 2, 0), (111, .aload_n 0, 1, 0), (112, .getfield 93, 3, 0), (115, .iload 5, 2, 0), (117, .iaload, 1, 0), (118, .if_icmp .ge 101, 3, 0), (121, .aload_n 0, 1, 0), (122, .getfield 90, 3, 0), (125, .bipush 64, 2, 64), (127, .iload 5, 2, 0), (129, .imul, 1, 0), (130, .iload 8, 2, 0), (132, .iadd, 1, 0), (133, .iaload, 1, 0), (134, .istore 9, 2, 0), (136, .iload 9, 2, 0), (138, .iload 6, 2, 0), (140, .iconst (-1), 1, (-1)), (141, .ixor, 1, 0), (142, .iand, 1, 0), (143, .ifCond .eq 6, 3, 0), (146, .goto 67, 3, 0), (149, .aload_n 0, 1, 0), (150, .getfield 96, 3, 0), (153, .sipush 1024, 3, 1024), (156, .iload 5, 2, 0), (158, .iconst 1, 1, 1), (159, .iadd, 1, 0), (160, .imul, 1, 0), (161, .iload 6, 2, 0), (163, .iload 9, 2, 0), (165, .iconst (-1), 1, (-1)), (166, .ixor, 1, 0), (167, .iand, 1, 0), (168, .iadd, 1, 0), (169, .iaload, 1, 0), (170, .istore 10, 2, 0), (172, .iload 10, 2, 0), (174, .ldc 231, 2, 0), (176, .if_icmp .ne 6, 3, 0), (179, .goto 34, 3, 0), (182, .iload 10, 2, 0), (184, .aload_n 0, 1, 0), (185, .iload_n 1, 1, 0), (186, .iload 5, 2, 0), (188, .iload 9, 2, 0), (190, .iload_n 2, 1, 0), (191, .invokevirtual 232, 3, 0), (194, .iadd, 1, 0), (195, .istore 11, 2, 0), (197, .iload 11, 2, 0), (199, .iload 7, 2, 0), (201, .if_icmp .ge 8, 3, 0), (204, .iload 11, 2, 0), (206, .goto 5, 3, 0), (209, .iload 7, 2, 0), (211, .istore 7, 2, 0), (213, .iinc 8 1, 3, 1), (216, .goto (-107), 3, 0), (219, .aload_n 0, 1, 0), (220, .getfield 96, 3, 0), (223, .sipush 1024, 3, 1024), (226, .iload 5, 2, 0), (228, .imul, 1, 0), (229, .iload 6, 2, 0), (231, .iadd, 1, 0), (232, .iload 7, 2, 0), (234, .iastore, 1, 0), (235, .iinc 6 1, 3, 1), (238, .goto (-144), 3, 0), (241, .iinc 5 (-1), 3, (-1)), (244, .goto (-158), 3, 0), (247, .aload_n 0, 1, 0), (248, .getfield 96, 3, 0), (251, .iload_n 3, 1, 0), (252, .iaload, 1, 0), (253, .ldc 231, 2, 0), (255, .if_icmp .ne 5, 3, 0), (258, .iconst (-1), 1, (-1)), (259, .ireturn, 1, 0), (260, .aload_n 0, 1, 0), (261, .iload_n 1, 1, 0), (262, .iload_n 2, 1, 0), (263, .iload_n 3, 1, 0), (264, .invokevirtual 236, 3, 0), (267, .ireturn, 1, 0)]
set_option maxRecDepth 100000 in
theorem tk_X12_settle : g_okT cX12_settle tb_X12_settle = true := by decide +kernel
abbrev J_X12_settle (E : gE) (l : Launch) : Prop := g_J E cX12_settle RX12 "settle" (some .int) 12 tb_X12_settle 5 0 0 l
noncomputable def b_X12_settle_213 (k86 : Int32 → Int32 → Int32 → Int32 → gS → gM → Option (Int32 × gM)) (k94 : Int32 → Int32 → Int32 → Int32 → Int32 → gS → gM → Option (Int32 × gM)) (k109 : Int32 → Int32 → Int32 → Int32 → Int32 → Int32 → Int32 → gS → gM → Option (Int32 × gM)) (x1 : Int32) (x2 : Int32) (x3 : Int32) (x5 : Int32) (x6 : Int32) (x7 : Int32) (x8 : Int32) (σ : gS) (M : gM) : Option (Int32 × gM) := k109 x1 x2 x3 x5 x6 x7 (x8 + 1) σ M
noncomputable def b_X12_settle_211 (k86 : Int32 → Int32 → Int32 → Int32 → gS → gM → Option (Int32 × gM)) (k94 : Int32 → Int32 → Int32 → Int32 → Int32 → gS → gM → Option (Int32 × gM)) (k109 : Int32 → Int32 → Int32 → Int32 → Int32 → Int32 → Int32 → gS → gM → Option (Int32 × gM)) (x1 : Int32) (x2 : Int32) (x3 : Int32) (x5 : Int32) (x6 : Int32) (x8 : Int32) (sx0 : Int32) (σ : gS) (M : gM) : Option (Int32 × gM) := b_X12_settle_213 k86 k94 k109 x1 x2 x3 x5 x6 sx0 x8 σ M
noncomputable def l_X12_settle_109 (k86 : Int32 → Int32 → Int32 → Int32 → gS → gM → Option (Int32 × gM)) (k94 : Int32 → Int32 → Int32 → Int32 → Int32 → gS → gM → Option (Int32 × gM)) : Nat → Int32 → Int32 → Int32 → Int32 → Int32 → Int32 → Int32 → gS → gM → Option (Int32 × gM)
  | 0, _, _, _, _, _, _, _, _, _ => none
  | n + 1, x1, x2, x3, x5, x6, x7, x8, σ, M => if g_in x5 10 = true then if x8 < (M 66 x5.toNatClampNeg) then if g_in (((64 : Int32) * x5) + x8) 640 = true then if ((M 65 (((64 : Int32) * x5) + x8).toNatClampNeg) &&& (x6 ^^^ (-1 : Int32))) = (0 : Int32) then if g_in (((1024 : Int32) * (x5 + (1 : Int32))) + (x6 &&& ((M 65 (((64 : Int32) * x5) + x8).toNatClampNeg) ^^^ (-1 : Int32)))) 11264 = true then if (M 67 (((1024 : Int32) * (x5 + (1 : Int32))) + (x6 &&& ((M 65 (((64 : Int32) * x5) + x8).toNatClampNeg) ^^^ (-1 : Int32)))).toNatClampNeg) = (1073741824 : Int32) then b_X12_settle_213 k86 k94 (fun x1 x2 x3 x5 x6 x7 x8 σ M => l_X12_settle_109 k86 k94 n x1 x2 x3 x5 x6 x7 x8 σ M) x1 x2 x3 x5 x6 x7 x8 σ M else (f_X12_weight x1 x5 (M 65 (((64 : Int32) * x5) + x8).toNatClampNeg) x2 σ M).bind fun q191 => if ((M 67 (((1024 : Int32) * (x5 + (1 : Int32))) + (x6 &&& ((M 65 (((64 : Int32) * x5) + x8).toNatClampNeg) ^^^ (-1 : Int32)))).toNatClampNeg) + q191) < x7 then b_X12_settle_211 k86 k94 (fun x1 x2 x3 x5 x6 x7 x8 σ M => l_X12_settle_109 k86 k94 n x1 x2 x3 x5 x6 x7 x8 σ M) x1 x2 x3 x5 x6 x8 ((M 67 (((1024 : Int32) * (x5 + (1 : Int32))) + (x6 &&& ((M 65 (((64 : Int32) * x5) + x8).toNatClampNeg) ^^^ (-1 : Int32)))).toNatClampNeg) + q191) σ M else b_X12_settle_211 k86 k94 (fun x1 x2 x3 x5 x6 x7 x8 σ M => l_X12_settle_109 k86 k94 n x1 x2 x3 x5 x6 x7 x8 σ M) x1 x2 x3 x5 x6 x8 x7 σ M else none else b_X12_settle_213 k86 k94 (fun x1 x2 x3 x5 x6 x7 x8 σ M => l_X12_settle_109 k86 k94 n x1 x2 x3 x5 x6 x7 x8 σ M) x1 x2 x3 x5 x6 x7 x8 σ M else none else if g_in (((1024 : Int32) * x5) + x6) 11264 = true then k94 x1 x2 x3 x5 (x6 + 1) σ (g_up M 67 ((((1024 : Int32) * x5) + x6).toNatClampNeg) x7) else none else none
noncomputable def l_X12_settle_94 (k86 : Int32 → Int32 → Int32 → Int32 → gS → gM → Option (Int32 × gM)) : Nat → Int32 → Int32 → Int32 → Int32 → Int32 → gS → gM → Option (Int32 × gM)
  | 0, _, _, _, _, _, _, _ => none
  | n + 1, x1, x2, x3, x5, x6, σ, M => if x6 < (1024 : Int32) then l_X12_settle_109 k86 (fun x1 x2 x3 x5 x6 σ M => l_X12_settle_94 k86 n x1 x2 x3 x5 x6 σ M) g_FU x1 x2 x3 x5 x6 1073741824 0 σ M else k86 x1 x2 x3 (x5 + (-1)) σ M
noncomputable def l_X12_settle_86 : Nat → Int32 → Int32 → Int32 → Int32 → gS → gM → Option (Int32 × gM)
  | 0, _, _, _, _, _, _ => none
  | n + 1, x1, x2, x3, x5, σ, M => if x5 < (0 : Int32) then if g_in x3 11264 = true then if (M 67 x3.toNatClampNeg) = (1073741824 : Int32) then some ((-1), M) else (f_X12_takes x1 x2 x3 σ M).bind fun q264 => some (q264.1, q264.2) else none else l_X12_settle_94 (fun x1 x2 x3 x5 σ M => l_X12_settle_86 n x1 x2 x3 x5 σ M) g_FU x1 x2 x3 x5 0 σ M
noncomputable def b_X12_settle_73 (k41 : Int32 → Int32 → Int32 → Int32 → Int32 → gS → gM → Option (Int32 × gM)) (x1 : Int32) (x2 : Int32) (x3 : Int32) (x4 : Int32) (x5 : Int32) (sx0 : Int32) (sx1 : Int32) (σ : gS) (M : gM) : Option (Int32 × gM) := if g_in sx1 11264 = true then k41 x1 x2 x3 x4 (x5 + 1) σ (g_up M 67 (sx1.toNatClampNeg) sx0) else none
noncomputable def l_X12_settle_41 : Nat → Int32 → Int32 → Int32 → Int32 → Int32 → gS → gM → Option (Int32 × gM)
  | 0, _, _, _, _, _, _, _ => none
  | n + 1, x1, x2, x3, x4, x5, σ, M => if x5 < (1024 : Int32) then if x5 = (0 : Int32) then b_X12_settle_73 (fun x1 x2 x3 x4 x5 σ M => l_X12_settle_41 n x1 x2 x3 x4 x5 σ M) x1 x2 x3 x4 x5 0 (((1024 : Int32) * x4) + x5) σ M else b_X12_settle_73 (fun x1 x2 x3 x4 x5 σ M => l_X12_settle_41 n x1 x2 x3 x4 x5 σ M) x1 x2 x3 x4 x5 1073741824 (((1024 : Int32) * x4) + x5) σ M else l_X12_settle_86 g_FU x1 x2 x3 (x4 - (1 : Int32)) σ M
noncomputable def b_X12_settle_0 (x1 : Int32) (x2 : Int32) (σ : gS) (M : gM) : Option (Int32 × gM) := (f_X12_isOpen x1 σ M).bind fun q2 => if q2 = (0 : Int32) then some ((-1), M) else (f_X12_in x2 0 1).bind fun q11 => if q11 = (0 : Int32) then some ((-1), M) else (f_X12_findSets x1 σ M).bind fun q21 => (f_X12_there x1 σ q21).bind fun q26 => if g_in x1 6 = true then l_X12_settle_41 g_FU x1 x2 q26 (q21 52 x1.toNatClampNeg) 0 σ q21 else none
set_option maxHeartbeats 4000000 in
set_option maxRecDepth 100000 in
theorem p_X12_settle_213 {l : Launch} {E : gE} (J : J_X12_settle E l) {k86 : Int32 → Int32 → Int32 → Int32 → gS → gM → Option (Int32 × gM)} (H86 : ∀ (x1 : Int32) (x2 : Int32) (x3 : Int32) (x5 : Int32) (σ : gS) (M : gM) (N : gN) (_ : g_layM σ), g_H E 0 0 86 [(0, vR 40), (1, vI x1), (2, vI x2), (3, vI x3), (5, vI x5)] [] (σ, M, N) (k86 x1 x2 x3 x5 σ M) (eIM σ N)) {k94 : Int32 → Int32 → Int32 → Int32 → Int32 → gS → gM → Option (Int32 × gM)} (H94 : ∀ (x1 : Int32) (x2 : Int32) (x3 : Int32) (x5 : Int32) (x6 : Int32) (σ : gS) (M : gM) (N : gN) (_ : g_layM σ), g_H E 0 0 94 [(0, vR 40), (1, vI x1), (2, vI x2), (3, vI x3), (5, vI x5), (6, vI x6)] [] (σ, M, N) (k94 x1 x2 x3 x5 x6 σ M) (eIM σ N)) {k109 : Int32 → Int32 → Int32 → Int32 → Int32 → Int32 → Int32 → gS → gM → Option (Int32 × gM)} (H109 : ∀ (x1 : Int32) (x2 : Int32) (x3 : Int32) (x5 : Int32) (x6 : Int32) (x7 : Int32) (x8 : Int32) (σ : gS) (M : gM) (N : gN) (_ : g_layM σ), g_H E 0 0 109 [(0, vR 40), (1, vI x1), (2, vI x2), (3, vI x3), (5, vI x5), (6, vI x6), (7, vI x7), (8, vI x8)] [] (σ, M, N) (k109 x1 x2 x3 x5 x6 x7 x8 σ M) (eIM σ N)) (x1 : Int32) (x2 : Int32) (x3 : Int32) (x5 : Int32) (x6 : Int32) (x7 : Int32) (x8 : Int32) (σ : gS) (M : gM) (N : gN) (hL : g_layM σ) : g_H E 0 0 213 [(0, vR 40), (1, vI x1), (2, vI x2), (3, vI x3), (5, vI x5), (6, vI x6), (7, vI x7), (8, vI x8)] [] (σ, M, N) (b_X12_settle_213 k86 k94 k109 x1 x2 x3 x5 x6 x7 x8 σ M) (eIM σ N) := by
  unfold b_X12_settle_213
  refine r_run J 2 (pc' := 109) (lv' := [(8, vI (x8 + 1)), (0, vR 40), (1, vI x1), (2, vI x2), (3, vI x3), (5, vI x5), (6, vI x6), (7, vI x7)]) (st' := []) rfl ?_
  refine r_sub [1, 2, 3, 4, 5, 6, 7, 0] (lv' := [(0, vR 40), (1, vI x1), (2, vI x2), (3, vI x3), (5, vI x5), (6, vI x6), (7, vI x7), (8, vI (x8 + 1))]) rfl ?_
  exact H109 x1 x2 x3 x5 x6 x7 (x8 + 1) σ M N hL
set_option maxHeartbeats 4000000 in
set_option maxRecDepth 100000 in
theorem p_X12_settle_211 {l : Launch} {E : gE} (J : J_X12_settle E l) {k86 : Int32 → Int32 → Int32 → Int32 → gS → gM → Option (Int32 × gM)} (H86 : ∀ (x1 : Int32) (x2 : Int32) (x3 : Int32) (x5 : Int32) (σ : gS) (M : gM) (N : gN) (_ : g_layM σ), g_H E 0 0 86 [(0, vR 40), (1, vI x1), (2, vI x2), (3, vI x3), (5, vI x5)] [] (σ, M, N) (k86 x1 x2 x3 x5 σ M) (eIM σ N)) {k94 : Int32 → Int32 → Int32 → Int32 → Int32 → gS → gM → Option (Int32 × gM)} (H94 : ∀ (x1 : Int32) (x2 : Int32) (x3 : Int32) (x5 : Int32) (x6 : Int32) (σ : gS) (M : gM) (N : gN) (_ : g_layM σ), g_H E 0 0 94 [(0, vR 40), (1, vI x1), (2, vI x2), (3, vI x3), (5, vI x5), (6, vI x6)] [] (σ, M, N) (k94 x1 x2 x3 x5 x6 σ M) (eIM σ N)) {k109 : Int32 → Int32 → Int32 → Int32 → Int32 → Int32 → Int32 → gS → gM → Option (Int32 × gM)} (H109 : ∀ (x1 : Int32) (x2 : Int32) (x3 : Int32) (x5 : Int32) (x6 : Int32) (x7 : Int32) (x8 : Int32) (σ : gS) (M : gM) (N : gN) (_ : g_layM σ), g_H E 0 0 109 [(0, vR 40), (1, vI x1), (2, vI x2), (3, vI x3), (5, vI x5), (6, vI x6), (7, vI x7), (8, vI x8)] [] (σ, M, N) (k109 x1 x2 x3 x5 x6 x7 x8 σ M) (eIM σ N)) (x1 : Int32) (x2 : Int32) (x3 : Int32) (x5 : Int32) (x6 : Int32) (x8 : Int32) (sx0 : Int32) (σ : gS) (M : gM) (N : gN) (hL : g_layM σ) : g_H E 0 0 211 [(0, vR 40), (1, vI x1), (2, vI x2), (3, vI x3), (5, vI x5), (6, vI x6), (8, vI x8)] [vI sx0] (σ, M, N) (b_X12_settle_211 k86 k94 k109 x1 x2 x3 x5 x6 x8 sx0 σ M) (eIM σ N) := by
  unfold b_X12_settle_211
  refine r_run J 1 (pc' := 213) (lv' := [(7, vI sx0), (0, vR 40), (1, vI x1), (2, vI x2), (3, vI x3), (5, vI x5), (6, vI x6), (8, vI x8)]) (st' := []) rfl ?_
  refine r_sub [1, 2, 3, 4, 5, 6, 0, 7] (lv' := [(0, vR 40), (1, vI x1), (2, vI x2), (3, vI x3), (5, vI x5), (6, vI x6), (7, vI sx0), (8, vI x8)]) rfl ?_
  exact p_X12_settle_213 J H86 H94 H109 x1 x2 x3 x5 x6 sx0 x8 σ M N hL
set_option maxHeartbeats 4000000 in
set_option maxRecDepth 100000 in
theorem p_X12_settle_109 {l : Launch} {E : gE} (J : J_X12_settle E l) {k86 : Int32 → Int32 → Int32 → Int32 → gS → gM → Option (Int32 × gM)} (H86 : ∀ (x1 : Int32) (x2 : Int32) (x3 : Int32) (x5 : Int32) (σ : gS) (M : gM) (N : gN) (_ : g_layM σ), g_H E 0 0 86 [(0, vR 40), (1, vI x1), (2, vI x2), (3, vI x3), (5, vI x5)] [] (σ, M, N) (k86 x1 x2 x3 x5 σ M) (eIM σ N)) {k94 : Int32 → Int32 → Int32 → Int32 → Int32 → gS → gM → Option (Int32 × gM)} (H94 : ∀ (x1 : Int32) (x2 : Int32) (x3 : Int32) (x5 : Int32) (x6 : Int32) (σ : gS) (M : gM) (N : gN) (_ : g_layM σ), g_H E 0 0 94 [(0, vR 40), (1, vI x1), (2, vI x2), (3, vI x3), (5, vI x5), (6, vI x6)] [] (σ, M, N) (k94 x1 x2 x3 x5 x6 σ M) (eIM σ N)) : ∀ (n : Nat) (x1 : Int32) (x2 : Int32) (x3 : Int32) (x5 : Int32) (x6 : Int32) (x7 : Int32) (x8 : Int32) (σ : gS) (M : gM) (N : gN) (hL : g_layM σ), g_H E 0 0 109 [(0, vR 40), (1, vI x1), (2, vI x2), (3, vI x3), (5, vI x5), (6, vI x6), (7, vI x7), (8, vI x8)] [] (σ, M, N) (l_X12_settle_109 k86 k94 n x1 x2 x3 x5 x6 x7 x8 σ M) (eIM σ N) := by
  intro n
  induction n with
  | zero => intros; exact h_none
  | succ n ih =>
    intro x1 x2 x3 x5 x6 x7 x8 σ M N hL
    rw [l_X12_settle_109]
    refine r_run J 2 (pc' := 112) (lv' := [(0, vR 40), (1, vI x1), (2, vI x2), (3, vI x3), (5, vI x5), (6, vI x6), (7, vI x7), (8, vI x8)]) (st' := [vR 40, vI x8]) rfl ?_
    refine r_getR J cls12 rfl (k := 35) (t := 14) (by decide) wf_12_93 rfl rfl (ly_40 hL) (lr_40_35 hL) (fun _ => ?_)
    show g_H E 0 0 115 [(0, vR 40), (1, vI x1), (2, vI x2), (3, vI x3), (5, vI x5), (6, vI x6), (7, vI x7), (8, vI x8)] [vR 66, vI x8] (σ, M, N) _ _
    refine r_run J 1 (pc' := 117) (lv' := [(0, vR 40), (1, vI x1), (2, vI x2), (3, vI x3), (5, vI x5), (6, vI x6), (7, vI x7), (8, vI x8)]) (st' := [vI x5, vR 66, vI x8]) rfl ?_
    refine r_iald J rfl (ly_66 hL) (fun i117 => ?_)
    show g_H E 0 0 118 [(0, vR 40), (1, vI x1), (2, vI x2), (3, vI x3), (5, vI x5), (6, vI x6), (7, vI x7), (8, vI x8)] [vI (M 66 x5.toNatClampNeg), vI x8] (σ, M, N) _ _
    refine r_icmp_ge J (tgt := 219) rfl (by decide) (fun c118 => ?_) (fun c118 => ?_)
    · refine r_run J 1 (pc' := 122) (lv' := [(0, vR 40), (1, vI x1), (2, vI x2), (3, vI x3), (5, vI x5), (6, vI x6), (7, vI x7), (8, vI x8)]) (st' := [vR 40]) rfl ?_
      refine r_getR J cls12 rfl (k := 34) (t := 14) (by decide) wf_12_90 rfl rfl (ly_40 hL) (lr_40_34 hL) (fun _ => ?_)
      show g_H E 0 0 125 [(0, vR 40), (1, vI x1), (2, vI x2), (3, vI x3), (5, vI x5), (6, vI x6), (7, vI x7), (8, vI x8)] [vR 65] (σ, M, N) _ _
      refine r_run J 5 (pc' := 133) (lv' := [(0, vR 40), (1, vI x1), (2, vI x2), (3, vI x3), (5, vI x5), (6, vI x6), (7, vI x7), (8, vI x8)]) (st' := [vI (((64 : Int32) * x5) + x8), vR 65]) rfl ?_
      refine r_iald J rfl (ly_65 hL) (fun i133 => ?_)
      show g_H E 0 0 134 [(0, vR 40), (1, vI x1), (2, vI x2), (3, vI x3), (5, vI x5), (6, vI x6), (7, vI x7), (8, vI x8)] [vI (M 65 (((64 : Int32) * x5) + x8).toNatClampNeg)] (σ, M, N) _ _
      refine r_run J 6 (pc' := 143) (lv' := [(9, vI (M 65 (((64 : Int32) * x5) + x8).toNatClampNeg)), (0, vR 40), (1, vI x1), (2, vI x2), (3, vI x3), (5, vI x5), (6, vI x6), (7, vI x7), (8, vI x8)]) (st' := [vI ((M 65 (((64 : Int32) * x5) + x8).toNatClampNeg) &&& (x6 ^^^ (-1 : Int32)))]) rfl ?_
      refine r_if_eq J (tgt := 149) rfl (by decide) (fun c143 => ?_) (fun c143 => ?_)
      · refine r_run J 1 (pc' := 150) (lv' := [(9, vI (M 65 (((64 : Int32) * x5) + x8).toNatClampNeg)), (0, vR 40), (1, vI x1), (2, vI x2), (3, vI x3), (5, vI x5), (6, vI x6), (7, vI x7), (8, vI x8)]) (st' := [vR 40]) rfl ?_
        refine r_getR J cls12 rfl (k := 36) (t := 14) (by decide) wf_12_96 rfl rfl (ly_40 hL) (lr_40_36 hL) (fun _ => ?_)
        show g_H E 0 0 153 [(9, vI (M 65 (((64 : Int32) * x5) + x8).toNatClampNeg)), (0, vR 40), (1, vI x1), (2, vI x2), (3, vI x3), (5, vI x5), (6, vI x6), (7, vI x7), (8, vI x8)] [vR 67] (σ, M, N) _ _
        refine r_run J 11 (pc' := 169) (lv' := [(9, vI (M 65 (((64 : Int32) * x5) + x8).toNatClampNeg)), (0, vR 40), (1, vI x1), (2, vI x2), (3, vI x3), (5, vI x5), (6, vI x6), (7, vI x7), (8, vI x8)]) (st' := [vI (((1024 : Int32) * (x5 + (1 : Int32))) + (x6 &&& ((M 65 (((64 : Int32) * x5) + x8).toNatClampNeg) ^^^ (-1 : Int32)))), vR 67]) rfl ?_
        refine r_iald J rfl (ly_67 hL) (fun i169 => ?_)
        show g_H E 0 0 170 [(9, vI (M 65 (((64 : Int32) * x5) + x8).toNatClampNeg)), (0, vR 40), (1, vI x1), (2, vI x2), (3, vI x3), (5, vI x5), (6, vI x6), (7, vI x7), (8, vI x8)] [vI (M 67 (((1024 : Int32) * (x5 + (1 : Int32))) + (x6 &&& ((M 65 (((64 : Int32) * x5) + x8).toNatClampNeg) ^^^ (-1 : Int32)))).toNatClampNeg)] (σ, M, N) _ _
        refine r_run J 2 (pc' := 174) (lv' := [(10, vI (M 67 (((1024 : Int32) * (x5 + (1 : Int32))) + (x6 &&& ((M 65 (((64 : Int32) * x5) + x8).toNatClampNeg) ^^^ (-1 : Int32)))).toNatClampNeg)), (9, vI (M 65 (((64 : Int32) * x5) + x8).toNatClampNeg)), (0, vR 40), (1, vI x1), (2, vI x2), (3, vI x3), (5, vI x5), (6, vI x6), (7, vI x7), (8, vI x8)]) (st' := [vI (M 67 (((1024 : Int32) * (x5 + (1 : Int32))) + (x6 &&& ((M 65 (((64 : Int32) * x5) + x8).toNatClampNeg) ^^^ (-1 : Int32)))).toNatClampNeg)]) rfl ?_
        refine r_ldc J rfl wc_12_231 ?_
        refine r_icmp_ne J (tgt := 182) rfl (by decide) (fun c176 => ?_) (fun c176 => ?_)
        · refine r_run J 1 (pc' := 213) (lv' := [(10, vI (M 67 (((1024 : Int32) * (x5 + (1 : Int32))) + (x6 &&& ((M 65 (((64 : Int32) * x5) + x8).toNatClampNeg) ^^^ (-1 : Int32)))).toNatClampNeg)), (9, vI (M 65 (((64 : Int32) * x5) + x8).toNatClampNeg)), (0, vR 40), (1, vI x1), (2, vI x2), (3, vI x3), (5, vI x5), (6, vI x6), (7, vI x7), (8, vI x8)]) (st' := []) rfl ?_
          refine r_sub [2, 3, 4, 5, 6, 7, 8, 9] (lv' := [(0, vR 40), (1, vI x1), (2, vI x2), (3, vI x3), (5, vI x5), (6, vI x6), (7, vI x7), (8, vI x8)]) rfl ?_
          exact p_X12_settle_213 J H86 H94 ih x1 x2 x3 x5 x6 x7 x8 σ M N hL
        · refine r_run J 6 (pc' := 191) (lv' := [(10, vI (M 67 (((1024 : Int32) * (x5 + (1 : Int32))) + (x6 &&& ((M 65 (((64 : Int32) * x5) + x8).toNatClampNeg) ^^^ (-1 : Int32)))).toNatClampNeg)), (9, vI (M 65 (((64 : Int32) * x5) + x8).toNatClampNeg)), (0, vR 40), (1, vI x1), (2, vI x2), (3, vI x3), (5, vI x5), (6, vI x6), (7, vI x7), (8, vI x8)]) (st' := [vI x2, vI (M 65 (((64 : Int32) * x5) + x8).toNatClampNeg), vI x5, vI x1, vR 40, vI (M 67 (((1024 : Int32) * (x5 + (1 : Int32))) + (x6 &&& ((M 65 (((64 : Int32) * x5) + x8).toNatClampNeg) ^^^ (-1 : Int32)))).toNatClampNeg)]) rfl ?_
          refine r_callV J (As := [vI x1, vI x5, vI (M 65 (((64 : Int32) * x5) + x8).toNatClampNeg), vI x2]) (st := [vI (M 67 (((1024 : Int32) * (x5 + (1 : Int32))) + (x6 &&& ((M 65 (((64 : Int32) * x5) + x8).toNatClampNeg) ^^^ (-1 : Int32)))).toNatClampNeg)]) (fun r hr => c_X12_weight x1 x5 (M 65 (((64 : Int32) * x5) + x8).toNatClampNeg) x2 σ M N hL r hr) cls12 (ly_40 hL) wm_12_232 wy_X12_weight wd_X12_weight ⟨by decide, by decide, by decide, by decide, Nat.le_of_ble_eq_true rfl⟩ rfl rfl (fun q191 hq191 => ?_)
          show g_H E 0 0 194 [(10, vI (M 67 (((1024 : Int32) * (x5 + (1 : Int32))) + (x6 &&& ((M 65 (((64 : Int32) * x5) + x8).toNatClampNeg) ^^^ (-1 : Int32)))).toNatClampNeg)), (9, vI (M 65 (((64 : Int32) * x5) + x8).toNatClampNeg)), (0, vR 40), (1, vI x1), (2, vI x2), (3, vI x3), (5, vI x5), (6, vI x6), (7, vI x7), (8, vI x8)] [vI q191, vI (M 67 (((1024 : Int32) * (x5 + (1 : Int32))) + (x6 &&& ((M 65 (((64 : Int32) * x5) + x8).toNatClampNeg) ^^^ (-1 : Int32)))).toNatClampNeg)] (σ, M, N) _ _
          refine r_run J 4 (pc' := 201) (lv' := [(11, vI ((M 67 (((1024 : Int32) * (x5 + (1 : Int32))) + (x6 &&& ((M 65 (((64 : Int32) * x5) + x8).toNatClampNeg) ^^^ (-1 : Int32)))).toNatClampNeg) + q191)), (10, vI (M 67 (((1024 : Int32) * (x5 + (1 : Int32))) + (x6 &&& ((M 65 (((64 : Int32) * x5) + x8).toNatClampNeg) ^^^ (-1 : Int32)))).toNatClampNeg)), (9, vI (M 65 (((64 : Int32) * x5) + x8).toNatClampNeg)), (0, vR 40), (1, vI x1), (2, vI x2), (3, vI x3), (5, vI x5), (6, vI x6), (7, vI x7), (8, vI x8)]) (st' := [vI x7, vI ((M 67 (((1024 : Int32) * (x5 + (1 : Int32))) + (x6 &&& ((M 65 (((64 : Int32) * x5) + x8).toNatClampNeg) ^^^ (-1 : Int32)))).toNatClampNeg) + q191)]) rfl ?_
          refine r_icmp_ge J (tgt := 209) rfl (by decide) (fun c201 => ?_) (fun c201 => ?_)
          · refine r_run J 2 (pc' := 211) (lv' := [(11, vI ((M 67 (((1024 : Int32) * (x5 + (1 : Int32))) + (x6 &&& ((M 65 (((64 : Int32) * x5) + x8).toNatClampNeg) ^^^ (-1 : Int32)))).toNatClampNeg) + q191)), (10, vI (M 67 (((1024 : Int32) * (x5 + (1 : Int32))) + (x6 &&& ((M 65 (((64 : Int32) * x5) + x8).toNatClampNeg) ^^^ (-1 : Int32)))).toNatClampNeg)), (9, vI (M 65 (((64 : Int32) * x5) + x8).toNatClampNeg)), (0, vR 40), (1, vI x1), (2, vI x2), (3, vI x3), (5, vI x5), (6, vI x6), (7, vI x7), (8, vI x8)]) (st' := [vI ((M 67 (((1024 : Int32) * (x5 + (1 : Int32))) + (x6 &&& ((M 65 (((64 : Int32) * x5) + x8).toNatClampNeg) ^^^ (-1 : Int32)))).toNatClampNeg) + q191)]) rfl ?_
            refine r_sub [3, 4, 5, 6, 7, 8, 10] (lv' := [(0, vR 40), (1, vI x1), (2, vI x2), (3, vI x3), (5, vI x5), (6, vI x6), (8, vI x8)]) rfl ?_
            exact p_X12_settle_211 J H86 H94 ih x1 x2 x3 x5 x6 x8 ((M 67 (((1024 : Int32) * (x5 + (1 : Int32))) + (x6 &&& ((M 65 (((64 : Int32) * x5) + x8).toNatClampNeg) ^^^ (-1 : Int32)))).toNatClampNeg) + q191) σ M N hL
          · refine r_run J 1 (pc' := 211) (lv' := [(11, vI ((M 67 (((1024 : Int32) * (x5 + (1 : Int32))) + (x6 &&& ((M 65 (((64 : Int32) * x5) + x8).toNatClampNeg) ^^^ (-1 : Int32)))).toNatClampNeg) + q191)), (10, vI (M 67 (((1024 : Int32) * (x5 + (1 : Int32))) + (x6 &&& ((M 65 (((64 : Int32) * x5) + x8).toNatClampNeg) ^^^ (-1 : Int32)))).toNatClampNeg)), (9, vI (M 65 (((64 : Int32) * x5) + x8).toNatClampNeg)), (0, vR 40), (1, vI x1), (2, vI x2), (3, vI x3), (5, vI x5), (6, vI x6), (7, vI x7), (8, vI x8)]) (st' := [vI x7]) rfl ?_
            refine r_sub [3, 4, 5, 6, 7, 8, 10] (lv' := [(0, vR 40), (1, vI x1), (2, vI x2), (3, vI x3), (5, vI x5), (6, vI x6), (8, vI x8)]) rfl ?_
            exact p_X12_settle_211 J H86 H94 ih x1 x2 x3 x5 x6 x8 x7 σ M N hL
      · refine r_run J 1 (pc' := 213) (lv' := [(9, vI (M 65 (((64 : Int32) * x5) + x8).toNatClampNeg)), (0, vR 40), (1, vI x1), (2, vI x2), (3, vI x3), (5, vI x5), (6, vI x6), (7, vI x7), (8, vI x8)]) (st' := []) rfl ?_
        refine r_sub [1, 2, 3, 4, 5, 6, 7, 8] (lv' := [(0, vR 40), (1, vI x1), (2, vI x2), (3, vI x3), (5, vI x5), (6, vI x6), (7, vI x7), (8, vI x8)]) rfl ?_
        exact p_X12_settle_213 J H86 H94 ih x1 x2 x3 x5 x6 x7 x8 σ M N hL
    · refine r_run J 1 (pc' := 220) (lv' := [(0, vR 40), (1, vI x1), (2, vI x2), (3, vI x3), (5, vI x5), (6, vI x6), (7, vI x7), (8, vI x8)]) (st' := [vR 40]) rfl ?_
      refine r_getR J cls12 rfl (k := 36) (t := 14) (by decide) wf_12_96 rfl rfl (ly_40 hL) (lr_40_36 hL) (fun _ => ?_)
      show g_H E 0 0 223 [(0, vR 40), (1, vI x1), (2, vI x2), (3, vI x3), (5, vI x5), (6, vI x6), (7, vI x7), (8, vI x8)] [vR 67] (σ, M, N) _ _
      refine r_run J 6 (pc' := 234) (lv' := [(0, vR 40), (1, vI x1), (2, vI x2), (3, vI x3), (5, vI x5), (6, vI x6), (7, vI x7), (8, vI x8)]) (st' := [vI x7, vI (((1024 : Int32) * x5) + x6), vR 67]) rfl ?_
      refine r_iast J rfl (ly_67 hL) (fun i234 => ?_)
      show g_H E 0 0 235 [(0, vR 40), (1, vI x1), (2, vI x2), (3, vI x3), (5, vI x5), (6, vI x6), (7, vI x7), (8, vI x8)] [] (σ, (g_up M 67 ((((1024 : Int32) * x5) + x6).toNatClampNeg) x7), N) _ _
      refine r_run J 2 (pc' := 94) (lv' := [(6, vI (x6 + 1)), (0, vR 40), (1, vI x1), (2, vI x2), (3, vI x3), (5, vI x5), (7, vI x7), (8, vI x8)]) (st' := []) rfl ?_
      refine r_sub [1, 2, 3, 4, 5, 0] (lv' := [(0, vR 40), (1, vI x1), (2, vI x2), (3, vI x3), (5, vI x5), (6, vI (x6 + 1))]) rfl ?_
      exact H94 x1 x2 x3 x5 (x6 + 1) σ (g_up M 67 ((((1024 : Int32) * x5) + x6).toNatClampNeg) x7) N hL
set_option maxHeartbeats 4000000 in
set_option maxRecDepth 100000 in
theorem p_X12_settle_94 {l : Launch} {E : gE} (J : J_X12_settle E l) {k86 : Int32 → Int32 → Int32 → Int32 → gS → gM → Option (Int32 × gM)} (H86 : ∀ (x1 : Int32) (x2 : Int32) (x3 : Int32) (x5 : Int32) (σ : gS) (M : gM) (N : gN) (_ : g_layM σ), g_H E 0 0 86 [(0, vR 40), (1, vI x1), (2, vI x2), (3, vI x3), (5, vI x5)] [] (σ, M, N) (k86 x1 x2 x3 x5 σ M) (eIM σ N)) : ∀ (n : Nat) (x1 : Int32) (x2 : Int32) (x3 : Int32) (x5 : Int32) (x6 : Int32) (σ : gS) (M : gM) (N : gN) (hL : g_layM σ), g_H E 0 0 94 [(0, vR 40), (1, vI x1), (2, vI x2), (3, vI x3), (5, vI x5), (6, vI x6)] [] (σ, M, N) (l_X12_settle_94 k86 n x1 x2 x3 x5 x6 σ M) (eIM σ N) := by
  intro n
  induction n with
  | zero => intros; exact h_none
  | succ n ih =>
    intro x1 x2 x3 x5 x6 σ M N hL
    rw [l_X12_settle_94]
    refine r_run J 2 (pc' := 99) (lv' := [(0, vR 40), (1, vI x1), (2, vI x2), (3, vI x3), (5, vI x5), (6, vI x6)]) (st' := [vI 1024, vI x6]) rfl ?_
    refine r_icmp_ge J (tgt := 241) rfl (by decide) (fun c99 => ?_) (fun c99 => ?_)
    · refine r_ldc J rfl wc_12_231 ?_
      refine r_run J 3 (pc' := 109) (lv' := [(8, vI 0), (7, vI 1073741824), (0, vR 40), (1, vI x1), (2, vI x2), (3, vI x3), (5, vI x5), (6, vI x6)]) (st' := []) rfl ?_
      refine r_sub [2, 3, 4, 5, 6, 7, 1, 0] (lv' := [(0, vR 40), (1, vI x1), (2, vI x2), (3, vI x3), (5, vI x5), (6, vI x6), (7, vI 1073741824), (8, vI 0)]) rfl ?_
      exact p_X12_settle_109 J H86 ih g_FU x1 x2 x3 x5 x6 1073741824 0 σ M N hL
    · refine r_run J 2 (pc' := 86) (lv' := [(5, vI (x5 + (-1))), (0, vR 40), (1, vI x1), (2, vI x2), (3, vI x3), (6, vI x6)]) (st' := []) rfl ?_
      refine r_sub [1, 2, 3, 4, 0] (lv' := [(0, vR 40), (1, vI x1), (2, vI x2), (3, vI x3), (5, vI (x5 + (-1)))]) rfl ?_
      exact H86 x1 x2 x3 (x5 + (-1)) σ M N hL
set_option maxHeartbeats 4000000 in
set_option maxRecDepth 100000 in
theorem p_X12_settle_86 {l : Launch} {E : gE} (J : J_X12_settle E l) : ∀ (n : Nat) (x1 : Int32) (x2 : Int32) (x3 : Int32) (x5 : Int32) (σ : gS) (M : gM) (N : gN) (hL : g_layM σ), g_H E 0 0 86 [(0, vR 40), (1, vI x1), (2, vI x2), (3, vI x3), (5, vI x5)] [] (σ, M, N) (l_X12_settle_86 n x1 x2 x3 x5 σ M) (eIM σ N) := by
  intro n
  induction n with
  | zero => intros; exact h_none
  | succ n ih =>
    intro x1 x2 x3 x5 σ M N hL
    rw [l_X12_settle_86]
    refine r_run J 1 (pc' := 88) (lv' := [(0, vR 40), (1, vI x1), (2, vI x2), (3, vI x3), (5, vI x5)]) (st' := [vI x5]) rfl ?_
    refine r_if_lt J (tgt := 247) rfl (by decide) (fun c88 => ?_) (fun c88 => ?_)
    · refine r_run J 1 (pc' := 248) (lv' := [(0, vR 40), (1, vI x1), (2, vI x2), (3, vI x3), (5, vI x5)]) (st' := [vR 40]) rfl ?_
      refine r_getR J cls12 rfl (k := 36) (t := 14) (by decide) wf_12_96 rfl rfl (ly_40 hL) (lr_40_36 hL) (fun _ => ?_)
      show g_H E 0 0 251 [(0, vR 40), (1, vI x1), (2, vI x2), (3, vI x3), (5, vI x5)] [vR 67] (σ, M, N) _ _
      refine r_run J 1 (pc' := 252) (lv' := [(0, vR 40), (1, vI x1), (2, vI x2), (3, vI x3), (5, vI x5)]) (st' := [vI x3, vR 67]) rfl ?_
      refine r_iald J rfl (ly_67 hL) (fun i252 => ?_)
      show g_H E 0 0 253 [(0, vR 40), (1, vI x1), (2, vI x2), (3, vI x3), (5, vI x5)] [vI (M 67 x3.toNatClampNeg)] (σ, M, N) _ _
      refine r_ldc J rfl wc_12_231 ?_
      refine r_icmp_ne J (tgt := 260) rfl (by decide) (fun c255 => ?_) (fun c255 => ?_)
      · refine r_run J 1 (pc' := 259) (lv' := [(0, vR 40), (1, vI x1), (2, vI x2), (3, vI x3), (5, vI x5)]) (st' := [vI (-1)]) rfl ?_
        exact r_iret J rfl rfl rfl rfl (by decide) (by decide)
      · refine r_run J 4 (pc' := 264) (lv' := [(0, vR 40), (1, vI x1), (2, vI x2), (3, vI x3), (5, vI x5)]) (st' := [vI x3, vI x2, vI x1, vR 40]) rfl ?_
        refine r_callV J (As := [vI x1, vI x2, vI x3]) (st := []) (fun r hr => c_X12_takes x1 x2 x3 σ M N hL r hr) cls12 (ly_40 hL) wm_12_236 wy_X12_takes wd_X12_takes ⟨by decide, by decide, by decide, by decide, Nat.le_of_ble_eq_true rfl⟩ rfl rfl (fun q264 hq264 => ?_)
        show g_H E 0 0 267 [(0, vR 40), (1, vI x1), (2, vI x2), (3, vI x3), (5, vI x5)] [vI q264.1] (σ, q264.2, N) _ _
        exact r_iret J rfl rfl rfl rfl (by decide) (by decide)
    · refine r_run J 2 (pc' := 94) (lv' := [(6, vI 0), (0, vR 40), (1, vI x1), (2, vI x2), (3, vI x3), (5, vI x5)]) (st' := []) rfl ?_
      refine r_sub [1, 2, 3, 4, 5, 0] (lv' := [(0, vR 40), (1, vI x1), (2, vI x2), (3, vI x3), (5, vI x5), (6, vI 0)]) rfl ?_
      exact p_X12_settle_94 J ih g_FU x1 x2 x3 x5 0 σ M N hL
set_option maxHeartbeats 4000000 in
set_option maxRecDepth 100000 in
theorem p_X12_settle_73 {l : Launch} {E : gE} (J : J_X12_settle E l) {k41 : Int32 → Int32 → Int32 → Int32 → Int32 → gS → gM → Option (Int32 × gM)} (H41 : ∀ (x1 : Int32) (x2 : Int32) (x3 : Int32) (x4 : Int32) (x5 : Int32) (σ : gS) (M : gM) (N : gN) (_ : g_layM σ), g_H E 0 0 41 [(0, vR 40), (1, vI x1), (2, vI x2), (3, vI x3), (4, vI x4), (5, vI x5)] [] (σ, M, N) (k41 x1 x2 x3 x4 x5 σ M) (eIM σ N)) (x1 : Int32) (x2 : Int32) (x3 : Int32) (x4 : Int32) (x5 : Int32) (sx0 : Int32) (sx1 : Int32) (σ : gS) (M : gM) (N : gN) (hL : g_layM σ) : g_H E 0 0 73 [(0, vR 40), (1, vI x1), (2, vI x2), (3, vI x3), (4, vI x4), (5, vI x5)] [vI sx0, vI sx1, vR 67] (σ, M, N) (b_X12_settle_73 k41 x1 x2 x3 x4 x5 sx0 sx1 σ M) (eIM σ N) := by
  unfold b_X12_settle_73
  refine r_iast J rfl (ly_67 hL) (fun i73 => ?_)
  show g_H E 0 0 74 [(0, vR 40), (1, vI x1), (2, vI x2), (3, vI x3), (4, vI x4), (5, vI x5)] [] (σ, (g_up M 67 (sx1.toNatClampNeg) sx0), N) _ _
  refine r_run J 2 (pc' := 41) (lv' := [(5, vI (x5 + 1)), (0, vR 40), (1, vI x1), (2, vI x2), (3, vI x3), (4, vI x4)]) (st' := []) rfl ?_
  refine r_sub [1, 2, 3, 4, 5, 0] (lv' := [(0, vR 40), (1, vI x1), (2, vI x2), (3, vI x3), (4, vI x4), (5, vI (x5 + 1))]) rfl ?_
  exact H41 x1 x2 x3 x4 (x5 + 1) σ (g_up M 67 (sx1.toNatClampNeg) sx0) N hL
set_option maxHeartbeats 4000000 in
set_option maxRecDepth 100000 in
theorem p_X12_settle_41 {l : Launch} {E : gE} (J : J_X12_settle E l) : ∀ (n : Nat) (x1 : Int32) (x2 : Int32) (x3 : Int32) (x4 : Int32) (x5 : Int32) (σ : gS) (M : gM) (N : gN) (hL : g_layM σ), g_H E 0 0 41 [(0, vR 40), (1, vI x1), (2, vI x2), (3, vI x3), (4, vI x4), (5, vI x5)] [] (σ, M, N) (l_X12_settle_41 n x1 x2 x3 x4 x5 σ M) (eIM σ N) := by
  intro n
  induction n with
  | zero => intros; exact h_none
  | succ n ih =>
    intro x1 x2 x3 x4 x5 σ M N hL
    rw [l_X12_settle_41]
    refine r_run J 2 (pc' := 46) (lv' := [(0, vR 40), (1, vI x1), (2, vI x2), (3, vI x3), (4, vI x4), (5, vI x5)]) (st' := [vI 1024, vI x5]) rfl ?_
    refine r_icmp_ge J (tgt := 80) rfl (by decide) (fun c46 => ?_) (fun c46 => ?_)
    · refine r_run J 1 (pc' := 50) (lv' := [(0, vR 40), (1, vI x1), (2, vI x2), (3, vI x3), (4, vI x4), (5, vI x5)]) (st' := [vR 40]) rfl ?_
      refine r_getR J cls12 rfl (k := 36) (t := 14) (by decide) wf_12_96 rfl rfl (ly_40 hL) (lr_40_36 hL) (fun _ => ?_)
      show g_H E 0 0 53 [(0, vR 40), (1, vI x1), (2, vI x2), (3, vI x3), (4, vI x4), (5, vI x5)] [vR 67] (σ, M, N) _ _
      refine r_run J 6 (pc' := 64) (lv' := [(0, vR 40), (1, vI x1), (2, vI x2), (3, vI x3), (4, vI x4), (5, vI x5)]) (st' := [vI x5, vI (((1024 : Int32) * x4) + x5), vR 67]) rfl ?_
      refine r_if_ne J (tgt := 71) rfl (by decide) (fun c64 => ?_) (fun c64 => ?_)
      · refine r_run J 2 (pc' := 73) (lv' := [(0, vR 40), (1, vI x1), (2, vI x2), (3, vI x3), (4, vI x4), (5, vI x5)]) (st' := [vI 0, vI (((1024 : Int32) * x4) + x5), vR 67]) rfl ?_
        exact p_X12_settle_73 J ih x1 x2 x3 x4 x5 0 (((1024 : Int32) * x4) + x5) σ M N hL
      · refine r_ldc J rfl wc_12_231 ?_
        exact p_X12_settle_73 J ih x1 x2 x3 x4 x5 1073741824 (((1024 : Int32) * x4) + x5) σ M N hL
    · refine r_run J 4 (pc' := 86) (lv' := [(5, vI (x4 - (1 : Int32))), (0, vR 40), (1, vI x1), (2, vI x2), (3, vI x3), (4, vI x4)]) (st' := []) rfl ?_
      refine r_sub [1, 2, 3, 4, 0] (lv' := [(0, vR 40), (1, vI x1), (2, vI x2), (3, vI x3), (5, vI (x4 - (1 : Int32)))]) rfl ?_
      exact p_X12_settle_86 J g_FU x1 x2 x3 (x4 - (1 : Int32)) σ M N hL
set_option maxHeartbeats 4000000 in
set_option maxRecDepth 100000 in
theorem p_X12_settle_0 {l : Launch} {E : gE} (J : J_X12_settle E l) (x1 : Int32) (x2 : Int32) (σ : gS) (M : gM) (N : gN) (hL : g_layM σ) : g_H E 0 0 0 [(0, vR 40), (1, vI x1), (2, vI x2)] [] (σ, M, N) (b_X12_settle_0 x1 x2 σ M) (eIM σ N) := by
  unfold b_X12_settle_0
  refine r_run J 2 (pc' := 2) (lv' := [(0, vR 40), (1, vI x1), (2, vI x2)]) (st' := [vI x1, vR 40]) rfl ?_
  refine r_callV J (As := [vI x1]) (st := []) (fun r hr => c_X12_isOpen x1 σ M N hL r hr) cls12 (ly_40 hL) wm_12_198 wy_X12_isOpen wd_X12_isOpen ⟨by decide, by decide, by decide, by decide, Nat.le_of_ble_eq_true rfl⟩ rfl rfl (fun q2 hq2 => ?_)
  show g_H E 0 0 5 [(0, vR 40), (1, vI x1), (2, vI x2)] [vI q2] (σ, M, N) _ _
  refine r_if_eq J (tgt := 17) rfl (by decide) (fun c5 => ?_) (fun c5 => ?_)
  · refine r_run J 1 (pc' := 18) (lv' := [(0, vR 40), (1, vI x1), (2, vI x2)]) (st' := [vI (-1)]) rfl ?_
    exact r_iret J rfl rfl rfl rfl (by decide) (by decide)
  · refine r_run J 3 (pc' := 11) (lv' := [(0, vR 40), (1, vI x1), (2, vI x2)]) (st' := [vI 1, vI 0, vI x2]) rfl ?_
    refine r_callS J (As := [vI x2, vI 0, vI 1]) (st := []) (fun r hr => c_X12_in x2 0 1 σ M N hL r hr) wm_12_160 wy_X12_in wd_X12_in ⟨by decide, by decide, by decide, by decide, Nat.le_of_ble_eq_true rfl⟩ rfl rfl (fun q11 hq11 => ?_)
    show g_H E 0 0 14 [(0, vR 40), (1, vI x1), (2, vI x2)] [vI q11] (σ, M, N) _ _
    refine r_if_ne J (tgt := 19) rfl (by decide) (fun c14 => ?_) (fun c14 => ?_)
    · refine r_run J 1 (pc' := 18) (lv' := [(0, vR 40), (1, vI x1), (2, vI x2)]) (st' := [vI (-1)]) rfl ?_
      exact r_iret J rfl rfl rfl rfl (by decide) (by decide)
    · refine r_run J 2 (pc' := 21) (lv' := [(0, vR 40), (1, vI x1), (2, vI x2)]) (st' := [vI x1, vR 40]) rfl ?_
      refine r_callV J (As := [vI x1]) (st := []) (fun r hr => c_X12_findSets x1 σ M N hL r hr) cls12 (ly_40 hL) wm_12_227 wy_X12_findSets wd_X12_findSets ⟨by decide, by decide, by decide, by decide, Nat.le_of_ble_eq_true rfl⟩ rfl rfl (fun q21 hq21 => ?_)
      show g_H E 0 0 24 [(0, vR 40), (1, vI x1), (2, vI x2)] [] (σ, q21, N) _ _
      refine r_run J 2 (pc' := 26) (lv' := [(0, vR 40), (1, vI x1), (2, vI x2)]) (st' := [vI x1, vR 40]) rfl ?_
      refine r_callV J (As := [vI x1]) (st := []) (fun r hr => c_X12_there x1 σ q21 N hL r hr) cls12 (ly_40 hL) wm_12_215 wy_X12_there wd_X12_there ⟨by decide, by decide, by decide, by decide, Nat.le_of_ble_eq_true rfl⟩ rfl rfl (fun q26 hq26 => ?_)
      show g_H E 0 0 29 [(0, vR 40), (1, vI x1), (2, vI x2)] [vI q26] (σ, q21, N) _ _
      refine r_run J 2 (pc' := 31) (lv' := [(3, vI q26), (0, vR 40), (1, vI x1), (2, vI x2)]) (st' := [vR 40]) rfl ?_
      refine r_getR J cls12 rfl (k := 20) (t := 14) (by decide) wf_12_51 rfl rfl (ly_40 hL) (lr_40_20 hL) (fun _ => ?_)
      show g_H E 0 0 34 [(3, vI q26), (0, vR 40), (1, vI x1), (2, vI x2)] [vR 52] (σ, q21, N) _ _
      refine r_run J 1 (pc' := 35) (lv' := [(3, vI q26), (0, vR 40), (1, vI x1), (2, vI x2)]) (st' := [vI x1, vR 52]) rfl ?_
      refine r_iald J rfl (ly_52 hL) (fun i35 => ?_)
      show g_H E 0 0 36 [(3, vI q26), (0, vR 40), (1, vI x1), (2, vI x2)] [vI (q21 52 x1.toNatClampNeg)] (σ, q21, N) _ _
      refine r_run J 3 (pc' := 41) (lv' := [(5, vI 0), (4, vI (q21 52 x1.toNatClampNeg)), (3, vI q26), (0, vR 40), (1, vI x1), (2, vI x2)]) (st' := []) rfl ?_
      refine r_sub [3, 4, 5, 2, 1, 0] (lv' := [(0, vR 40), (1, vI x1), (2, vI x2), (3, vI q26), (4, vI (q21 52 x1.toNatClampNeg)), (5, vI 0)]) rfl ?_
      exact p_X12_settle_41 J g_FU x1 x2 q26 (q21 52 x1.toNatClampNeg) 0 σ q21 N hL
noncomputable def f_X12_settle (x1 : Int32) (x2 : Int32) (σ : gS) (M : gM) : Option (Int32 × gM) := b_X12_settle_0 x1 x2 σ M
theorem c_X12_settle {l : Launch} (x1 : Int32) (x2 : Int32) (σ : gS) (M : gM) (N : gN) (hL : g_layM σ) (r : Int32 × gM) (h : f_X12_settle x1 x2 σ M = some r) : g_Ct l yX12_settle cX12_settle 12 (some .int) 5 0 0 [vR 40, vI x1, vI x2] (σ, M, N) (eIM σ N r) :=
  g_Ct.of tb_X12_settle (by decide +kernel) tk_X12_settle (Nat.le_of_ble_eq_true rfl) (fun E J => p_X12_settle_0 J x1 x2 σ M N hL r h)
def tb_X12_moved : gT := [(0, .aload_n 0, 1, 0), (1, .getfield 99, 3, 0), (4, .ireturn, 1, 0)]
set_option maxRecDepth 100000 in
theorem tk_X12_moved : g_okT cX12_moved tb_X12_moved = true := by decide +kernel
abbrev J_X12_moved (E : gE) (l : Launch) : Prop := g_J E cX12_moved RX12 "moved" (some .int) 1 tb_X12_moved 1 0 0 l
noncomputable def b_X12_moved_0 (σ : gS) (M : gM) : Option (Int32) := some (M 40 37)
set_option maxHeartbeats 4000000 in
set_option maxRecDepth 100000 in
theorem p_X12_moved_0 {l : Launch} {E : gE} (J : J_X12_moved E l) (σ : gS) (M : gM) (N : gN) (hL : g_layM σ) : g_H E 0 0 0 [(0, vR 40)] [] (σ, M, N) (b_X12_moved_0 σ M) (eI σ M N) := by
  unfold b_X12_moved_0
  refine r_run J 1 (pc' := 1) (lv' := [(0, vR 40)]) (st' := [vR 40]) rfl ?_
  refine r_getI J cls12 rfl (k := 37) (by decide) wf_12_99 rfl (ly_40 hL) ?_
  show g_H E 0 0 4 [(0, vR 40)] [vI (M 40 37)] (σ, M, N) _ _
  exact r_iret J rfl rfl rfl rfl (by decide) (by decide)
noncomputable def f_X12_moved (σ : gS) (M : gM) : Option (Int32) := b_X12_moved_0 σ M
theorem c_X12_moved {l : Launch} (σ : gS) (M : gM) (N : gN) (hL : g_layM σ) (r : Int32) (h : f_X12_moved σ M = some r) : g_Ct l yX12_moved cX12_moved 1 (some .int) 1 0 0 [vR 40] (σ, M, N) (eI σ M N r) :=
  g_Ct.of tb_X12_moved (by decide +kernel) tk_X12_moved (Nat.le_of_ble_eq_true rfl) (fun E J => p_X12_moved_0 J σ M N hL r h)
def tb_X12_sizeOf : gT := [(0, .iconst 0, 1, 0), (1, .istore_n 1, 1, 0), (2, .iconst 0, 1, 0), (3, .istore_n 2, 1, 0), (4, .iload_n 2, 1, 0), (5, .bipush 10, 2, 10), (7, .if_icmp .ge 17, 3, 0), (10, .iload_n 1, 1, 0), (11, .iload_n 0, 1, 0), (12, .iload_n 2, 1, 0), (13, .ishr, 1, 0), (14, .iconst 1, 1, 1), (15, .iand, 1, 0), (16, .iadd, 1, 0), (17, .istore_n 1, 1, 0), (18, .iinc 2 1, 3, 1), (21, .goto (-17), 3, 0), (24, .iload_n 1, 1, 0), (25, .ireturn, 1, 0)]
set_option maxRecDepth 100000 in
theorem tk_X12_sizeOf : g_okT cX12_sizeOf tb_X12_sizeOf = true := by decide +kernel
abbrev J_X12_sizeOf (E : gE) (l : Launch) : Prop := g_J E cX12_sizeOf RX12 "sizeOf" (some .int) 3 tb_X12_sizeOf 1 0 0 l
noncomputable def l_X12_sizeOf_4 : Nat → Int32 → Int32 → Int32 → Option (Int32)
  | 0, _, _, _ => none
  | n + 1, x0, x1, x2 => if x2 < (10 : Int32) then l_X12_sizeOf_4 n x0 (x1 + ((x0 >>> (x2 &&& 31)) &&& (1 : Int32))) (x2 + 1) else some x1
noncomputable def b_X12_sizeOf_0 (x0 : Int32) : Option (Int32) := l_X12_sizeOf_4 g_FU x0 0 0
set_option maxHeartbeats 4000000 in
set_option maxRecDepth 100000 in
theorem p_X12_sizeOf_4 {l : Launch} {E : gE} (J : J_X12_sizeOf E l) : ∀ (n : Nat) (x0 : Int32) (x1 : Int32) (x2 : Int32) (σ : gS) (M : gM) (N : gN) (hL : g_layM σ), g_H E 0 0 4 [(0, vI x0), (1, vI x1), (2, vI x2)] [] (σ, M, N) (l_X12_sizeOf_4 n x0 x1 x2) (eI σ M N) := by
  intro n
  induction n with
  | zero => intros; exact h_none
  | succ n ih =>
    intro x0 x1 x2 σ M N hL
    rw [l_X12_sizeOf_4]
    refine r_run J 2 (pc' := 7) (lv' := [(0, vI x0), (1, vI x1), (2, vI x2)]) (st' := [vI 10, vI x2]) rfl ?_
    refine r_icmp_ge J (tgt := 24) rfl (by decide) (fun c7 => ?_) (fun c7 => ?_)
    · refine r_run J 10 (pc' := 4) (lv' := [(2, vI (x2 + 1)), (1, vI (x1 + ((x0 >>> (x2 &&& 31)) &&& (1 : Int32)))), (0, vI x0)]) (st' := []) rfl ?_
      refine r_sub [2, 1, 0] (lv' := [(0, vI x0), (1, vI (x1 + ((x0 >>> (x2 &&& 31)) &&& (1 : Int32)))), (2, vI (x2 + 1))]) rfl ?_
      exact ih x0 (x1 + ((x0 >>> (x2 &&& 31)) &&& (1 : Int32))) (x2 + 1) σ M N hL
    · refine r_run J 1 (pc' := 25) (lv' := [(0, vI x0), (1, vI x1), (2, vI x2)]) (st' := [vI x1]) rfl ?_
      exact r_iret J rfl rfl rfl rfl (by decide) (by decide)
set_option maxHeartbeats 4000000 in
set_option maxRecDepth 100000 in
theorem p_X12_sizeOf_0 {l : Launch} {E : gE} (J : J_X12_sizeOf E l) (x0 : Int32) (σ : gS) (M : gM) (N : gN) (hL : g_layM σ) : g_H E 0 0 0 [(0, vI x0)] [] (σ, M, N) (b_X12_sizeOf_0 x0) (eI σ M N) := by
  unfold b_X12_sizeOf_0
  refine r_run J 4 (pc' := 4) (lv' := [(2, vI 0), (1, vI 0), (0, vI x0)]) (st' := []) rfl ?_
  refine r_sub [2, 1, 0] (lv' := [(0, vI x0), (1, vI 0), (2, vI 0)]) rfl ?_
  exact p_X12_sizeOf_4 J g_FU x0 0 0 σ M N hL
noncomputable def f_X12_sizeOf (x0 : Int32) : Option (Int32) := b_X12_sizeOf_0 x0
theorem c_X12_sizeOf {l : Launch} (x0 : Int32) (σ : gS) (M : gM) (N : gN) (hL : g_layM σ) (r : Int32) (h : f_X12_sizeOf x0 = some r) : g_Ct l yX12_sizeOf cX12_sizeOf 3 (some .int) 1 0 0 [vI x0] (σ, M, N) (eI σ M N r) :=
  g_Ct.of tb_X12_sizeOf (by decide +kernel) tk_X12_sizeOf (Nat.le_of_ble_eq_true rfl) (fun E J => p_X12_sizeOf_0 J x0 σ M N hL r h)
def tb_X12_most : gT := [(0, .aload_n 0, 1, 0), (1, .iload_n 1, 1, 0), (2, .invokevirtual 170, 3, 0), (5, .ifCond .ne 5, 3, 0), (8, .iconst (-1), 1, (-1)), (9, .ireturn, 1, 0), (10, .aload_n 0, 1, 0), (11, .iload_n 1, 1, 0), (12, .invokevirtual 227, 3, 0), (15, .aload_n 0, 1, 0), (16, .getfield 51, 3, 0), (19, .iload_n 1, 1, 0), (20, .iaload, 1, 0), (21, .istore_n 2, 1, 0), (22, .iconst 0, 1, 0), (23, .istore_n 3, 1, 0), (24, .iload_n 3, 1, 0), (25, .sipush 11264, 3, 11264), (28, .if_icmp .ge 24, 3, 0), (31, .aload_n 0, 1, 0), (32, .getfield 105, 3, 0), (35, .iload_n 3, 1, 0), (36, .iload_n 3, 1, 0), (37, .ifCond .ne 7, 3, 0), (40, .iconst 1, 1, 1), (41, .goto 4, 3, 0), (44, .iconst 0, 1, 0), (45, .bastore, 1, 0), (46, .iinc 3 1, 3, 1), (49, .goto (-25), 3, 0), (52, .iconst 0, 1, 0), (53, .istore_n 3, 1, 0), (54, .iload_n 3, 1, 0), (55, .iload_n 2, 1, 0), (56, .if_icmp .ge 112, 3, 0), (59, .iconst 0, 1, 0), (60, .istore 4, 2, 0), (62, .iload 4, 2, 0), (64, .sipush 1024, 3, 1024), (67, .if_icmp .ge 95, 3, 0), (70, .aload_n 0, 1, 0), (71, .getfield 105, 3, 0), (74, .sipush 1024, 3, 1024), (77, .iload_n 3, 1, 0), (78, .imul, 1, 0), (79, .iload 4, 2, 0), (81, .iadd, 1, 0), (82, .baload, 1, 0), (83, .ifCond .ne 6, 3, 0), (86, .goto 70, 3, 0), (89, .iconst 0, 1, 0), (90, .istore 5, 2, 0), (92, .iload 5, 2, 0), (94, .aload_n 0, 1, 0), (95, .getfield 93, 3, 0), (98, .iload_n 3, 1, 0), (99, .iaload, 1, 0), (100, .if_icmp .ge 56, 3, 0), (103, .aload_n 0, 1, 0), (104, .getfield 90, 3, 0), (107, .bipush 64, 2, 64), (109, .iload_n 3, 1, 0), (110, .imul, 1, 0), (111, .iload 5, 2, 0), (113, .iadd, 1, 0), (114, .iaload, 1, 0), (115, .iload 4, 2, 0), (117, .iand, 1, 0), (118, .ifCond .ne 32, 3, 0), (121, .aload_n 0, 1, 0), (122, .getfield 105, 3, 0), (125, .sipush 1024, 3, 1024), (128, .iload_n 3, 1, 0), (129, .iconst 1, 1, 1), (130, .iadd, 1, 0), (131, .imul, 1, 0), (132, .iload 4, 2, 0), (134, .aload_n 0, 1, 0), (135, .getfield 90, 3, 0), (138, .bipush 64, 2, 64), (140, .iload_n 3, 1, 0), (141, .imul, 1, 0), (142, .iload 5, 2, 0), (144, .iadd, 1, 0), (145, .iaload, 1, 0), (146, .ior, 1, 0), (147, .iadd, 1, 0), (148, .iconst 1, 1, 1), (149, .bastore, 1, 0), (150, .iinc 5 1, 3, 1), (153, .goto (-61), 3, 0), (156, .iinc 4 1, 3, 1), (159, .goto (-97), 3, 0), (162, .iinc 3 1, 3, 1), (165, .goto (-111), 3, 0), (168, .iconst 0, 1, 0), (169, .istore_n 3, 1, 0), (170, .iconst 0, 1, 0), (171, .istore 4, 2, 0), (173, .iload 4, 2, 0), (175, .sipush 1024, 3, 1024), (178, .if_icmp .ge 44, 3, 0), (181, .aload_n 0, 1, 0), (182, .getfield 105, 3, 0), (185, .sipush 1024, 3, 1024), (188, .iload_n 2, 1, 0), (189, .imul, 1, 0), (190, .iload 4, 2, 0), (192, .iadd, 1, 0), (193, .baload, 1, 0), (194, .ifCond .eq 20, 3, 0), (197, .iload 4, 2, 0), (199, .invokestatic 243, 3, 0), (202, .iload_n 3, 1, 0), (203, .if_icmp .le 11, 3, 0), (206, .iload 4, 2, 0), (208, .invokestatic 243, 3, 0), (211, .goto 4, 3, 0), (214, .iload_n 3, 1, 0), (215, .istore_n 3, 1, 0), (216, .iinc 4 1, 3, 1), (219, .goto (-46), 3, 0), (222, .iload_n 3, 1, 0), (223, .ireturn, 1, 0)]
set_option maxRecDepth 100000 in
theorem tk_X12_most : g_okT cX12_most tb_X12_most = true := by decide +kernel
abbrev J_X12_most (E : gE) (l : Launch) : Prop := g_J E cX12_most RX12 "most" (some .int) 6 tb_X12_most 4 0 0 l
noncomputable def b_X12_most_215 (k173 : Int32 → Int32 → Int32 → gS → gM → Option (Int32 × gM)) (x2 : Int32) (x4 : Int32) (sx0 : Int32) (σ : gS) (M : gM) : Option (Int32 × gM) := k173 x2 sx0 (x4 + 1) σ M
noncomputable def b_X12_most_214 (k173 : Int32 → Int32 → Int32 → gS → gM → Option (Int32 × gM)) (x2 : Int32) (x3 : Int32) (x4 : Int32) (σ : gS) (M : gM) : Option (Int32 × gM) := b_X12_most_215 k173 x2 x4 x3 σ M
noncomputable def l_X12_most_173 : Nat → Int32 → Int32 → Int32 → gS → gM → Option (Int32 × gM)
  | 0, _, _, _, _, _ => none
  | n + 1, x2, x3, x4, σ, M => if x4 < (1024 : Int32) then if g_in (((1024 : Int32) * x2) + x4) 11264 = true then if (M 69 (((1024 : Int32) * x2) + x4).toNatClampNeg) = (0 : Int32) then b_X12_most_214 (fun x2 x3 x4 σ M => l_X12_most_173 n x2 x3 x4 σ M) x2 x3 x4 σ M else (f_X12_sizeOf x4).bind fun q199 => if x3 < q199 then (f_X12_sizeOf x4).bind fun q208 => b_X12_most_215 (fun x2 x3 x4 σ M => l_X12_most_173 n x2 x3 x4 σ M) x2 x4 q208 σ M else b_X12_most_214 (fun x2 x3 x4 σ M => l_X12_most_173 n x2 x3 x4 σ M) x2 x3 x4 σ M else none else some (x3, M)
noncomputable def b_X12_most_156 (k54 : Int32 → Int32 → gS → gM → Option (Int32 × gM)) (k62 : Int32 → Int32 → Int32 → gS → gM → Option (Int32 × gM)) (x2 : Int32) (x3 : Int32) (x4 : Int32) (σ : gS) (M : gM) : Option (Int32 × gM) := k62 x2 x3 (x4 + 1) σ M
noncomputable def b_X12_most_150 (k54 : Int32 → Int32 → gS → gM → Option (Int32 × gM)) (k62 : Int32 → Int32 → Int32 → gS → gM → Option (Int32 × gM)) (k92 : Int32 → Int32 → Int32 → Int32 → gS → gM → Option (Int32 × gM)) (x2 : Int32) (x3 : Int32) (x4 : Int32) (x5 : Int32) (σ : gS) (M : gM) : Option (Int32 × gM) := k92 x2 x3 x4 (x5 + 1) σ M
noncomputable def l_X12_most_92 (k54 : Int32 → Int32 → gS → gM → Option (Int32 × gM)) (k62 : Int32 → Int32 → Int32 → gS → gM → Option (Int32 × gM)) : Nat → Int32 → Int32 → Int32 → Int32 → gS → gM → Option (Int32 × gM)
  | 0, _, _, _, _, _, _ => none
  | n + 1, x2, x3, x4, x5, σ, M => if g_in x3 10 = true then if x5 < (M 66 x3.toNatClampNeg) then if g_in (((64 : Int32) * x3) + x5) 640 = true then if ((M 65 (((64 : Int32) * x3) + x5).toNatClampNeg) &&& x4) = (0 : Int32) then if g_in (((64 : Int32) * x3) + x5) 640 = true then if g_in (((1024 : Int32) * (x3 + (1 : Int32))) + (x4 ||| (M 65 (((64 : Int32) * x3) + x5).toNatClampNeg))) 11264 = true then b_X12_most_150 k54 k62 (fun x2 x3 x4 x5 σ M => l_X12_most_92 k54 k62 n x2 x3 x4 x5 σ M) x2 x3 x4 x5 σ (g_up M 69 ((((1024 : Int32) * (x3 + (1 : Int32))) + (x4 ||| (M 65 (((64 : Int32) * x3) + x5).toNatClampNeg))).toNatClampNeg) (vp_nar .boolean 1)) else none else none else b_X12_most_150 k54 k62 (fun x2 x3 x4 x5 σ M => l_X12_most_92 k54 k62 n x2 x3 x4 x5 σ M) x2 x3 x4 x5 σ M else none else b_X12_most_156 k54 k62 x2 x3 x4 σ M else none
noncomputable def l_X12_most_62 (k54 : Int32 → Int32 → gS → gM → Option (Int32 × gM)) : Nat → Int32 → Int32 → Int32 → gS → gM → Option (Int32 × gM)
  | 0, _, _, _, _, _ => none
  | n + 1, x2, x3, x4, σ, M => if x4 < (1024 : Int32) then if g_in (((1024 : Int32) * x3) + x4) 11264 = true then if (M 69 (((1024 : Int32) * x3) + x4).toNatClampNeg) = (0 : Int32) then b_X12_most_156 k54 (fun x2 x3 x4 σ M => l_X12_most_62 k54 n x2 x3 x4 σ M) x2 x3 x4 σ M else l_X12_most_92 k54 (fun x2 x3 x4 σ M => l_X12_most_62 k54 n x2 x3 x4 σ M) g_FU x2 x3 x4 0 σ M else none else k54 x2 (x3 + 1) σ M
noncomputable def l_X12_most_54 : Nat → Int32 → Int32 → gS → gM → Option (Int32 × gM)
  | 0, _, _, _, _ => none
  | n + 1, x2, x3, σ, M => if x3 < x2 then l_X12_most_62 (fun x2 x3 σ M => l_X12_most_54 n x2 x3 σ M) g_FU x2 x3 0 σ M else l_X12_most_173 g_FU x2 0 0 σ M
noncomputable def b_X12_most_45 (k24 : Int32 → Int32 → gS → gM → Option (Int32 × gM)) (x2 : Int32) (x3 : Int32) (sx0 : Int32) (sx1 : Int32) (σ : gS) (M : gM) : Option (Int32 × gM) := if g_in sx1 11264 = true then k24 x2 (x3 + 1) σ (g_up M 69 (sx1.toNatClampNeg) (vp_nar .boolean sx0)) else none
noncomputable def l_X12_most_24 : Nat → Int32 → Int32 → gS → gM → Option (Int32 × gM)
  | 0, _, _, _, _ => none
  | n + 1, x2, x3, σ, M => if x3 < (11264 : Int32) then if x3 = (0 : Int32) then b_X12_most_45 (fun x2 x3 σ M => l_X12_most_24 n x2 x3 σ M) x2 x3 1 x3 σ M else b_X12_most_45 (fun x2 x3 σ M => l_X12_most_24 n x2 x3 σ M) x2 x3 0 x3 σ M else l_X12_most_54 g_FU x2 0 σ M
noncomputable def b_X12_most_0 (x1 : Int32) (σ : gS) (M : gM) : Option (Int32 × gM) := (f_X12_isTown x1 σ M).bind fun q2 => if q2 = (0 : Int32) then some ((-1), M) else (f_X12_findSets x1 σ M).bind fun q12 => if g_in x1 6 = true then l_X12_most_24 g_FU (q12 52 x1.toNatClampNeg) 0 σ q12 else none
set_option maxHeartbeats 4000000 in
set_option maxRecDepth 100000 in
theorem p_X12_most_215 {l : Launch} {E : gE} (J : J_X12_most E l) {k173 : Int32 → Int32 → Int32 → gS → gM → Option (Int32 × gM)} (H173 : ∀ (x2 : Int32) (x3 : Int32) (x4 : Int32) (σ : gS) (M : gM) (N : gN) (_ : g_layM σ), g_H E 0 0 173 [(0, vR 40), (2, vI x2), (3, vI x3), (4, vI x4)] [] (σ, M, N) (k173 x2 x3 x4 σ M) (eIM σ N)) (x2 : Int32) (x4 : Int32) (sx0 : Int32) (σ : gS) (M : gM) (N : gN) (hL : g_layM σ) : g_H E 0 0 215 [(0, vR 40), (2, vI x2), (4, vI x4)] [vI sx0] (σ, M, N) (b_X12_most_215 k173 x2 x4 sx0 σ M) (eIM σ N) := by
  unfold b_X12_most_215
  refine r_run J 3 (pc' := 173) (lv' := [(4, vI (x4 + 1)), (3, vI sx0), (0, vR 40), (2, vI x2)]) (st' := []) rfl ?_
  refine r_sub [2, 3, 1, 0] (lv' := [(0, vR 40), (2, vI x2), (3, vI sx0), (4, vI (x4 + 1))]) rfl ?_
  exact H173 x2 sx0 (x4 + 1) σ M N hL
set_option maxHeartbeats 4000000 in
set_option maxRecDepth 100000 in
theorem p_X12_most_214 {l : Launch} {E : gE} (J : J_X12_most E l) {k173 : Int32 → Int32 → Int32 → gS → gM → Option (Int32 × gM)} (H173 : ∀ (x2 : Int32) (x3 : Int32) (x4 : Int32) (σ : gS) (M : gM) (N : gN) (_ : g_layM σ), g_H E 0 0 173 [(0, vR 40), (2, vI x2), (3, vI x3), (4, vI x4)] [] (σ, M, N) (k173 x2 x3 x4 σ M) (eIM σ N)) (x2 : Int32) (x3 : Int32) (x4 : Int32) (σ : gS) (M : gM) (N : gN) (hL : g_layM σ) : g_H E 0 0 214 [(0, vR 40), (2, vI x2), (3, vI x3), (4, vI x4)] [] (σ, M, N) (b_X12_most_214 k173 x2 x3 x4 σ M) (eIM σ N) := by
  unfold b_X12_most_214
  refine r_run J 1 (pc' := 215) (lv' := [(0, vR 40), (2, vI x2), (3, vI x3), (4, vI x4)]) (st' := [vI x3]) rfl ?_
  refine r_sub [0, 1, 3] (lv' := [(0, vR 40), (2, vI x2), (4, vI x4)]) rfl ?_
  exact p_X12_most_215 J H173 x2 x4 x3 σ M N hL
set_option maxHeartbeats 4000000 in
set_option maxRecDepth 100000 in
theorem p_X12_most_173 {l : Launch} {E : gE} (J : J_X12_most E l) : ∀ (n : Nat) (x2 : Int32) (x3 : Int32) (x4 : Int32) (σ : gS) (M : gM) (N : gN) (hL : g_layM σ), g_H E 0 0 173 [(0, vR 40), (2, vI x2), (3, vI x3), (4, vI x4)] [] (σ, M, N) (l_X12_most_173 n x2 x3 x4 σ M) (eIM σ N) := by
  intro n
  induction n with
  | zero => intros; exact h_none
  | succ n ih =>
    intro x2 x3 x4 σ M N hL
    rw [l_X12_most_173]
    refine r_run J 2 (pc' := 178) (lv' := [(0, vR 40), (2, vI x2), (3, vI x3), (4, vI x4)]) (st' := [vI 1024, vI x4]) rfl ?_
    refine r_icmp_ge J (tgt := 222) rfl (by decide) (fun c178 => ?_) (fun c178 => ?_)
    · refine r_run J 1 (pc' := 182) (lv' := [(0, vR 40), (2, vI x2), (3, vI x3), (4, vI x4)]) (st' := [vR 40]) rfl ?_
      refine r_getR J cls12 rfl (k := 39) (t := 15) (by decide) wf_12_105 rfl rfl (ly_40 hL) (lr_40_39 hL) (fun _ => ?_)
      show g_H E 0 0 185 [(0, vR 40), (2, vI x2), (3, vI x3), (4, vI x4)] [vR 69] (σ, M, N) _ _
      refine r_run J 5 (pc' := 193) (lv' := [(0, vR 40), (2, vI x2), (3, vI x3), (4, vI x4)]) (st' := [vI (((1024 : Int32) * x2) + x4), vR 69]) rfl ?_
      refine r_zald J rfl (ly_69 hL) (fun i193 => ?_)
      show g_H E 0 0 194 [(0, vR 40), (2, vI x2), (3, vI x3), (4, vI x4)] [vI (M 69 (((1024 : Int32) * x2) + x4).toNatClampNeg)] (σ, M, N) _ _
      refine r_if_eq J (tgt := 214) rfl (by decide) (fun c194 => ?_) (fun c194 => ?_)
      · exact p_X12_most_214 J ih x2 x3 x4 σ M N hL
      · refine r_run J 1 (pc' := 199) (lv' := [(0, vR 40), (2, vI x2), (3, vI x3), (4, vI x4)]) (st' := [vI x4]) rfl ?_
        refine r_callS J (As := [vI x4]) (st := []) (fun r hr => c_X12_sizeOf x4 σ M N hL r hr) wm_12_243 wy_X12_sizeOf wd_X12_sizeOf ⟨by decide, by decide, by decide, by decide, Nat.le_of_ble_eq_true rfl⟩ rfl rfl (fun q199 hq199 => ?_)
        show g_H E 0 0 202 [(0, vR 40), (2, vI x2), (3, vI x3), (4, vI x4)] [vI q199] (σ, M, N) _ _
        refine r_run J 1 (pc' := 203) (lv' := [(0, vR 40), (2, vI x2), (3, vI x3), (4, vI x4)]) (st' := [vI x3, vI q199]) rfl ?_
        refine r_icmp_le J (tgt := 214) rfl (by decide) (fun c203 => ?_) (fun c203 => ?_)
        · refine r_run J 1 (pc' := 208) (lv' := [(0, vR 40), (2, vI x2), (3, vI x3), (4, vI x4)]) (st' := [vI x4]) rfl ?_
          refine r_callS J (As := [vI x4]) (st := []) (fun r hr => c_X12_sizeOf x4 σ M N hL r hr) wm_12_243 wy_X12_sizeOf wd_X12_sizeOf ⟨by decide, by decide, by decide, by decide, Nat.le_of_ble_eq_true rfl⟩ rfl rfl (fun q208 hq208 => ?_)
          show g_H E 0 0 211 [(0, vR 40), (2, vI x2), (3, vI x3), (4, vI x4)] [vI q208] (σ, M, N) _ _
          refine r_run J 1 (pc' := 215) (lv' := [(0, vR 40), (2, vI x2), (3, vI x3), (4, vI x4)]) (st' := [vI q208]) rfl ?_
          refine r_sub [0, 1, 3] (lv' := [(0, vR 40), (2, vI x2), (4, vI x4)]) rfl ?_
          exact p_X12_most_215 J ih x2 x4 q208 σ M N hL
        · exact p_X12_most_214 J ih x2 x3 x4 σ M N hL
    · refine r_run J 1 (pc' := 223) (lv' := [(0, vR 40), (2, vI x2), (3, vI x3), (4, vI x4)]) (st' := [vI x3]) rfl ?_
      exact r_iret J rfl rfl rfl rfl (by decide) (by decide)
set_option maxHeartbeats 4000000 in
set_option maxRecDepth 100000 in
theorem p_X12_most_156 {l : Launch} {E : gE} (J : J_X12_most E l) {k54 : Int32 → Int32 → gS → gM → Option (Int32 × gM)} (H54 : ∀ (x2 : Int32) (x3 : Int32) (σ : gS) (M : gM) (N : gN) (_ : g_layM σ), g_H E 0 0 54 [(0, vR 40), (2, vI x2), (3, vI x3)] [] (σ, M, N) (k54 x2 x3 σ M) (eIM σ N)) {k62 : Int32 → Int32 → Int32 → gS → gM → Option (Int32 × gM)} (H62 : ∀ (x2 : Int32) (x3 : Int32) (x4 : Int32) (σ : gS) (M : gM) (N : gN) (_ : g_layM σ), g_H E 0 0 62 [(0, vR 40), (2, vI x2), (3, vI x3), (4, vI x4)] [] (σ, M, N) (k62 x2 x3 x4 σ M) (eIM σ N)) (x2 : Int32) (x3 : Int32) (x4 : Int32) (σ : gS) (M : gM) (N : gN) (hL : g_layM σ) : g_H E 0 0 156 [(0, vR 40), (2, vI x2), (3, vI x3), (4, vI x4)] [] (σ, M, N) (b_X12_most_156 k54 k62 x2 x3 x4 σ M) (eIM σ N) := by
  unfold b_X12_most_156
  refine r_run J 2 (pc' := 62) (lv' := [(4, vI (x4 + 1)), (0, vR 40), (2, vI x2), (3, vI x3)]) (st' := []) rfl ?_
  refine r_sub [1, 2, 3, 0] (lv' := [(0, vR 40), (2, vI x2), (3, vI x3), (4, vI (x4 + 1))]) rfl ?_
  exact H62 x2 x3 (x4 + 1) σ M N hL
set_option maxHeartbeats 4000000 in
set_option maxRecDepth 100000 in
theorem p_X12_most_150 {l : Launch} {E : gE} (J : J_X12_most E l) {k54 : Int32 → Int32 → gS → gM → Option (Int32 × gM)} (H54 : ∀ (x2 : Int32) (x3 : Int32) (σ : gS) (M : gM) (N : gN) (_ : g_layM σ), g_H E 0 0 54 [(0, vR 40), (2, vI x2), (3, vI x3)] [] (σ, M, N) (k54 x2 x3 σ M) (eIM σ N)) {k62 : Int32 → Int32 → Int32 → gS → gM → Option (Int32 × gM)} (H62 : ∀ (x2 : Int32) (x3 : Int32) (x4 : Int32) (σ : gS) (M : gM) (N : gN) (_ : g_layM σ), g_H E 0 0 62 [(0, vR 40), (2, vI x2), (3, vI x3), (4, vI x4)] [] (σ, M, N) (k62 x2 x3 x4 σ M) (eIM σ N)) {k92 : Int32 → Int32 → Int32 → Int32 → gS → gM → Option (Int32 × gM)} (H92 : ∀ (x2 : Int32) (x3 : Int32) (x4 : Int32) (x5 : Int32) (σ : gS) (M : gM) (N : gN) (_ : g_layM σ), g_H E 0 0 92 [(0, vR 40), (2, vI x2), (3, vI x3), (4, vI x4), (5, vI x5)] [] (σ, M, N) (k92 x2 x3 x4 x5 σ M) (eIM σ N)) (x2 : Int32) (x3 : Int32) (x4 : Int32) (x5 : Int32) (σ : gS) (M : gM) (N : gN) (hL : g_layM σ) : g_H E 0 0 150 [(0, vR 40), (2, vI x2), (3, vI x3), (4, vI x4), (5, vI x5)] [] (σ, M, N) (b_X12_most_150 k54 k62 k92 x2 x3 x4 x5 σ M) (eIM σ N) := by
  unfold b_X12_most_150
  refine r_run J 2 (pc' := 92) (lv' := [(5, vI (x5 + 1)), (0, vR 40), (2, vI x2), (3, vI x3), (4, vI x4)]) (st' := []) rfl ?_
  refine r_sub [1, 2, 3, 4, 0] (lv' := [(0, vR 40), (2, vI x2), (3, vI x3), (4, vI x4), (5, vI (x5 + 1))]) rfl ?_
  exact H92 x2 x3 x4 (x5 + 1) σ M N hL
set_option maxHeartbeats 4000000 in
set_option maxRecDepth 100000 in
theorem p_X12_most_92 {l : Launch} {E : gE} (J : J_X12_most E l) {k54 : Int32 → Int32 → gS → gM → Option (Int32 × gM)} (H54 : ∀ (x2 : Int32) (x3 : Int32) (σ : gS) (M : gM) (N : gN) (_ : g_layM σ), g_H E 0 0 54 [(0, vR 40), (2, vI x2), (3, vI x3)] [] (σ, M, N) (k54 x2 x3 σ M) (eIM σ N)) {k62 : Int32 → Int32 → Int32 → gS → gM → Option (Int32 × gM)} (H62 : ∀ (x2 : Int32) (x3 : Int32) (x4 : Int32) (σ : gS) (M : gM) (N : gN) (_ : g_layM σ), g_H E 0 0 62 [(0, vR 40), (2, vI x2), (3, vI x3), (4, vI x4)] [] (σ, M, N) (k62 x2 x3 x4 σ M) (eIM σ N)) : ∀ (n : Nat) (x2 : Int32) (x3 : Int32) (x4 : Int32) (x5 : Int32) (σ : gS) (M : gM) (N : gN) (hL : g_layM σ), g_H E 0 0 92 [(0, vR 40), (2, vI x2), (3, vI x3), (4, vI x4), (5, vI x5)] [] (σ, M, N) (l_X12_most_92 k54 k62 n x2 x3 x4 x5 σ M) (eIM σ N) := by
  intro n
  induction n with
  | zero => intros; exact h_none
  | succ n ih =>
    intro x2 x3 x4 x5 σ M N hL
    rw [l_X12_most_92]
    refine r_run J 2 (pc' := 95) (lv' := [(0, vR 40), (2, vI x2), (3, vI x3), (4, vI x4), (5, vI x5)]) (st' := [vR 40, vI x5]) rfl ?_
    refine r_getR J cls12 rfl (k := 35) (t := 14) (by decide) wf_12_93 rfl rfl (ly_40 hL) (lr_40_35 hL) (fun _ => ?_)
    show g_H E 0 0 98 [(0, vR 40), (2, vI x2), (3, vI x3), (4, vI x4), (5, vI x5)] [vR 66, vI x5] (σ, M, N) _ _
    refine r_run J 1 (pc' := 99) (lv' := [(0, vR 40), (2, vI x2), (3, vI x3), (4, vI x4), (5, vI x5)]) (st' := [vI x3, vR 66, vI x5]) rfl ?_
    refine r_iald J rfl (ly_66 hL) (fun i99 => ?_)
    show g_H E 0 0 100 [(0, vR 40), (2, vI x2), (3, vI x3), (4, vI x4), (5, vI x5)] [vI (M 66 x3.toNatClampNeg), vI x5] (σ, M, N) _ _
    refine r_icmp_ge J (tgt := 156) rfl (by decide) (fun c100 => ?_) (fun c100 => ?_)
    · refine r_run J 1 (pc' := 104) (lv' := [(0, vR 40), (2, vI x2), (3, vI x3), (4, vI x4), (5, vI x5)]) (st' := [vR 40]) rfl ?_
      refine r_getR J cls12 rfl (k := 34) (t := 14) (by decide) wf_12_90 rfl rfl (ly_40 hL) (lr_40_34 hL) (fun _ => ?_)
      show g_H E 0 0 107 [(0, vR 40), (2, vI x2), (3, vI x3), (4, vI x4), (5, vI x5)] [vR 65] (σ, M, N) _ _
      refine r_run J 5 (pc' := 114) (lv' := [(0, vR 40), (2, vI x2), (3, vI x3), (4, vI x4), (5, vI x5)]) (st' := [vI (((64 : Int32) * x3) + x5), vR 65]) rfl ?_
      refine r_iald J rfl (ly_65 hL) (fun i114 => ?_)
      show g_H E 0 0 115 [(0, vR 40), (2, vI x2), (3, vI x3), (4, vI x4), (5, vI x5)] [vI (M 65 (((64 : Int32) * x3) + x5).toNatClampNeg)] (σ, M, N) _ _
      refine r_run J 2 (pc' := 118) (lv' := [(0, vR 40), (2, vI x2), (3, vI x3), (4, vI x4), (5, vI x5)]) (st' := [vI ((M 65 (((64 : Int32) * x3) + x5).toNatClampNeg) &&& x4)]) rfl ?_
      refine r_if_ne J (tgt := 150) rfl (by decide) (fun c118 => ?_) (fun c118 => ?_)
      · refine r_run J 1 (pc' := 122) (lv' := [(0, vR 40), (2, vI x2), (3, vI x3), (4, vI x4), (5, vI x5)]) (st' := [vR 40]) rfl ?_
        refine r_getR J cls12 rfl (k := 39) (t := 15) (by decide) wf_12_105 rfl rfl (ly_40 hL) (lr_40_39 hL) (fun _ => ?_)
        show g_H E 0 0 125 [(0, vR 40), (2, vI x2), (3, vI x3), (4, vI x4), (5, vI x5)] [vR 69] (σ, M, N) _ _
        refine r_run J 7 (pc' := 135) (lv' := [(0, vR 40), (2, vI x2), (3, vI x3), (4, vI x4), (5, vI x5)]) (st' := [vR 40, vI x4, vI ((1024 : Int32) * (x3 + (1 : Int32))), vR 69]) rfl ?_
        refine r_getR J cls12 rfl (k := 34) (t := 14) (by decide) wf_12_90 rfl rfl (ly_40 hL) (lr_40_34 hL) (fun _ => ?_)
        show g_H E 0 0 138 [(0, vR 40), (2, vI x2), (3, vI x3), (4, vI x4), (5, vI x5)] [vR 65, vI x4, vI ((1024 : Int32) * (x3 + (1 : Int32))), vR 69] (σ, M, N) _ _
        refine r_run J 5 (pc' := 145) (lv' := [(0, vR 40), (2, vI x2), (3, vI x3), (4, vI x4), (5, vI x5)]) (st' := [vI (((64 : Int32) * x3) + x5), vR 65, vI x4, vI ((1024 : Int32) * (x3 + (1 : Int32))), vR 69]) rfl ?_
        refine r_iald J rfl (ly_65 hL) (fun i145 => ?_)
        show g_H E 0 0 146 [(0, vR 40), (2, vI x2), (3, vI x3), (4, vI x4), (5, vI x5)] [vI (M 65 (((64 : Int32) * x3) + x5).toNatClampNeg), vI x4, vI ((1024 : Int32) * (x3 + (1 : Int32))), vR 69] (σ, M, N) _ _
        refine r_run J 3 (pc' := 149) (lv' := [(0, vR 40), (2, vI x2), (3, vI x3), (4, vI x4), (5, vI x5)]) (st' := [vI 1, vI (((1024 : Int32) * (x3 + (1 : Int32))) + (x4 ||| (M 65 (((64 : Int32) * x3) + x5).toNatClampNeg))), vR 69]) rfl ?_
        refine r_zast J rfl (ly_69 hL) (fun i149 => ?_)
        show g_H E 0 0 150 [(0, vR 40), (2, vI x2), (3, vI x3), (4, vI x4), (5, vI x5)] [] (σ, (g_up M 69 ((((1024 : Int32) * (x3 + (1 : Int32))) + (x4 ||| (M 65 (((64 : Int32) * x3) + x5).toNatClampNeg))).toNatClampNeg) (vp_nar .boolean 1)), N) _ _
        exact p_X12_most_150 J H54 H62 ih x2 x3 x4 x5 σ (g_up M 69 ((((1024 : Int32) * (x3 + (1 : Int32))) + (x4 ||| (M 65 (((64 : Int32) * x3) + x5).toNatClampNeg))).toNatClampNeg) (vp_nar .boolean 1)) N hL
      · exact p_X12_most_150 J H54 H62 ih x2 x3 x4 x5 σ M N hL
    · refine r_sub [0, 1, 2, 3] (lv' := [(0, vR 40), (2, vI x2), (3, vI x3), (4, vI x4)]) rfl ?_
      exact p_X12_most_156 J H54 H62 x2 x3 x4 σ M N hL
set_option maxHeartbeats 4000000 in
set_option maxRecDepth 100000 in
theorem p_X12_most_62 {l : Launch} {E : gE} (J : J_X12_most E l) {k54 : Int32 → Int32 → gS → gM → Option (Int32 × gM)} (H54 : ∀ (x2 : Int32) (x3 : Int32) (σ : gS) (M : gM) (N : gN) (_ : g_layM σ), g_H E 0 0 54 [(0, vR 40), (2, vI x2), (3, vI x3)] [] (σ, M, N) (k54 x2 x3 σ M) (eIM σ N)) : ∀ (n : Nat) (x2 : Int32) (x3 : Int32) (x4 : Int32) (σ : gS) (M : gM) (N : gN) (hL : g_layM σ), g_H E 0 0 62 [(0, vR 40), (2, vI x2), (3, vI x3), (4, vI x4)] [] (σ, M, N) (l_X12_most_62 k54 n x2 x3 x4 σ M) (eIM σ N) := by
  intro n
  induction n with
  | zero => intros; exact h_none
  | succ n ih =>
    intro x2 x3 x4 σ M N hL
    rw [l_X12_most_62]
    refine r_run J 2 (pc' := 67) (lv' := [(0, vR 40), (2, vI x2), (3, vI x3), (4, vI x4)]) (st' := [vI 1024, vI x4]) rfl ?_
    refine r_icmp_ge J (tgt := 162) rfl (by decide) (fun c67 => ?_) (fun c67 => ?_)
    · refine r_run J 1 (pc' := 71) (lv' := [(0, vR 40), (2, vI x2), (3, vI x3), (4, vI x4)]) (st' := [vR 40]) rfl ?_
      refine r_getR J cls12 rfl (k := 39) (t := 15) (by decide) wf_12_105 rfl rfl (ly_40 hL) (lr_40_39 hL) (fun _ => ?_)
      show g_H E 0 0 74 [(0, vR 40), (2, vI x2), (3, vI x3), (4, vI x4)] [vR 69] (σ, M, N) _ _
      refine r_run J 5 (pc' := 82) (lv' := [(0, vR 40), (2, vI x2), (3, vI x3), (4, vI x4)]) (st' := [vI (((1024 : Int32) * x3) + x4), vR 69]) rfl ?_
      refine r_zald J rfl (ly_69 hL) (fun i82 => ?_)
      show g_H E 0 0 83 [(0, vR 40), (2, vI x2), (3, vI x3), (4, vI x4)] [vI (M 69 (((1024 : Int32) * x3) + x4).toNatClampNeg)] (σ, M, N) _ _
      refine r_if_ne J (tgt := 89) rfl (by decide) (fun c83 => ?_) (fun c83 => ?_)
      · refine r_run J 1 (pc' := 156) (lv' := [(0, vR 40), (2, vI x2), (3, vI x3), (4, vI x4)]) (st' := []) rfl ?_
        exact p_X12_most_156 J H54 ih x2 x3 x4 σ M N hL
      · refine r_run J 2 (pc' := 92) (lv' := [(5, vI 0), (0, vR 40), (2, vI x2), (3, vI x3), (4, vI x4)]) (st' := []) rfl ?_
        refine r_sub [1, 2, 3, 4, 0] (lv' := [(0, vR 40), (2, vI x2), (3, vI x3), (4, vI x4), (5, vI 0)]) rfl ?_
        exact p_X12_most_92 J H54 ih g_FU x2 x3 x4 0 σ M N hL
    · refine r_run J 2 (pc' := 54) (lv' := [(3, vI (x3 + 1)), (0, vR 40), (2, vI x2), (4, vI x4)]) (st' := []) rfl ?_
      refine r_sub [1, 2, 0] (lv' := [(0, vR 40), (2, vI x2), (3, vI (x3 + 1))]) rfl ?_
      exact H54 x2 (x3 + 1) σ M N hL
set_option maxHeartbeats 4000000 in
set_option maxRecDepth 100000 in
theorem p_X12_most_54 {l : Launch} {E : gE} (J : J_X12_most E l) : ∀ (n : Nat) (x2 : Int32) (x3 : Int32) (σ : gS) (M : gM) (N : gN) (hL : g_layM σ), g_H E 0 0 54 [(0, vR 40), (2, vI x2), (3, vI x3)] [] (σ, M, N) (l_X12_most_54 n x2 x3 σ M) (eIM σ N) := by
  intro n
  induction n with
  | zero => intros; exact h_none
  | succ n ih =>
    intro x2 x3 σ M N hL
    rw [l_X12_most_54]
    refine r_run J 2 (pc' := 56) (lv' := [(0, vR 40), (2, vI x2), (3, vI x3)]) (st' := [vI x2, vI x3]) rfl ?_
    refine r_icmp_ge J (tgt := 168) rfl (by decide) (fun c56 => ?_) (fun c56 => ?_)
    · refine r_run J 2 (pc' := 62) (lv' := [(4, vI 0), (0, vR 40), (2, vI x2), (3, vI x3)]) (st' := []) rfl ?_
      refine r_sub [1, 2, 3, 0] (lv' := [(0, vR 40), (2, vI x2), (3, vI x3), (4, vI 0)]) rfl ?_
      exact p_X12_most_62 J ih g_FU x2 x3 0 σ M N hL
    · refine r_run J 4 (pc' := 173) (lv' := [(4, vI 0), (3, vI 0), (0, vR 40), (2, vI x2)]) (st' := []) rfl ?_
      refine r_sub [2, 3, 1, 0] (lv' := [(0, vR 40), (2, vI x2), (3, vI 0), (4, vI 0)]) rfl ?_
      exact p_X12_most_173 J g_FU x2 0 0 σ M N hL
set_option maxHeartbeats 4000000 in
set_option maxRecDepth 100000 in
theorem p_X12_most_45 {l : Launch} {E : gE} (J : J_X12_most E l) {k24 : Int32 → Int32 → gS → gM → Option (Int32 × gM)} (H24 : ∀ (x2 : Int32) (x3 : Int32) (σ : gS) (M : gM) (N : gN) (_ : g_layM σ), g_H E 0 0 24 [(0, vR 40), (2, vI x2), (3, vI x3)] [] (σ, M, N) (k24 x2 x3 σ M) (eIM σ N)) (x2 : Int32) (x3 : Int32) (sx0 : Int32) (sx1 : Int32) (σ : gS) (M : gM) (N : gN) (hL : g_layM σ) : g_H E 0 0 45 [(0, vR 40), (2, vI x2), (3, vI x3)] [vI sx0, vI sx1, vR 69] (σ, M, N) (b_X12_most_45 k24 x2 x3 sx0 sx1 σ M) (eIM σ N) := by
  unfold b_X12_most_45
  refine r_zast J rfl (ly_69 hL) (fun i45 => ?_)
  show g_H E 0 0 46 [(0, vR 40), (2, vI x2), (3, vI x3)] [] (σ, (g_up M 69 (sx1.toNatClampNeg) (vp_nar .boolean sx0)), N) _ _
  refine r_run J 2 (pc' := 24) (lv' := [(3, vI (x3 + 1)), (0, vR 40), (2, vI x2)]) (st' := []) rfl ?_
  refine r_sub [1, 2, 0] (lv' := [(0, vR 40), (2, vI x2), (3, vI (x3 + 1))]) rfl ?_
  exact H24 x2 (x3 + 1) σ (g_up M 69 (sx1.toNatClampNeg) (vp_nar .boolean sx0)) N hL
set_option maxHeartbeats 4000000 in
set_option maxRecDepth 100000 in
theorem p_X12_most_24 {l : Launch} {E : gE} (J : J_X12_most E l) : ∀ (n : Nat) (x2 : Int32) (x3 : Int32) (σ : gS) (M : gM) (N : gN) (hL : g_layM σ), g_H E 0 0 24 [(0, vR 40), (2, vI x2), (3, vI x3)] [] (σ, M, N) (l_X12_most_24 n x2 x3 σ M) (eIM σ N) := by
  intro n
  induction n with
  | zero => intros; exact h_none
  | succ n ih =>
    intro x2 x3 σ M N hL
    rw [l_X12_most_24]
    refine r_run J 2 (pc' := 28) (lv' := [(0, vR 40), (2, vI x2), (3, vI x3)]) (st' := [vI 11264, vI x3]) rfl ?_
    refine r_icmp_ge J (tgt := 52) rfl (by decide) (fun c28 => ?_) (fun c28 => ?_)
    · refine r_run J 1 (pc' := 32) (lv' := [(0, vR 40), (2, vI x2), (3, vI x3)]) (st' := [vR 40]) rfl ?_
      refine r_getR J cls12 rfl (k := 39) (t := 15) (by decide) wf_12_105 rfl rfl (ly_40 hL) (lr_40_39 hL) (fun _ => ?_)
      show g_H E 0 0 35 [(0, vR 40), (2, vI x2), (3, vI x3)] [vR 69] (σ, M, N) _ _
      refine r_run J 2 (pc' := 37) (lv' := [(0, vR 40), (2, vI x2), (3, vI x3)]) (st' := [vI x3, vI x3, vR 69]) rfl ?_
      refine r_if_ne J (tgt := 44) rfl (by decide) (fun c37 => ?_) (fun c37 => ?_)
      · refine r_run J 2 (pc' := 45) (lv' := [(0, vR 40), (2, vI x2), (3, vI x3)]) (st' := [vI 1, vI x3, vR 69]) rfl ?_
        exact p_X12_most_45 J ih x2 x3 1 x3 σ M N hL
      · refine r_run J 1 (pc' := 45) (lv' := [(0, vR 40), (2, vI x2), (3, vI x3)]) (st' := [vI 0, vI x3, vR 69]) rfl ?_
        exact p_X12_most_45 J ih x2 x3 0 x3 σ M N hL
    · refine r_run J 2 (pc' := 54) (lv' := [(3, vI 0), (0, vR 40), (2, vI x2)]) (st' := []) rfl ?_
      refine r_sub [1, 2, 0] (lv' := [(0, vR 40), (2, vI x2), (3, vI 0)]) rfl ?_
      exact p_X12_most_54 J g_FU x2 0 σ M N hL
set_option maxHeartbeats 4000000 in
set_option maxRecDepth 100000 in
theorem p_X12_most_0 {l : Launch} {E : gE} (J : J_X12_most E l) (x1 : Int32) (σ : gS) (M : gM) (N : gN) (hL : g_layM σ) : g_H E 0 0 0 [(0, vR 40), (1, vI x1)] [] (σ, M, N) (b_X12_most_0 x1 σ M) (eIM σ N) := by
  unfold b_X12_most_0
  refine r_run J 2 (pc' := 2) (lv' := [(0, vR 40), (1, vI x1)]) (st' := [vI x1, vR 40]) rfl ?_
  refine r_callV J (As := [vI x1]) (st := []) (fun r hr => c_X12_isTown x1 σ M N hL r hr) cls12 (ly_40 hL) wm_12_170 wy_X12_isTown wd_X12_isTown ⟨by decide, by decide, by decide, by decide, Nat.le_of_ble_eq_true rfl⟩ rfl rfl (fun q2 hq2 => ?_)
  show g_H E 0 0 5 [(0, vR 40), (1, vI x1)] [vI q2] (σ, M, N) _ _
  refine r_if_ne J (tgt := 10) rfl (by decide) (fun c5 => ?_) (fun c5 => ?_)
  · refine r_run J 1 (pc' := 9) (lv' := [(0, vR 40), (1, vI x1)]) (st' := [vI (-1)]) rfl ?_
    exact r_iret J rfl rfl rfl rfl (by decide) (by decide)
  · refine r_run J 2 (pc' := 12) (lv' := [(0, vR 40), (1, vI x1)]) (st' := [vI x1, vR 40]) rfl ?_
    refine r_callV J (As := [vI x1]) (st := []) (fun r hr => c_X12_findSets x1 σ M N hL r hr) cls12 (ly_40 hL) wm_12_227 wy_X12_findSets wd_X12_findSets ⟨by decide, by decide, by decide, by decide, Nat.le_of_ble_eq_true rfl⟩ rfl rfl (fun q12 hq12 => ?_)
    show g_H E 0 0 15 [(0, vR 40), (1, vI x1)] [] (σ, q12, N) _ _
    refine r_run J 1 (pc' := 16) (lv' := [(0, vR 40), (1, vI x1)]) (st' := [vR 40]) rfl ?_
    refine r_getR J cls12 rfl (k := 20) (t := 14) (by decide) wf_12_51 rfl rfl (ly_40 hL) (lr_40_20 hL) (fun _ => ?_)
    show g_H E 0 0 19 [(0, vR 40), (1, vI x1)] [vR 52] (σ, q12, N) _ _
    refine r_run J 1 (pc' := 20) (lv' := [(0, vR 40), (1, vI x1)]) (st' := [vI x1, vR 52]) rfl ?_
    refine r_iald J rfl (ly_52 hL) (fun i20 => ?_)
    show g_H E 0 0 21 [(0, vR 40), (1, vI x1)] [vI (q12 52 x1.toNatClampNeg)] (σ, q12, N) _ _
    refine r_run J 3 (pc' := 24) (lv' := [(3, vI 0), (2, vI (q12 52 x1.toNatClampNeg)), (0, vR 40), (1, vI x1)]) (st' := []) rfl ?_
    refine r_sub [2, 1, 0] (lv' := [(0, vR 40), (2, vI (q12 52 x1.toNatClampNeg)), (3, vI 0)]) rfl ?_
    exact p_X12_most_24 J g_FU (q12 52 x1.toNatClampNeg) 0 σ q12 N hL
noncomputable def f_X12_most (x1 : Int32) (σ : gS) (M : gM) : Option (Int32 × gM) := b_X12_most_0 x1 σ M
theorem c_X12_most {l : Launch} (x1 : Int32) (σ : gS) (M : gM) (N : gN) (hL : g_layM σ) (r : Int32 × gM) (h : f_X12_most x1 σ M = some r) : g_Ct l yX12_most cX12_most 6 (some .int) 4 0 0 [vR 40, vI x1] (σ, M, N) (eIM σ N r) :=
  g_Ct.of tb_X12_most (by decide +kernel) tk_X12_most (Nat.le_of_ble_eq_true rfl) (fun E J => p_X12_most_0 J x1 σ M N hL r h)
def tb_X12_right : gT := [(0, .aload_n 0, 1, 0), (1, .iload_n 1, 1, 0), (2, .invokevirtual 170, 3, 0), (5, .ifCond .ne 5, 3, 0), (8, .iconst 0, 1, 0), (9, .ireturn, 1, 0), (10, .iconst 0, 1, 0), (11, .istore_n 2, 1, 0), (12, .iload_n 2, 1, 0), (13, .aload_n 0, 1, 0), (14, .getfield 157, 3, 0), (17, .if_icmp .ge 35, 3, 0), (20, .aload_n 0, 1, 0), (21, .iload_n 2, 1, 0), (22, .iload_n 1, 1, 0), (23, .invokevirtual 205, 3, 0), (26, .ifCond .eq 20, 3, 0), (29, .aload_n 0, 1, 0), (30, .getfield 66, 3, 0), (33, .bipush 10, 2, 10), (35, .iload_n 1, 1, 0), (36, .imul, 1, 0), (37, .iload_n 2, 1, 0), (38, .iadd, 1, 0), (39, .iaload, 1, 0), (40, .iconst (-1), 1, (-1)), (41, .if_icmp .ne 5, 3, 0), (44, .iconst 0, 1, 0), (45, .ireturn, 1, 0), (46, .iinc 2 1, 3, 1), (49, .goto (-37), 3, 0), (52, .iconst 0, 1, 0), (53, .istore_n 2, 1, 0), (54, .iload_n 2, 1, 0), (55, .aload_n 0, 1, 0), (56, .getfield 51, 3, 0), (59, .iload_n 1, 1, 0), (60, .iaload, 1, 0), (61, .if_icmp .ge 26, 3, 0), (64, .aload_n 0, 1, 0), (65, .iload_n 1, 1, 0), (66, .iload_n 2, 1, 0), (67, .aload_n 0, 1, 0), (68, .iload_n 1, 1, 0), (69, .iload_n 2, 1, 0), (70, .invokevirtual 211, 3, 0), (73, .invokevirtual 219, 3, 0), (76, .ifCond .ne 5, 3, 0), (79, .iconst 0, 1, 0), (80, .ireturn, 1, 0), (81, .iinc 2 1, 3, 1), (84, .goto (-30), 3, 0), (87, .iconst 1, 1, 1), (88, .ireturn, 1, 0)]
set_option maxRecDepth 100000 in
theorem tk_X12_right : g_okT cX12_right tb_X12_right = true := by decide +kernel
abbrev J_X12_right (E : gE) (l : Launch) : Prop := g_J E cX12_right RX12 "right" (some .boolean) 3 tb_X12_right 3 0 0 l
noncomputable def l_X12_right_54 : Nat → Int32 → Int32 → gS → gM → Option (Int32)
  | 0, _, _, _, _ => none
  | n + 1, x1, x2, σ, M => if g_in x1 6 = true then if x2 < (M 52 x1.toNatClampNeg) then (f_X12_setIn x1 x2 σ M).bind fun q70 => (f_X12_mayBe x1 x2 q70 σ M).bind fun q73 => if q73 = (0 : Int32) then some 0 else l_X12_right_54 n x1 (x2 + 1) σ M else some 1 else none
noncomputable def b_X12_right_46 (k12 : Int32 → Int32 → gS → gM → Option (Int32)) (x1 : Int32) (x2 : Int32) (σ : gS) (M : gM) : Option (Int32) := k12 x1 (x2 + 1) σ M
noncomputable def l_X12_right_12 : Nat → Int32 → Int32 → gS → gM → Option (Int32)
  | 0, _, _, _, _ => none
  | n + 1, x1, x2, σ, M => if x2 < (M 40 1) then (f_X12_isThere x2 x1 σ M).bind fun q23 => if q23 = (0 : Int32) then b_X12_right_46 (fun x1 x2 σ M => l_X12_right_12 n x1 x2 σ M) x1 x2 σ M else if g_in (((10 : Int32) * x1) + x2) 60 = true then if (M 57 (((10 : Int32) * x1) + x2).toNatClampNeg) = (-1 : Int32) then some 0 else b_X12_right_46 (fun x1 x2 σ M => l_X12_right_12 n x1 x2 σ M) x1 x2 σ M else none else l_X12_right_54 g_FU x1 0 σ M
noncomputable def b_X12_right_0 (x1 : Int32) (σ : gS) (M : gM) : Option (Int32) := (f_X12_isTown x1 σ M).bind fun q2 => if q2 = (0 : Int32) then some 0 else l_X12_right_12 g_FU x1 0 σ M
set_option maxHeartbeats 4000000 in
set_option maxRecDepth 100000 in
theorem p_X12_right_54 {l : Launch} {E : gE} (J : J_X12_right E l) : ∀ (n : Nat) (x1 : Int32) (x2 : Int32) (σ : gS) (M : gM) (N : gN) (hL : g_layM σ), g_H E 0 0 54 [(0, vR 40), (1, vI x1), (2, vI x2)] [] (σ, M, N) (l_X12_right_54 n x1 x2 σ M) (eI σ M N) := by
  intro n
  induction n with
  | zero => intros; exact h_none
  | succ n ih =>
    intro x1 x2 σ M N hL
    rw [l_X12_right_54]
    refine r_run J 2 (pc' := 56) (lv' := [(0, vR 40), (1, vI x1), (2, vI x2)]) (st' := [vR 40, vI x2]) rfl ?_
    refine r_getR J cls12 rfl (k := 20) (t := 14) (by decide) wf_12_51 rfl rfl (ly_40 hL) (lr_40_20 hL) (fun _ => ?_)
    show g_H E 0 0 59 [(0, vR 40), (1, vI x1), (2, vI x2)] [vR 52, vI x2] (σ, M, N) _ _
    refine r_run J 1 (pc' := 60) (lv' := [(0, vR 40), (1, vI x1), (2, vI x2)]) (st' := [vI x1, vR 52, vI x2]) rfl ?_
    refine r_iald J rfl (ly_52 hL) (fun i60 => ?_)
    show g_H E 0 0 61 [(0, vR 40), (1, vI x1), (2, vI x2)] [vI (M 52 x1.toNatClampNeg), vI x2] (σ, M, N) _ _
    refine r_icmp_ge J (tgt := 87) rfl (by decide) (fun c61 => ?_) (fun c61 => ?_)
    · refine r_run J 6 (pc' := 70) (lv' := [(0, vR 40), (1, vI x1), (2, vI x2)]) (st' := [vI x2, vI x1, vR 40, vI x2, vI x1, vR 40]) rfl ?_
      refine r_callV J (As := [vI x1, vI x2]) (st := [vI x2, vI x1, vR 40]) (fun r hr => c_X12_setIn x1 x2 σ M N hL r hr) cls12 (ly_40 hL) wm_12_211 wy_X12_setIn wd_X12_setIn ⟨by decide, by decide, by decide, by decide, Nat.le_of_ble_eq_true rfl⟩ rfl rfl (fun q70 hq70 => ?_)
      show g_H E 0 0 73 [(0, vR 40), (1, vI x1), (2, vI x2)] [vI q70, vI x2, vI x1, vR 40] (σ, M, N) _ _
      refine r_callV J (As := [vI x1, vI x2, vI q70]) (st := []) (fun r hr => c_X12_mayBe x1 x2 q70 σ M N hL r hr) cls12 (ly_40 hL) wm_12_219 wy_X12_mayBe wd_X12_mayBe ⟨by decide, by decide, by decide, by decide, Nat.le_of_ble_eq_true rfl⟩ rfl rfl (fun q73 hq73 => ?_)
      show g_H E 0 0 76 [(0, vR 40), (1, vI x1), (2, vI x2)] [vI q73] (σ, M, N) _ _
      refine r_if_ne J (tgt := 81) rfl (by decide) (fun c76 => ?_) (fun c76 => ?_)
      · refine r_run J 1 (pc' := 80) (lv' := [(0, vR 40), (1, vI x1), (2, vI x2)]) (st' := [vI 0]) rfl ?_
        exact r_iret J rfl rfl rfl rfl (by decide) (by decide)
      · refine r_run J 2 (pc' := 54) (lv' := [(2, vI (x2 + 1)), (0, vR 40), (1, vI x1)]) (st' := []) rfl ?_
        refine r_sub [1, 2, 0] (lv' := [(0, vR 40), (1, vI x1), (2, vI (x2 + 1))]) rfl ?_
        exact ih x1 (x2 + 1) σ M N hL
    · refine r_run J 1 (pc' := 88) (lv' := [(0, vR 40), (1, vI x1), (2, vI x2)]) (st' := [vI 1]) rfl ?_
      exact r_iret J rfl rfl rfl rfl (by decide) (by decide)
set_option maxHeartbeats 4000000 in
set_option maxRecDepth 100000 in
theorem p_X12_right_46 {l : Launch} {E : gE} (J : J_X12_right E l) {k12 : Int32 → Int32 → gS → gM → Option (Int32)} (H12 : ∀ (x1 : Int32) (x2 : Int32) (σ : gS) (M : gM) (N : gN) (_ : g_layM σ), g_H E 0 0 12 [(0, vR 40), (1, vI x1), (2, vI x2)] [] (σ, M, N) (k12 x1 x2 σ M) (eI σ M N)) (x1 : Int32) (x2 : Int32) (σ : gS) (M : gM) (N : gN) (hL : g_layM σ) : g_H E 0 0 46 [(0, vR 40), (1, vI x1), (2, vI x2)] [] (σ, M, N) (b_X12_right_46 k12 x1 x2 σ M) (eI σ M N) := by
  unfold b_X12_right_46
  refine r_run J 2 (pc' := 12) (lv' := [(2, vI (x2 + 1)), (0, vR 40), (1, vI x1)]) (st' := []) rfl ?_
  refine r_sub [1, 2, 0] (lv' := [(0, vR 40), (1, vI x1), (2, vI (x2 + 1))]) rfl ?_
  exact H12 x1 (x2 + 1) σ M N hL
set_option maxHeartbeats 4000000 in
set_option maxRecDepth 100000 in
theorem p_X12_right_12 {l : Launch} {E : gE} (J : J_X12_right E l) : ∀ (n : Nat) (x1 : Int32) (x2 : Int32) (σ : gS) (M : gM) (N : gN) (hL : g_layM σ), g_H E 0 0 12 [(0, vR 40), (1, vI x1), (2, vI x2)] [] (σ, M, N) (l_X12_right_12 n x1 x2 σ M) (eI σ M N) := by
  intro n
  induction n with
  | zero => intros; exact h_none
  | succ n ih =>
    intro x1 x2 σ M N hL
    rw [l_X12_right_12]
    refine r_run J 2 (pc' := 14) (lv' := [(0, vR 40), (1, vI x1), (2, vI x2)]) (st' := [vR 40, vI x2]) rfl ?_
    refine r_getI J cls12 rfl (k := 1) (by decide) wf_12_157 rfl (ly_40 hL) ?_
    show g_H E 0 0 17 [(0, vR 40), (1, vI x1), (2, vI x2)] [vI (M 40 1), vI x2] (σ, M, N) _ _
    refine r_icmp_ge J (tgt := 52) rfl (by decide) (fun c17 => ?_) (fun c17 => ?_)
    · refine r_run J 3 (pc' := 23) (lv' := [(0, vR 40), (1, vI x1), (2, vI x2)]) (st' := [vI x1, vI x2, vR 40]) rfl ?_
      refine r_callV J (As := [vI x2, vI x1]) (st := []) (fun r hr => c_X12_isThere x2 x1 σ M N hL r hr) cls12 (ly_40 hL) wm_12_205 wy_X12_isThere wd_X12_isThere ⟨by decide, by decide, by decide, by decide, Nat.le_of_ble_eq_true rfl⟩ rfl rfl (fun q23 hq23 => ?_)
      show g_H E 0 0 26 [(0, vR 40), (1, vI x1), (2, vI x2)] [vI q23] (σ, M, N) _ _
      refine r_if_eq J (tgt := 46) rfl (by decide) (fun c26 => ?_) (fun c26 => ?_)
      · exact p_X12_right_46 J ih x1 x2 σ M N hL
      · refine r_run J 1 (pc' := 30) (lv' := [(0, vR 40), (1, vI x1), (2, vI x2)]) (st' := [vR 40]) rfl ?_
        refine r_getR J cls12 rfl (k := 25) (t := 14) (by decide) wf_12_66 rfl rfl (ly_40 hL) (lr_40_25 hL) (fun _ => ?_)
        show g_H E 0 0 33 [(0, vR 40), (1, vI x1), (2, vI x2)] [vR 57] (σ, M, N) _ _
        refine r_run J 5 (pc' := 39) (lv' := [(0, vR 40), (1, vI x1), (2, vI x2)]) (st' := [vI (((10 : Int32) * x1) + x2), vR 57]) rfl ?_
        refine r_iald J rfl (ly_57 hL) (fun i39 => ?_)
        show g_H E 0 0 40 [(0, vR 40), (1, vI x1), (2, vI x2)] [vI (M 57 (((10 : Int32) * x1) + x2).toNatClampNeg)] (σ, M, N) _ _
        refine r_run J 1 (pc' := 41) (lv' := [(0, vR 40), (1, vI x1), (2, vI x2)]) (st' := [vI (-1), vI (M 57 (((10 : Int32) * x1) + x2).toNatClampNeg)]) rfl ?_
        refine r_icmp_ne J (tgt := 46) rfl (by decide) (fun c41 => ?_) (fun c41 => ?_)
        · refine r_run J 1 (pc' := 45) (lv' := [(0, vR 40), (1, vI x1), (2, vI x2)]) (st' := [vI 0]) rfl ?_
          exact r_iret J rfl rfl rfl rfl (by decide) (by decide)
        · exact p_X12_right_46 J ih x1 x2 σ M N hL
    · refine r_run J 2 (pc' := 54) (lv' := [(2, vI 0), (0, vR 40), (1, vI x1)]) (st' := []) rfl ?_
      refine r_sub [1, 2, 0] (lv' := [(0, vR 40), (1, vI x1), (2, vI 0)]) rfl ?_
      exact p_X12_right_54 J g_FU x1 0 σ M N hL
set_option maxHeartbeats 4000000 in
set_option maxRecDepth 100000 in
theorem p_X12_right_0 {l : Launch} {E : gE} (J : J_X12_right E l) (x1 : Int32) (σ : gS) (M : gM) (N : gN) (hL : g_layM σ) : g_H E 0 0 0 [(0, vR 40), (1, vI x1)] [] (σ, M, N) (b_X12_right_0 x1 σ M) (eI σ M N) := by
  unfold b_X12_right_0
  refine r_run J 2 (pc' := 2) (lv' := [(0, vR 40), (1, vI x1)]) (st' := [vI x1, vR 40]) rfl ?_
  refine r_callV J (As := [vI x1]) (st := []) (fun r hr => c_X12_isTown x1 σ M N hL r hr) cls12 (ly_40 hL) wm_12_170 wy_X12_isTown wd_X12_isTown ⟨by decide, by decide, by decide, by decide, Nat.le_of_ble_eq_true rfl⟩ rfl rfl (fun q2 hq2 => ?_)
  show g_H E 0 0 5 [(0, vR 40), (1, vI x1)] [vI q2] (σ, M, N) _ _
  refine r_if_ne J (tgt := 10) rfl (by decide) (fun c5 => ?_) (fun c5 => ?_)
  · refine r_run J 1 (pc' := 9) (lv' := [(0, vR 40), (1, vI x1)]) (st' := [vI 0]) rfl ?_
    exact r_iret J rfl rfl rfl rfl (by decide) (by decide)
  · refine r_run J 2 (pc' := 12) (lv' := [(2, vI 0), (0, vR 40), (1, vI x1)]) (st' := []) rfl ?_
    refine r_sub [1, 2, 0] (lv' := [(0, vR 40), (1, vI x1), (2, vI 0)]) rfl ?_
    exact p_X12_right_12 J g_FU x1 0 σ M N hL
noncomputable def f_X12_right (x1 : Int32) (σ : gS) (M : gM) : Option (Int32) := b_X12_right_0 x1 σ M
theorem c_X12_right {l : Launch} (x1 : Int32) (σ : gS) (M : gM) (N : gN) (hL : g_layM σ) (r : Int32) (h : f_X12_right x1 σ M = some r) : g_Ct l yX12_right cX12_right 3 (some .boolean) 3 0 0 [vR 40, vI x1] (σ, M, N) (eI σ M N r) :=
  g_Ct.of tb_X12_right (by decide +kernel) tk_X12_right (Nat.le_of_ble_eq_true rfl) (fun E J => p_X12_right_0 J x1 σ M N hL r h)
def tb_X12_listed : gT := [(0, .aload_n 0, 1, 0), (1, .iload_n 1, 1, 0), (2, .invokevirtual 170, 3, 0), (5, .ifCond .eq 23, 3, 0), (8, .aload_n 0, 1, 0), (9, .iload_n 2, 1, 0), (10, .invokevirtual 177, 3, 0), (13, .ifCond .eq 15, 3, 0), (16, .iload_n 3, 1, 0), (17, .iconst 0, 1, 0), (18, .aload_n 0, 1, 0), (19, .getfield 183, 3, 0), (22, .invokestatic 160, 3, 0), (25, .ifCond .ne 5, 3, 0), (28, .iconst (-1), 1, (-1)), (29, .ireturn, 1, 0), (30, .iconst (-1), 1, (-1)), (31, .istore 4, 2, 0), (33, .iconst 0, 1, 0), (34, .istore 5, 2, 0), (36, .iload 5, 2, 0), (38, .aload_n 0, 1, 0), (39, .getfield 180, 3, 0), (42, .if_icmp .ge 45, 3, 0), (45, .aload_n 0, 1, 0), (46, .getfield 72, 3, 0), (49, .iload 5, 2, 0), (51, .iaload, 1, 0), (52, .bipush 10, 2, 10), (54, .iload_n 1, 1, 0), (55, .imul, 1, 0), (56, .iload_n 2, 1, 0), (57, .iadd, 1, 0), (58, .if_icmp .ne 23, 3, 0), (61, .aload_n 0, 1, 0), (62, .getfield 69, 3, 0), (65, .iload 5, 2, 0), (67, .iaload, 1, 0), (68, .iload_n 3, 1, 0), (69, .if_icmp .gt 12, 3, 0), (72, .aload_n 0, 1, 0), (73, .getfield 75, 3, 0), (76, .iload 5, 2, 0), (78, .iaload, 1, 0), (79, .istore 4, 2, 0), (81, .iinc 5 1, 3, 1), (84, .goto (-48), 3, 0), (87, .iload 4, 2, 0), (89, .ireturn, 1, 0)]
set_option maxRecDepth 100000 in
theorem tk_X12_listed : g_okT cX12_listed tb_X12_listed = true := by decide +kernel
abbrev J_X12_listed (E : gE) (l : Launch) : Prop := g_J E cX12_listed RX12 "listed" (some .int) 6 tb_X12_listed 3 0 0 l
noncomputable def b_X12_listed_81 (k36 : Int32 → Int32 → Int32 → Int32 → Int32 → gS → gM → Option (Int32)) (x1 : Int32) (x2 : Int32) (x3 : Int32) (x4 : Int32) (x5 : Int32) (σ : gS) (M : gM) : Option (Int32) := k36 x1 x2 x3 x4 (x5 + 1) σ M
noncomputable def l_X12_listed_36 : Nat → Int32 → Int32 → Int32 → Int32 → Int32 → gS → gM → Option (Int32)
  | 0, _, _, _, _, _, _, _ => none
  | n + 1, x1, x2, x3, x4, x5, σ, M => if x5 < (M 40 26) then if g_in x5 500 = true then if (M 59 x5.toNatClampNeg) = (((10 : Int32) * x1) + x2) then if g_in x5 500 = true then if x3 < (M 58 x5.toNatClampNeg) then b_X12_listed_81 (fun x1 x2 x3 x4 x5 σ M => l_X12_listed_36 n x1 x2 x3 x4 x5 σ M) x1 x2 x3 x4 x5 σ M else if g_in x5 500 = true then b_X12_listed_81 (fun x1 x2 x3 x4 x5 σ M => l_X12_listed_36 n x1 x2 x3 x4 x5 σ M) x1 x2 x3 (M 60 x5.toNatClampNeg) x5 σ M else none else none else b_X12_listed_81 (fun x1 x2 x3 x4 x5 σ M => l_X12_listed_36 n x1 x2 x3 x4 x5 σ M) x1 x2 x3 x4 x5 σ M else none else some x4
noncomputable def b_X12_listed_0 (x1 : Int32) (x2 : Int32) (x3 : Int32) (σ : gS) (M : gM) : Option (Int32) := (f_X12_isTown x1 σ M).bind fun q2 => if q2 = (0 : Int32) then some (-1) else (f_X12_isPerson x2 σ M).bind fun q10 => if q10 = (0 : Int32) then some (-1) else (f_X12_in x3 0 (M 40 14)).bind fun q22 => if q22 = (0 : Int32) then some (-1) else l_X12_listed_36 g_FU x1 x2 x3 (-1) 0 σ M
set_option maxHeartbeats 4000000 in
set_option maxRecDepth 100000 in
theorem p_X12_listed_81 {l : Launch} {E : gE} (J : J_X12_listed E l) {k36 : Int32 → Int32 → Int32 → Int32 → Int32 → gS → gM → Option (Int32)} (H36 : ∀ (x1 : Int32) (x2 : Int32) (x3 : Int32) (x4 : Int32) (x5 : Int32) (σ : gS) (M : gM) (N : gN) (_ : g_layM σ), g_H E 0 0 36 [(0, vR 40), (1, vI x1), (2, vI x2), (3, vI x3), (4, vI x4), (5, vI x5)] [] (σ, M, N) (k36 x1 x2 x3 x4 x5 σ M) (eI σ M N)) (x1 : Int32) (x2 : Int32) (x3 : Int32) (x4 : Int32) (x5 : Int32) (σ : gS) (M : gM) (N : gN) (hL : g_layM σ) : g_H E 0 0 81 [(0, vR 40), (1, vI x1), (2, vI x2), (3, vI x3), (4, vI x4), (5, vI x5)] [] (σ, M, N) (b_X12_listed_81 k36 x1 x2 x3 x4 x5 σ M) (eI σ M N) := by
  unfold b_X12_listed_81
  refine r_run J 2 (pc' := 36) (lv' := [(5, vI (x5 + 1)), (0, vR 40), (1, vI x1), (2, vI x2), (3, vI x3), (4, vI x4)]) (st' := []) rfl ?_
  refine r_sub [1, 2, 3, 4, 5, 0] (lv' := [(0, vR 40), (1, vI x1), (2, vI x2), (3, vI x3), (4, vI x4), (5, vI (x5 + 1))]) rfl ?_
  exact H36 x1 x2 x3 x4 (x5 + 1) σ M N hL
set_option maxHeartbeats 4000000 in
set_option maxRecDepth 100000 in
theorem p_X12_listed_36 {l : Launch} {E : gE} (J : J_X12_listed E l) : ∀ (n : Nat) (x1 : Int32) (x2 : Int32) (x3 : Int32) (x4 : Int32) (x5 : Int32) (σ : gS) (M : gM) (N : gN) (hL : g_layM σ), g_H E 0 0 36 [(0, vR 40), (1, vI x1), (2, vI x2), (3, vI x3), (4, vI x4), (5, vI x5)] [] (σ, M, N) (l_X12_listed_36 n x1 x2 x3 x4 x5 σ M) (eI σ M N) := by
  intro n
  induction n with
  | zero => intros; exact h_none
  | succ n ih =>
    intro x1 x2 x3 x4 x5 σ M N hL
    rw [l_X12_listed_36]
    refine r_run J 2 (pc' := 39) (lv' := [(0, vR 40), (1, vI x1), (2, vI x2), (3, vI x3), (4, vI x4), (5, vI x5)]) (st' := [vR 40, vI x5]) rfl ?_
    refine r_getI J cls12 rfl (k := 26) (by decide) wf_12_180 rfl (ly_40 hL) ?_
    show g_H E 0 0 42 [(0, vR 40), (1, vI x1), (2, vI x2), (3, vI x3), (4, vI x4), (5, vI x5)] [vI (M 40 26), vI x5] (σ, M, N) _ _
    refine r_icmp_ge J (tgt := 87) rfl (by decide) (fun c42 => ?_) (fun c42 => ?_)
    · refine r_run J 1 (pc' := 46) (lv' := [(0, vR 40), (1, vI x1), (2, vI x2), (3, vI x3), (4, vI x4), (5, vI x5)]) (st' := [vR 40]) rfl ?_
      refine r_getR J cls12 rfl (k := 28) (t := 14) (by decide) wf_12_72 rfl rfl (ly_40 hL) (lr_40_28 hL) (fun _ => ?_)
      show g_H E 0 0 49 [(0, vR 40), (1, vI x1), (2, vI x2), (3, vI x3), (4, vI x4), (5, vI x5)] [vR 59] (σ, M, N) _ _
      refine r_run J 1 (pc' := 51) (lv' := [(0, vR 40), (1, vI x1), (2, vI x2), (3, vI x3), (4, vI x4), (5, vI x5)]) (st' := [vI x5, vR 59]) rfl ?_
      refine r_iald J rfl (ly_59 hL) (fun i51 => ?_)
      show g_H E 0 0 52 [(0, vR 40), (1, vI x1), (2, vI x2), (3, vI x3), (4, vI x4), (5, vI x5)] [vI (M 59 x5.toNatClampNeg)] (σ, M, N) _ _
      refine r_run J 5 (pc' := 58) (lv' := [(0, vR 40), (1, vI x1), (2, vI x2), (3, vI x3), (4, vI x4), (5, vI x5)]) (st' := [vI (((10 : Int32) * x1) + x2), vI (M 59 x5.toNatClampNeg)]) rfl ?_
      refine r_icmp_ne J (tgt := 81) rfl (by decide) (fun c58 => ?_) (fun c58 => ?_)
      · refine r_run J 1 (pc' := 62) (lv' := [(0, vR 40), (1, vI x1), (2, vI x2), (3, vI x3), (4, vI x4), (5, vI x5)]) (st' := [vR 40]) rfl ?_
        refine r_getR J cls12 rfl (k := 27) (t := 14) (by decide) wf_12_69 rfl rfl (ly_40 hL) (lr_40_27 hL) (fun _ => ?_)
        show g_H E 0 0 65 [(0, vR 40), (1, vI x1), (2, vI x2), (3, vI x3), (4, vI x4), (5, vI x5)] [vR 58] (σ, M, N) _ _
        refine r_run J 1 (pc' := 67) (lv' := [(0, vR 40), (1, vI x1), (2, vI x2), (3, vI x3), (4, vI x4), (5, vI x5)]) (st' := [vI x5, vR 58]) rfl ?_
        refine r_iald J rfl (ly_58 hL) (fun i67 => ?_)
        show g_H E 0 0 68 [(0, vR 40), (1, vI x1), (2, vI x2), (3, vI x3), (4, vI x4), (5, vI x5)] [vI (M 58 x5.toNatClampNeg)] (σ, M, N) _ _
        refine r_run J 1 (pc' := 69) (lv' := [(0, vR 40), (1, vI x1), (2, vI x2), (3, vI x3), (4, vI x4), (5, vI x5)]) (st' := [vI x3, vI (M 58 x5.toNatClampNeg)]) rfl ?_
        refine r_icmp_gt J (tgt := 81) rfl (by decide) (fun c69 => ?_) (fun c69 => ?_)
        · exact p_X12_listed_81 J ih x1 x2 x3 x4 x5 σ M N hL
        · refine r_run J 1 (pc' := 73) (lv' := [(0, vR 40), (1, vI x1), (2, vI x2), (3, vI x3), (4, vI x4), (5, vI x5)]) (st' := [vR 40]) rfl ?_
          refine r_getR J cls12 rfl (k := 29) (t := 14) (by decide) wf_12_75 rfl rfl (ly_40 hL) (lr_40_29 hL) (fun _ => ?_)
          show g_H E 0 0 76 [(0, vR 40), (1, vI x1), (2, vI x2), (3, vI x3), (4, vI x4), (5, vI x5)] [vR 60] (σ, M, N) _ _
          refine r_run J 1 (pc' := 78) (lv' := [(0, vR 40), (1, vI x1), (2, vI x2), (3, vI x3), (4, vI x4), (5, vI x5)]) (st' := [vI x5, vR 60]) rfl ?_
          refine r_iald J rfl (ly_60 hL) (fun i78 => ?_)
          show g_H E 0 0 79 [(0, vR 40), (1, vI x1), (2, vI x2), (3, vI x3), (4, vI x4), (5, vI x5)] [vI (M 60 x5.toNatClampNeg)] (σ, M, N) _ _
          refine r_run J 1 (pc' := 81) (lv' := [(4, vI (M 60 x5.toNatClampNeg)), (0, vR 40), (1, vI x1), (2, vI x2), (3, vI x3), (5, vI x5)]) (st' := []) rfl ?_
          refine r_sub [1, 2, 3, 4, 0, 5] (lv' := [(0, vR 40), (1, vI x1), (2, vI x2), (3, vI x3), (4, vI (M 60 x5.toNatClampNeg)), (5, vI x5)]) rfl ?_
          exact p_X12_listed_81 J ih x1 x2 x3 (M 60 x5.toNatClampNeg) x5 σ M N hL
      · exact p_X12_listed_81 J ih x1 x2 x3 x4 x5 σ M N hL
    · refine r_run J 1 (pc' := 89) (lv' := [(0, vR 40), (1, vI x1), (2, vI x2), (3, vI x3), (4, vI x4), (5, vI x5)]) (st' := [vI x4]) rfl ?_
      exact r_iret J rfl rfl rfl rfl (by decide) (by decide)
set_option maxHeartbeats 4000000 in
set_option maxRecDepth 100000 in
theorem p_X12_listed_0 {l : Launch} {E : gE} (J : J_X12_listed E l) (x1 : Int32) (x2 : Int32) (x3 : Int32) (σ : gS) (M : gM) (N : gN) (hL : g_layM σ) : g_H E 0 0 0 [(0, vR 40), (1, vI x1), (2, vI x2), (3, vI x3)] [] (σ, M, N) (b_X12_listed_0 x1 x2 x3 σ M) (eI σ M N) := by
  unfold b_X12_listed_0
  refine r_run J 2 (pc' := 2) (lv' := [(0, vR 40), (1, vI x1), (2, vI x2), (3, vI x3)]) (st' := [vI x1, vR 40]) rfl ?_
  refine r_callV J (As := [vI x1]) (st := []) (fun r hr => c_X12_isTown x1 σ M N hL r hr) cls12 (ly_40 hL) wm_12_170 wy_X12_isTown wd_X12_isTown ⟨by decide, by decide, by decide, by decide, Nat.le_of_ble_eq_true rfl⟩ rfl rfl (fun q2 hq2 => ?_)
  show g_H E 0 0 5 [(0, vR 40), (1, vI x1), (2, vI x2), (3, vI x3)] [vI q2] (σ, M, N) _ _
  refine r_if_eq J (tgt := 28) rfl (by decide) (fun c5 => ?_) (fun c5 => ?_)
  · refine r_run J 1 (pc' := 29) (lv' := [(0, vR 40), (1, vI x1), (2, vI x2), (3, vI x3)]) (st' := [vI (-1)]) rfl ?_
    exact r_iret J rfl rfl rfl rfl (by decide) (by decide)
  · refine r_run J 2 (pc' := 10) (lv' := [(0, vR 40), (1, vI x1), (2, vI x2), (3, vI x3)]) (st' := [vI x2, vR 40]) rfl ?_
    refine r_callV J (As := [vI x2]) (st := []) (fun r hr => c_X12_isPerson x2 σ M N hL r hr) cls12 (ly_40 hL) wm_12_177 wy_X12_isPerson wd_X12_isPerson ⟨by decide, by decide, by decide, by decide, Nat.le_of_ble_eq_true rfl⟩ rfl rfl (fun q10 hq10 => ?_)
    show g_H E 0 0 13 [(0, vR 40), (1, vI x1), (2, vI x2), (3, vI x3)] [vI q10] (σ, M, N) _ _
    refine r_if_eq J (tgt := 28) rfl (by decide) (fun c13 => ?_) (fun c13 => ?_)
    · refine r_run J 1 (pc' := 29) (lv' := [(0, vR 40), (1, vI x1), (2, vI x2), (3, vI x3)]) (st' := [vI (-1)]) rfl ?_
      exact r_iret J rfl rfl rfl rfl (by decide) (by decide)
    · refine r_run J 3 (pc' := 19) (lv' := [(0, vR 40), (1, vI x1), (2, vI x2), (3, vI x3)]) (st' := [vR 40, vI 0, vI x3]) rfl ?_
      refine r_getI J cls12 rfl (k := 14) (by decide) wf_12_183 rfl (ly_40 hL) ?_
      show g_H E 0 0 22 [(0, vR 40), (1, vI x1), (2, vI x2), (3, vI x3)] [vI (M 40 14), vI 0, vI x3] (σ, M, N) _ _
      refine r_callS J (As := [vI x3, vI 0, vI (M 40 14)]) (st := []) (fun r hr => c_X12_in x3 0 (M 40 14) σ M N hL r hr) wm_12_160 wy_X12_in wd_X12_in ⟨by decide, by decide, by decide, by decide, Nat.le_of_ble_eq_true rfl⟩ rfl rfl (fun q22 hq22 => ?_)
      show g_H E 0 0 25 [(0, vR 40), (1, vI x1), (2, vI x2), (3, vI x3)] [vI q22] (σ, M, N) _ _
      refine r_if_ne J (tgt := 30) rfl (by decide) (fun c25 => ?_) (fun c25 => ?_)
      · refine r_run J 1 (pc' := 29) (lv' := [(0, vR 40), (1, vI x1), (2, vI x2), (3, vI x3)]) (st' := [vI (-1)]) rfl ?_
        exact r_iret J rfl rfl rfl rfl (by decide) (by decide)
      · refine r_run J 4 (pc' := 36) (lv' := [(5, vI 0), (4, vI (-1)), (0, vR 40), (1, vI x1), (2, vI x2), (3, vI x3)]) (st' := []) rfl ?_
        refine r_sub [2, 3, 4, 5, 1, 0] (lv' := [(0, vR 40), (1, vI x1), (2, vI x2), (3, vI x3), (4, vI (-1)), (5, vI 0)]) rfl ?_
        exact p_X12_listed_36 J g_FU x1 x2 x3 (-1) 0 σ M N hL
noncomputable def f_X12_listed (x1 : Int32) (x2 : Int32) (x3 : Int32) (σ : gS) (M : gM) : Option (Int32) := b_X12_listed_0 x1 x2 x3 σ M
theorem c_X12_listed {l : Launch} (x1 : Int32) (x2 : Int32) (x3 : Int32) (σ : gS) (M : gM) (N : gN) (hL : g_layM σ) (r : Int32) (h : f_X12_listed x1 x2 x3 σ M = some r) : g_Ct l yX12_listed cX12_listed 6 (some .int) 3 0 0 [vR 40, vI x1, vI x2, vI x3] (σ, M, N) (eI σ M N r) :=
  g_Ct.of tb_X12_listed (by decide +kernel) tk_X12_listed (Nat.le_of_ble_eq_true rfl) (fun E J => p_X12_listed_0 J x1 x2 x3 σ M N hL r h)
def tb_X12_feed : gT := [(0, .iconst 0, 1, 0), (1, .istore 7, 2, 0), (3, .iload 7, 2, 0), (5, .bipush 24, 2, 24), (7, .if_icmp .ge 92, 3, 0), (10, .iload 7, 2, 0), (12, .bipush 8, 2, 8), (14, .if_icmp .ge 7, 3, 0), (17, .lload_n 1, 1, 0), (18, .goto 16, 3, 0), (21, .iload 7, 2, 0), (23, .bipush 16, 2, 16), (25, .if_icmp .ge 7, 3, 0), (28, .lload_n 3, 1, 0), (29, .goto 5, 3, 0), (32, .lload 5, 2, 0), (34, .lstore 8, 2, 0), (36, .lload 8, 2, 0), (38, .bipush 56, 2, 56), (40, .bipush 8, 2, 8), (42, .iload 7, 2, 0), (44, .bipush 8, 2, 8), (46, .irem, 1, 0), (47, .imul, 1, 0), (48, .isub, 1, 0), (49, .lshr, 1, 0), (50, .l2i, 1, 0), (51, .i2b, 1, 0), (52, .istore 10, 2, 0), (54, .iload 10, 2, 0), (56, .ifCond .eq 37, 3, 0), (59, .aload_n 0, 1, 0), (60, .getfield 246, 3, 0), (63, .sipush 400, 3, 400), (66, .if_icmp .ne 6, 3, 0), (69, .goto 24, 3, 0), (72, .aload_n 0, 1, 0), (73, .getfield 108, 3, 0), (76, .aload_n 0, 1, 0), (77, .getfield 246, 3, 0), (80, .iload 10, 2, 0), (82, .bastore, 1, 0), (83, .aload_n 0, 1, 0), (84, .dup, 1, 0), (85, .getfield 246, 3, 0), (88, .iconst 1, 1, 1), (89, .iadd, 1, 0), (90, .putfield 246, 3, 0), (93, .iinc 7 1, 3, 1), (96, .goto (-93), 3, 0), (99, .aload_n 0, 1, 0), (100, .getfield 246, 3, 0), (103, .ireturn, 1, 0)]
set_option maxRecDepth 100000 in
theorem tk_X12_feed : g_okT cX12_feed tb_X12_feed = true := by decide +kernel
abbrev J_X12_feed (E : gE) (l : Launch) : Prop := g_J E cX12_feed RX12 "feed" (some .int) 11 tb_X12_feed 1 0 0 l
noncomputable def b_X12_feed_93 (k3 : Int64 → Int64 → Int64 → Int32 → gS → gM → Option (Int32 × gM)) (y1 : Int64) (y3 : Int64) (y5 : Int64) (x7 : Int32) (σ : gS) (M : gM) : Option (Int32 × gM) := k3 y1 y3 y5 (x7 + 1) σ M
noncomputable def b_X12_feed_34 (k3 : Int64 → Int64 → Int64 → Int32 → gS → gM → Option (Int32 × gM)) (y1 : Int64) (y3 : Int64) (y5 : Int64) (x7 : Int32) (sy0 : Int64) (σ : gS) (M : gM) : Option (Int32 × gM) := if (8 : Int32) = 0 then none else if (((sy0 >>> (((56 : Int32) - ((8 : Int32) * (x7 - x7 / (8 : Int32) * (8 : Int32)))).toInt64 &&& 63)).toInt32).toInt8.toInt32) = (0 : Int32) then b_X12_feed_93 k3 y1 y3 y5 x7 σ M else if (M 40 41) = (400 : Int32) then b_X12_feed_93 k3 y1 y3 y5 x7 σ M else if g_in (M 40 41) 400 = true then b_X12_feed_93 k3 y1 y3 y5 x7 σ (g_up (g_up M 70 ((M 40 41).toNatClampNeg) (vp_nar .byte (((sy0 >>> (((56 : Int32) - ((8 : Int32) * (x7 - x7 / (8 : Int32) * (8 : Int32)))).toInt64 &&& 63)).toInt32).toInt8.toInt32))) 40 41 (((g_up M 70 ((M 40 41).toNatClampNeg) (vp_nar .byte (((sy0 >>> (((56 : Int32) - ((8 : Int32) * (x7 - x7 / (8 : Int32) * (8 : Int32)))).toInt64 &&& 63)).toInt32).toInt8.toInt32))) 40 41) + (1 : Int32))) else none
noncomputable def l_X12_feed_3 : Nat → Int64 → Int64 → Int64 → Int32 → gS → gM → Option (Int32 × gM)
  | 0, _, _, _, _, _, _ => none
  | n + 1, y1, y3, y5, x7, σ, M => if x7 < (24 : Int32) then if x7 < (8 : Int32) then b_X12_feed_34 (fun y1 y3 y5 x7 σ M => l_X12_feed_3 n y1 y3 y5 x7 σ M) y1 y3 y5 x7 y1 σ M else if x7 < (16 : Int32) then b_X12_feed_34 (fun y1 y3 y5 x7 σ M => l_X12_feed_3 n y1 y3 y5 x7 σ M) y1 y3 y5 x7 y3 σ M else b_X12_feed_34 (fun y1 y3 y5 x7 σ M => l_X12_feed_3 n y1 y3 y5 x7 σ M) y1 y3 y5 x7 y5 σ M else some ((M 40 41), M)
noncomputable def b_X12_feed_0 (y1 : Int64) (y3 : Int64) (y5 : Int64) (σ : gS) (M : gM) : Option (Int32 × gM) := l_X12_feed_3 g_FU y1 y3 y5 0 σ M
set_option maxHeartbeats 4000000 in
set_option maxRecDepth 100000 in
theorem p_X12_feed_93 {l : Launch} {E : gE} (J : J_X12_feed E l) {k3 : Int64 → Int64 → Int64 → Int32 → gS → gM → Option (Int32 × gM)} (H3 : ∀ (y1 : Int64) (y3 : Int64) (y5 : Int64) (x7 : Int32) (σ : gS) (M : gM) (N : gN) (_ : g_layM σ), g_H E 0 0 3 [(0, vR 40), (1, vL y1), (3, vL y3), (5, vL y5), (7, vI x7)] [] (σ, M, N) (k3 y1 y3 y5 x7 σ M) (eIM σ N)) (y1 : Int64) (y3 : Int64) (y5 : Int64) (x7 : Int32) (σ : gS) (M : gM) (N : gN) (hL : g_layM σ) : g_H E 0 0 93 [(0, vR 40), (1, vL y1), (3, vL y3), (5, vL y5), (7, vI x7)] [] (σ, M, N) (b_X12_feed_93 k3 y1 y3 y5 x7 σ M) (eIM σ N) := by
  unfold b_X12_feed_93
  refine r_run J 2 (pc' := 3) (lv' := [(7, vI (x7 + 1)), (0, vR 40), (1, vL y1), (3, vL y3), (5, vL y5)]) (st' := []) rfl ?_
  refine r_sub [1, 2, 3, 4, 0] (lv' := [(0, vR 40), (1, vL y1), (3, vL y3), (5, vL y5), (7, vI (x7 + 1))]) rfl ?_
  exact H3 y1 y3 y5 (x7 + 1) σ M N hL
set_option maxHeartbeats 4000000 in
set_option maxRecDepth 100000 in
theorem p_X12_feed_34 {l : Launch} {E : gE} (J : J_X12_feed E l) {k3 : Int64 → Int64 → Int64 → Int32 → gS → gM → Option (Int32 × gM)} (H3 : ∀ (y1 : Int64) (y3 : Int64) (y5 : Int64) (x7 : Int32) (σ : gS) (M : gM) (N : gN) (_ : g_layM σ), g_H E 0 0 3 [(0, vR 40), (1, vL y1), (3, vL y3), (5, vL y5), (7, vI x7)] [] (σ, M, N) (k3 y1 y3 y5 x7 σ M) (eIM σ N)) (y1 : Int64) (y3 : Int64) (y5 : Int64) (x7 : Int32) (sy0 : Int64) (σ : gS) (M : gM) (N : gN) (hL : g_layM σ) : g_H E 0 0 34 [(0, vR 40), (1, vL y1), (3, vL y3), (5, vL y5), (7, vI x7)] [vL sy0] (σ, M, N) (b_X12_feed_34 k3 y1 y3 y5 x7 sy0 σ M) (eIM σ N) := by
  unfold b_X12_feed_34
  refine r_run J 6 (pc' := 46) (lv' := [(8, vL sy0), (0, vR 40), (1, vL y1), (3, vL y3), (5, vL y5), (7, vI x7)]) (st' := [vI 8, vI x7, vI 8, vI 56, vL sy0]) rfl ?_
  refine r_irem J rfl (fun c46 => ?_)
  refine r_run J 7 (pc' := 56) (lv' := [(10, vI ((sy0 >>> (((56 : Int32) - ((8 : Int32) * (x7 - x7 / (8 : Int32) * (8 : Int32)))).toInt64 &&& 63)).toInt32).toInt8.toInt32), (8, vL sy0), (0, vR 40), (1, vL y1), (3, vL y3), (5, vL y5), (7, vI x7)]) (st' := [vI ((sy0 >>> (((56 : Int32) - ((8 : Int32) * (x7 - x7 / (8 : Int32) * (8 : Int32)))).toInt64 &&& 63)).toInt32).toInt8.toInt32]) rfl ?_
  refine r_if_eq J (tgt := 93) rfl (by decide) (fun c56 => ?_) (fun c56 => ?_)
  · refine r_sub [2, 3, 4, 5, 6] (lv' := [(0, vR 40), (1, vL y1), (3, vL y3), (5, vL y5), (7, vI x7)]) rfl ?_
    exact p_X12_feed_93 J H3 y1 y3 y5 x7 σ M N hL
  · refine r_run J 1 (pc' := 60) (lv' := [(10, vI ((sy0 >>> (((56 : Int32) - ((8 : Int32) * (x7 - x7 / (8 : Int32) * (8 : Int32)))).toInt64 &&& 63)).toInt32).toInt8.toInt32), (8, vL sy0), (0, vR 40), (1, vL y1), (3, vL y3), (5, vL y5), (7, vI x7)]) (st' := [vR 40]) rfl ?_
    refine r_getI J cls12 rfl (k := 41) (by decide) wf_12_246 rfl (ly_40 hL) ?_
    show g_H E 0 0 63 [(10, vI ((sy0 >>> (((56 : Int32) - ((8 : Int32) * (x7 - x7 / (8 : Int32) * (8 : Int32)))).toInt64 &&& 63)).toInt32).toInt8.toInt32), (8, vL sy0), (0, vR 40), (1, vL y1), (3, vL y3), (5, vL y5), (7, vI x7)] [vI (M 40 41)] (σ, M, N) _ _
    refine r_run J 1 (pc' := 66) (lv' := [(10, vI ((sy0 >>> (((56 : Int32) - ((8 : Int32) * (x7 - x7 / (8 : Int32) * (8 : Int32)))).toInt64 &&& 63)).toInt32).toInt8.toInt32), (8, vL sy0), (0, vR 40), (1, vL y1), (3, vL y3), (5, vL y5), (7, vI x7)]) (st' := [vI 400, vI (M 40 41)]) rfl ?_
    refine r_icmp_ne J (tgt := 72) rfl (by decide) (fun c66 => ?_) (fun c66 => ?_)
    · refine r_run J 1 (pc' := 93) (lv' := [(10, vI ((sy0 >>> (((56 : Int32) - ((8 : Int32) * (x7 - x7 / (8 : Int32) * (8 : Int32)))).toInt64 &&& 63)).toInt32).toInt8.toInt32), (8, vL sy0), (0, vR 40), (1, vL y1), (3, vL y3), (5, vL y5), (7, vI x7)]) (st' := []) rfl ?_
      refine r_sub [2, 3, 4, 5, 6] (lv' := [(0, vR 40), (1, vL y1), (3, vL y3), (5, vL y5), (7, vI x7)]) rfl ?_
      exact p_X12_feed_93 J H3 y1 y3 y5 x7 σ M N hL
    · refine r_run J 1 (pc' := 73) (lv' := [(10, vI ((sy0 >>> (((56 : Int32) - ((8 : Int32) * (x7 - x7 / (8 : Int32) * (8 : Int32)))).toInt64 &&& 63)).toInt32).toInt8.toInt32), (8, vL sy0), (0, vR 40), (1, vL y1), (3, vL y3), (5, vL y5), (7, vI x7)]) (st' := [vR 40]) rfl ?_
      refine r_getR J cls12 rfl (k := 40) (t := 13) (by decide) wf_12_108 rfl rfl (ly_40 hL) (lr_40_40 hL) (fun _ => ?_)
      show g_H E 0 0 76 [(10, vI ((sy0 >>> (((56 : Int32) - ((8 : Int32) * (x7 - x7 / (8 : Int32) * (8 : Int32)))).toInt64 &&& 63)).toInt32).toInt8.toInt32), (8, vL sy0), (0, vR 40), (1, vL y1), (3, vL y3), (5, vL y5), (7, vI x7)] [vR 70] (σ, M, N) _ _
      refine r_run J 1 (pc' := 77) (lv' := [(10, vI ((sy0 >>> (((56 : Int32) - ((8 : Int32) * (x7 - x7 / (8 : Int32) * (8 : Int32)))).toInt64 &&& 63)).toInt32).toInt8.toInt32), (8, vL sy0), (0, vR 40), (1, vL y1), (3, vL y3), (5, vL y5), (7, vI x7)]) (st' := [vR 40, vR 70]) rfl ?_
      refine r_getI J cls12 rfl (k := 41) (by decide) wf_12_246 rfl (ly_40 hL) ?_
      show g_H E 0 0 80 [(10, vI ((sy0 >>> (((56 : Int32) - ((8 : Int32) * (x7 - x7 / (8 : Int32) * (8 : Int32)))).toInt64 &&& 63)).toInt32).toInt8.toInt32), (8, vL sy0), (0, vR 40), (1, vL y1), (3, vL y3), (5, vL y5), (7, vI x7)] [vI (M 40 41), vR 70] (σ, M, N) _ _
      refine r_run J 1 (pc' := 82) (lv' := [(10, vI ((sy0 >>> (((56 : Int32) - ((8 : Int32) * (x7 - x7 / (8 : Int32) * (8 : Int32)))).toInt64 &&& 63)).toInt32).toInt8.toInt32), (8, vL sy0), (0, vR 40), (1, vL y1), (3, vL y3), (5, vL y5), (7, vI x7)]) (st' := [vI ((sy0 >>> (((56 : Int32) - ((8 : Int32) * (x7 - x7 / (8 : Int32) * (8 : Int32)))).toInt64 &&& 63)).toInt32).toInt8.toInt32, vI (M 40 41), vR 70]) rfl ?_
      refine r_bast J rfl (ly_70 hL) (fun i82 => ?_)
      show g_H E 0 0 83 [(10, vI ((sy0 >>> (((56 : Int32) - ((8 : Int32) * (x7 - x7 / (8 : Int32) * (8 : Int32)))).toInt64 &&& 63)).toInt32).toInt8.toInt32), (8, vL sy0), (0, vR 40), (1, vL y1), (3, vL y3), (5, vL y5), (7, vI x7)] [] (σ, (g_up M 70 ((M 40 41).toNatClampNeg) (vp_nar .byte (((sy0 >>> (((56 : Int32) - ((8 : Int32) * (x7 - x7 / (8 : Int32) * (8 : Int32)))).toInt64 &&& 63)).toInt32).toInt8.toInt32))), N) _ _
      refine r_run J 2 (pc' := 85) (lv' := [(10, vI ((sy0 >>> (((56 : Int32) - ((8 : Int32) * (x7 - x7 / (8 : Int32) * (8 : Int32)))).toInt64 &&& 63)).toInt32).toInt8.toInt32), (8, vL sy0), (0, vR 40), (1, vL y1), (3, vL y3), (5, vL y5), (7, vI x7)]) (st' := [vR 40, vR 40]) rfl ?_
      refine r_getI J cls12 rfl (k := 41) (by decide) wf_12_246 rfl (ly_40 hL) ?_
      show g_H E 0 0 88 [(10, vI ((sy0 >>> (((56 : Int32) - ((8 : Int32) * (x7 - x7 / (8 : Int32) * (8 : Int32)))).toInt64 &&& 63)).toInt32).toInt8.toInt32), (8, vL sy0), (0, vR 40), (1, vL y1), (3, vL y3), (5, vL y5), (7, vI x7)] [vI ((g_up M 70 ((M 40 41).toNatClampNeg) (vp_nar .byte (((sy0 >>> (((56 : Int32) - ((8 : Int32) * (x7 - x7 / (8 : Int32) * (8 : Int32)))).toInt64 &&& 63)).toInt32).toInt8.toInt32))) 40 41), vR 40] (σ, (g_up M 70 ((M 40 41).toNatClampNeg) (vp_nar .byte (((sy0 >>> (((56 : Int32) - ((8 : Int32) * (x7 - x7 / (8 : Int32) * (8 : Int32)))).toInt64 &&& 63)).toInt32).toInt8.toInt32))), N) _ _
      refine r_run J 2 (pc' := 90) (lv' := [(10, vI ((sy0 >>> (((56 : Int32) - ((8 : Int32) * (x7 - x7 / (8 : Int32) * (8 : Int32)))).toInt64 &&& 63)).toInt32).toInt8.toInt32), (8, vL sy0), (0, vR 40), (1, vL y1), (3, vL y3), (5, vL y5), (7, vI x7)]) (st' := [vI (((g_up M 70 ((M 40 41).toNatClampNeg) (vp_nar .byte (((sy0 >>> (((56 : Int32) - ((8 : Int32) * (x7 - x7 / (8 : Int32) * (8 : Int32)))).toInt64 &&& 63)).toInt32).toInt8.toInt32))) 40 41) + (1 : Int32)), vR 40]) rfl ?_
      refine r_putI J cls12 rfl (k := 41) (by decide) wf_12_246 rfl (Or.inl rfl) ⟨rfl, rfl⟩ (ly_40 hL) ?_
      show g_H E 0 0 93 [(10, vI ((sy0 >>> (((56 : Int32) - ((8 : Int32) * (x7 - x7 / (8 : Int32) * (8 : Int32)))).toInt64 &&& 63)).toInt32).toInt8.toInt32), (8, vL sy0), (0, vR 40), (1, vL y1), (3, vL y3), (5, vL y5), (7, vI x7)] [] (σ, (g_up (g_up M 70 ((M 40 41).toNatClampNeg) (vp_nar .byte (((sy0 >>> (((56 : Int32) - ((8 : Int32) * (x7 - x7 / (8 : Int32) * (8 : Int32)))).toInt64 &&& 63)).toInt32).toInt8.toInt32))) 40 41 (((g_up M 70 ((M 40 41).toNatClampNeg) (vp_nar .byte (((sy0 >>> (((56 : Int32) - ((8 : Int32) * (x7 - x7 / (8 : Int32) * (8 : Int32)))).toInt64 &&& 63)).toInt32).toInt8.toInt32))) 40 41) + (1 : Int32))), N) _ _
      refine r_sub [2, 3, 4, 5, 6] (lv' := [(0, vR 40), (1, vL y1), (3, vL y3), (5, vL y5), (7, vI x7)]) rfl ?_
      exact p_X12_feed_93 J H3 y1 y3 y5 x7 σ (g_up (g_up M 70 ((M 40 41).toNatClampNeg) (vp_nar .byte (((sy0 >>> (((56 : Int32) - ((8 : Int32) * (x7 - x7 / (8 : Int32) * (8 : Int32)))).toInt64 &&& 63)).toInt32).toInt8.toInt32))) 40 41 (((g_up M 70 ((M 40 41).toNatClampNeg) (vp_nar .byte (((sy0 >>> (((56 : Int32) - ((8 : Int32) * (x7 - x7 / (8 : Int32) * (8 : Int32)))).toInt64 &&& 63)).toInt32).toInt8.toInt32))) 40 41) + (1 : Int32))) N hL
set_option maxHeartbeats 4000000 in
set_option maxRecDepth 100000 in
theorem p_X12_feed_3 {l : Launch} {E : gE} (J : J_X12_feed E l) : ∀ (n : Nat) (y1 : Int64) (y3 : Int64) (y5 : Int64) (x7 : Int32) (σ : gS) (M : gM) (N : gN) (hL : g_layM σ), g_H E 0 0 3 [(0, vR 40), (1, vL y1), (3, vL y3), (5, vL y5), (7, vI x7)] [] (σ, M, N) (l_X12_feed_3 n y1 y3 y5 x7 σ M) (eIM σ N) := by
  intro n
  induction n with
  | zero => intros; exact h_none
  | succ n ih =>
    intro y1 y3 y5 x7 σ M N hL
    rw [l_X12_feed_3]
    refine r_run J 2 (pc' := 7) (lv' := [(0, vR 40), (1, vL y1), (3, vL y3), (5, vL y5), (7, vI x7)]) (st' := [vI 24, vI x7]) rfl ?_
    refine r_icmp_ge J (tgt := 99) rfl (by decide) (fun c7 => ?_) (fun c7 => ?_)
    · refine r_run J 2 (pc' := 14) (lv' := [(0, vR 40), (1, vL y1), (3, vL y3), (5, vL y5), (7, vI x7)]) (st' := [vI 8, vI x7]) rfl ?_
      refine r_icmp_ge J (tgt := 21) rfl (by decide) (fun c14 => ?_) (fun c14 => ?_)
      · refine r_run J 2 (pc' := 34) (lv' := [(0, vR 40), (1, vL y1), (3, vL y3), (5, vL y5), (7, vI x7)]) (st' := [vL y1]) rfl ?_
        exact p_X12_feed_34 J ih y1 y3 y5 x7 y1 σ M N hL
      · refine r_run J 2 (pc' := 25) (lv' := [(0, vR 40), (1, vL y1), (3, vL y3), (5, vL y5), (7, vI x7)]) (st' := [vI 16, vI x7]) rfl ?_
        refine r_icmp_ge J (tgt := 32) rfl (by decide) (fun c25 => ?_) (fun c25 => ?_)
        · refine r_run J 2 (pc' := 34) (lv' := [(0, vR 40), (1, vL y1), (3, vL y3), (5, vL y5), (7, vI x7)]) (st' := [vL y3]) rfl ?_
          exact p_X12_feed_34 J ih y1 y3 y5 x7 y3 σ M N hL
        · refine r_run J 1 (pc' := 34) (lv' := [(0, vR 40), (1, vL y1), (3, vL y3), (5, vL y5), (7, vI x7)]) (st' := [vL y5]) rfl ?_
          exact p_X12_feed_34 J ih y1 y3 y5 x7 y5 σ M N hL
    · refine r_run J 1 (pc' := 100) (lv' := [(0, vR 40), (1, vL y1), (3, vL y3), (5, vL y5), (7, vI x7)]) (st' := [vR 40]) rfl ?_
      refine r_getI J cls12 rfl (k := 41) (by decide) wf_12_246 rfl (ly_40 hL) ?_
      show g_H E 0 0 103 [(0, vR 40), (1, vL y1), (3, vL y3), (5, vL y5), (7, vI x7)] [vI (M 40 41)] (σ, M, N) _ _
      exact r_iret J rfl rfl rfl rfl (by decide) (by decide)
set_option maxHeartbeats 4000000 in
set_option maxRecDepth 100000 in
theorem p_X12_feed_0 {l : Launch} {E : gE} (J : J_X12_feed E l) (y1 : Int64) (y3 : Int64) (y5 : Int64) (σ : gS) (M : gM) (N : gN) (hL : g_layM σ) : g_H E 0 0 0 [(0, vR 40), (1, vL y1), (3, vL y3), (5, vL y5)] [] (σ, M, N) (b_X12_feed_0 y1 y3 y5 σ M) (eIM σ N) := by
  unfold b_X12_feed_0
  refine r_run J 2 (pc' := 3) (lv' := [(7, vI 0), (0, vR 40), (1, vL y1), (3, vL y3), (5, vL y5)]) (st' := []) rfl ?_
  refine r_sub [1, 2, 3, 4, 0] (lv' := [(0, vR 40), (1, vL y1), (3, vL y3), (5, vL y5), (7, vI 0)]) rfl ?_
  exact p_X12_feed_3 J g_FU y1 y3 y5 0 σ M N hL
noncomputable def f_X12_feed (y1 : Int64) (y3 : Int64) (y5 : Int64) (σ : gS) (M : gM) : Option (Int32 × gM) := b_X12_feed_0 y1 y3 y5 σ M
theorem c_X12_feed {l : Launch} (y1 : Int64) (y3 : Int64) (y5 : Int64) (σ : gS) (M : gM) (N : gN) (hL : g_layM σ) (r : Int32 × gM) (h : f_X12_feed y1 y3 y5 σ M = some r) : g_Ct l yX12_feed cX12_feed 11 (some .int) 1 0 0 [vR 40, vL y1, vL y3, vL y5] (σ, M, N) (eIM σ N r) :=
  g_Ct.of tb_X12_feed (by decide +kernel) tk_X12_feed (Nat.le_of_ble_eq_true rfl) (fun E J => p_X12_feed_0 J y1 y3 y5 σ M N hL r h)
def tb_X12_isSmall : gT := [(0, .aload_n 0, 1, 0), (1, .getfield 249, 3, 0), (4, .aload_n 0, 1, 0), (5, .getfield 252, 3, 0), (8, .if_icmp .ge 35, 3, 0), (11, .aload_n 0, 1, 0), (12, .getfield 121, 3, 0), (15, .aload_n 0, 1, 0), (16, .getfield 249, 3, 0), (19, .baload, 1, 0), (20, .bipush 97, 2, 97), (22, .if_icmp .lt 21, 3, 0), (25, .aload_n 0, 1, 0), (26, .getfield 121, 3, 0), (29, .aload_n 0, 1, 0), (30, .getfield 249, 3, 0), (33, .baload, 1, 0), (34, .bipush 122, 2, 122), (36, .if_icmp .gt 7, 3, 0), (39, .iconst 1, 1, 1), (40, .goto 4, 3, 0), (43, .iconst 0, 1, 0), (44, .ireturn, 1, 0)]
set_option maxRecDepth 100000 in
theorem tk_X12_isSmall : g_okT cX12_isSmall tb_X12_isSmall = true := by decide +kernel
abbrev J_X12_isSmall (E : gE) (l : Launch) : Prop := g_J E cX12_isSmall RX12 "isSmall" (some .boolean) 1 tb_X12_isSmall 1 0 0 l
noncomputable def b_X12_isSmall_0 (σ : gS) (M : gM) : Option (Int32) := if (M 40 47) < (M 40 46) then if g_in (M 40 47) 400 = true then if (M 74 (M 40 47).toNatClampNeg) < (97 : Int32) then some 0 else if g_in (M 40 47) 400 = true then if (122 : Int32) < (M 74 (M 40 47).toNatClampNeg) then some 0 else some 1 else none else none else some 0
set_option maxHeartbeats 4000000 in
set_option maxRecDepth 100000 in
theorem p_X12_isSmall_0 {l : Launch} {E : gE} (J : J_X12_isSmall E l) (σ : gS) (M : gM) (N : gN) (hL : g_layM σ) : g_H E 0 0 0 [(0, vR 40)] [] (σ, M, N) (b_X12_isSmall_0 σ M) (eI σ M N) := by
  unfold b_X12_isSmall_0
  refine r_run J 1 (pc' := 1) (lv' := [(0, vR 40)]) (st' := [vR 40]) rfl ?_
  refine r_getI J cls12 rfl (k := 47) (by decide) wf_12_249 rfl (ly_40 hL) ?_
  show g_H E 0 0 4 [(0, vR 40)] [vI (M 40 47)] (σ, M, N) _ _
  refine r_run J 1 (pc' := 5) (lv' := [(0, vR 40)]) (st' := [vR 40, vI (M 40 47)]) rfl ?_
  refine r_getI J cls12 rfl (k := 46) (by decide) wf_12_252 rfl (ly_40 hL) ?_
  show g_H E 0 0 8 [(0, vR 40)] [vI (M 40 46), vI (M 40 47)] (σ, M, N) _ _
  refine r_icmp_ge J (tgt := 43) rfl (by decide) (fun c8 => ?_) (fun c8 => ?_)
  · refine r_run J 1 (pc' := 12) (lv' := [(0, vR 40)]) (st' := [vR 40]) rfl ?_
    refine r_getR J cls12 rfl (k := 45) (t := 13) (by decide) wf_12_121 rfl rfl (ly_40 hL) (lr_40_45 hL) (fun _ => ?_)
    show g_H E 0 0 15 [(0, vR 40)] [vR 74] (σ, M, N) _ _
    refine r_run J 1 (pc' := 16) (lv' := [(0, vR 40)]) (st' := [vR 40, vR 74]) rfl ?_
    refine r_getI J cls12 rfl (k := 47) (by decide) wf_12_249 rfl (ly_40 hL) ?_
    show g_H E 0 0 19 [(0, vR 40)] [vI (M 40 47), vR 74] (σ, M, N) _ _
    refine r_bald J rfl (ly_74 hL) (fun i19 => ?_)
    show g_H E 0 0 20 [(0, vR 40)] [vI (M 74 (M 40 47).toNatClampNeg)] (σ, M, N) _ _
    refine r_run J 1 (pc' := 22) (lv' := [(0, vR 40)]) (st' := [vI 97, vI (M 74 (M 40 47).toNatClampNeg)]) rfl ?_
    refine r_icmp_lt J (tgt := 43) rfl (by decide) (fun c22 => ?_) (fun c22 => ?_)
    · refine r_run J 1 (pc' := 44) (lv' := [(0, vR 40)]) (st' := [vI 0]) rfl ?_
      exact r_iret J rfl rfl rfl rfl (by decide) (by decide)
    · refine r_run J 1 (pc' := 26) (lv' := [(0, vR 40)]) (st' := [vR 40]) rfl ?_
      refine r_getR J cls12 rfl (k := 45) (t := 13) (by decide) wf_12_121 rfl rfl (ly_40 hL) (lr_40_45 hL) (fun _ => ?_)
      show g_H E 0 0 29 [(0, vR 40)] [vR 74] (σ, M, N) _ _
      refine r_run J 1 (pc' := 30) (lv' := [(0, vR 40)]) (st' := [vR 40, vR 74]) rfl ?_
      refine r_getI J cls12 rfl (k := 47) (by decide) wf_12_249 rfl (ly_40 hL) ?_
      show g_H E 0 0 33 [(0, vR 40)] [vI (M 40 47), vR 74] (σ, M, N) _ _
      refine r_bald J rfl (ly_74 hL) (fun i33 => ?_)
      show g_H E 0 0 34 [(0, vR 40)] [vI (M 74 (M 40 47).toNatClampNeg)] (σ, M, N) _ _
      refine r_run J 1 (pc' := 36) (lv' := [(0, vR 40)]) (st' := [vI 122, vI (M 74 (M 40 47).toNatClampNeg)]) rfl ?_
      refine r_icmp_gt J (tgt := 43) rfl (by decide) (fun c36 => ?_) (fun c36 => ?_)
      · refine r_run J 1 (pc' := 44) (lv' := [(0, vR 40)]) (st' := [vI 0]) rfl ?_
        exact r_iret J rfl rfl rfl rfl (by decide) (by decide)
      · refine r_run J 2 (pc' := 44) (lv' := [(0, vR 40)]) (st' := [vI 1]) rfl ?_
        exact r_iret J rfl rfl rfl rfl (by decide) (by decide)
  · refine r_run J 1 (pc' := 44) (lv' := [(0, vR 40)]) (st' := [vI 0]) rfl ?_
    exact r_iret J rfl rfl rfl rfl (by decide) (by decide)
noncomputable def f_X12_isSmall (σ : gS) (M : gM) : Option (Int32) := b_X12_isSmall_0 σ M
theorem c_X12_isSmall {l : Launch} (σ : gS) (M : gM) (N : gN) (hL : g_layM σ) (r : Int32) (h : f_X12_isSmall σ M = some r) : g_Ct l yX12_isSmall cX12_isSmall 1 (some .boolean) 1 0 0 [vR 40] (σ, M, N) (eI σ M N r) :=
  g_Ct.of tb_X12_isSmall (by decide +kernel) tk_X12_isSmall (Nat.le_of_ble_eq_true rfl) (fun E J => p_X12_isSmall_0 J σ M N hL r h)
def tb_X12_isDigit : gT := [(0, .aload_n 0, 1, 0), (1, .getfield 249, 3, 0), (4, .aload_n 0, 1, 0), (5, .getfield 252, 3, 0), (8, .if_icmp .ge 35, 3, 0), (11, .aload_n 0, 1, 0), (12, .getfield 121, 3, 0), (15, .aload_n 0, 1, 0), (16, .getfield 249, 3, 0), (19, .baload, 1, 0), (20, .bipush 48, 2, 48), (22, .if_icmp .lt 21, 3, 0), (25, .aload_n 0, 1, 0), (26, .getfield 121, 3, 0), (29, .aload_n 0, 1, 0), (30, .getfield 249, 3, 0), (33, .baload, 1, 0), (34, .bipush 57, 2, 57), (36, .if_icmp .gt 7, 3, 0), (39, .iconst 1, 1, 1), (40, .goto 4, 3, 0), (43, .iconst 0, 1, 0), (44, .ireturn, 1, 0)]
set_option maxRecDepth 100000 in
theorem tk_X12_isDigit : g_okT cX12_isDigit tb_X12_isDigit = true := by decide +kernel
abbrev J_X12_isDigit (E : gE) (l : Launch) : Prop := g_J E cX12_isDigit RX12 "isDigit" (some .boolean) 1 tb_X12_isDigit 1 0 0 l
noncomputable def b_X12_isDigit_0 (σ : gS) (M : gM) : Option (Int32) := if (M 40 47) < (M 40 46) then if g_in (M 40 47) 400 = true then if (M 74 (M 40 47).toNatClampNeg) < (48 : Int32) then some 0 else if g_in (M 40 47) 400 = true then if (57 : Int32) < (M 74 (M 40 47).toNatClampNeg) then some 0 else some 1 else none else none else some 0
set_option maxHeartbeats 4000000 in
set_option maxRecDepth 100000 in
theorem p_X12_isDigit_0 {l : Launch} {E : gE} (J : J_X12_isDigit E l) (σ : gS) (M : gM) (N : gN) (hL : g_layM σ) : g_H E 0 0 0 [(0, vR 40)] [] (σ, M, N) (b_X12_isDigit_0 σ M) (eI σ M N) := by
  unfold b_X12_isDigit_0
  refine r_run J 1 (pc' := 1) (lv' := [(0, vR 40)]) (st' := [vR 40]) rfl ?_
  refine r_getI J cls12 rfl (k := 47) (by decide) wf_12_249 rfl (ly_40 hL) ?_
  show g_H E 0 0 4 [(0, vR 40)] [vI (M 40 47)] (σ, M, N) _ _
  refine r_run J 1 (pc' := 5) (lv' := [(0, vR 40)]) (st' := [vR 40, vI (M 40 47)]) rfl ?_
  refine r_getI J cls12 rfl (k := 46) (by decide) wf_12_252 rfl (ly_40 hL) ?_
  show g_H E 0 0 8 [(0, vR 40)] [vI (M 40 46), vI (M 40 47)] (σ, M, N) _ _
  refine r_icmp_ge J (tgt := 43) rfl (by decide) (fun c8 => ?_) (fun c8 => ?_)
  · refine r_run J 1 (pc' := 12) (lv' := [(0, vR 40)]) (st' := [vR 40]) rfl ?_
    refine r_getR J cls12 rfl (k := 45) (t := 13) (by decide) wf_12_121 rfl rfl (ly_40 hL) (lr_40_45 hL) (fun _ => ?_)
    show g_H E 0 0 15 [(0, vR 40)] [vR 74] (σ, M, N) _ _
    refine r_run J 1 (pc' := 16) (lv' := [(0, vR 40)]) (st' := [vR 40, vR 74]) rfl ?_
    refine r_getI J cls12 rfl (k := 47) (by decide) wf_12_249 rfl (ly_40 hL) ?_
    show g_H E 0 0 19 [(0, vR 40)] [vI (M 40 47), vR 74] (σ, M, N) _ _
    refine r_bald J rfl (ly_74 hL) (fun i19 => ?_)
    show g_H E 0 0 20 [(0, vR 40)] [vI (M 74 (M 40 47).toNatClampNeg)] (σ, M, N) _ _
    refine r_run J 1 (pc' := 22) (lv' := [(0, vR 40)]) (st' := [vI 48, vI (M 74 (M 40 47).toNatClampNeg)]) rfl ?_
    refine r_icmp_lt J (tgt := 43) rfl (by decide) (fun c22 => ?_) (fun c22 => ?_)
    · refine r_run J 1 (pc' := 44) (lv' := [(0, vR 40)]) (st' := [vI 0]) rfl ?_
      exact r_iret J rfl rfl rfl rfl (by decide) (by decide)
    · refine r_run J 1 (pc' := 26) (lv' := [(0, vR 40)]) (st' := [vR 40]) rfl ?_
      refine r_getR J cls12 rfl (k := 45) (t := 13) (by decide) wf_12_121 rfl rfl (ly_40 hL) (lr_40_45 hL) (fun _ => ?_)
      show g_H E 0 0 29 [(0, vR 40)] [vR 74] (σ, M, N) _ _
      refine r_run J 1 (pc' := 30) (lv' := [(0, vR 40)]) (st' := [vR 40, vR 74]) rfl ?_
      refine r_getI J cls12 rfl (k := 47) (by decide) wf_12_249 rfl (ly_40 hL) ?_
      show g_H E 0 0 33 [(0, vR 40)] [vI (M 40 47), vR 74] (σ, M, N) _ _
      refine r_bald J rfl (ly_74 hL) (fun i33 => ?_)
      show g_H E 0 0 34 [(0, vR 40)] [vI (M 74 (M 40 47).toNatClampNeg)] (σ, M, N) _ _
      refine r_run J 1 (pc' := 36) (lv' := [(0, vR 40)]) (st' := [vI 57, vI (M 74 (M 40 47).toNatClampNeg)]) rfl ?_
      refine r_icmp_gt J (tgt := 43) rfl (by decide) (fun c36 => ?_) (fun c36 => ?_)
      · refine r_run J 1 (pc' := 44) (lv' := [(0, vR 40)]) (st' := [vI 0]) rfl ?_
        exact r_iret J rfl rfl rfl rfl (by decide) (by decide)
      · refine r_run J 2 (pc' := 44) (lv' := [(0, vR 40)]) (st' := [vI 1]) rfl ?_
        exact r_iret J rfl rfl rfl rfl (by decide) (by decide)
  · refine r_run J 1 (pc' := 44) (lv' := [(0, vR 40)]) (st' := [vI 0]) rfl ?_
    exact r_iret J rfl rfl rfl rfl (by decide) (by decide)
noncomputable def f_X12_isDigit (σ : gS) (M : gM) : Option (Int32) := b_X12_isDigit_0 σ M
theorem c_X12_isDigit {l : Launch} (σ : gS) (M : gM) (N : gN) (hL : g_layM σ) (r : Int32) (h : f_X12_isDigit σ M = some r) : g_Ct l yX12_isDigit cX12_isDigit 1 (some .boolean) 1 0 0 [vR 40] (σ, M, N) (eI σ M N r) :=
  g_Ct.of tb_X12_isDigit (by decide +kernel) tk_X12_isDigit (Nat.le_of_ble_eq_true rfl) (fun E J => p_X12_isDigit_0 J σ M N hL r h)
def tb_X12_next : gT := [(0, .aload_n 0, 1, 0), (1, .getfield 249, 3, 0), (4, .aload_n 0, 1, 0), (5, .getfield 252, 3, 0), (8, .if_icmp .ge 44, 3, 0), (11, .aload_n 0, 1, 0), (12, .getfield 121, 3, 0), (15, .aload_n 0, 1, 0), (16, .getfield 249, 3, 0), (19, .baload, 1, 0), (20, .bipush 32, 2, 32), (22, .if_icmp .eq 17, 3, 0), (25, .aload_n 0, 1, 0), (26, .getfield 121, 3, 0), (29, .aload_n 0, 1, 0), (30, .getfield 249, 3, 0), (33, .baload, 1, 0), (34, .bipush 10, 2, 10), (36, .if_icmp .ne 16, 3, 0), (39, .aload_n 0, 1, 0), (40, .dup, 1, 0), (41, .getfield 249, 3, 0), (44, .iconst 1, 1, 1), (45, .iadd, 1, 0), (46, .putfield 249, 3, 0), (49, .goto (-49), 3, 0), (52, .aload_n 0, 1, 0), (53, .aload_n 0, 1, 0), (54, .getfield 249, 3, 0), (57, .putfield 255, 3, 0), (60, .aload_n 0, 1, 0), (61, .lconst 0, 1, 0), (62, .putfield 258, 3, 0), (65, .aload_n 0, 1, 0), (66, .getfield 249, 3, 0), (69, .aload_n 0, 1, 0), (70, .getfield 252, 3, 0), (73, .if_icmp .ne 11, 3, 0), (76, .aload_n 0, 1, 0), (77, .iconst 0, 1, 0), (78, .putfield 262, 3, 0), (81, .goto 286, 3, 0), (84, .aload_n 0, 1, 0), (85, .invokevirtual 265, 3, 0), (88, .ifCond .eq 73, 3, 0), (91, .aload_n 0, 1, 0), (92, .iconst 1, 1, 1), (93, .putfield 262, 3, 0), (96, .aload_n 0, 1, 0), (97, .invokevirtual 265, 3, 0), (100, .ifCond .eq 267, 3, 0), (103, .aload_n 0, 1, 0), (104, .aload_n 0, 1, 0), (105, .getfield 249, 3, 0), (108, .aload_n 0, 1, 0), (109, .getfield 255, 3, 0), (112, .isub, 1, 0), (113, .bipush 7, 2, 7), (115, .if_icmp .ge 29, 3, 0), (118, .ldc2_w 269, 3, 0), (121, .aload_n 0, 1, 0), (122, .getfield 258, 3, 0), (125, .lmul, 1, 0), (126, .aload_n 0, 1, 0), (127, .getfield 121, 3, 0), (130, .aload_n 0, 1, 0), (131, .getfield 249, 3, 0), (134, .baload, 1, 0), (135, .i2l, 1, 0), (136, .ladd, 1, 0), (137, .ldc2_w 271, 3, 0), (140, .lsub, 1, 0), (141, .goto 4, 3, 0), (144, .lconst 0, 1, 0), (145, .putfield 258, 3, 0), (148, .aload_n 0, 1, 0), (149, .dup, 1, 0), (150, .getfield 249, 3, 0), (153, .iconst 1, 1, 1), (154, .iadd, 1, 0), (155, .putfield 249, 3, 0), (158, .goto (-62), 3, 0), (161, .aload_n 0, 1, 0), (162, .invokevirtual 273, 3, 0), (165, .ifCond .eq 92, 3, 0), (168, .aload_n 0, 1, 0), (169, .invokevirtual 273, 3, 0), (172, .ifCond .eq 60, 3, 0), (175, .aload_n 0, 1, 0), (176, .aload_n 0, 1, 0), (177, .getfield 249, 3, 0), (180, .aload_n 0, 1, 0), (181, .getfield 255, 3, 0), (184, .isub, 1, 0), (185, .iconst 4, 1, 4), (186, .if_icmp .ge 29, 3, 0), (189, .ldc2_w 276, 3, 0), (192, .aload_n 0, 1, 0), (193, .getfield 258, 3, 0), (196, .lmul, 1, 0), (197, .aload_n 0, 1, 0), (198, .getfield 121, 3, 0), (201, .aload_n 0, 1, 0), (202, .getfield 249, 3, 0), (205, .baload, 1, 0), (206, .i2l, 1, 0), (207, .ladd, 1, 0), (208, .ldc2_w 278, 3, 0), (211, .lsub, 1, 0), (212, .goto 4, 3, 0), (215, .lconst 0, 1, 0), (216, .putfield 258, 3, 0), (219, .aload_n 0, 1, 0), (220, .dup, 1, 0), (221, .getfield 249, 3, 0), (224, .iconst 1, 1, 1), (225, .iadd, 1, 0), (226, .putfield 249, 3, 0), (229, .goto (-61), 3, 0), (232, .aload_n 0, 1, 0), (233, .aload_n 0, 1, 0), (234, .getfield 249, 3, 0), (237, .aload_n 0, 1, 0), (238, .getfield 255, 3, 0), (241, .isub, 1, 0), (242, .iconst 4, 1, 4), (243, .if_icmp .le 7, 3, 0), (246, .iconst 4, 1, 4), (247, .goto 4, 3, 0), (250, .iconst 2, 1, 2), (251, .putfield 262, 3, 0), (254, .goto 113, 3, 0), (257, .aload_n 0, 1, 0), (258, .aload_n 0, 1, 0), (259, .getfield 121, 3, 0), (262, .aload_n 0, 1, 0), (263, .getfield 249, 3, 0), (266, .baload, 1, 0), (267, .i2l, 1, 0), (268, .putfield 258, 3, 0), (271, .aload_n 0, 1, 0), (272, .aload_n 0, 1, 0), (273, .getfield 258, 3, 0), (276, .ldc2_w 280, 3, 0), (279, .lcmp, 1, 0), (280, .ifCond .eq 69, 3, 0), (283, .aload_n 0, 1, 0), (284, .getfield 258, 3, 0), (287, .ldc2_w 282, 3, 0), (290, .lcmp, 1, 0), (291, .ifCond .eq 58, 3, 0), (294, .aload_n 0, 1, 0), (295, .getfield 258, 3, 0), (298, .ldc2_w 284, 3, 0), (301, .lcmp, 1, 0), (302, .ifCond .eq 47, 3, 0), (305, .aload_n 0, 1, 0), (306, .getfield 258, 3, 0), (309, .ldc2_w 286, 3, 0), (312, .lcmp, 1, 0), (313, .ifCond .eq 36, 3, 0), (316, .aload_n 0, 1, 0), (317, .getfield 258, 3, 0), (320, .ldc2_w 288, 3, 0), (323, .lcmp, 1, 0), (324, .ifCond .eq 25, 3, 0), (327, .aload_n 0, 1, 0), (328, .getfield 258, 3, 0), (331, .ldc2_w 290, 3, 0), (334, .lcmp, 1, 0), (335, .ifCond .eq 14, 3, 0), (338, .aload_n 0, 1, 0), (339, .getfield 258, 3, 0), (342, .ldc2_w 292, 3, 0), (345, .lcmp, 1, 0), (346, .ifCond .ne 7, 3, 0), (349, .iconst 3, 1, 3), (350, .goto 4, 3, 0), (353, .iconst 4, 1, 4), (354, .putfield 262, 3, 0), (357, .aload_n 0, 1, 0), (358, .dup, 1, 0), (359, .getfield 249, 3, 0), (362, .iconst 1, 1, 1), (363, .iadd, 1, 0), (364, .putfield 249, 3, 0), (367, .return_, 1, 0)]
set_option maxRecDepth 100000 in
theorem tk_X12_next : g_okT cX12_next tb_X12_next = true := by decide +kernel
abbrev J_X12_next (E : gE) (l : Launch) : Prop := g_J E cX12_next RX12 "next" none 1 tb_X12_next 2 0 0 l
noncomputable def b_X12_next_354 (sx0 : Int32) (σ : gS) (M : gM) (N : gN) : Option (gM × gN) := some ((g_up (g_up M 40 49 sx0) 40 47 (((g_up M 40 49 sx0) 40 47) + (1 : Int32))), N)
noncomputable def b_X12_next_349 (σ : gS) (M : gM) (N : gN) : Option (gM × gN) := b_X12_next_354 3 σ M N
noncomputable def b_X12_next_251 (sx0 : Int32) (σ : gS) (M : gM) (N : gN) : Option (gM × gN) := some ((g_up M 40 49 sx0), N)
noncomputable def b_X12_next_216 (k168 : gS → gM → gN → Option (gM × gN)) (sy0 : Int64) (σ : gS) (M : gM) (N : gN) : Option (gM × gN) := k168 σ (g_up M 40 47 ((M 40 47) + (1 : Int32))) (g_up N 40 53 sy0)
noncomputable def l_X12_next_168 : Nat → gS → gM → gN → Option (gM × gN)
  | 0, _, _, _ => none
  | n + 1, σ, M, N => (f_X12_isDigit σ M).bind fun q169 => if q169 = (0 : Int32) then if (4 : Int32) < ((M 40 47) - (M 40 48)) then b_X12_next_251 4 σ M N else b_X12_next_251 2 σ M N else if ((M 40 47) - (M 40 48)) < (4 : Int32) then if g_in (M 40 47) 400 = true then b_X12_next_216 (fun σ M N => l_X12_next_168 n σ M N) (((10 * (N 40 53)) + ((M 74 (M 40 47).toNatClampNeg).toInt64)) - 48) σ M N else none else b_X12_next_216 (fun σ M N => l_X12_next_168 n σ M N) (Int64.ofNat 0) σ M N
noncomputable def b_X12_next_145 (k96 : gS → gM → gN → Option (gM × gN)) (sy0 : Int64) (σ : gS) (M : gM) (N : gN) : Option (gM × gN) := k96 σ (g_up M 40 47 ((M 40 47) + (1 : Int32))) (g_up N 40 53 sy0)
noncomputable def l_X12_next_96 : Nat → gS → gM → gN → Option (gM × gN)
  | 0, _, _, _ => none
  | n + 1, σ, M, N => (f_X12_isSmall σ M).bind fun q97 => if q97 = (0 : Int32) then some (M, N) else if ((M 40 47) - (M 40 48)) < (7 : Int32) then if g_in (M 40 47) 400 = true then b_X12_next_145 (fun σ M N => l_X12_next_96 n σ M N) (((27 * (N 40 53)) + ((M 74 (M 40 47).toNatClampNeg).toInt64)) - 96) σ M N else none else b_X12_next_145 (fun σ M N => l_X12_next_96 n σ M N) (Int64.ofNat 0) σ M N
noncomputable def b_X12_next_52 (σ : gS) (M : gM) (N : gN) : Option (gM × gN) := if ((g_up M 40 48 (M 40 47)) 40 47) = ((g_up M 40 48 (M 40 47)) 40 46) then some ((g_up (g_up M 40 48 (M 40 47)) 40 49 0), (g_up N 40 53 (Int64.ofNat 0))) else (f_X12_isSmall σ (g_up M 40 48 (M 40 47))).bind fun q85 => if q85 = (0 : Int32) then (f_X12_isDigit σ (g_up M 40 48 (M 40 47))).bind fun q162 => if q162 = (0 : Int32) then if g_in ((g_up M 40 48 (M 40 47)) 40 47) 400 = true then if (lg_cmp ((g_up (g_up N 40 53 (Int64.ofNat 0)) 40 53 (((g_up M 40 48 (M 40 47)) 74 ((g_up M 40 48 (M 40 47)) 40 47).toNatClampNeg).toInt64)) 40 53) 59) = (0 : Int32) then b_X12_next_349 σ (g_up M 40 48 (M 40 47)) (g_up (g_up N 40 53 (Int64.ofNat 0)) 40 53 (((g_up M 40 48 (M 40 47)) 74 ((g_up M 40 48 (M 40 47)) 40 47).toNatClampNeg).toInt64)) else if (lg_cmp ((g_up (g_up N 40 53 (Int64.ofNat 0)) 40 53 (((g_up M 40 48 (M 40 47)) 74 ((g_up M 40 48 (M 40 47)) 40 47).toNatClampNeg).toInt64)) 40 53) 40) = (0 : Int32) then b_X12_next_349 σ (g_up M 40 48 (M 40 47)) (g_up (g_up N 40 53 (Int64.ofNat 0)) 40 53 (((g_up M 40 48 (M 40 47)) 74 ((g_up M 40 48 (M 40 47)) 40 47).toNatClampNeg).toInt64)) else if (lg_cmp ((g_up (g_up N 40 53 (Int64.ofNat 0)) 40 53 (((g_up M 40 48 (M 40 47)) 74 ((g_up M 40 48 (M 40 47)) 40 47).toNatClampNeg).toInt64)) 40 53) 41) = (0 : Int32) then b_X12_next_349 σ (g_up M 40 48 (M 40 47)) (g_up (g_up N 40 53 (Int64.ofNat 0)) 40 53 (((g_up M 40 48 (M 40 47)) 74 ((g_up M 40 48 (M 40 47)) 40 47).toNatClampNeg).toInt64)) else if (lg_cmp ((g_up (g_up N 40 53 (Int64.ofNat 0)) 40 53 (((g_up M 40 48 (M 40 47)) 74 ((g_up M 40 48 (M 40 47)) 40 47).toNatClampNeg).toInt64)) 40 53) 60) = (0 : Int32) then b_X12_next_349 σ (g_up M 40 48 (M 40 47)) (g_up (g_up N 40 53 (Int64.ofNat 0)) 40 53 (((g_up M 40 48 (M 40 47)) 74 ((g_up M 40 48 (M 40 47)) 40 47).toNatClampNeg).toInt64)) else if (lg_cmp ((g_up (g_up N 40 53 (Int64.ofNat 0)) 40 53 (((g_up M 40 48 (M 40 47)) 74 ((g_up M 40 48 (M 40 47)) 40 47).toNatClampNeg).toInt64)) 40 53) 61) = (0 : Int32) then b_X12_next_349 σ (g_up M 40 48 (M 40 47)) (g_up (g_up N 40 53 (Int64.ofNat 0)) 40 53 (((g_up M 40 48 (M 40 47)) 74 ((g_up M 40 48 (M 40 47)) 40 47).toNatClampNeg).toInt64)) else if (lg_cmp ((g_up (g_up N 40 53 (Int64.ofNat 0)) 40 53 (((g_up M 40 48 (M 40 47)) 74 ((g_up M 40 48 (M 40 47)) 40 47).toNatClampNeg).toInt64)) 40 53) 43) = (0 : Int32) then b_X12_next_349 σ (g_up M 40 48 (M 40 47)) (g_up (g_up N 40 53 (Int64.ofNat 0)) 40 53 (((g_up M 40 48 (M 40 47)) 74 ((g_up M 40 48 (M 40 47)) 40 47).toNatClampNeg).toInt64)) else if (lg_cmp ((g_up (g_up N 40 53 (Int64.ofNat 0)) 40 53 (((g_up M 40 48 (M 40 47)) 74 ((g_up M 40 48 (M 40 47)) 40 47).toNatClampNeg).toInt64)) 40 53) 45) = (0 : Int32) then b_X12_next_349 σ (g_up M 40 48 (M 40 47)) (g_up (g_up N 40 53 (Int64.ofNat 0)) 40 53 (((g_up M 40 48 (M 40 47)) 74 ((g_up M 40 48 (M 40 47)) 40 47).toNatClampNeg).toInt64)) else b_X12_next_354 4 σ (g_up M 40 48 (M 40 47)) (g_up (g_up N 40 53 (Int64.ofNat 0)) 40 53 (((g_up M 40 48 (M 40 47)) 74 ((g_up M 40 48 (M 40 47)) 40 47).toNatClampNeg).toInt64)) else none else l_X12_next_168 g_FU σ (g_up M 40 48 (M 40 47)) (g_up N 40 53 (Int64.ofNat 0)) else l_X12_next_96 g_FU σ (g_up (g_up M 40 48 (M 40 47)) 40 49 1) (g_up N 40 53 (Int64.ofNat 0))
noncomputable def b_X12_next_39 (k0 : gS → gM → gN → Option (gM × gN)) (σ : gS) (M : gM) (N : gN) : Option (gM × gN) := k0 σ (g_up M 40 47 ((M 40 47) + (1 : Int32))) N
noncomputable def l_X12_next_0 : Nat → gS → gM → gN → Option (gM × gN)
  | 0, _, _, _ => none
  | n + 1, σ, M, N => if (M 40 47) < (M 40 46) then if g_in (M 40 47) 400 = true then if (M 74 (M 40 47).toNatClampNeg) = (32 : Int32) then b_X12_next_39 (fun σ M N => l_X12_next_0 n σ M N) σ M N else if g_in (M 40 47) 400 = true then if (M 74 (M 40 47).toNatClampNeg) = (10 : Int32) then b_X12_next_39 (fun σ M N => l_X12_next_0 n σ M N) σ M N else b_X12_next_52 σ M N else none else none else b_X12_next_52 σ M N
set_option maxHeartbeats 4000000 in
set_option maxRecDepth 100000 in
theorem p_X12_next_354 {l : Launch} {E : gE} (J : J_X12_next E l) (sx0 : Int32) (σ : gS) (M : gM) (N : gN) (hL : g_layM σ) : g_H E 0 0 354 [(0, vR 40)] [vI sx0, vR 40] (σ, M, N) (b_X12_next_354 sx0 σ M N) (eVMN σ) := by
  unfold b_X12_next_354
  refine r_putI J cls12 rfl (k := 49) (by decide) wf_12_262 rfl (Or.inl rfl) ⟨rfl, rfl⟩ (ly_40 hL) ?_
  show g_H E 0 0 357 [(0, vR 40)] [] (σ, (g_up M 40 49 sx0), N) _ _
  refine r_run J 2 (pc' := 359) (lv' := [(0, vR 40)]) (st' := [vR 40, vR 40]) rfl ?_
  refine r_getI J cls12 rfl (k := 47) (by decide) wf_12_249 rfl (ly_40 hL) ?_
  show g_H E 0 0 362 [(0, vR 40)] [vI ((g_up M 40 49 sx0) 40 47), vR 40] (σ, (g_up M 40 49 sx0), N) _ _
  refine r_run J 2 (pc' := 364) (lv' := [(0, vR 40)]) (st' := [vI (((g_up M 40 49 sx0) 40 47) + (1 : Int32)), vR 40]) rfl ?_
  refine r_putI J cls12 rfl (k := 47) (by decide) wf_12_249 rfl (Or.inl rfl) ⟨rfl, rfl⟩ (ly_40 hL) ?_
  show g_H E 0 0 367 [(0, vR 40)] [] (σ, (g_up (g_up M 40 49 sx0) 40 47 (((g_up M 40 49 sx0) 40 47) + (1 : Int32))), N) _ _
  exact r_vret J rfl rfl rfl (by decide) (by decide)
set_option maxHeartbeats 4000000 in
set_option maxRecDepth 100000 in
theorem p_X12_next_349 {l : Launch} {E : gE} (J : J_X12_next E l) (σ : gS) (M : gM) (N : gN) (hL : g_layM σ) : g_H E 0 0 349 [(0, vR 40)] [vR 40] (σ, M, N) (b_X12_next_349 σ M N) (eVMN σ) := by
  unfold b_X12_next_349
  refine r_run J 2 (pc' := 354) (lv' := [(0, vR 40)]) (st' := [vI 3, vR 40]) rfl ?_
  exact p_X12_next_354 J 3 σ M N hL
set_option maxHeartbeats 4000000 in
set_option maxRecDepth 100000 in
theorem p_X12_next_251 {l : Launch} {E : gE} (J : J_X12_next E l) (sx0 : Int32) (σ : gS) (M : gM) (N : gN) (hL : g_layM σ) : g_H E 0 0 251 [] [vI sx0, vR 40] (σ, M, N) (b_X12_next_251 sx0 σ M N) (eVMN σ) := by
  unfold b_X12_next_251
  refine r_putI J cls12 rfl (k := 49) (by decide) wf_12_262 rfl (Or.inl rfl) ⟨rfl, rfl⟩ (ly_40 hL) ?_
  show g_H E 0 0 254 [] [] (σ, (g_up M 40 49 sx0), N) _ _
  refine r_run J 1 (pc' := 367) (lv' := []) (st' := []) rfl ?_
  exact r_vret J rfl rfl rfl (by decide) (by decide)
set_option maxHeartbeats 4000000 in
set_option maxRecDepth 100000 in
theorem p_X12_next_216 {l : Launch} {E : gE} (J : J_X12_next E l) {k168 : gS → gM → gN → Option (gM × gN)} (H168 : ∀ (σ : gS) (M : gM) (N : gN) (_ : g_layM σ), g_H E 0 0 168 [(0, vR 40)] [] (σ, M, N) (k168 σ M N) (eVMN σ)) (sy0 : Int64) (σ : gS) (M : gM) (N : gN) (hL : g_layM σ) : g_H E 0 0 216 [(0, vR 40)] [vL sy0, vR 40] (σ, M, N) (b_X12_next_216 k168 sy0 σ M N) (eVMN σ) := by
  unfold b_X12_next_216
  refine r_putL J cls12 rfl (k := 53) (by decide) wf_12_258 rfl rfl (ly_40 hL) ?_
  show g_H E 0 0 219 [(0, vR 40)] [] (σ, M, (g_up N 40 53 sy0)) _ _
  refine r_run J 2 (pc' := 221) (lv' := [(0, vR 40)]) (st' := [vR 40, vR 40]) rfl ?_
  refine r_getI J cls12 rfl (k := 47) (by decide) wf_12_249 rfl (ly_40 hL) ?_
  show g_H E 0 0 224 [(0, vR 40)] [vI (M 40 47), vR 40] (σ, M, (g_up N 40 53 sy0)) _ _
  refine r_run J 2 (pc' := 226) (lv' := [(0, vR 40)]) (st' := [vI ((M 40 47) + (1 : Int32)), vR 40]) rfl ?_
  refine r_putI J cls12 rfl (k := 47) (by decide) wf_12_249 rfl (Or.inl rfl) ⟨rfl, rfl⟩ (ly_40 hL) ?_
  show g_H E 0 0 229 [(0, vR 40)] [] (σ, (g_up M 40 47 ((M 40 47) + (1 : Int32))), (g_up N 40 53 sy0)) _ _
  refine r_run J 1 (pc' := 168) (lv' := [(0, vR 40)]) (st' := []) rfl ?_
  exact H168 σ (g_up M 40 47 ((M 40 47) + (1 : Int32))) (g_up N 40 53 sy0) hL
set_option maxHeartbeats 4000000 in
set_option maxRecDepth 100000 in
theorem p_X12_next_168 {l : Launch} {E : gE} (J : J_X12_next E l) : ∀ (n : Nat) (σ : gS) (M : gM) (N : gN) (hL : g_layM σ), g_H E 0 0 168 [(0, vR 40)] [] (σ, M, N) (l_X12_next_168 n σ M N) (eVMN σ) := by
  intro n
  induction n with
  | zero => intros; exact h_none
  | succ n ih =>
    intro σ M N hL
    rw [l_X12_next_168]
    refine r_run J 1 (pc' := 169) (lv' := [(0, vR 40)]) (st' := [vR 40]) rfl ?_
    refine r_callV J (As := []) (st := []) (fun r hr => c_X12_isDigit σ M N hL r hr) cls12 (ly_40 hL) wm_12_273 wy_X12_isDigit wd_X12_isDigit ⟨by decide, by decide, by decide, by decide, Nat.le_of_ble_eq_true rfl⟩ rfl rfl (fun q169 hq169 => ?_)
    show g_H E 0 0 172 [(0, vR 40)] [vI q169] (σ, M, N) _ _
    refine r_if_eq J (tgt := 232) rfl (by decide) (fun c172 => ?_) (fun c172 => ?_)
    · refine r_run J 2 (pc' := 234) (lv' := [(0, vR 40)]) (st' := [vR 40, vR 40]) rfl ?_
      refine r_getI J cls12 rfl (k := 47) (by decide) wf_12_249 rfl (ly_40 hL) ?_
      show g_H E 0 0 237 [(0, vR 40)] [vI (M 40 47), vR 40] (σ, M, N) _ _
      refine r_run J 1 (pc' := 238) (lv' := [(0, vR 40)]) (st' := [vR 40, vI (M 40 47), vR 40]) rfl ?_
      refine r_getI J cls12 rfl (k := 48) (by decide) wf_12_255 rfl (ly_40 hL) ?_
      show g_H E 0 0 241 [(0, vR 40)] [vI (M 40 48), vI (M 40 47), vR 40] (σ, M, N) _ _
      refine r_run J 2 (pc' := 243) (lv' := [(0, vR 40)]) (st' := [vI 4, vI ((M 40 47) - (M 40 48)), vR 40]) rfl ?_
      refine r_icmp_le J (tgt := 250) rfl (by decide) (fun c243 => ?_) (fun c243 => ?_)
      · refine r_run J 2 (pc' := 251) (lv' := [(0, vR 40)]) (st' := [vI 4, vR 40]) rfl ?_
        refine r_sub [] (lv' := []) rfl ?_
        exact p_X12_next_251 J 4 σ M N hL
      · refine r_run J 1 (pc' := 251) (lv' := [(0, vR 40)]) (st' := [vI 2, vR 40]) rfl ?_
        refine r_sub [] (lv' := []) rfl ?_
        exact p_X12_next_251 J 2 σ M N hL
    · refine r_run J 2 (pc' := 177) (lv' := [(0, vR 40)]) (st' := [vR 40, vR 40]) rfl ?_
      refine r_getI J cls12 rfl (k := 47) (by decide) wf_12_249 rfl (ly_40 hL) ?_
      show g_H E 0 0 180 [(0, vR 40)] [vI (M 40 47), vR 40] (σ, M, N) _ _
      refine r_run J 1 (pc' := 181) (lv' := [(0, vR 40)]) (st' := [vR 40, vI (M 40 47), vR 40]) rfl ?_
      refine r_getI J cls12 rfl (k := 48) (by decide) wf_12_255 rfl (ly_40 hL) ?_
      show g_H E 0 0 184 [(0, vR 40)] [vI (M 40 48), vI (M 40 47), vR 40] (σ, M, N) _ _
      refine r_run J 2 (pc' := 186) (lv' := [(0, vR 40)]) (st' := [vI 4, vI ((M 40 47) - (M 40 48)), vR 40]) rfl ?_
      refine r_icmp_ge J (tgt := 215) rfl (by decide) (fun c186 => ?_) (fun c186 => ?_)
      · refine r_ldc2 J rfl wc_12_276 ?_
        refine r_run J 1 (pc' := 193) (lv' := [(0, vR 40)]) (st' := [vR 40, vL 10, vR 40]) rfl ?_
        refine r_getL J cls12 rfl (k := 53) (by decide) wf_12_258 rfl (ly_40 hL) ?_
        show g_H E 0 0 196 [(0, vR 40)] [vL (N 40 53), vL 10, vR 40] (σ, M, N) _ _
        refine r_run J 2 (pc' := 198) (lv' := [(0, vR 40)]) (st' := [vR 40, vL (10 * (N 40 53)), vR 40]) rfl ?_
        refine r_getR J cls12 rfl (k := 45) (t := 13) (by decide) wf_12_121 rfl rfl (ly_40 hL) (lr_40_45 hL) (fun _ => ?_)
        show g_H E 0 0 201 [(0, vR 40)] [vR 74, vL (10 * (N 40 53)), vR 40] (σ, M, N) _ _
        refine r_run J 1 (pc' := 202) (lv' := [(0, vR 40)]) (st' := [vR 40, vR 74, vL (10 * (N 40 53)), vR 40]) rfl ?_
        refine r_getI J cls12 rfl (k := 47) (by decide) wf_12_249 rfl (ly_40 hL) ?_
        show g_H E 0 0 205 [(0, vR 40)] [vI (M 40 47), vR 74, vL (10 * (N 40 53)), vR 40] (σ, M, N) _ _
        refine r_bald J rfl (ly_74 hL) (fun i205 => ?_)
        show g_H E 0 0 206 [(0, vR 40)] [vI (M 74 (M 40 47).toNatClampNeg), vL (10 * (N 40 53)), vR 40] (σ, M, N) _ _
        refine r_run J 2 (pc' := 208) (lv' := [(0, vR 40)]) (st' := [vL ((10 * (N 40 53)) + ((M 74 (M 40 47).toNatClampNeg).toInt64)), vR 40]) rfl ?_
        refine r_ldc2 J rfl wc_12_278 ?_
        refine r_run J 2 (pc' := 216) (lv' := [(0, vR 40)]) (st' := [vL (((10 * (N 40 53)) + ((M 74 (M 40 47).toNatClampNeg).toInt64)) - 48), vR 40]) rfl ?_
        exact p_X12_next_216 J ih (((10 * (N 40 53)) + ((M 74 (M 40 47).toNatClampNeg).toInt64)) - 48) σ M N hL
      · refine r_run J 1 (pc' := 216) (lv' := [(0, vR 40)]) (st' := [vL (Int64.ofNat 0), vR 40]) rfl ?_
        exact p_X12_next_216 J ih (Int64.ofNat 0) σ M N hL
set_option maxHeartbeats 4000000 in
set_option maxRecDepth 100000 in
theorem p_X12_next_145 {l : Launch} {E : gE} (J : J_X12_next E l) {k96 : gS → gM → gN → Option (gM × gN)} (H96 : ∀ (σ : gS) (M : gM) (N : gN) (_ : g_layM σ), g_H E 0 0 96 [(0, vR 40)] [] (σ, M, N) (k96 σ M N) (eVMN σ)) (sy0 : Int64) (σ : gS) (M : gM) (N : gN) (hL : g_layM σ) : g_H E 0 0 145 [(0, vR 40)] [vL sy0, vR 40] (σ, M, N) (b_X12_next_145 k96 sy0 σ M N) (eVMN σ) := by
  unfold b_X12_next_145
  refine r_putL J cls12 rfl (k := 53) (by decide) wf_12_258 rfl rfl (ly_40 hL) ?_
  show g_H E 0 0 148 [(0, vR 40)] [] (σ, M, (g_up N 40 53 sy0)) _ _
  refine r_run J 2 (pc' := 150) (lv' := [(0, vR 40)]) (st' := [vR 40, vR 40]) rfl ?_
  refine r_getI J cls12 rfl (k := 47) (by decide) wf_12_249 rfl (ly_40 hL) ?_
  show g_H E 0 0 153 [(0, vR 40)] [vI (M 40 47), vR 40] (σ, M, (g_up N 40 53 sy0)) _ _
  refine r_run J 2 (pc' := 155) (lv' := [(0, vR 40)]) (st' := [vI ((M 40 47) + (1 : Int32)), vR 40]) rfl ?_
  refine r_putI J cls12 rfl (k := 47) (by decide) wf_12_249 rfl (Or.inl rfl) ⟨rfl, rfl⟩ (ly_40 hL) ?_
  show g_H E 0 0 158 [(0, vR 40)] [] (σ, (g_up M 40 47 ((M 40 47) + (1 : Int32))), (g_up N 40 53 sy0)) _ _
  refine r_run J 1 (pc' := 96) (lv' := [(0, vR 40)]) (st' := []) rfl ?_
  exact H96 σ (g_up M 40 47 ((M 40 47) + (1 : Int32))) (g_up N 40 53 sy0) hL
set_option maxHeartbeats 4000000 in
set_option maxRecDepth 100000 in
theorem p_X12_next_96 {l : Launch} {E : gE} (J : J_X12_next E l) : ∀ (n : Nat) (σ : gS) (M : gM) (N : gN) (hL : g_layM σ), g_H E 0 0 96 [(0, vR 40)] [] (σ, M, N) (l_X12_next_96 n σ M N) (eVMN σ) := by
  intro n
  induction n with
  | zero => intros; exact h_none
  | succ n ih =>
    intro σ M N hL
    rw [l_X12_next_96]
    refine r_run J 1 (pc' := 97) (lv' := [(0, vR 40)]) (st' := [vR 40]) rfl ?_
    refine r_callV J (As := []) (st := []) (fun r hr => c_X12_isSmall σ M N hL r hr) cls12 (ly_40 hL) wm_12_265 wy_X12_isSmall wd_X12_isSmall ⟨by decide, by decide, by decide, by decide, Nat.le_of_ble_eq_true rfl⟩ rfl rfl (fun q97 hq97 => ?_)
    show g_H E 0 0 100 [(0, vR 40)] [vI q97] (σ, M, N) _ _
    refine r_if_eq J (tgt := 367) rfl (by decide) (fun c100 => ?_) (fun c100 => ?_)
    · exact r_vret J rfl rfl rfl (by decide) (by decide)
    · refine r_run J 2 (pc' := 105) (lv' := [(0, vR 40)]) (st' := [vR 40, vR 40]) rfl ?_
      refine r_getI J cls12 rfl (k := 47) (by decide) wf_12_249 rfl (ly_40 hL) ?_
      show g_H E 0 0 108 [(0, vR 40)] [vI (M 40 47), vR 40] (σ, M, N) _ _
      refine r_run J 1 (pc' := 109) (lv' := [(0, vR 40)]) (st' := [vR 40, vI (M 40 47), vR 40]) rfl ?_
      refine r_getI J cls12 rfl (k := 48) (by decide) wf_12_255 rfl (ly_40 hL) ?_
      show g_H E 0 0 112 [(0, vR 40)] [vI (M 40 48), vI (M 40 47), vR 40] (σ, M, N) _ _
      refine r_run J 2 (pc' := 115) (lv' := [(0, vR 40)]) (st' := [vI 7, vI ((M 40 47) - (M 40 48)), vR 40]) rfl ?_
      refine r_icmp_ge J (tgt := 144) rfl (by decide) (fun c115 => ?_) (fun c115 => ?_)
      · refine r_ldc2 J rfl wc_12_269 ?_
        refine r_run J 1 (pc' := 122) (lv' := [(0, vR 40)]) (st' := [vR 40, vL 27, vR 40]) rfl ?_
        refine r_getL J cls12 rfl (k := 53) (by decide) wf_12_258 rfl (ly_40 hL) ?_
        show g_H E 0 0 125 [(0, vR 40)] [vL (N 40 53), vL 27, vR 40] (σ, M, N) _ _
        refine r_run J 2 (pc' := 127) (lv' := [(0, vR 40)]) (st' := [vR 40, vL (27 * (N 40 53)), vR 40]) rfl ?_
        refine r_getR J cls12 rfl (k := 45) (t := 13) (by decide) wf_12_121 rfl rfl (ly_40 hL) (lr_40_45 hL) (fun _ => ?_)
        show g_H E 0 0 130 [(0, vR 40)] [vR 74, vL (27 * (N 40 53)), vR 40] (σ, M, N) _ _
        refine r_run J 1 (pc' := 131) (lv' := [(0, vR 40)]) (st' := [vR 40, vR 74, vL (27 * (N 40 53)), vR 40]) rfl ?_
        refine r_getI J cls12 rfl (k := 47) (by decide) wf_12_249 rfl (ly_40 hL) ?_
        show g_H E 0 0 134 [(0, vR 40)] [vI (M 40 47), vR 74, vL (27 * (N 40 53)), vR 40] (σ, M, N) _ _
        refine r_bald J rfl (ly_74 hL) (fun i134 => ?_)
        show g_H E 0 0 135 [(0, vR 40)] [vI (M 74 (M 40 47).toNatClampNeg), vL (27 * (N 40 53)), vR 40] (σ, M, N) _ _
        refine r_run J 2 (pc' := 137) (lv' := [(0, vR 40)]) (st' := [vL ((27 * (N 40 53)) + ((M 74 (M 40 47).toNatClampNeg).toInt64)), vR 40]) rfl ?_
        refine r_ldc2 J rfl wc_12_271 ?_
        refine r_run J 2 (pc' := 145) (lv' := [(0, vR 40)]) (st' := [vL (((27 * (N 40 53)) + ((M 74 (M 40 47).toNatClampNeg).toInt64)) - 96), vR 40]) rfl ?_
        exact p_X12_next_145 J ih (((27 * (N 40 53)) + ((M 74 (M 40 47).toNatClampNeg).toInt64)) - 96) σ M N hL
      · refine r_run J 1 (pc' := 145) (lv' := [(0, vR 40)]) (st' := [vL (Int64.ofNat 0), vR 40]) rfl ?_
        exact p_X12_next_145 J ih (Int64.ofNat 0) σ M N hL
set_option maxHeartbeats 4000000 in
set_option maxRecDepth 100000 in
theorem p_X12_next_52 {l : Launch} {E : gE} (J : J_X12_next E l) (σ : gS) (M : gM) (N : gN) (hL : g_layM σ) : g_H E 0 0 52 [(0, vR 40)] [] (σ, M, N) (b_X12_next_52 σ M N) (eVMN σ) := by
  unfold b_X12_next_52
  refine r_run J 2 (pc' := 54) (lv' := [(0, vR 40)]) (st' := [vR 40, vR 40]) rfl ?_
  refine r_getI J cls12 rfl (k := 47) (by decide) wf_12_249 rfl (ly_40 hL) ?_
  show g_H E 0 0 57 [(0, vR 40)] [vI (M 40 47), vR 40] (σ, M, N) _ _
  refine r_putI J cls12 rfl (k := 48) (by decide) wf_12_255 rfl (Or.inl rfl) ⟨rfl, rfl⟩ (ly_40 hL) ?_
  show g_H E 0 0 60 [(0, vR 40)] [] (σ, (g_up M 40 48 (M 40 47)), N) _ _
  refine r_run J 2 (pc' := 62) (lv' := [(0, vR 40)]) (st' := [vL (Int64.ofNat 0), vR 40]) rfl ?_
  refine r_putL J cls12 rfl (k := 53) (by decide) wf_12_258 rfl rfl (ly_40 hL) ?_
  show g_H E 0 0 65 [(0, vR 40)] [] (σ, (g_up M 40 48 (M 40 47)), (g_up N 40 53 (Int64.ofNat 0))) _ _
  refine r_run J 1 (pc' := 66) (lv' := [(0, vR 40)]) (st' := [vR 40]) rfl ?_
  refine r_getI J cls12 rfl (k := 47) (by decide) wf_12_249 rfl (ly_40 hL) ?_
  show g_H E 0 0 69 [(0, vR 40)] [vI ((g_up M 40 48 (M 40 47)) 40 47)] (σ, (g_up M 40 48 (M 40 47)), (g_up N 40 53 (Int64.ofNat 0))) _ _
  refine r_run J 1 (pc' := 70) (lv' := [(0, vR 40)]) (st' := [vR 40, vI ((g_up M 40 48 (M 40 47)) 40 47)]) rfl ?_
  refine r_getI J cls12 rfl (k := 46) (by decide) wf_12_252 rfl (ly_40 hL) ?_
  show g_H E 0 0 73 [(0, vR 40)] [vI ((g_up M 40 48 (M 40 47)) 40 46), vI ((g_up M 40 48 (M 40 47)) 40 47)] (σ, (g_up M 40 48 (M 40 47)), (g_up N 40 53 (Int64.ofNat 0))) _ _
  refine r_icmp_ne J (tgt := 84) rfl (by decide) (fun c73 => ?_) (fun c73 => ?_)
  · refine r_run J 2 (pc' := 78) (lv' := [(0, vR 40)]) (st' := [vI 0, vR 40]) rfl ?_
    refine r_putI J cls12 rfl (k := 49) (by decide) wf_12_262 rfl (Or.inl rfl) ⟨rfl, rfl⟩ (ly_40 hL) ?_
    show g_H E 0 0 81 [(0, vR 40)] [] (σ, (g_up (g_up M 40 48 (M 40 47)) 40 49 0), (g_up N 40 53 (Int64.ofNat 0))) _ _
    refine r_run J 1 (pc' := 367) (lv' := [(0, vR 40)]) (st' := []) rfl ?_
    exact r_vret J rfl rfl rfl (by decide) (by decide)
  · refine r_run J 1 (pc' := 85) (lv' := [(0, vR 40)]) (st' := [vR 40]) rfl ?_
    refine r_callV J (As := []) (st := []) (fun r hr => c_X12_isSmall σ (g_up M 40 48 (M 40 47)) (g_up N 40 53 (Int64.ofNat 0)) hL r hr) cls12 (ly_40 hL) wm_12_265 wy_X12_isSmall wd_X12_isSmall ⟨by decide, by decide, by decide, by decide, Nat.le_of_ble_eq_true rfl⟩ rfl rfl (fun q85 hq85 => ?_)
    show g_H E 0 0 88 [(0, vR 40)] [vI q85] (σ, (g_up M 40 48 (M 40 47)), (g_up N 40 53 (Int64.ofNat 0))) _ _
    refine r_if_eq J (tgt := 161) rfl (by decide) (fun c88 => ?_) (fun c88 => ?_)
    · refine r_run J 1 (pc' := 162) (lv' := [(0, vR 40)]) (st' := [vR 40]) rfl ?_
      refine r_callV J (As := []) (st := []) (fun r hr => c_X12_isDigit σ (g_up M 40 48 (M 40 47)) (g_up N 40 53 (Int64.ofNat 0)) hL r hr) cls12 (ly_40 hL) wm_12_273 wy_X12_isDigit wd_X12_isDigit ⟨by decide, by decide, by decide, by decide, Nat.le_of_ble_eq_true rfl⟩ rfl rfl (fun q162 hq162 => ?_)
      show g_H E 0 0 165 [(0, vR 40)] [vI q162] (σ, (g_up M 40 48 (M 40 47)), (g_up N 40 53 (Int64.ofNat 0))) _ _
      refine r_if_eq J (tgt := 257) rfl (by decide) (fun c165 => ?_) (fun c165 => ?_)
      · refine r_run J 2 (pc' := 259) (lv' := [(0, vR 40)]) (st' := [vR 40, vR 40]) rfl ?_
        refine r_getR J cls12 rfl (k := 45) (t := 13) (by decide) wf_12_121 rfl rfl (ly_40 hL) (lr_40_45 hL) (fun _ => ?_)
        show g_H E 0 0 262 [(0, vR 40)] [vR 74, vR 40] (σ, (g_up M 40 48 (M 40 47)), (g_up N 40 53 (Int64.ofNat 0))) _ _
        refine r_run J 1 (pc' := 263) (lv' := [(0, vR 40)]) (st' := [vR 40, vR 74, vR 40]) rfl ?_
        refine r_getI J cls12 rfl (k := 47) (by decide) wf_12_249 rfl (ly_40 hL) ?_
        show g_H E 0 0 266 [(0, vR 40)] [vI ((g_up M 40 48 (M 40 47)) 40 47), vR 74, vR 40] (σ, (g_up M 40 48 (M 40 47)), (g_up N 40 53 (Int64.ofNat 0))) _ _
        refine r_bald J rfl (ly_74 hL) (fun i266 => ?_)
        show g_H E 0 0 267 [(0, vR 40)] [vI ((g_up M 40 48 (M 40 47)) 74 ((g_up M 40 48 (M 40 47)) 40 47).toNatClampNeg), vR 40] (σ, (g_up M 40 48 (M 40 47)), (g_up N 40 53 (Int64.ofNat 0))) _ _
        refine r_run J 1 (pc' := 268) (lv' := [(0, vR 40)]) (st' := [vL ((g_up M 40 48 (M 40 47)) 74 ((g_up M 40 48 (M 40 47)) 40 47).toNatClampNeg).toInt64, vR 40]) rfl ?_
        refine r_putL J cls12 rfl (k := 53) (by decide) wf_12_258 rfl rfl (ly_40 hL) ?_
        show g_H E 0 0 271 [(0, vR 40)] [] (σ, (g_up M 40 48 (M 40 47)), (g_up (g_up N 40 53 (Int64.ofNat 0)) 40 53 (((g_up M 40 48 (M 40 47)) 74 ((g_up M 40 48 (M 40 47)) 40 47).toNatClampNeg).toInt64))) _ _
        refine r_run J 2 (pc' := 273) (lv' := [(0, vR 40)]) (st' := [vR 40, vR 40]) rfl ?_
        refine r_getL J cls12 rfl (k := 53) (by decide) wf_12_258 rfl (ly_40 hL) ?_
        show g_H E 0 0 276 [(0, vR 40)] [vL ((g_up (g_up N 40 53 (Int64.ofNat 0)) 40 53 (((g_up M 40 48 (M 40 47)) 74 ((g_up M 40 48 (M 40 47)) 40 47).toNatClampNeg).toInt64)) 40 53), vR 40] (σ, (g_up M 40 48 (M 40 47)), (g_up (g_up N 40 53 (Int64.ofNat 0)) 40 53 (((g_up M 40 48 (M 40 47)) 74 ((g_up M 40 48 (M 40 47)) 40 47).toNatClampNeg).toInt64))) _ _
        refine r_ldc2 J rfl wc_12_280 ?_
        refine r_run J 1 (pc' := 280) (lv' := [(0, vR 40)]) (st' := [vI (lg_cmp ((g_up (g_up N 40 53 (Int64.ofNat 0)) 40 53 (((g_up M 40 48 (M 40 47)) 74 ((g_up M 40 48 (M 40 47)) 40 47).toNatClampNeg).toInt64)) 40 53) 59), vR 40]) rfl ?_
        refine r_if_eq J (tgt := 349) rfl (by decide) (fun c280 => ?_) (fun c280 => ?_)
        · exact p_X12_next_349 J σ (g_up M 40 48 (M 40 47)) (g_up (g_up N 40 53 (Int64.ofNat 0)) 40 53 (((g_up M 40 48 (M 40 47)) 74 ((g_up M 40 48 (M 40 47)) 40 47).toNatClampNeg).toInt64)) hL
        · refine r_run J 1 (pc' := 284) (lv' := [(0, vR 40)]) (st' := [vR 40, vR 40]) rfl ?_
          refine r_getL J cls12 rfl (k := 53) (by decide) wf_12_258 rfl (ly_40 hL) ?_
          show g_H E 0 0 287 [(0, vR 40)] [vL ((g_up (g_up N 40 53 (Int64.ofNat 0)) 40 53 (((g_up M 40 48 (M 40 47)) 74 ((g_up M 40 48 (M 40 47)) 40 47).toNatClampNeg).toInt64)) 40 53), vR 40] (σ, (g_up M 40 48 (M 40 47)), (g_up (g_up N 40 53 (Int64.ofNat 0)) 40 53 (((g_up M 40 48 (M 40 47)) 74 ((g_up M 40 48 (M 40 47)) 40 47).toNatClampNeg).toInt64))) _ _
          refine r_ldc2 J rfl wc_12_282 ?_
          refine r_run J 1 (pc' := 291) (lv' := [(0, vR 40)]) (st' := [vI (lg_cmp ((g_up (g_up N 40 53 (Int64.ofNat 0)) 40 53 (((g_up M 40 48 (M 40 47)) 74 ((g_up M 40 48 (M 40 47)) 40 47).toNatClampNeg).toInt64)) 40 53) 40), vR 40]) rfl ?_
          refine r_if_eq J (tgt := 349) rfl (by decide) (fun c291 => ?_) (fun c291 => ?_)
          · exact p_X12_next_349 J σ (g_up M 40 48 (M 40 47)) (g_up (g_up N 40 53 (Int64.ofNat 0)) 40 53 (((g_up M 40 48 (M 40 47)) 74 ((g_up M 40 48 (M 40 47)) 40 47).toNatClampNeg).toInt64)) hL
          · refine r_run J 1 (pc' := 295) (lv' := [(0, vR 40)]) (st' := [vR 40, vR 40]) rfl ?_
            refine r_getL J cls12 rfl (k := 53) (by decide) wf_12_258 rfl (ly_40 hL) ?_
            show g_H E 0 0 298 [(0, vR 40)] [vL ((g_up (g_up N 40 53 (Int64.ofNat 0)) 40 53 (((g_up M 40 48 (M 40 47)) 74 ((g_up M 40 48 (M 40 47)) 40 47).toNatClampNeg).toInt64)) 40 53), vR 40] (σ, (g_up M 40 48 (M 40 47)), (g_up (g_up N 40 53 (Int64.ofNat 0)) 40 53 (((g_up M 40 48 (M 40 47)) 74 ((g_up M 40 48 (M 40 47)) 40 47).toNatClampNeg).toInt64))) _ _
            refine r_ldc2 J rfl wc_12_284 ?_
            refine r_run J 1 (pc' := 302) (lv' := [(0, vR 40)]) (st' := [vI (lg_cmp ((g_up (g_up N 40 53 (Int64.ofNat 0)) 40 53 (((g_up M 40 48 (M 40 47)) 74 ((g_up M 40 48 (M 40 47)) 40 47).toNatClampNeg).toInt64)) 40 53) 41), vR 40]) rfl ?_
            refine r_if_eq J (tgt := 349) rfl (by decide) (fun c302 => ?_) (fun c302 => ?_)
            · exact p_X12_next_349 J σ (g_up M 40 48 (M 40 47)) (g_up (g_up N 40 53 (Int64.ofNat 0)) 40 53 (((g_up M 40 48 (M 40 47)) 74 ((g_up M 40 48 (M 40 47)) 40 47).toNatClampNeg).toInt64)) hL
            · refine r_run J 1 (pc' := 306) (lv' := [(0, vR 40)]) (st' := [vR 40, vR 40]) rfl ?_
              refine r_getL J cls12 rfl (k := 53) (by decide) wf_12_258 rfl (ly_40 hL) ?_
              show g_H E 0 0 309 [(0, vR 40)] [vL ((g_up (g_up N 40 53 (Int64.ofNat 0)) 40 53 (((g_up M 40 48 (M 40 47)) 74 ((g_up M 40 48 (M 40 47)) 40 47).toNatClampNeg).toInt64)) 40 53), vR 40] (σ, (g_up M 40 48 (M 40 47)), (g_up (g_up N 40 53 (Int64.ofNat 0)) 40 53 (((g_up M 40 48 (M 40 47)) 74 ((g_up M 40 48 (M 40 47)) 40 47).toNatClampNeg).toInt64))) _ _
              refine r_ldc2 J rfl wc_12_286 ?_
              refine r_run J 1 (pc' := 313) (lv' := [(0, vR 40)]) (st' := [vI (lg_cmp ((g_up (g_up N 40 53 (Int64.ofNat 0)) 40 53 (((g_up M 40 48 (M 40 47)) 74 ((g_up M 40 48 (M 40 47)) 40 47).toNatClampNeg).toInt64)) 40 53) 60), vR 40]) rfl ?_
              refine r_if_eq J (tgt := 349) rfl (by decide) (fun c313 => ?_) (fun c313 => ?_)
              · exact p_X12_next_349 J σ (g_up M 40 48 (M 40 47)) (g_up (g_up N 40 53 (Int64.ofNat 0)) 40 53 (((g_up M 40 48 (M 40 47)) 74 ((g_up M 40 48 (M 40 47)) 40 47).toNatClampNeg).toInt64)) hL
              · refine r_run J 1 (pc' := 317) (lv' := [(0, vR 40)]) (st' := [vR 40, vR 40]) rfl ?_
                refine r_getL J cls12 rfl (k := 53) (by decide) wf_12_258 rfl (ly_40 hL) ?_
                show g_H E 0 0 320 [(0, vR 40)] [vL ((g_up (g_up N 40 53 (Int64.ofNat 0)) 40 53 (((g_up M 40 48 (M 40 47)) 74 ((g_up M 40 48 (M 40 47)) 40 47).toNatClampNeg).toInt64)) 40 53), vR 40] (σ, (g_up M 40 48 (M 40 47)), (g_up (g_up N 40 53 (Int64.ofNat 0)) 40 53 (((g_up M 40 48 (M 40 47)) 74 ((g_up M 40 48 (M 40 47)) 40 47).toNatClampNeg).toInt64))) _ _
                refine r_ldc2 J rfl wc_12_288 ?_
                refine r_run J 1 (pc' := 324) (lv' := [(0, vR 40)]) (st' := [vI (lg_cmp ((g_up (g_up N 40 53 (Int64.ofNat 0)) 40 53 (((g_up M 40 48 (M 40 47)) 74 ((g_up M 40 48 (M 40 47)) 40 47).toNatClampNeg).toInt64)) 40 53) 61), vR 40]) rfl ?_
                refine r_if_eq J (tgt := 349) rfl (by decide) (fun c324 => ?_) (fun c324 => ?_)
                · exact p_X12_next_349 J σ (g_up M 40 48 (M 40 47)) (g_up (g_up N 40 53 (Int64.ofNat 0)) 40 53 (((g_up M 40 48 (M 40 47)) 74 ((g_up M 40 48 (M 40 47)) 40 47).toNatClampNeg).toInt64)) hL
                · refine r_run J 1 (pc' := 328) (lv' := [(0, vR 40)]) (st' := [vR 40, vR 40]) rfl ?_
                  refine r_getL J cls12 rfl (k := 53) (by decide) wf_12_258 rfl (ly_40 hL) ?_
                  show g_H E 0 0 331 [(0, vR 40)] [vL ((g_up (g_up N 40 53 (Int64.ofNat 0)) 40 53 (((g_up M 40 48 (M 40 47)) 74 ((g_up M 40 48 (M 40 47)) 40 47).toNatClampNeg).toInt64)) 40 53), vR 40] (σ, (g_up M 40 48 (M 40 47)), (g_up (g_up N 40 53 (Int64.ofNat 0)) 40 53 (((g_up M 40 48 (M 40 47)) 74 ((g_up M 40 48 (M 40 47)) 40 47).toNatClampNeg).toInt64))) _ _
                  refine r_ldc2 J rfl wc_12_290 ?_
                  refine r_run J 1 (pc' := 335) (lv' := [(0, vR 40)]) (st' := [vI (lg_cmp ((g_up (g_up N 40 53 (Int64.ofNat 0)) 40 53 (((g_up M 40 48 (M 40 47)) 74 ((g_up M 40 48 (M 40 47)) 40 47).toNatClampNeg).toInt64)) 40 53) 43), vR 40]) rfl ?_
                  refine r_if_eq J (tgt := 349) rfl (by decide) (fun c335 => ?_) (fun c335 => ?_)
                  · exact p_X12_next_349 J σ (g_up M 40 48 (M 40 47)) (g_up (g_up N 40 53 (Int64.ofNat 0)) 40 53 (((g_up M 40 48 (M 40 47)) 74 ((g_up M 40 48 (M 40 47)) 40 47).toNatClampNeg).toInt64)) hL
                  · refine r_run J 1 (pc' := 339) (lv' := [(0, vR 40)]) (st' := [vR 40, vR 40]) rfl ?_
                    refine r_getL J cls12 rfl (k := 53) (by decide) wf_12_258 rfl (ly_40 hL) ?_
                    show g_H E 0 0 342 [(0, vR 40)] [vL ((g_up (g_up N 40 53 (Int64.ofNat 0)) 40 53 (((g_up M 40 48 (M 40 47)) 74 ((g_up M 40 48 (M 40 47)) 40 47).toNatClampNeg).toInt64)) 40 53), vR 40] (σ, (g_up M 40 48 (M 40 47)), (g_up (g_up N 40 53 (Int64.ofNat 0)) 40 53 (((g_up M 40 48 (M 40 47)) 74 ((g_up M 40 48 (M 40 47)) 40 47).toNatClampNeg).toInt64))) _ _
                    refine r_ldc2 J rfl wc_12_292 ?_
                    refine r_run J 1 (pc' := 346) (lv' := [(0, vR 40)]) (st' := [vI (lg_cmp ((g_up (g_up N 40 53 (Int64.ofNat 0)) 40 53 (((g_up M 40 48 (M 40 47)) 74 ((g_up M 40 48 (M 40 47)) 40 47).toNatClampNeg).toInt64)) 40 53) 45), vR 40]) rfl ?_
                    refine r_if_ne J (tgt := 353) rfl (by decide) (fun c346 => ?_) (fun c346 => ?_)
                    · exact p_X12_next_349 J σ (g_up M 40 48 (M 40 47)) (g_up (g_up N 40 53 (Int64.ofNat 0)) 40 53 (((g_up M 40 48 (M 40 47)) 74 ((g_up M 40 48 (M 40 47)) 40 47).toNatClampNeg).toInt64)) hL
                    · refine r_run J 1 (pc' := 354) (lv' := [(0, vR 40)]) (st' := [vI 4, vR 40]) rfl ?_
                      exact p_X12_next_354 J 4 σ (g_up M 40 48 (M 40 47)) (g_up (g_up N 40 53 (Int64.ofNat 0)) 40 53 (((g_up M 40 48 (M 40 47)) 74 ((g_up M 40 48 (M 40 47)) 40 47).toNatClampNeg).toInt64)) hL
      · exact p_X12_next_168 J g_FU σ (g_up M 40 48 (M 40 47)) (g_up N 40 53 (Int64.ofNat 0)) hL
    · refine r_run J 2 (pc' := 93) (lv' := [(0, vR 40)]) (st' := [vI 1, vR 40]) rfl ?_
      refine r_putI J cls12 rfl (k := 49) (by decide) wf_12_262 rfl (Or.inl rfl) ⟨rfl, rfl⟩ (ly_40 hL) ?_
      show g_H E 0 0 96 [(0, vR 40)] [] (σ, (g_up (g_up M 40 48 (M 40 47)) 40 49 1), (g_up N 40 53 (Int64.ofNat 0))) _ _
      exact p_X12_next_96 J g_FU σ (g_up (g_up M 40 48 (M 40 47)) 40 49 1) (g_up N 40 53 (Int64.ofNat 0)) hL
set_option maxHeartbeats 4000000 in
set_option maxRecDepth 100000 in
theorem p_X12_next_39 {l : Launch} {E : gE} (J : J_X12_next E l) {k0 : gS → gM → gN → Option (gM × gN)} (H0 : ∀ (σ : gS) (M : gM) (N : gN) (_ : g_layM σ), g_H E 0 0 0 [(0, vR 40)] [] (σ, M, N) (k0 σ M N) (eVMN σ)) (σ : gS) (M : gM) (N : gN) (hL : g_layM σ) : g_H E 0 0 39 [(0, vR 40)] [] (σ, M, N) (b_X12_next_39 k0 σ M N) (eVMN σ) := by
  unfold b_X12_next_39
  refine r_run J 2 (pc' := 41) (lv' := [(0, vR 40)]) (st' := [vR 40, vR 40]) rfl ?_
  refine r_getI J cls12 rfl (k := 47) (by decide) wf_12_249 rfl (ly_40 hL) ?_
  show g_H E 0 0 44 [(0, vR 40)] [vI (M 40 47), vR 40] (σ, M, N) _ _
  refine r_run J 2 (pc' := 46) (lv' := [(0, vR 40)]) (st' := [vI ((M 40 47) + (1 : Int32)), vR 40]) rfl ?_
  refine r_putI J cls12 rfl (k := 47) (by decide) wf_12_249 rfl (Or.inl rfl) ⟨rfl, rfl⟩ (ly_40 hL) ?_
  show g_H E 0 0 49 [(0, vR 40)] [] (σ, (g_up M 40 47 ((M 40 47) + (1 : Int32))), N) _ _
  refine r_run J 1 (pc' := 0) (lv' := [(0, vR 40)]) (st' := []) rfl ?_
  exact H0 σ (g_up M 40 47 ((M 40 47) + (1 : Int32))) N hL
set_option maxHeartbeats 4000000 in
set_option maxRecDepth 100000 in
theorem p_X12_next_0 {l : Launch} {E : gE} (J : J_X12_next E l) : ∀ (n : Nat) (σ : gS) (M : gM) (N : gN) (hL : g_layM σ), g_H E 0 0 0 [(0, vR 40)] [] (σ, M, N) (l_X12_next_0 n σ M N) (eVMN σ) := by
  intro n
  induction n with
  | zero => intros; exact h_none
  | succ n ih =>
    intro σ M N hL
    rw [l_X12_next_0]
    refine r_run J 1 (pc' := 1) (lv' := [(0, vR 40)]) (st' := [vR 40]) rfl ?_
    refine r_getI J cls12 rfl (k := 47) (by decide) wf_12_249 rfl (ly_40 hL) ?_
    show g_H E 0 0 4 [(0, vR 40)] [vI (M 40 47)] (σ, M, N) _ _
    refine r_run J 1 (pc' := 5) (lv' := [(0, vR 40)]) (st' := [vR 40, vI (M 40 47)]) rfl ?_
    refine r_getI J cls12 rfl (k := 46) (by decide) wf_12_252 rfl (ly_40 hL) ?_
    show g_H E 0 0 8 [(0, vR 40)] [vI (M 40 46), vI (M 40 47)] (σ, M, N) _ _
    refine r_icmp_ge J (tgt := 52) rfl (by decide) (fun c8 => ?_) (fun c8 => ?_)
    · refine r_run J 1 (pc' := 12) (lv' := [(0, vR 40)]) (st' := [vR 40]) rfl ?_
      refine r_getR J cls12 rfl (k := 45) (t := 13) (by decide) wf_12_121 rfl rfl (ly_40 hL) (lr_40_45 hL) (fun _ => ?_)
      show g_H E 0 0 15 [(0, vR 40)] [vR 74] (σ, M, N) _ _
      refine r_run J 1 (pc' := 16) (lv' := [(0, vR 40)]) (st' := [vR 40, vR 74]) rfl ?_
      refine r_getI J cls12 rfl (k := 47) (by decide) wf_12_249 rfl (ly_40 hL) ?_
      show g_H E 0 0 19 [(0, vR 40)] [vI (M 40 47), vR 74] (σ, M, N) _ _
      refine r_bald J rfl (ly_74 hL) (fun i19 => ?_)
      show g_H E 0 0 20 [(0, vR 40)] [vI (M 74 (M 40 47).toNatClampNeg)] (σ, M, N) _ _
      refine r_run J 1 (pc' := 22) (lv' := [(0, vR 40)]) (st' := [vI 32, vI (M 74 (M 40 47).toNatClampNeg)]) rfl ?_
      refine r_icmp_eq J (tgt := 39) rfl (by decide) (fun c22 => ?_) (fun c22 => ?_)
      · exact p_X12_next_39 J ih σ M N hL
      · refine r_run J 1 (pc' := 26) (lv' := [(0, vR 40)]) (st' := [vR 40]) rfl ?_
        refine r_getR J cls12 rfl (k := 45) (t := 13) (by decide) wf_12_121 rfl rfl (ly_40 hL) (lr_40_45 hL) (fun _ => ?_)
        show g_H E 0 0 29 [(0, vR 40)] [vR 74] (σ, M, N) _ _
        refine r_run J 1 (pc' := 30) (lv' := [(0, vR 40)]) (st' := [vR 40, vR 74]) rfl ?_
        refine r_getI J cls12 rfl (k := 47) (by decide) wf_12_249 rfl (ly_40 hL) ?_
        show g_H E 0 0 33 [(0, vR 40)] [vI (M 40 47), vR 74] (σ, M, N) _ _
        refine r_bald J rfl (ly_74 hL) (fun i33 => ?_)
        show g_H E 0 0 34 [(0, vR 40)] [vI (M 74 (M 40 47).toNatClampNeg)] (σ, M, N) _ _
        refine r_run J 1 (pc' := 36) (lv' := [(0, vR 40)]) (st' := [vI 10, vI (M 74 (M 40 47).toNatClampNeg)]) rfl ?_
        refine r_icmp_ne J (tgt := 52) rfl (by decide) (fun c36 => ?_) (fun c36 => ?_)
        · exact p_X12_next_39 J ih σ M N hL
        · exact p_X12_next_52 J σ M N hL
    · exact p_X12_next_52 J σ M N hL
noncomputable def f_X12_next (σ : gS) (M : gM) (N : gN) : Option (gM × gN) := l_X12_next_0 g_FU σ M N
theorem c_X12_next {l : Launch} (σ : gS) (M : gM) (N : gN) (hL : g_layM σ) (r : gM × gN) (h : f_X12_next σ M N = some r) : g_Ct l yX12_next cX12_next 1 none 2 0 0 [vR 40] (σ, M, N) (eVMN σ r) :=
  g_Ct.of tb_X12_next (by decide +kernel) tk_X12_next (Nat.le_of_ble_eq_true rfl) (fun E J => p_X12_next_0 J g_FU σ M N hL r h)
