def tb_X12_townOf : gT := [(0, .aload_n 0, 1, 0), (1, .iload_n 1, 1, 0), (2, .invokevirtual 170, 3, 0), (5, .ifCond .ne 5, 3, 0), (8, .iconst (-1), 1, (-1)), (9, .ireturn, 1, 0), (10, .iload_n 2, 1, 0), (11, .tableswitch 115 0 8 #[49, 56, 63, 70, 76, 82, 88, 94, 108], 49, 0), (60, .aload_n 0, 1, 0), (61, .getfield 45, 3, 0), (64, .iload_n 1, 1, 0), (65, .iaload, 1, 0), (66, .ireturn, 1, 0), (67, .aload_n 0, 1, 0), (68, .getfield 48, 3, 0), (71, .iload_n 1, 1, 0), (72, .iaload, 1, 0), (73, .ireturn, 1, 0), (74, .aload_n 0, 1, 0), (75, .getfield 51, 3, 0), (78, .iload_n 1, 1, 0), (79, .iaload, 1, 0), (80, .ireturn, 1, 0), (81, .aload_n 0, 1, 0), (82, .iload_n 1, 1, 0), (83, .invokevirtual 375, 3, 0), (86, .ireturn, 1, 0), (87, .aload_n 0, 1, 0), (88, .iload_n 1, 1, 0), (89, .invokevirtual 378, 3, 0), (92, .ireturn, 1, 0), (93, .aload_n 0, 1, 0), (94, .iload_n 1, 1, 0), (95, .invokevirtual 381, 3, 0), (98, .ireturn, 1, 0), (99, .aload_n 0, 1, 0), (100, .iload_n 1, 1, 0), (101, .invokevirtual 445, 3, 0), (104, .ireturn, 1, 0), (105, .aload_n 0, 1, 0), (106, .iload_n 1, 1, 0), (107, .invokevirtual 174, 3, 0), (110, .ifCond .eq 7, 3, 0), (113, .iconst 1, 1, 1), (114, .goto 4, 3, 0), (117, .iconst 0, 1, 0), (118, .ireturn, 1, 0), (119, .aload_n 0, 1, 0), (120, .getfield 118, 3, 0), (123, .iload_n 1, 1, 0), (124, .iaload, 1, 0), (125, .ireturn, 1, 0), (126, .iconst (-1), 1, (-1)), (127, .ireturn, 1, 0)]
set_option maxRecDepth 100000 in
theorem tk_X12_townOf : g_okT cX12_townOf tb_X12_townOf = true := by decide +kernel
abbrev J_X12_townOf (E : gE) (l : Launch) : Prop := g_J E cX12_townOf RX12 "townOf" (some .int) 3 tb_X12_townOf 3 0 0 l
noncomputable def b_X12_townOf_0 (x1 : Int32) (x2 : Int32) (σ : gS) (M : gM) : Option (Int32) := (f_X12_isTown x1 σ M).bind fun q2 => if q2 = (0 : Int32) then some (-1) else if x2 = 0 then if g_in x1 6 = true then some (M 50 x1.toNatClampNeg) else none else if x2 = 1 then if g_in x1 6 = true then some (M 51 x1.toNatClampNeg) else none else if x2 = 2 then if g_in x1 6 = true then some (M 52 x1.toNatClampNeg) else none else if x2 = 3 then (f_X12_heldIn x1 σ M).bind fun q83 => some q83 else if x2 = 4 then (f_X12_usedIn x1 σ M).bind fun q89 => some q89 else if x2 = 5 then (f_X12_peopleIn x1 σ M).bind fun q95 => some q95 else if x2 = 6 then (f_X12_costOf x1 σ M).bind fun q101 => some q101 else if x2 = 7 then (f_X12_isOver x1 σ M).bind fun q107 => if q107 = (0 : Int32) then some 0 else some 1 else if x2 = 8 then if g_in x1 6 = true then some (M 73 x1.toNatClampNeg) else none else some (-1)
set_option maxHeartbeats 4000000 in
set_option maxRecDepth 100000 in
theorem p_X12_townOf_0 {l : Launch} {E : gE} (J : J_X12_townOf E l) (x1 : Int32) (x2 : Int32) (σ : gS) (M : gM) (N : gN) (hL : g_layM σ) : g_H E 0 0 0 [(0, vR 40), (1, vI x1), (2, vI x2)] [] (σ, M, N) (b_X12_townOf_0 x1 x2 σ M) (eI σ M N) := by
  unfold b_X12_townOf_0
  refine r_run J 2 (pc' := 2) (lv' := [(0, vR 40), (1, vI x1), (2, vI x2)]) (st' := [vI x1, vR 40]) rfl ?_
  refine r_callV J (As := [vI x1]) (st := []) (fun r hr => c_X12_isTown x1 σ M N hL r hr) cls12 (ly_40 hL) wm_12_170 wy_X12_isTown wd_X12_isTown ⟨by decide, by decide, by decide, by decide, Nat.le_of_ble_eq_true rfl⟩ rfl rfl (fun q2 hq2 => ?_)
  show g_H E 0 0 5 [(0, vR 40), (1, vI x1), (2, vI x2)] [vI q2] (σ, M, N) _ _
  refine r_if_ne J (tgt := 10) rfl (by decide) (fun c5 => ?_) (fun c5 => ?_)
  · refine r_run J 1 (pc' := 9) (lv' := [(0, vR 40), (1, vI x1), (2, vI x2)]) (st' := [vI (-1)]) rfl ?_
    exact r_iret J rfl rfl rfl rfl (by decide) (by decide)
  · refine r_run J 1 (pc' := 11) (lv' := [(0, vR 40), (1, vI x1), (2, vI x2)]) (st' := [vI x2]) rfl ?_
    refine r_table J [(0, 60), (1, 67), (2, 74), (3, 81), (4, 87), (5, 93), (6, 99), (7, 105), (8, 119)] (d := 126) rfl (by decide +kernel) (List.forall_mem_cons.mpr ⟨fun hc => ?_, List.forall_mem_cons.mpr ⟨fun hc => ?_, List.forall_mem_cons.mpr ⟨fun hc => ?_, List.forall_mem_cons.mpr ⟨fun hc => ?_, List.forall_mem_cons.mpr ⟨fun hc => ?_, List.forall_mem_cons.mpr ⟨fun hc => ?_, List.forall_mem_cons.mpr ⟨fun hc => ?_, List.forall_mem_cons.mpr ⟨fun hc => ?_, List.forall_mem_cons.mpr ⟨fun hc => ?_, fun _ h => absurd h List.not_mem_nil⟩⟩⟩⟩⟩⟩⟩⟩⟩) (fun hd => ?_)
    · rw [if_pos hc]
      refine r_run J 1 (pc' := 61) (lv' := [(0, vR 40), (1, vI x1), (2, vI x2)]) (st' := [vR 40]) rfl ?_
      refine r_getR J cls12 rfl (k := 18) (t := 14) (by decide) wf_12_45 rfl rfl (ly_40 hL) (lr_40_18 hL) (fun _ => ?_)
      show g_H E 0 0 64 [(0, vR 40), (1, vI x1), (2, vI x2)] [vR 50] (σ, M, N) _ _
      refine r_run J 1 (pc' := 65) (lv' := [(0, vR 40), (1, vI x1), (2, vI x2)]) (st' := [vI x1, vR 50]) rfl ?_
      refine r_iald J rfl (ly_50 hL) (fun i65 => ?_)
      show g_H E 0 0 66 [(0, vR 40), (1, vI x1), (2, vI x2)] [vI (M 50 x1.toNatClampNeg)] (σ, M, N) _ _
      exact r_iret J rfl rfl rfl rfl (by decide) (by decide)
    · rw [if_neg (by rw [hc]; decide), if_pos hc]
      refine r_run J 1 (pc' := 68) (lv' := [(0, vR 40), (1, vI x1), (2, vI x2)]) (st' := [vR 40]) rfl ?_
      refine r_getR J cls12 rfl (k := 19) (t := 14) (by decide) wf_12_48 rfl rfl (ly_40 hL) (lr_40_19 hL) (fun _ => ?_)
      show g_H E 0 0 71 [(0, vR 40), (1, vI x1), (2, vI x2)] [vR 51] (σ, M, N) _ _
      refine r_run J 1 (pc' := 72) (lv' := [(0, vR 40), (1, vI x1), (2, vI x2)]) (st' := [vI x1, vR 51]) rfl ?_
      refine r_iald J rfl (ly_51 hL) (fun i72 => ?_)
      show g_H E 0 0 73 [(0, vR 40), (1, vI x1), (2, vI x2)] [vI (M 51 x1.toNatClampNeg)] (σ, M, N) _ _
      exact r_iret J rfl rfl rfl rfl (by decide) (by decide)
    · rw [if_neg (by rw [hc]; decide), if_neg (by rw [hc]; decide), if_pos hc]
      refine r_run J 1 (pc' := 75) (lv' := [(0, vR 40), (1, vI x1), (2, vI x2)]) (st' := [vR 40]) rfl ?_
      refine r_getR J cls12 rfl (k := 20) (t := 14) (by decide) wf_12_51 rfl rfl (ly_40 hL) (lr_40_20 hL) (fun _ => ?_)
      show g_H E 0 0 78 [(0, vR 40), (1, vI x1), (2, vI x2)] [vR 52] (σ, M, N) _ _
      refine r_run J 1 (pc' := 79) (lv' := [(0, vR 40), (1, vI x1), (2, vI x2)]) (st' := [vI x1, vR 52]) rfl ?_
      refine r_iald J rfl (ly_52 hL) (fun i79 => ?_)
      show g_H E 0 0 80 [(0, vR 40), (1, vI x1), (2, vI x2)] [vI (M 52 x1.toNatClampNeg)] (σ, M, N) _ _
      exact r_iret J rfl rfl rfl rfl (by decide) (by decide)
    · rw [if_neg (by rw [hc]; decide), if_neg (by rw [hc]; decide), if_neg (by rw [hc]; decide), if_pos hc]
      refine r_run J 2 (pc' := 83) (lv' := [(0, vR 40), (1, vI x1), (2, vI x2)]) (st' := [vI x1, vR 40]) rfl ?_
      refine r_callV J (As := [vI x1]) (st := []) (fun r hr => c_X12_heldIn x1 σ M N hL r hr) cls12 (ly_40 hL) wm_12_375 wy_X12_heldIn wd_X12_heldIn ⟨by decide, by decide, by decide, by decide, Nat.le_of_ble_eq_true rfl⟩ rfl rfl (fun q83 hq83 => ?_)
      show g_H E 0 0 86 [(0, vR 40), (1, vI x1), (2, vI x2)] [vI q83] (σ, M, N) _ _
      exact r_iret J rfl rfl rfl rfl (by decide) (by decide)
    · rw [if_neg (by rw [hc]; decide), if_neg (by rw [hc]; decide), if_neg (by rw [hc]; decide), if_neg (by rw [hc]; decide), if_pos hc]
      refine r_run J 2 (pc' := 89) (lv' := [(0, vR 40), (1, vI x1), (2, vI x2)]) (st' := [vI x1, vR 40]) rfl ?_
      refine r_callV J (As := [vI x1]) (st := []) (fun r hr => c_X12_usedIn x1 σ M N hL r hr) cls12 (ly_40 hL) wm_12_378 wy_X12_usedIn wd_X12_usedIn ⟨by decide, by decide, by decide, by decide, Nat.le_of_ble_eq_true rfl⟩ rfl rfl (fun q89 hq89 => ?_)
      show g_H E 0 0 92 [(0, vR 40), (1, vI x1), (2, vI x2)] [vI q89] (σ, M, N) _ _
      exact r_iret J rfl rfl rfl rfl (by decide) (by decide)
    · rw [if_neg (by rw [hc]; decide), if_neg (by rw [hc]; decide), if_neg (by rw [hc]; decide), if_neg (by rw [hc]; decide), if_neg (by rw [hc]; decide), if_pos hc]
      refine r_run J 2 (pc' := 95) (lv' := [(0, vR 40), (1, vI x1), (2, vI x2)]) (st' := [vI x1, vR 40]) rfl ?_
      refine r_callV J (As := [vI x1]) (st := []) (fun r hr => c_X12_peopleIn x1 σ M N hL r hr) cls12 (ly_40 hL) wm_12_381 wy_X12_peopleIn wd_X12_peopleIn ⟨by decide, by decide, by decide, by decide, Nat.le_of_ble_eq_true rfl⟩ rfl rfl (fun q95 hq95 => ?_)
      show g_H E 0 0 98 [(0, vR 40), (1, vI x1), (2, vI x2)] [vI q95] (σ, M, N) _ _
      exact r_iret J rfl rfl rfl rfl (by decide) (by decide)
    · rw [if_neg (by rw [hc]; decide), if_neg (by rw [hc]; decide), if_neg (by rw [hc]; decide), if_neg (by rw [hc]; decide), if_neg (by rw [hc]; decide), if_neg (by rw [hc]; decide), if_pos hc]
      refine r_run J 2 (pc' := 101) (lv' := [(0, vR 40), (1, vI x1), (2, vI x2)]) (st' := [vI x1, vR 40]) rfl ?_
      refine r_callV J (As := [vI x1]) (st := []) (fun r hr => c_X12_costOf x1 σ M N hL r hr) cls12 (ly_40 hL) wm_12_445 wy_X12_costOf wd_X12_costOf ⟨by decide, by decide, by decide, by decide, Nat.le_of_ble_eq_true rfl⟩ rfl rfl (fun q101 hq101 => ?_)
      show g_H E 0 0 104 [(0, vR 40), (1, vI x1), (2, vI x2)] [vI q101] (σ, M, N) _ _
      exact r_iret J rfl rfl rfl rfl (by decide) (by decide)
    · rw [if_neg (by rw [hc]; decide), if_neg (by rw [hc]; decide), if_neg (by rw [hc]; decide), if_neg (by rw [hc]; decide), if_neg (by rw [hc]; decide), if_neg (by rw [hc]; decide), if_neg (by rw [hc]; decide), if_pos hc]
      refine r_run J 2 (pc' := 107) (lv' := [(0, vR 40), (1, vI x1), (2, vI x2)]) (st' := [vI x1, vR 40]) rfl ?_
      refine r_callV J (As := [vI x1]) (st := []) (fun r hr => c_X12_isOver x1 σ M N hL r hr) cls12 (ly_40 hL) wm_12_174 wy_X12_isOver wd_X12_isOver ⟨by decide, by decide, by decide, by decide, Nat.le_of_ble_eq_true rfl⟩ rfl rfl (fun q107 hq107 => ?_)
      show g_H E 0 0 110 [(0, vR 40), (1, vI x1), (2, vI x2)] [vI q107] (σ, M, N) _ _
      refine r_if_eq J (tgt := 117) rfl (by decide) (fun c110 => ?_) (fun c110 => ?_)
      · refine r_run J 1 (pc' := 118) (lv' := [(0, vR 40), (1, vI x1), (2, vI x2)]) (st' := [vI 0]) rfl ?_
        exact r_iret J rfl rfl rfl rfl (by decide) (by decide)
      · refine r_run J 2 (pc' := 118) (lv' := [(0, vR 40), (1, vI x1), (2, vI x2)]) (st' := [vI 1]) rfl ?_
        exact r_iret J rfl rfl rfl rfl (by decide) (by decide)
    · rw [if_neg (by rw [hc]; decide), if_neg (by rw [hc]; decide), if_neg (by rw [hc]; decide), if_neg (by rw [hc]; decide), if_neg (by rw [hc]; decide), if_neg (by rw [hc]; decide), if_neg (by rw [hc]; decide), if_neg (by rw [hc]; decide), if_pos hc]
      refine r_run J 1 (pc' := 120) (lv' := [(0, vR 40), (1, vI x1), (2, vI x2)]) (st' := [vR 40]) rfl ?_
      refine r_getR J cls12 rfl (k := 44) (t := 14) (by decide) wf_12_118 rfl rfl (ly_40 hL) (lr_40_44 hL) (fun _ => ?_)
      show g_H E 0 0 123 [(0, vR 40), (1, vI x1), (2, vI x2)] [vR 73] (σ, M, N) _ _
      refine r_run J 1 (pc' := 124) (lv' := [(0, vR 40), (1, vI x1), (2, vI x2)]) (st' := [vI x1, vR 73]) rfl ?_
      refine r_iald J rfl (ly_73 hL) (fun i124 => ?_)
      show g_H E 0 0 125 [(0, vR 40), (1, vI x1), (2, vI x2)] [vI (M 73 x1.toNatClampNeg)] (σ, M, N) _ _
      exact r_iret J rfl rfl rfl rfl (by decide) (by decide)
    · rw [if_neg (hd _ (List.mem_of_getElem? (i := 0) rfl)), if_neg (hd _ (List.mem_of_getElem? (i := 1) rfl)), if_neg (hd _ (List.mem_of_getElem? (i := 2) rfl)), if_neg (hd _ (List.mem_of_getElem? (i := 3) rfl)), if_neg (hd _ (List.mem_of_getElem? (i := 4) rfl)), if_neg (hd _ (List.mem_of_getElem? (i := 5) rfl)), if_neg (hd _ (List.mem_of_getElem? (i := 6) rfl)), if_neg (hd _ (List.mem_of_getElem? (i := 7) rfl)), if_neg (hd _ (List.mem_of_getElem? (i := 8) rfl))]
      refine r_run J 1 (pc' := 127) (lv' := [(0, vR 40), (1, vI x1), (2, vI x2)]) (st' := [vI (-1)]) rfl ?_
      exact r_iret J rfl rfl rfl rfl (by decide) (by decide)
noncomputable def f_X12_townOf (x1 : Int32) (x2 : Int32) (σ : gS) (M : gM) : Option (Int32) := b_X12_townOf_0 x1 x2 σ M
theorem c_X12_townOf {l : Launch} (x1 : Int32) (x2 : Int32) (σ : gS) (M : gM) (N : gN) (hL : g_layM σ) (r : Int32) (h : f_X12_townOf x1 x2 σ M = some r) : g_Ct l yX12_townOf cX12_townOf 3 (some .int) 3 0 0 [vR 40, vI x1, vI x2] (σ, M, N) (eI σ M N r) :=
  g_Ct.of tb_X12_townOf (by decide +kernel) tk_X12_townOf (Nat.le_of_ble_eq_true rfl) (fun E J => p_X12_townOf_0 J x1 x2 σ M N hL r h)
def tb_X12_roomOf : gT := [(0, .aload_n 0, 1, 0), (1, .iload_n 1, 1, 0), (2, .invokevirtual 170, 3, 0), (5, .ifCond .eq 12, 3, 0), (8, .aload_n 0, 1, 0), (9, .iload_n 1, 1, 0), (10, .iload_n 2, 1, 0), (11, .invokevirtual 208, 3, 0), (14, .ifCond .ne 5, 3, 0), (17, .iconst (-1), 1, (-1)), (18, .ireturn, 1, 0), (19, .bipush 10, 2, 10), (21, .iload_n 1, 1, 0), (22, .imul, 1, 0), (23, .iload_n 2, 1, 0), (24, .iadd, 1, 0), (25, .istore 4, 2, 0), (27, .iload_n 3, 1, 0), (28, .tableswitch 91 0 4 #[36, 44, 60, 68, 84], 36, 0), (64, .aload_n 0, 1, 0), (65, .getfield 54, 3, 0), (68, .iload 4, 2, 0), (70, .iaload, 1, 0), (71, .ireturn, 1, 0), (72, .aload_n 0, 1, 0), (73, .getfield 57, 3, 0), (76, .iload 4, 2, 0), (78, .baload, 1, 0), (79, .ifCond .eq 7, 3, 0), (82, .iconst 1, 1, 1), (83, .goto 4, 3, 0), (86, .iconst 0, 1, 0), (87, .ireturn, 1, 0), (88, .aload_n 0, 1, 0), (89, .getfield 60, 3, 0), (92, .iload 4, 2, 0), (94, .iaload, 1, 0), (95, .ireturn, 1, 0), (96, .aload_n 0, 1, 0), (97, .getfield 63, 3, 0), (100, .iload 4, 2, 0), (102, .baload, 1, 0), (103, .ifCond .eq 7, 3, 0), (106, .iconst 1, 1, 1), (107, .goto 4, 3, 0), (110, .iconst 0, 1, 0), (111, .ireturn, 1, 0), (112, .aload_n 0, 1, 0), (113, .iload_n 1, 1, 0), (114, .iload_n 2, 1, 0), (115, .invokevirtual 211, 3, 0), (118, .ireturn, 1, 0), (119, .iconst (-1), 1, (-1)), (120, .ireturn, 1, 0)]
set_option maxRecDepth 100000 in
theorem tk_X12_roomOf : g_okT cX12_roomOf tb_X12_roomOf = true := by decide +kernel
abbrev J_X12_roomOf (E : gE) (l : Launch) : Prop := g_J E cX12_roomOf RX12 "roomOf" (some .int) 5 tb_X12_roomOf 3 0 0 l
noncomputable def b_X12_roomOf_0 (x1 : Int32) (x2 : Int32) (x3 : Int32) (σ : gS) (M : gM) : Option (Int32) := (f_X12_isTown x1 σ M).bind fun q2 => if q2 = (0 : Int32) then some (-1) else (f_X12_isRoom x1 x2 σ M).bind fun q11 => if q11 = (0 : Int32) then some (-1) else if x3 = 0 then if g_in (((10 : Int32) * x1) + x2) 60 = true then some (M 53 (((10 : Int32) * x1) + x2).toNatClampNeg) else none else if x3 = 1 then if g_in (((10 : Int32) * x1) + x2) 60 = true then if (M 54 (((10 : Int32) * x1) + x2).toNatClampNeg) = (0 : Int32) then some 0 else some 1 else none else if x3 = 2 then if g_in (((10 : Int32) * x1) + x2) 60 = true then some (M 55 (((10 : Int32) * x1) + x2).toNatClampNeg) else none else if x3 = 3 then if g_in (((10 : Int32) * x1) + x2) 60 = true then if (M 56 (((10 : Int32) * x1) + x2).toNatClampNeg) = (0 : Int32) then some 0 else some 1 else none else if x3 = 4 then (f_X12_setIn x1 x2 σ M).bind fun q115 => some q115 else some (-1)
set_option maxHeartbeats 4000000 in
set_option maxRecDepth 100000 in
theorem p_X12_roomOf_0 {l : Launch} {E : gE} (J : J_X12_roomOf E l) (x1 : Int32) (x2 : Int32) (x3 : Int32) (σ : gS) (M : gM) (N : gN) (hL : g_layM σ) : g_H E 0 0 0 [(0, vR 40), (1, vI x1), (2, vI x2), (3, vI x3)] [] (σ, M, N) (b_X12_roomOf_0 x1 x2 x3 σ M) (eI σ M N) := by
  unfold b_X12_roomOf_0
  refine r_run J 2 (pc' := 2) (lv' := [(0, vR 40), (1, vI x1), (2, vI x2), (3, vI x3)]) (st' := [vI x1, vR 40]) rfl ?_
  refine r_callV J (As := [vI x1]) (st := []) (fun r hr => c_X12_isTown x1 σ M N hL r hr) cls12 (ly_40 hL) wm_12_170 wy_X12_isTown wd_X12_isTown ⟨by decide, by decide, by decide, by decide, Nat.le_of_ble_eq_true rfl⟩ rfl rfl (fun q2 hq2 => ?_)
  show g_H E 0 0 5 [(0, vR 40), (1, vI x1), (2, vI x2), (3, vI x3)] [vI q2] (σ, M, N) _ _
  refine r_if_eq J (tgt := 17) rfl (by decide) (fun c5 => ?_) (fun c5 => ?_)
  · refine r_run J 1 (pc' := 18) (lv' := [(0, vR 40), (1, vI x1), (2, vI x2), (3, vI x3)]) (st' := [vI (-1)]) rfl ?_
    exact r_iret J rfl rfl rfl rfl (by decide) (by decide)
  · refine r_run J 3 (pc' := 11) (lv' := [(0, vR 40), (1, vI x1), (2, vI x2), (3, vI x3)]) (st' := [vI x2, vI x1, vR 40]) rfl ?_
    refine r_callV J (As := [vI x1, vI x2]) (st := []) (fun r hr => c_X12_isRoom x1 x2 σ M N hL r hr) cls12 (ly_40 hL) wm_12_208 wy_X12_isRoom wd_X12_isRoom ⟨by decide, by decide, by decide, by decide, Nat.le_of_ble_eq_true rfl⟩ rfl rfl (fun q11 hq11 => ?_)
    show g_H E 0 0 14 [(0, vR 40), (1, vI x1), (2, vI x2), (3, vI x3)] [vI q11] (σ, M, N) _ _
    refine r_if_ne J (tgt := 19) rfl (by decide) (fun c14 => ?_) (fun c14 => ?_)
    · refine r_run J 1 (pc' := 18) (lv' := [(0, vR 40), (1, vI x1), (2, vI x2), (3, vI x3)]) (st' := [vI (-1)]) rfl ?_
      exact r_iret J rfl rfl rfl rfl (by decide) (by decide)
    · refine r_run J 7 (pc' := 28) (lv' := [(4, vI (((10 : Int32) * x1) + x2)), (0, vR 40), (1, vI x1), (2, vI x2), (3, vI x3)]) (st' := [vI x3]) rfl ?_
      refine r_table J [(0, 64), (1, 72), (2, 88), (3, 96), (4, 112)] (d := 119) rfl (by decide +kernel) (List.forall_mem_cons.mpr ⟨fun hc => ?_, List.forall_mem_cons.mpr ⟨fun hc => ?_, List.forall_mem_cons.mpr ⟨fun hc => ?_, List.forall_mem_cons.mpr ⟨fun hc => ?_, List.forall_mem_cons.mpr ⟨fun hc => ?_, fun _ h => absurd h List.not_mem_nil⟩⟩⟩⟩⟩) (fun hd => ?_)
      · rw [if_pos hc]
        refine r_run J 1 (pc' := 65) (lv' := [(4, vI (((10 : Int32) * x1) + x2)), (0, vR 40), (1, vI x1), (2, vI x2), (3, vI x3)]) (st' := [vR 40]) rfl ?_
        refine r_getR J cls12 rfl (k := 21) (t := 14) (by decide) wf_12_54 rfl rfl (ly_40 hL) (lr_40_21 hL) (fun _ => ?_)
        show g_H E 0 0 68 [(4, vI (((10 : Int32) * x1) + x2)), (0, vR 40), (1, vI x1), (2, vI x2), (3, vI x3)] [vR 53] (σ, M, N) _ _
        refine r_run J 1 (pc' := 70) (lv' := [(4, vI (((10 : Int32) * x1) + x2)), (0, vR 40), (1, vI x1), (2, vI x2), (3, vI x3)]) (st' := [vI (((10 : Int32) * x1) + x2), vR 53]) rfl ?_
        refine r_iald J rfl (ly_53 hL) (fun i70 => ?_)
        show g_H E 0 0 71 [(4, vI (((10 : Int32) * x1) + x2)), (0, vR 40), (1, vI x1), (2, vI x2), (3, vI x3)] [vI (M 53 (((10 : Int32) * x1) + x2).toNatClampNeg)] (σ, M, N) _ _
        exact r_iret J rfl rfl rfl rfl (by decide) (by decide)
      · rw [if_neg (by rw [hc]; decide), if_pos hc]
        refine r_run J 1 (pc' := 73) (lv' := [(4, vI (((10 : Int32) * x1) + x2)), (0, vR 40), (1, vI x1), (2, vI x2), (3, vI x3)]) (st' := [vR 40]) rfl ?_
        refine r_getR J cls12 rfl (k := 22) (t := 15) (by decide) wf_12_57 rfl rfl (ly_40 hL) (lr_40_22 hL) (fun _ => ?_)
        show g_H E 0 0 76 [(4, vI (((10 : Int32) * x1) + x2)), (0, vR 40), (1, vI x1), (2, vI x2), (3, vI x3)] [vR 54] (σ, M, N) _ _
        refine r_run J 1 (pc' := 78) (lv' := [(4, vI (((10 : Int32) * x1) + x2)), (0, vR 40), (1, vI x1), (2, vI x2), (3, vI x3)]) (st' := [vI (((10 : Int32) * x1) + x2), vR 54]) rfl ?_
        refine r_zald J rfl (ly_54 hL) (fun i78 => ?_)
        show g_H E 0 0 79 [(4, vI (((10 : Int32) * x1) + x2)), (0, vR 40), (1, vI x1), (2, vI x2), (3, vI x3)] [vI (M 54 (((10 : Int32) * x1) + x2).toNatClampNeg)] (σ, M, N) _ _
        refine r_if_eq J (tgt := 86) rfl (by decide) (fun c79 => ?_) (fun c79 => ?_)
        · refine r_run J 1 (pc' := 87) (lv' := [(4, vI (((10 : Int32) * x1) + x2)), (0, vR 40), (1, vI x1), (2, vI x2), (3, vI x3)]) (st' := [vI 0]) rfl ?_
          exact r_iret J rfl rfl rfl rfl (by decide) (by decide)
        · refine r_run J 2 (pc' := 87) (lv' := [(4, vI (((10 : Int32) * x1) + x2)), (0, vR 40), (1, vI x1), (2, vI x2), (3, vI x3)]) (st' := [vI 1]) rfl ?_
          exact r_iret J rfl rfl rfl rfl (by decide) (by decide)
      · rw [if_neg (by rw [hc]; decide), if_neg (by rw [hc]; decide), if_pos hc]
        refine r_run J 1 (pc' := 89) (lv' := [(4, vI (((10 : Int32) * x1) + x2)), (0, vR 40), (1, vI x1), (2, vI x2), (3, vI x3)]) (st' := [vR 40]) rfl ?_
        refine r_getR J cls12 rfl (k := 23) (t := 14) (by decide) wf_12_60 rfl rfl (ly_40 hL) (lr_40_23 hL) (fun _ => ?_)
        show g_H E 0 0 92 [(4, vI (((10 : Int32) * x1) + x2)), (0, vR 40), (1, vI x1), (2, vI x2), (3, vI x3)] [vR 55] (σ, M, N) _ _
        refine r_run J 1 (pc' := 94) (lv' := [(4, vI (((10 : Int32) * x1) + x2)), (0, vR 40), (1, vI x1), (2, vI x2), (3, vI x3)]) (st' := [vI (((10 : Int32) * x1) + x2), vR 55]) rfl ?_
        refine r_iald J rfl (ly_55 hL) (fun i94 => ?_)
        show g_H E 0 0 95 [(4, vI (((10 : Int32) * x1) + x2)), (0, vR 40), (1, vI x1), (2, vI x2), (3, vI x3)] [vI (M 55 (((10 : Int32) * x1) + x2).toNatClampNeg)] (σ, M, N) _ _
        exact r_iret J rfl rfl rfl rfl (by decide) (by decide)
      · rw [if_neg (by rw [hc]; decide), if_neg (by rw [hc]; decide), if_neg (by rw [hc]; decide), if_pos hc]
        refine r_run J 1 (pc' := 97) (lv' := [(4, vI (((10 : Int32) * x1) + x2)), (0, vR 40), (1, vI x1), (2, vI x2), (3, vI x3)]) (st' := [vR 40]) rfl ?_
        refine r_getR J cls12 rfl (k := 24) (t := 15) (by decide) wf_12_63 rfl rfl (ly_40 hL) (lr_40_24 hL) (fun _ => ?_)
        show g_H E 0 0 100 [(4, vI (((10 : Int32) * x1) + x2)), (0, vR 40), (1, vI x1), (2, vI x2), (3, vI x3)] [vR 56] (σ, M, N) _ _
        refine r_run J 1 (pc' := 102) (lv' := [(4, vI (((10 : Int32) * x1) + x2)), (0, vR 40), (1, vI x1), (2, vI x2), (3, vI x3)]) (st' := [vI (((10 : Int32) * x1) + x2), vR 56]) rfl ?_
        refine r_zald J rfl (ly_56 hL) (fun i102 => ?_)
        show g_H E 0 0 103 [(4, vI (((10 : Int32) * x1) + x2)), (0, vR 40), (1, vI x1), (2, vI x2), (3, vI x3)] [vI (M 56 (((10 : Int32) * x1) + x2).toNatClampNeg)] (σ, M, N) _ _
        refine r_if_eq J (tgt := 110) rfl (by decide) (fun c103 => ?_) (fun c103 => ?_)
        · refine r_run J 1 (pc' := 111) (lv' := [(4, vI (((10 : Int32) * x1) + x2)), (0, vR 40), (1, vI x1), (2, vI x2), (3, vI x3)]) (st' := [vI 0]) rfl ?_
          exact r_iret J rfl rfl rfl rfl (by decide) (by decide)
        · refine r_run J 2 (pc' := 111) (lv' := [(4, vI (((10 : Int32) * x1) + x2)), (0, vR 40), (1, vI x1), (2, vI x2), (3, vI x3)]) (st' := [vI 1]) rfl ?_
          exact r_iret J rfl rfl rfl rfl (by decide) (by decide)
      · rw [if_neg (by rw [hc]; decide), if_neg (by rw [hc]; decide), if_neg (by rw [hc]; decide), if_neg (by rw [hc]; decide), if_pos hc]
        refine r_run J 3 (pc' := 115) (lv' := [(4, vI (((10 : Int32) * x1) + x2)), (0, vR 40), (1, vI x1), (2, vI x2), (3, vI x3)]) (st' := [vI x2, vI x1, vR 40]) rfl ?_
        refine r_callV J (As := [vI x1, vI x2]) (st := []) (fun r hr => c_X12_setIn x1 x2 σ M N hL r hr) cls12 (ly_40 hL) wm_12_211 wy_X12_setIn wd_X12_setIn ⟨by decide, by decide, by decide, by decide, Nat.le_of_ble_eq_true rfl⟩ rfl rfl (fun q115 hq115 => ?_)
        show g_H E 0 0 118 [(4, vI (((10 : Int32) * x1) + x2)), (0, vR 40), (1, vI x1), (2, vI x2), (3, vI x3)] [vI q115] (σ, M, N) _ _
        exact r_iret J rfl rfl rfl rfl (by decide) (by decide)
      · rw [if_neg (hd _ (List.mem_of_getElem? (i := 0) rfl)), if_neg (hd _ (List.mem_of_getElem? (i := 1) rfl)), if_neg (hd _ (List.mem_of_getElem? (i := 2) rfl)), if_neg (hd _ (List.mem_of_getElem? (i := 3) rfl)), if_neg (hd _ (List.mem_of_getElem? (i := 4) rfl))]
        refine r_run J 1 (pc' := 120) (lv' := [(4, vI (((10 : Int32) * x1) + x2)), (0, vR 40), (1, vI x1), (2, vI x2), (3, vI x3)]) (st' := [vI (-1)]) rfl ?_
        exact r_iret J rfl rfl rfl rfl (by decide) (by decide)
noncomputable def f_X12_roomOf (x1 : Int32) (x2 : Int32) (x3 : Int32) (σ : gS) (M : gM) : Option (Int32) := b_X12_roomOf_0 x1 x2 x3 σ M
theorem c_X12_roomOf {l : Launch} (x1 : Int32) (x2 : Int32) (x3 : Int32) (σ : gS) (M : gM) (N : gN) (hL : g_layM σ) (r : Int32) (h : f_X12_roomOf x1 x2 x3 σ M = some r) : g_Ct l yX12_roomOf cX12_roomOf 5 (some .int) 3 0 0 [vR 40, vI x1, vI x2, vI x3] (σ, M, N) (eI σ M N r) :=
  g_Ct.of tb_X12_roomOf (by decide +kernel) tk_X12_roomOf (Nat.le_of_ble_eq_true rfl) (fun E J => p_X12_roomOf_0 J x1 x2 x3 σ M N hL r h)
def tb_X12_personOf : gT := [(0, .aload_n 0, 1, 0), (1, .iload_n 1, 1, 0), (2, .invokevirtual 177, 3, 0), (5, .ifCond .ne 5, 3, 0), (8, .iconst (-1), 1, (-1)), (9, .ireturn, 1, 0), (10, .iload_n 2, 1, 0), (11, .tableswitch 185 0 8 #[49, 64, 71, 86, 93, 100, 107, 122, 129], 49, 0), (60, .aload_n 0, 1, 0), (61, .getfield 13, 3, 0), (64, .iload_n 1, 1, 0), (65, .baload, 1, 0), (66, .ifCond .eq 7, 3, 0), (69, .iconst 1, 1, 1), (70, .goto 4, 3, 0), (73, .iconst 0, 1, 0), (74, .ireturn, 1, 0), (75, .aload_n 0, 1, 0), (76, .getfield 17, 3, 0), (79, .iload_n 1, 1, 0), (80, .iaload, 1, 0), (81, .ireturn, 1, 0), (82, .aload_n 0, 1, 0), (83, .getfield 21, 3, 0), (86, .iload_n 1, 1, 0), (87, .baload, 1, 0), (88, .ifCond .eq 7, 3, 0), (91, .iconst 1, 1, 1), (92, .goto 4, 3, 0), (95, .iconst 0, 1, 0), (96, .ireturn, 1, 0), (97, .aload_n 0, 1, 0), (98, .getfield 24, 3, 0), (101, .iload_n 1, 1, 0), (102, .iaload, 1, 0), (103, .ireturn, 1, 0), (104, .aload_n 0, 1, 0), (105, .getfield 27, 3, 0), (108, .iload_n 1, 1, 0), (109, .iaload, 1, 0), (110, .ireturn, 1, 0), (111, .aload_n 0, 1, 0), (112, .getfield 30, 3, 0), (115, .iload_n 1, 1, 0), (116, .iaload, 1, 0), (117, .ireturn, 1, 0), (118, .aload_n 0, 1, 0), (119, .getfield 33, 3, 0), (122, .iload_n 1, 1, 0), (123, .baload, 1, 0), (124, .ifCond .eq 7, 3, 0), (127, .iconst 1, 1, 1), (128, .goto 4, 3, 0), (131, .iconst 0, 1, 0), (132, .ireturn, 1, 0), (133, .aload_n 0, 1, 0), (134, .getfield 36, 3, 0), (137, .iload_n 1, 1, 0), (138, .iaload, 1, 0), (139, .ireturn, 1, 0), (140, .iconst 0, 1, 0), (141, .istore_n 3, 1, 0), (142, .iconst 0, 1, 0), (143, .istore 4, 2, 0), (145, .iload 4, 2, 0), (147, .aload_n 0, 1, 0), (148, .getfield 157, 3, 0), (151, .if_icmp .ge 43, 3, 0), (154, .iload_n 3, 1, 0), (155, .iload 4, 2, 0), (157, .iload_n 1, 1, 0), (158, .if_icmp .eq 27, 3, 0), (161, .aload_n 0, 1, 0), (162, .getfield 33, 3, 0), (165, .iload 4, 2, 0), (167, .baload, 1, 0), (168, .ifCond .ne 17, 3, 0), (171, .aload_n 0, 1, 0), (172, .iload_n 1, 1, 0), (173, .iload 4, 2, 0), (175, .invokevirtual 201, 3, 0), (178, .ifCond .eq 7, 3, 0), (181, .iconst 1, 1, 1), (182, .goto 4, 3, 0), (185, .iconst 0, 1, 0), (186, .iadd, 1, 0), (187, .istore_n 3, 1, 0), (188, .iinc 4 1, 3, 1), (191, .goto (-46), 3, 0), (194, .iload_n 3, 1, 0), (195, .ireturn, 1, 0), (196, .iconst (-1), 1, (-1)), (197, .ireturn, 1, 0)]
set_option maxRecDepth 100000 in
theorem tk_X12_personOf : g_okT cX12_personOf tb_X12_personOf = true := by decide +kernel
abbrev J_X12_personOf (E : gE) (l : Launch) : Prop := g_J E cX12_personOf RX12 "personOf" (some .int) 5 tb_X12_personOf 3 0 0 l
noncomputable def b_X12_personOf_186 (k145 : Int32 → Int32 → Int32 → gS → gM → Option (Int32)) (x1 : Int32) (x4 : Int32) (sx0 : Int32) (sx1 : Int32) (σ : gS) (M : gM) : Option (Int32) := k145 x1 (sx1 + sx0) (x4 + 1) σ M
noncomputable def b_X12_personOf_185 (k145 : Int32 → Int32 → Int32 → gS → gM → Option (Int32)) (x1 : Int32) (x4 : Int32) (sx0 : Int32) (σ : gS) (M : gM) : Option (Int32) := b_X12_personOf_186 k145 x1 x4 0 sx0 σ M
noncomputable def l_X12_personOf_145 : Nat → Int32 → Int32 → Int32 → gS → gM → Option (Int32)
  | 0, _, _, _, _, _ => none
  | n + 1, x1, x3, x4, σ, M => if x4 < (M 40 1) then if x4 = x1 then b_X12_personOf_185 (fun x1 x3 x4 σ M => l_X12_personOf_145 n x1 x3 x4 σ M) x1 x4 x3 σ M else if g_in x4 10 = true then if (M 47 x4.toNatClampNeg) = (0 : Int32) then (f_X12_mayShare x1 x4 σ M).bind fun q175 => if q175 = (0 : Int32) then b_X12_personOf_185 (fun x1 x3 x4 σ M => l_X12_personOf_145 n x1 x3 x4 σ M) x1 x4 x3 σ M else b_X12_personOf_186 (fun x1 x3 x4 σ M => l_X12_personOf_145 n x1 x3 x4 σ M) x1 x4 1 x3 σ M else b_X12_personOf_185 (fun x1 x3 x4 σ M => l_X12_personOf_145 n x1 x3 x4 σ M) x1 x4 x3 σ M else none else some x3
noncomputable def b_X12_personOf_0 (x1 : Int32) (x2 : Int32) (σ : gS) (M : gM) : Option (Int32) := (f_X12_isPerson x1 σ M).bind fun q2 => if q2 = (0 : Int32) then some (-1) else if x2 = 0 then if g_in x1 10 = true then if (M 41 x1.toNatClampNeg) = (0 : Int32) then some 0 else some 1 else none else if x2 = 1 then if g_in x1 10 = true then some (M 42 x1.toNatClampNeg) else none else if x2 = 2 then if g_in x1 10 = true then if (M 43 x1.toNatClampNeg) = (0 : Int32) then some 0 else some 1 else none else if x2 = 3 then if g_in x1 10 = true then some (M 44 x1.toNatClampNeg) else none else if x2 = 4 then if g_in x1 10 = true then some (M 45 x1.toNatClampNeg) else none else if x2 = 5 then if g_in x1 10 = true then some (M 46 x1.toNatClampNeg) else none else if x2 = 6 then if g_in x1 10 = true then if (M 47 x1.toNatClampNeg) = (0 : Int32) then some 0 else some 1 else none else if x2 = 7 then if g_in x1 10 = true then some (M 48 x1.toNatClampNeg) else none else if x2 = 8 then l_X12_personOf_145 g_FU x1 0 0 σ M else some (-1)
set_option maxHeartbeats 4000000 in
set_option maxRecDepth 100000 in
theorem p_X12_personOf_186 {l : Launch} {E : gE} (J : J_X12_personOf E l) {k145 : Int32 → Int32 → Int32 → gS → gM → Option (Int32)} (H145 : ∀ (x1 : Int32) (x3 : Int32) (x4 : Int32) (σ : gS) (M : gM) (N : gN) (_ : g_layM σ), g_H E 0 0 145 [(0, vR 40), (1, vI x1), (3, vI x3), (4, vI x4)] [] (σ, M, N) (k145 x1 x3 x4 σ M) (eI σ M N)) (x1 : Int32) (x4 : Int32) (sx0 : Int32) (sx1 : Int32) (σ : gS) (M : gM) (N : gN) (hL : g_layM σ) : g_H E 0 0 186 [(0, vR 40), (1, vI x1), (4, vI x4)] [vI sx0, vI sx1] (σ, M, N) (b_X12_personOf_186 k145 x1 x4 sx0 sx1 σ M) (eI σ M N) := by
  unfold b_X12_personOf_186
  refine r_run J 4 (pc' := 145) (lv' := [(4, vI (x4 + 1)), (3, vI (sx1 + sx0)), (0, vR 40), (1, vI x1)]) (st' := []) rfl ?_
  refine r_sub [2, 3, 1, 0] (lv' := [(0, vR 40), (1, vI x1), (3, vI (sx1 + sx0)), (4, vI (x4 + 1))]) rfl ?_
  exact H145 x1 (sx1 + sx0) (x4 + 1) σ M N hL
set_option maxHeartbeats 4000000 in
set_option maxRecDepth 100000 in
theorem p_X12_personOf_185 {l : Launch} {E : gE} (J : J_X12_personOf E l) {k145 : Int32 → Int32 → Int32 → gS → gM → Option (Int32)} (H145 : ∀ (x1 : Int32) (x3 : Int32) (x4 : Int32) (σ : gS) (M : gM) (N : gN) (_ : g_layM σ), g_H E 0 0 145 [(0, vR 40), (1, vI x1), (3, vI x3), (4, vI x4)] [] (σ, M, N) (k145 x1 x3 x4 σ M) (eI σ M N)) (x1 : Int32) (x4 : Int32) (sx0 : Int32) (σ : gS) (M : gM) (N : gN) (hL : g_layM σ) : g_H E 0 0 185 [(0, vR 40), (1, vI x1), (4, vI x4)] [vI sx0] (σ, M, N) (b_X12_personOf_185 k145 x1 x4 sx0 σ M) (eI σ M N) := by
  unfold b_X12_personOf_185
  refine r_run J 1 (pc' := 186) (lv' := [(0, vR 40), (1, vI x1), (4, vI x4)]) (st' := [vI 0, vI sx0]) rfl ?_
  exact p_X12_personOf_186 J H145 x1 x4 0 sx0 σ M N hL
set_option maxHeartbeats 4000000 in
set_option maxRecDepth 100000 in
theorem p_X12_personOf_145 {l : Launch} {E : gE} (J : J_X12_personOf E l) : ∀ (n : Nat) (x1 : Int32) (x3 : Int32) (x4 : Int32) (σ : gS) (M : gM) (N : gN) (hL : g_layM σ), g_H E 0 0 145 [(0, vR 40), (1, vI x1), (3, vI x3), (4, vI x4)] [] (σ, M, N) (l_X12_personOf_145 n x1 x3 x4 σ M) (eI σ M N) := by
  intro n
  induction n with
  | zero => intros; exact h_none
  | succ n ih =>
    intro x1 x3 x4 σ M N hL
    rw [l_X12_personOf_145]
    refine r_run J 2 (pc' := 148) (lv' := [(0, vR 40), (1, vI x1), (3, vI x3), (4, vI x4)]) (st' := [vR 40, vI x4]) rfl ?_
    refine r_getI J cls12 rfl (k := 1) (by decide) wf_12_157 rfl (ly_40 hL) ?_
    show g_H E 0 0 151 [(0, vR 40), (1, vI x1), (3, vI x3), (4, vI x4)] [vI (M 40 1), vI x4] (σ, M, N) _ _
    refine r_icmp_ge J (tgt := 194) rfl (by decide) (fun c151 => ?_) (fun c151 => ?_)
    · refine r_run J 3 (pc' := 158) (lv' := [(0, vR 40), (1, vI x1), (3, vI x3), (4, vI x4)]) (st' := [vI x1, vI x4, vI x3]) rfl ?_
      refine r_icmp_eq J (tgt := 185) rfl (by decide) (fun c158 => ?_) (fun c158 => ?_)
      · refine r_sub [0, 1, 3] (lv' := [(0, vR 40), (1, vI x1), (4, vI x4)]) rfl ?_
        exact p_X12_personOf_185 J ih x1 x4 x3 σ M N hL
      · refine r_run J 1 (pc' := 162) (lv' := [(0, vR 40), (1, vI x1), (3, vI x3), (4, vI x4)]) (st' := [vR 40, vI x3]) rfl ?_
        refine r_getR J cls12 rfl (k := 8) (t := 15) (by decide) wf_12_33 rfl rfl (ly_40 hL) (lr_40_8 hL) (fun _ => ?_)
        show g_H E 0 0 165 [(0, vR 40), (1, vI x1), (3, vI x3), (4, vI x4)] [vR 47, vI x3] (σ, M, N) _ _
        refine r_run J 1 (pc' := 167) (lv' := [(0, vR 40), (1, vI x1), (3, vI x3), (4, vI x4)]) (st' := [vI x4, vR 47, vI x3]) rfl ?_
        refine r_zald J rfl (ly_47 hL) (fun i167 => ?_)
        show g_H E 0 0 168 [(0, vR 40), (1, vI x1), (3, vI x3), (4, vI x4)] [vI (M 47 x4.toNatClampNeg), vI x3] (σ, M, N) _ _
        refine r_if_ne J (tgt := 185) rfl (by decide) (fun c168 => ?_) (fun c168 => ?_)
        · refine r_run J 3 (pc' := 175) (lv' := [(0, vR 40), (1, vI x1), (3, vI x3), (4, vI x4)]) (st' := [vI x4, vI x1, vR 40, vI x3]) rfl ?_
          refine r_callV J (As := [vI x1, vI x4]) (st := [vI x3]) (fun r hr => c_X12_mayShare x1 x4 σ M N hL r hr) cls12 (ly_40 hL) wm_12_201 wy_X12_mayShare wd_X12_mayShare ⟨by decide, by decide, by decide, by decide, Nat.le_of_ble_eq_true rfl⟩ rfl rfl (fun q175 hq175 => ?_)
          show g_H E 0 0 178 [(0, vR 40), (1, vI x1), (3, vI x3), (4, vI x4)] [vI q175, vI x3] (σ, M, N) _ _
          refine r_if_eq J (tgt := 185) rfl (by decide) (fun c178 => ?_) (fun c178 => ?_)
          · refine r_sub [0, 1, 3] (lv' := [(0, vR 40), (1, vI x1), (4, vI x4)]) rfl ?_
            exact p_X12_personOf_185 J ih x1 x4 x3 σ M N hL
          · refine r_run J 2 (pc' := 186) (lv' := [(0, vR 40), (1, vI x1), (3, vI x3), (4, vI x4)]) (st' := [vI 1, vI x3]) rfl ?_
            refine r_sub [0, 1, 3] (lv' := [(0, vR 40), (1, vI x1), (4, vI x4)]) rfl ?_
            exact p_X12_personOf_186 J ih x1 x4 1 x3 σ M N hL
        · refine r_sub [0, 1, 3] (lv' := [(0, vR 40), (1, vI x1), (4, vI x4)]) rfl ?_
          exact p_X12_personOf_185 J ih x1 x4 x3 σ M N hL
    · refine r_run J 1 (pc' := 195) (lv' := [(0, vR 40), (1, vI x1), (3, vI x3), (4, vI x4)]) (st' := [vI x3]) rfl ?_
      exact r_iret J rfl rfl rfl rfl (by decide) (by decide)
set_option maxHeartbeats 4000000 in
set_option maxRecDepth 100000 in
theorem p_X12_personOf_0 {l : Launch} {E : gE} (J : J_X12_personOf E l) (x1 : Int32) (x2 : Int32) (σ : gS) (M : gM) (N : gN) (hL : g_layM σ) : g_H E 0 0 0 [(0, vR 40), (1, vI x1), (2, vI x2)] [] (σ, M, N) (b_X12_personOf_0 x1 x2 σ M) (eI σ M N) := by
  unfold b_X12_personOf_0
  refine r_run J 2 (pc' := 2) (lv' := [(0, vR 40), (1, vI x1), (2, vI x2)]) (st' := [vI x1, vR 40]) rfl ?_
  refine r_callV J (As := [vI x1]) (st := []) (fun r hr => c_X12_isPerson x1 σ M N hL r hr) cls12 (ly_40 hL) wm_12_177 wy_X12_isPerson wd_X12_isPerson ⟨by decide, by decide, by decide, by decide, Nat.le_of_ble_eq_true rfl⟩ rfl rfl (fun q2 hq2 => ?_)
  show g_H E 0 0 5 [(0, vR 40), (1, vI x1), (2, vI x2)] [vI q2] (σ, M, N) _ _
  refine r_if_ne J (tgt := 10) rfl (by decide) (fun c5 => ?_) (fun c5 => ?_)
  · refine r_run J 1 (pc' := 9) (lv' := [(0, vR 40), (1, vI x1), (2, vI x2)]) (st' := [vI (-1)]) rfl ?_
    exact r_iret J rfl rfl rfl rfl (by decide) (by decide)
  · refine r_run J 1 (pc' := 11) (lv' := [(0, vR 40), (1, vI x1), (2, vI x2)]) (st' := [vI x2]) rfl ?_
    refine r_table J [(0, 60), (1, 75), (2, 82), (3, 97), (4, 104), (5, 111), (6, 118), (7, 133), (8, 140)] (d := 196) rfl (by decide +kernel) (List.forall_mem_cons.mpr ⟨fun hc => ?_, List.forall_mem_cons.mpr ⟨fun hc => ?_, List.forall_mem_cons.mpr ⟨fun hc => ?_, List.forall_mem_cons.mpr ⟨fun hc => ?_, List.forall_mem_cons.mpr ⟨fun hc => ?_, List.forall_mem_cons.mpr ⟨fun hc => ?_, List.forall_mem_cons.mpr ⟨fun hc => ?_, List.forall_mem_cons.mpr ⟨fun hc => ?_, List.forall_mem_cons.mpr ⟨fun hc => ?_, fun _ h => absurd h List.not_mem_nil⟩⟩⟩⟩⟩⟩⟩⟩⟩) (fun hd => ?_)
    · rw [if_pos hc]
      refine r_run J 1 (pc' := 61) (lv' := [(0, vR 40), (1, vI x1), (2, vI x2)]) (st' := [vR 40]) rfl ?_
      refine r_getR J cls12 rfl (k := 2) (t := 15) (by decide) wf_12_13 rfl rfl (ly_40 hL) (lr_40_2 hL) (fun _ => ?_)
      show g_H E 0 0 64 [(0, vR 40), (1, vI x1), (2, vI x2)] [vR 41] (σ, M, N) _ _
      refine r_run J 1 (pc' := 65) (lv' := [(0, vR 40), (1, vI x1), (2, vI x2)]) (st' := [vI x1, vR 41]) rfl ?_
      refine r_zald J rfl (ly_41 hL) (fun i65 => ?_)
      show g_H E 0 0 66 [(0, vR 40), (1, vI x1), (2, vI x2)] [vI (M 41 x1.toNatClampNeg)] (σ, M, N) _ _
      refine r_if_eq J (tgt := 73) rfl (by decide) (fun c66 => ?_) (fun c66 => ?_)
      · refine r_run J 1 (pc' := 74) (lv' := [(0, vR 40), (1, vI x1), (2, vI x2)]) (st' := [vI 0]) rfl ?_
        exact r_iret J rfl rfl rfl rfl (by decide) (by decide)
      · refine r_run J 2 (pc' := 74) (lv' := [(0, vR 40), (1, vI x1), (2, vI x2)]) (st' := [vI 1]) rfl ?_
        exact r_iret J rfl rfl rfl rfl (by decide) (by decide)
    · rw [if_neg (by rw [hc]; decide), if_pos hc]
      refine r_run J 1 (pc' := 76) (lv' := [(0, vR 40), (1, vI x1), (2, vI x2)]) (st' := [vR 40]) rfl ?_
      refine r_getR J cls12 rfl (k := 3) (t := 14) (by decide) wf_12_17 rfl rfl (ly_40 hL) (lr_40_3 hL) (fun _ => ?_)
      show g_H E 0 0 79 [(0, vR 40), (1, vI x1), (2, vI x2)] [vR 42] (σ, M, N) _ _
      refine r_run J 1 (pc' := 80) (lv' := [(0, vR 40), (1, vI x1), (2, vI x2)]) (st' := [vI x1, vR 42]) rfl ?_
      refine r_iald J rfl (ly_42 hL) (fun i80 => ?_)
      show g_H E 0 0 81 [(0, vR 40), (1, vI x1), (2, vI x2)] [vI (M 42 x1.toNatClampNeg)] (σ, M, N) _ _
      exact r_iret J rfl rfl rfl rfl (by decide) (by decide)
    · rw [if_neg (by rw [hc]; decide), if_neg (by rw [hc]; decide), if_pos hc]
      refine r_run J 1 (pc' := 83) (lv' := [(0, vR 40), (1, vI x1), (2, vI x2)]) (st' := [vR 40]) rfl ?_
      refine r_getR J cls12 rfl (k := 4) (t := 15) (by decide) wf_12_21 rfl rfl (ly_40 hL) (lr_40_4 hL) (fun _ => ?_)
      show g_H E 0 0 86 [(0, vR 40), (1, vI x1), (2, vI x2)] [vR 43] (σ, M, N) _ _
      refine r_run J 1 (pc' := 87) (lv' := [(0, vR 40), (1, vI x1), (2, vI x2)]) (st' := [vI x1, vR 43]) rfl ?_
      refine r_zald J rfl (ly_43 hL) (fun i87 => ?_)
      show g_H E 0 0 88 [(0, vR 40), (1, vI x1), (2, vI x2)] [vI (M 43 x1.toNatClampNeg)] (σ, M, N) _ _
      refine r_if_eq J (tgt := 95) rfl (by decide) (fun c88 => ?_) (fun c88 => ?_)
      · refine r_run J 1 (pc' := 96) (lv' := [(0, vR 40), (1, vI x1), (2, vI x2)]) (st' := [vI 0]) rfl ?_
        exact r_iret J rfl rfl rfl rfl (by decide) (by decide)
      · refine r_run J 2 (pc' := 96) (lv' := [(0, vR 40), (1, vI x1), (2, vI x2)]) (st' := [vI 1]) rfl ?_
        exact r_iret J rfl rfl rfl rfl (by decide) (by decide)
    · rw [if_neg (by rw [hc]; decide), if_neg (by rw [hc]; decide), if_neg (by rw [hc]; decide), if_pos hc]
      refine r_run J 1 (pc' := 98) (lv' := [(0, vR 40), (1, vI x1), (2, vI x2)]) (st' := [vR 40]) rfl ?_
      refine r_getR J cls12 rfl (k := 5) (t := 14) (by decide) wf_12_24 rfl rfl (ly_40 hL) (lr_40_5 hL) (fun _ => ?_)
      show g_H E 0 0 101 [(0, vR 40), (1, vI x1), (2, vI x2)] [vR 44] (σ, M, N) _ _
      refine r_run J 1 (pc' := 102) (lv' := [(0, vR 40), (1, vI x1), (2, vI x2)]) (st' := [vI x1, vR 44]) rfl ?_
      refine r_iald J rfl (ly_44 hL) (fun i102 => ?_)
      show g_H E 0 0 103 [(0, vR 40), (1, vI x1), (2, vI x2)] [vI (M 44 x1.toNatClampNeg)] (σ, M, N) _ _
      exact r_iret J rfl rfl rfl rfl (by decide) (by decide)
    · rw [if_neg (by rw [hc]; decide), if_neg (by rw [hc]; decide), if_neg (by rw [hc]; decide), if_neg (by rw [hc]; decide), if_pos hc]
      refine r_run J 1 (pc' := 105) (lv' := [(0, vR 40), (1, vI x1), (2, vI x2)]) (st' := [vR 40]) rfl ?_
      refine r_getR J cls12 rfl (k := 6) (t := 14) (by decide) wf_12_27 rfl rfl (ly_40 hL) (lr_40_6 hL) (fun _ => ?_)
      show g_H E 0 0 108 [(0, vR 40), (1, vI x1), (2, vI x2)] [vR 45] (σ, M, N) _ _
      refine r_run J 1 (pc' := 109) (lv' := [(0, vR 40), (1, vI x1), (2, vI x2)]) (st' := [vI x1, vR 45]) rfl ?_
      refine r_iald J rfl (ly_45 hL) (fun i109 => ?_)
      show g_H E 0 0 110 [(0, vR 40), (1, vI x1), (2, vI x2)] [vI (M 45 x1.toNatClampNeg)] (σ, M, N) _ _
      exact r_iret J rfl rfl rfl rfl (by decide) (by decide)
    · rw [if_neg (by rw [hc]; decide), if_neg (by rw [hc]; decide), if_neg (by rw [hc]; decide), if_neg (by rw [hc]; decide), if_neg (by rw [hc]; decide), if_pos hc]
      refine r_run J 1 (pc' := 112) (lv' := [(0, vR 40), (1, vI x1), (2, vI x2)]) (st' := [vR 40]) rfl ?_
      refine r_getR J cls12 rfl (k := 7) (t := 14) (by decide) wf_12_30 rfl rfl (ly_40 hL) (lr_40_7 hL) (fun _ => ?_)
      show g_H E 0 0 115 [(0, vR 40), (1, vI x1), (2, vI x2)] [vR 46] (σ, M, N) _ _
      refine r_run J 1 (pc' := 116) (lv' := [(0, vR 40), (1, vI x1), (2, vI x2)]) (st' := [vI x1, vR 46]) rfl ?_
      refine r_iald J rfl (ly_46 hL) (fun i116 => ?_)
      show g_H E 0 0 117 [(0, vR 40), (1, vI x1), (2, vI x2)] [vI (M 46 x1.toNatClampNeg)] (σ, M, N) _ _
      exact r_iret J rfl rfl rfl rfl (by decide) (by decide)
    · rw [if_neg (by rw [hc]; decide), if_neg (by rw [hc]; decide), if_neg (by rw [hc]; decide), if_neg (by rw [hc]; decide), if_neg (by rw [hc]; decide), if_neg (by rw [hc]; decide), if_pos hc]
      refine r_run J 1 (pc' := 119) (lv' := [(0, vR 40), (1, vI x1), (2, vI x2)]) (st' := [vR 40]) rfl ?_
      refine r_getR J cls12 rfl (k := 8) (t := 15) (by decide) wf_12_33 rfl rfl (ly_40 hL) (lr_40_8 hL) (fun _ => ?_)
      show g_H E 0 0 122 [(0, vR 40), (1, vI x1), (2, vI x2)] [vR 47] (σ, M, N) _ _
      refine r_run J 1 (pc' := 123) (lv' := [(0, vR 40), (1, vI x1), (2, vI x2)]) (st' := [vI x1, vR 47]) rfl ?_
      refine r_zald J rfl (ly_47 hL) (fun i123 => ?_)
      show g_H E 0 0 124 [(0, vR 40), (1, vI x1), (2, vI x2)] [vI (M 47 x1.toNatClampNeg)] (σ, M, N) _ _
      refine r_if_eq J (tgt := 131) rfl (by decide) (fun c124 => ?_) (fun c124 => ?_)
      · refine r_run J 1 (pc' := 132) (lv' := [(0, vR 40), (1, vI x1), (2, vI x2)]) (st' := [vI 0]) rfl ?_
        exact r_iret J rfl rfl rfl rfl (by decide) (by decide)
      · refine r_run J 2 (pc' := 132) (lv' := [(0, vR 40), (1, vI x1), (2, vI x2)]) (st' := [vI 1]) rfl ?_
        exact r_iret J rfl rfl rfl rfl (by decide) (by decide)
    · rw [if_neg (by rw [hc]; decide), if_neg (by rw [hc]; decide), if_neg (by rw [hc]; decide), if_neg (by rw [hc]; decide), if_neg (by rw [hc]; decide), if_neg (by rw [hc]; decide), if_neg (by rw [hc]; decide), if_pos hc]
      refine r_run J 1 (pc' := 134) (lv' := [(0, vR 40), (1, vI x1), (2, vI x2)]) (st' := [vR 40]) rfl ?_
      refine r_getR J cls12 rfl (k := 9) (t := 14) (by decide) wf_12_36 rfl rfl (ly_40 hL) (lr_40_9 hL) (fun _ => ?_)
      show g_H E 0 0 137 [(0, vR 40), (1, vI x1), (2, vI x2)] [vR 48] (σ, M, N) _ _
      refine r_run J 1 (pc' := 138) (lv' := [(0, vR 40), (1, vI x1), (2, vI x2)]) (st' := [vI x1, vR 48]) rfl ?_
      refine r_iald J rfl (ly_48 hL) (fun i138 => ?_)
      show g_H E 0 0 139 [(0, vR 40), (1, vI x1), (2, vI x2)] [vI (M 48 x1.toNatClampNeg)] (σ, M, N) _ _
      exact r_iret J rfl rfl rfl rfl (by decide) (by decide)
    · rw [if_neg (by rw [hc]; decide), if_neg (by rw [hc]; decide), if_neg (by rw [hc]; decide), if_neg (by rw [hc]; decide), if_neg (by rw [hc]; decide), if_neg (by rw [hc]; decide), if_neg (by rw [hc]; decide), if_neg (by rw [hc]; decide), if_pos hc]
      refine r_run J 4 (pc' := 145) (lv' := [(4, vI 0), (3, vI 0), (0, vR 40), (1, vI x1), (2, vI x2)]) (st' := []) rfl ?_
      refine r_sub [2, 3, 1, 0] (lv' := [(0, vR 40), (1, vI x1), (3, vI 0), (4, vI 0)]) rfl ?_
      exact p_X12_personOf_145 J g_FU x1 0 0 σ M N hL
    · rw [if_neg (hd _ (List.mem_of_getElem? (i := 0) rfl)), if_neg (hd _ (List.mem_of_getElem? (i := 1) rfl)), if_neg (hd _ (List.mem_of_getElem? (i := 2) rfl)), if_neg (hd _ (List.mem_of_getElem? (i := 3) rfl)), if_neg (hd _ (List.mem_of_getElem? (i := 4) rfl)), if_neg (hd _ (List.mem_of_getElem? (i := 5) rfl)), if_neg (hd _ (List.mem_of_getElem? (i := 6) rfl)), if_neg (hd _ (List.mem_of_getElem? (i := 7) rfl)), if_neg (hd _ (List.mem_of_getElem? (i := 8) rfl))]
      refine r_run J 1 (pc' := 197) (lv' := [(0, vR 40), (1, vI x1), (2, vI x2)]) (st' := [vI (-1)]) rfl ?_
      exact r_iret J rfl rfl rfl rfl (by decide) (by decide)
noncomputable def f_X12_personOf (x1 : Int32) (x2 : Int32) (σ : gS) (M : gM) : Option (Int32) := b_X12_personOf_0 x1 x2 σ M
theorem c_X12_personOf {l : Launch} (x1 : Int32) (x2 : Int32) (σ : gS) (M : gM) (N : gN) (hL : g_layM σ) (r : Int32) (h : f_X12_personOf x1 x2 σ M = some r) : g_Ct l yX12_personOf cX12_personOf 5 (some .int) 3 0 0 [vR 40, vI x1, vI x2] (σ, M, N) (eI σ M N r) :=
  g_Ct.of tb_X12_personOf (by decide +kernel) tk_X12_personOf (Nat.le_of_ble_eq_true rfl) (fun E J => p_X12_personOf_0 J x1 x2 σ M N hL r h)
def tb_X12_count : gT := [(0, .iload_n 1, 1, 0), (1, .tableswitch 114 0 10 #[59, 64, 69, 74, 79, 84, 89, 94, 99, 104, 109], 59, 0), (60, .aload_n 0, 1, 0), (61, .getfield 183, 3, 0), (64, .ireturn, 1, 0), (65, .aload_n 0, 1, 0), (66, .getfield 42, 3, 0), (69, .ireturn, 1, 0), (70, .aload_n 0, 1, 0), (71, .getfield 195, 3, 0), (74, .ireturn, 1, 0), (75, .aload_n 0, 1, 0), (76, .getfield 157, 3, 0), (79, .ireturn, 1, 0), (80, .aload_n 0, 1, 0), (81, .getfield 164, 3, 0), (84, .ireturn, 1, 0), (85, .aload_n 0, 1, 0), (86, .getfield 192, 3, 0), (89, .ireturn, 1, 0), (90, .aload_n 0, 1, 0), (91, .getfield 167, 3, 0), (94, .ireturn, 1, 0), (95, .aload_n 0, 1, 0), (96, .getfield 392, 3, 0), (99, .ireturn, 1, 0), (100, .aload_n 0, 1, 0), (101, .getfield 246, 3, 0), (104, .ireturn, 1, 0), (105, .aload_n 0, 1, 0), (106, .getfield 405, 3, 0), (109, .ireturn, 1, 0), (110, .aload_n 0, 1, 0), (111, .getfield 180, 3, 0), (114, .ireturn, 1, 0), (115, .iconst (-1), 1, (-1)), (116, .ireturn, 1, 0)]
set_option maxRecDepth 100000 in
theorem tk_X12_count : g_okT cX12_count tb_X12_count = true := by decide +kernel
abbrev J_X12_count (E : gE) (l : Launch) : Prop := g_J E cX12_count RX12 "count" (some .int) 2 tb_X12_count 1 0 0 l
noncomputable def b_X12_count_0 (x1 : Int32) (σ : gS) (M : gM) : Option (Int32) := if x1 = 0 then some (M 40 14) else if x1 = 1 then some (M 40 15) else if x1 = 2 then some (M 40 16) else if x1 = 3 then some (M 40 1) else if x1 = 4 then some (M 40 11) else if x1 = 5 then some (M 40 12) else if x1 = 6 then some (M 40 13) else if x1 = 7 then some (M 40 17) else if x1 = 8 then some (M 40 41) else if x1 = 9 then some (M 40 63) else if x1 = 10 then some (M 40 26) else some (-1)
set_option maxHeartbeats 4000000 in
set_option maxRecDepth 100000 in
theorem p_X12_count_0 {l : Launch} {E : gE} (J : J_X12_count E l) (x1 : Int32) (σ : gS) (M : gM) (N : gN) (hL : g_layM σ) : g_H E 0 0 0 [(0, vR 40), (1, vI x1)] [] (σ, M, N) (b_X12_count_0 x1 σ M) (eI σ M N) := by
  unfold b_X12_count_0
  refine r_run J 1 (pc' := 1) (lv' := [(0, vR 40), (1, vI x1)]) (st' := [vI x1]) rfl ?_
  refine r_table J [(0, 60), (1, 65), (2, 70), (3, 75), (4, 80), (5, 85), (6, 90), (7, 95), (8, 100), (9, 105), (10, 110)] (d := 115) rfl (by decide +kernel) (List.forall_mem_cons.mpr ⟨fun hc => ?_, List.forall_mem_cons.mpr ⟨fun hc => ?_, List.forall_mem_cons.mpr ⟨fun hc => ?_, List.forall_mem_cons.mpr ⟨fun hc => ?_, List.forall_mem_cons.mpr ⟨fun hc => ?_, List.forall_mem_cons.mpr ⟨fun hc => ?_, List.forall_mem_cons.mpr ⟨fun hc => ?_, List.forall_mem_cons.mpr ⟨fun hc => ?_, List.forall_mem_cons.mpr ⟨fun hc => ?_, List.forall_mem_cons.mpr ⟨fun hc => ?_, List.forall_mem_cons.mpr ⟨fun hc => ?_, fun _ h => absurd h List.not_mem_nil⟩⟩⟩⟩⟩⟩⟩⟩⟩⟩⟩) (fun hd => ?_)
  · rw [if_pos hc]
    refine r_run J 1 (pc' := 61) (lv' := [(0, vR 40), (1, vI x1)]) (st' := [vR 40]) rfl ?_
    refine r_getI J cls12 rfl (k := 14) (by decide) wf_12_183 rfl (ly_40 hL) ?_
    show g_H E 0 0 64 [(0, vR 40), (1, vI x1)] [vI (M 40 14)] (σ, M, N) _ _
    exact r_iret J rfl rfl rfl rfl (by decide) (by decide)
  · rw [if_neg (by rw [hc]; decide), if_pos hc]
    refine r_run J 1 (pc' := 66) (lv' := [(0, vR 40), (1, vI x1)]) (st' := [vR 40]) rfl ?_
    refine r_getI J cls12 rfl (k := 15) (by decide) wf_12_42 rfl (ly_40 hL) ?_
    show g_H E 0 0 69 [(0, vR 40), (1, vI x1)] [vI (M 40 15)] (σ, M, N) _ _
    exact r_iret J rfl rfl rfl rfl (by decide) (by decide)
  · rw [if_neg (by rw [hc]; decide), if_neg (by rw [hc]; decide), if_pos hc]
    refine r_run J 1 (pc' := 71) (lv' := [(0, vR 40), (1, vI x1)]) (st' := [vR 40]) rfl ?_
    refine r_getI J cls12 rfl (k := 16) (by decide) wf_12_195 rfl (ly_40 hL) ?_
    show g_H E 0 0 74 [(0, vR 40), (1, vI x1)] [vI (M 40 16)] (σ, M, N) _ _
    exact r_iret J rfl rfl rfl rfl (by decide) (by decide)
  · rw [if_neg (by rw [hc]; decide), if_neg (by rw [hc]; decide), if_neg (by rw [hc]; decide), if_pos hc]
    refine r_run J 1 (pc' := 76) (lv' := [(0, vR 40), (1, vI x1)]) (st' := [vR 40]) rfl ?_
    refine r_getI J cls12 rfl (k := 1) (by decide) wf_12_157 rfl (ly_40 hL) ?_
    show g_H E 0 0 79 [(0, vR 40), (1, vI x1)] [vI (M 40 1)] (σ, M, N) _ _
    exact r_iret J rfl rfl rfl rfl (by decide) (by decide)
  · rw [if_neg (by rw [hc]; decide), if_neg (by rw [hc]; decide), if_neg (by rw [hc]; decide), if_neg (by rw [hc]; decide), if_pos hc]
    refine r_run J 1 (pc' := 81) (lv' := [(0, vR 40), (1, vI x1)]) (st' := [vR 40]) rfl ?_
    refine r_getI J cls12 rfl (k := 11) (by decide) wf_12_164 rfl (ly_40 hL) ?_
    show g_H E 0 0 84 [(0, vR 40), (1, vI x1)] [vI (M 40 11)] (σ, M, N) _ _
    exact r_iret J rfl rfl rfl rfl (by decide) (by decide)
  · rw [if_neg (by rw [hc]; decide), if_neg (by rw [hc]; decide), if_neg (by rw [hc]; decide), if_neg (by rw [hc]; decide), if_neg (by rw [hc]; decide), if_pos hc]
    refine r_run J 1 (pc' := 86) (lv' := [(0, vR 40), (1, vI x1)]) (st' := [vR 40]) rfl ?_
    refine r_getI J cls12 rfl (k := 12) (by decide) wf_12_192 rfl (ly_40 hL) ?_
    show g_H E 0 0 89 [(0, vR 40), (1, vI x1)] [vI (M 40 12)] (σ, M, N) _ _
    exact r_iret J rfl rfl rfl rfl (by decide) (by decide)
  · rw [if_neg (by rw [hc]; decide), if_neg (by rw [hc]; decide), if_neg (by rw [hc]; decide), if_neg (by rw [hc]; decide), if_neg (by rw [hc]; decide), if_neg (by rw [hc]; decide), if_pos hc]
    refine r_run J 1 (pc' := 91) (lv' := [(0, vR 40), (1, vI x1)]) (st' := [vR 40]) rfl ?_
    refine r_getI J cls12 rfl (k := 13) (by decide) wf_12_167 rfl (ly_40 hL) ?_
    show g_H E 0 0 94 [(0, vR 40), (1, vI x1)] [vI (M 40 13)] (σ, M, N) _ _
    exact r_iret J rfl rfl rfl rfl (by decide) (by decide)
  · rw [if_neg (by rw [hc]; decide), if_neg (by rw [hc]; decide), if_neg (by rw [hc]; decide), if_neg (by rw [hc]; decide), if_neg (by rw [hc]; decide), if_neg (by rw [hc]; decide), if_neg (by rw [hc]; decide), if_pos hc]
    refine r_run J 1 (pc' := 96) (lv' := [(0, vR 40), (1, vI x1)]) (st' := [vR 40]) rfl ?_
    refine r_getI J cls12 rfl (k := 17) (by decide) wf_12_392 rfl (ly_40 hL) ?_
    show g_H E 0 0 99 [(0, vR 40), (1, vI x1)] [vI (M 40 17)] (σ, M, N) _ _
    exact r_iret J rfl rfl rfl rfl (by decide) (by decide)
  · rw [if_neg (by rw [hc]; decide), if_neg (by rw [hc]; decide), if_neg (by rw [hc]; decide), if_neg (by rw [hc]; decide), if_neg (by rw [hc]; decide), if_neg (by rw [hc]; decide), if_neg (by rw [hc]; decide), if_neg (by rw [hc]; decide), if_pos hc]
    refine r_run J 1 (pc' := 101) (lv' := [(0, vR 40), (1, vI x1)]) (st' := [vR 40]) rfl ?_
    refine r_getI J cls12 rfl (k := 41) (by decide) wf_12_246 rfl (ly_40 hL) ?_
    show g_H E 0 0 104 [(0, vR 40), (1, vI x1)] [vI (M 40 41)] (σ, M, N) _ _
    exact r_iret J rfl rfl rfl rfl (by decide) (by decide)
  · rw [if_neg (by rw [hc]; decide), if_neg (by rw [hc]; decide), if_neg (by rw [hc]; decide), if_neg (by rw [hc]; decide), if_neg (by rw [hc]; decide), if_neg (by rw [hc]; decide), if_neg (by rw [hc]; decide), if_neg (by rw [hc]; decide), if_neg (by rw [hc]; decide), if_pos hc]
    refine r_run J 1 (pc' := 106) (lv' := [(0, vR 40), (1, vI x1)]) (st' := [vR 40]) rfl ?_
    refine r_getI J cls12 rfl (k := 63) (by decide) wf_12_405 rfl (ly_40 hL) ?_
    show g_H E 0 0 109 [(0, vR 40), (1, vI x1)] [vI (M 40 63)] (σ, M, N) _ _
    exact r_iret J rfl rfl rfl rfl (by decide) (by decide)
  · rw [if_neg (by rw [hc]; decide), if_neg (by rw [hc]; decide), if_neg (by rw [hc]; decide), if_neg (by rw [hc]; decide), if_neg (by rw [hc]; decide), if_neg (by rw [hc]; decide), if_neg (by rw [hc]; decide), if_neg (by rw [hc]; decide), if_neg (by rw [hc]; decide), if_neg (by rw [hc]; decide), if_pos hc]
    refine r_run J 1 (pc' := 111) (lv' := [(0, vR 40), (1, vI x1)]) (st' := [vR 40]) rfl ?_
    refine r_getI J cls12 rfl (k := 26) (by decide) wf_12_180 rfl (ly_40 hL) ?_
    show g_H E 0 0 114 [(0, vR 40), (1, vI x1)] [vI (M 40 26)] (σ, M, N) _ _
    exact r_iret J rfl rfl rfl rfl (by decide) (by decide)
  · rw [if_neg (hd _ (List.mem_of_getElem? (i := 0) rfl)), if_neg (hd _ (List.mem_of_getElem? (i := 1) rfl)), if_neg (hd _ (List.mem_of_getElem? (i := 2) rfl)), if_neg (hd _ (List.mem_of_getElem? (i := 3) rfl)), if_neg (hd _ (List.mem_of_getElem? (i := 4) rfl)), if_neg (hd _ (List.mem_of_getElem? (i := 5) rfl)), if_neg (hd _ (List.mem_of_getElem? (i := 6) rfl)), if_neg (hd _ (List.mem_of_getElem? (i := 7) rfl)), if_neg (hd _ (List.mem_of_getElem? (i := 8) rfl)), if_neg (hd _ (List.mem_of_getElem? (i := 9) rfl)), if_neg (hd _ (List.mem_of_getElem? (i := 10) rfl))]
    refine r_run J 1 (pc' := 116) (lv' := [(0, vR 40), (1, vI x1)]) (st' := [vI (-1)]) rfl ?_
    exact r_iret J rfl rfl rfl rfl (by decide) (by decide)
noncomputable def f_X12_count (x1 : Int32) (σ : gS) (M : gM) : Option (Int32) := b_X12_count_0 x1 σ M
theorem c_X12_count {l : Launch} (x1 : Int32) (σ : gS) (M : gM) (N : gN) (hL : g_layM σ) (r : Int32) (h : f_X12_count x1 σ M = some r) : g_Ct l yX12_count cX12_count 2 (some .int) 1 0 0 [vR 40, vI x1] (σ, M, N) (eI σ M N r) :=
  g_Ct.of tb_X12_count (by decide +kernel) tk_X12_count (Nat.le_of_ble_eq_true rfl) (fun E J => p_X12_count_0 J x1 σ M N hL r h)
