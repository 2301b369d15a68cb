def tb_X11_lay : gT := [(0, .aload_n 0, 1, 0), (1, .getfield 10, 3, 0), (4, .iload_n 2, 1, 0), (5, .invokevirtual 106, 3, 0), (8, .ifnonnull 7, 3, 0), (11, .iconst (-1), 1, (-1)), (12, .goto 12, 3, 0), (15, .aload_n 0, 1, 0), (16, .getfield 60, 3, 0), (19, .iload_n 1, 1, 0), (20, .iload_n 2, 1, 0), (21, .invokevirtual 282, 3, 0), (24, .ireturn, 1, 0)]
set_option maxRecDepth 100000 in
theorem tk_X11_lay : g_okT cX11_lay tb_X11_lay = true := by decide +kernel
abbrev J_X11_lay (E : gE) (l : Launch) : Prop := g_J E cX11_lay RX11 "lay" (some .int) 3 tb_X11_lay 3 0 0 l
set_option maxHeartbeats 4000000 in
set_option maxRecDepth 100000 in
theorem p_X11_lay_0 {l : Launch} {E : gE} (J : J_X11_lay E l) (x1 : Int32) (x2 : Int32) (σ : gS) (M : gM) (N : gN) (hL : g_layC σ) : g_H E 0 0 0 [(0, vR 1), (1, vI x1), (2, vI x2)] [] (σ, M, N) (b_X11_lay_0 x1 x2 σ M) (eI σ M N) := by
  unfold b_X11_lay_0
  refine r_run J 1 (pc' := 1) (lv' := [(0, vR 1), (1, vI x1), (2, vI x2)]) (st' := [vR 1]) rfl ?_
  refine r_getR J cls11 rfl (k := 0) (t := 5) (by decide) wf_11_10 rfl rfl (ly_1 hL) (lr_1_0 hL) (fun _ => ?_)
  show g_H E 0 0 4 [(0, vR 1), (1, vI x1), (2, vI x2)] [vR 2] (σ, M, N) _ _
  refine r_run J 1 (pc' := 5) (lv' := [(0, vR 1), (1, vI x1), (2, vI x2)]) (st' := [vI x2, vR 2]) rfl ?_
  refine r_callV J (As := [vI x2]) (st := []) (fun r hr => c_X5_at x2 σ M N hL r hr) cls5 (ly_2 hL) wm_11_106 wy_X5_at wd_X5_at ⟨by decide, by decide, by decide, by decide, Nat.le_of_ble_eq_true rfl⟩ rfl rfl (fun q5 hq5 => ?_)
  show g_H E 0 0 8 [(0, vR 1), (1, vI x1), (2, vI x2)] [vR q5] (σ, M, N) _ _
  refine r_ifnonnull J (tgt := 15) rfl (by decide) (fun c8 => ?_) (fun c8 => ?_)
  · refine r_run J 2 (pc' := 24) (lv' := [(0, vR 1), (1, vI x1), (2, vI x2)]) (st' := [vI (-1)]) rfl ?_
    exact r_iret J rfl rfl rfl rfl (by decide) (by decide)
  · refine r_run J 1 (pc' := 16) (lv' := [(0, vR 1), (1, vI x1), (2, vI x2)]) (st' := [vR 1]) rfl ?_
    refine r_getR J cls11 rfl (k := 7) (t := 0) (by decide) wf_11_60 rfl rfl (ly_1 hL) (lr_1_7 hL) (fun _ => ?_)
    show g_H E 0 0 19 [(0, vR 1), (1, vI x1), (2, vI x2)] [vR 33] (σ, M, N) _ _
    refine r_run J 2 (pc' := 21) (lv' := [(0, vR 1), (1, vI x1), (2, vI x2)]) (st' := [vI x2, vI x1, vR 33]) rfl ?_
    refine r_callV J (As := [vI x1, vI x2]) (st := []) (fun r hr => c_X0_roomOfGuest x1 x2 σ M N hL r hr) cls0 (ly_33 hL) wm_11_282 wy_X0_roomOfGuest wd_X0_roomOfGuest ⟨by decide, by decide, by decide, by decide, Nat.le_of_ble_eq_true rfl⟩ rfl rfl (fun q21 hq21 => ?_)
    show g_H E 0 0 24 [(0, vR 1), (1, vI x1), (2, vI x2)] [vI q21] (σ, M, N) _ _
    exact r_iret J rfl rfl rfl rfl (by decide) (by decide)
theorem c_X11_lay {l : Launch} (x1 : Int32) (x2 : Int32) (σ : gS) (M : gM) (N : gN) (hL : g_layC σ) (r : Int32) (h : f_X11_lay x1 x2 σ M = some r) : g_Ct l yX11_lay cX11_lay 3 (some .int) 3 0 0 [vR 1, vI x1, vI x2] (σ, M, N) (eI σ M N r) :=
  g_Ct.of tb_X11_lay (by decide +kernel) tk_X11_lay (Nat.le_of_ble_eq_true rfl) (fun E J => p_X11_lay_0 J x1 x2 σ M N hL r h)
def tb_X11_bill : gT := [(0, .iload_n 1, 1, 0), (1, .iconst 0, 1, 0), (2, .aload_n 0, 1, 0), (3, .getfield 60, 3, 0), (6, .getfield 133, 3, 0), (9, .iconst 1, 1, 1), (10, .isub, 1, 0), (11, .invokestatic 86, 3, 0), (14, .ifCond .ne 14, 3, 0), (17, .new 285, 3, 0), (20, .dup, 1, 0), (21, .ldc_w 287, 3, 0), (24, .invokespecial 289, 3, 0), (27, .athrow, 1, 0), (28, .aload_n 0, 1, 0), (29, .getfield 60, 3, 0), (32, .getfield 292, 3, 0), (35, .iload_n 1, 1, 0), (36, .iaload, 1, 0), (37, .ireturn, 1, 0)]
set_option maxRecDepth 100000 in
theorem tk_X11_bill : g_okT cX11_bill tb_X11_bill = true := by decide +kernel
abbrev J_X11_bill (E : gE) (l : Launch) : Prop := g_J E cX11_bill RX11 "bill" (some .int) 2 tb_X11_bill 6 1 6 l
set_option maxHeartbeats 4000000 in
set_option maxRecDepth 100000 in
theorem p_X11_bill_0 {l : Launch} {E : gE} (J : J_X11_bill E l) (hX : g_noEx E) (hl : l.stackTraces = false) (x1 : Int32) (σ : gS) (M : gM) (N : gN) (hL : g_layC σ) : g_H E 0 0 0 [(0, vR 1), (1, vI x1)] [] (σ, M, N) (b_X11_bill_0 x1 σ M) (eT σ M N) := by
  unfold b_X11_bill_0
  refine r_run J 3 (pc' := 3) (lv' := [(0, vR 1), (1, vI x1)]) (st' := [vR 1, vI 0, vI x1]) rfl ?_
  refine r_getR J cls11 rfl (k := 7) (t := 0) (by decide) wf_11_60 rfl rfl (ly_1 hL) (lr_1_7 hL) (fun _ => ?_)
  show g_H E 0 0 6 [(0, vR 1), (1, vI x1)] [vR 33, vI 0, vI x1] (σ, M, N) _ _
  refine r_getI J cls0 rfl (k := 0) (by decide) wf_11_133 rfl (ly_33 hL) ?_
  show g_H E 0 0 9 [(0, vR 1), (1, vI x1)] [vI (M 33 0), vI 0, vI x1] (σ, M, N) _ _
  refine r_run J 2 (pc' := 11) (lv' := [(0, vR 1), (1, vI x1)]) (st' := [vI ((M 33 0) - (1 : Int32)), vI 0, vI x1]) rfl ?_
  refine r_callS J (As := [vI x1, vI 0, vI ((M 33 0) - (1 : Int32))]) (st := []) (fun r hr => c_X11_isWithin x1 0 ((M 33 0) - (1 : Int32)) σ M N hL r hr) wm_11_86 wy_X11_isWithin wd_X11_isWithin ⟨by decide, by decide, by decide, by decide, Nat.le_of_ble_eq_true rfl⟩ rfl rfl (fun q11 hq11 => ?_)
  show g_H E 0 0 14 [(0, vR 1), (1, vI x1)] [vI q11] (σ, M, N) _ _
  refine r_if_ne J (tgt := 28) rfl (by decide) (fun c14 => ?_) (fun c14 => ?_)
  · exact r_throw J hX hl ws_11_287 rfl rfl rfl rfl rfl rfl (by decide) (by decide) (by decide)
  · refine r_run J 1 (pc' := 29) (lv' := [(0, vR 1), (1, vI x1)]) (st' := [vR 1]) rfl ?_
    refine r_getR J cls11 rfl (k := 7) (t := 0) (by decide) wf_11_60 rfl rfl (ly_1 hL) (lr_1_7 hL) (fun _ => ?_)
    show g_H E 0 0 32 [(0, vR 1), (1, vI x1)] [vR 33] (σ, M, N) _ _
    refine r_getR J cls0 rfl (k := 1) (t := 14) (by decide) wf_11_292 rfl rfl (ly_33 hL) (lr_33_1 hL) (fun _ => ?_)
    show g_H E 0 0 35 [(0, vR 1), (1, vI x1)] [vR 34] (σ, M, N) _ _
    refine r_run J 1 (pc' := 36) (lv' := [(0, vR 1), (1, vI x1)]) (st' := [vI x1, vR 34]) rfl ?_
    refine r_iald J rfl (ly_34 hL) (fun i36 => ?_)
    show g_H E 0 0 37 [(0, vR 1), (1, vI x1)] [vI (M 34 x1.toNatClampNeg)] (σ, M, N) _ _
    exact r_iret J rfl rfl rfl rfl (by decide) (by decide)
theorem c_X11_bill {l : Launch} (x1 : Int32) (σ : gS) (M : gM) (N : gN) (hL : g_layC σ) (hl : l.stackTraces = false) (r : Int32) (h : f_X11_bill x1 σ M = some (some r)) : g_Ct l yX11_bill cX11_bill 2 (some .int) 6 1 6 [vR 1, vI x1] (σ, M, N) (eI σ M N r) :=
  g_Ct.ofX tb_X11_bill (by decide +kernel) tk_X11_bill (Nat.le_of_ble_eq_true rfl) (fun E J hX => p_X11_bill_0 J hX hl x1 σ M N hL (some r) h)
theorem t_X11_bill {l : Launch} (x1 : Int32) (σ : gS) (M : gM) (N : gN) (hL : g_layC σ) (hl : l.stackTraces = false) (h : f_X11_bill x1 σ M = some none) : g_Cx l yX11_bill cX11_bill 2 (some .int) 6 1 6 [vR 1, vI x1] (σ, M, N) (some (vE 999), σ, M, N) :=
  g_Cx.of tb_X11_bill (by decide +kernel) tk_X11_bill (Nat.le_of_ble_eq_true rfl) (fun E J hX => p_X11_bill_0 J hX hl x1 σ M N hL none h)
def tb_X11_owes : gT := [(0, .aload_n 0, 1, 0), (1, .getfield 10, 3, 0), (4, .iload_n 1, 1, 0), (5, .invokevirtual 106, 3, 0), (8, .astore_n 2, 1, 0), (9, .aload_n 2, 1, 0), (10, .ifnonnull 14, 3, 0), (13, .new 285, 3, 0), (16, .dup, 1, 0), (17, .ldc_w 295, 3, 0), (20, .invokespecial 289, 3, 0), (23, .athrow, 1, 0), (24, .aload_n 2, 1, 0), (25, .getfield 297, 3, 0), (28, .ireturn, 1, 0)]
set_option maxRecDepth 100000 in
theorem tk_X11_owes : g_okT cX11_owes tb_X11_owes = true := by decide +kernel
abbrev J_X11_owes (E : gE) (l : Launch) : Prop := g_J E cX11_owes RX11 "owes" (some .int) 3 tb_X11_owes 6 1 6 l
set_option maxHeartbeats 4000000 in
set_option maxRecDepth 100000 in
theorem p_X11_owes_0 {l : Launch} {E : gE} (J : J_X11_owes E l) (hX : g_noEx E) (hl : l.stackTraces = false) (x1 : Int32) (σ : gS) (M : gM) (N : gN) (hL : g_layC σ) : g_H E 0 0 0 [(0, vR 1), (1, vI x1)] [] (σ, M, N) (b_X11_owes_0 x1 σ M) (eT σ M N) := by
  unfold b_X11_owes_0
  refine r_run J 1 (pc' := 1) (lv' := [(0, vR 1), (1, vI x1)]) (st' := [vR 1]) rfl ?_
  refine r_getR J cls11 rfl (k := 0) (t := 5) (by decide) wf_11_10 rfl rfl (ly_1 hL) (lr_1_0 hL) (fun _ => ?_)
  show g_H E 0 0 4 [(0, vR 1), (1, vI x1)] [vR 2] (σ, M, N) _ _
  refine r_run J 1 (pc' := 5) (lv' := [(0, vR 1), (1, vI x1)]) (st' := [vI x1, vR 2]) rfl ?_
  refine r_callV J (As := [vI x1]) (st := []) (fun r hr => c_X5_at x1 σ M N hL r hr) cls5 (ly_2 hL) wm_11_106 wy_X5_at wd_X5_at ⟨by decide, by decide, by decide, by decide, Nat.le_of_ble_eq_true rfl⟩ rfl rfl (fun q5 hq5 => ?_)
  show g_H E 0 0 8 [(0, vR 1), (1, vI x1)] [vR q5] (σ, M, N) _ _
  refine r_run J 2 (pc' := 10) (lv' := [(2, vR q5), (0, vR 1), (1, vI x1)]) (st' := [vR q5]) rfl ?_
  refine r_ifnonnull J (tgt := 24) rfl (by decide) (fun c10 => ?_) (fun c10 => ?_)
  · exact r_throw J hX hl ws_11_295 rfl rfl rfl rfl rfl rfl (by decide) (by decide) (by decide)
  · refine r_run J 1 (pc' := 25) (lv' := [(2, vR q5), (0, vR 1), (1, vI x1)]) (st' := [vR q5]) rfl ?_
    refine r_chk (fun hs25 => ?_)
    refine r_getI J cls6 rfl (k := 10) (by decide) wf_11_297 rfl (g_is_at hs25) ?_
    show g_H E 0 0 28 [(2, vR q5), (0, vR 1), (1, vI x1)] [vI (M q5 10)] (σ, M, N) _ _
    exact r_iret J rfl rfl rfl rfl (by decide) (by decide)
theorem c_X11_owes {l : Launch} (x1 : Int32) (σ : gS) (M : gM) (N : gN) (hL : g_layC σ) (hl : l.stackTraces = false) (r : Int32) (h : f_X11_owes x1 σ M = some (some r)) : g_Ct l yX11_owes cX11_owes 3 (some .int) 6 1 6 [vR 1, vI x1] (σ, M, N) (eI σ M N r) :=
  g_Ct.ofX tb_X11_owes (by decide +kernel) tk_X11_owes (Nat.le_of_ble_eq_true rfl) (fun E J hX => p_X11_owes_0 J hX hl x1 σ M N hL (some r) h)
theorem t_X11_owes {l : Launch} (x1 : Int32) (σ : gS) (M : gM) (N : gN) (hL : g_layC σ) (hl : l.stackTraces = false) (h : f_X11_owes x1 σ M = some none) : g_Cx l yX11_owes cX11_owes 3 (some .int) 6 1 6 [vR 1, vI x1] (σ, M, N) (some (vE 999), σ, M, N) :=
  g_Cx.of tb_X11_owes (by decide +kernel) tk_X11_owes (Nat.le_of_ble_eq_true rfl) (fun E J hX => p_X11_owes_0 J hX hl x1 σ M N hL none h)
def tb_X11_meals : gT := [(0, .aload_n 0, 1, 0), (1, .iload_n 1, 1, 0), (2, .invokevirtual 193, 3, 0), (5, .astore_n 3, 1, 0), (6, .aload_n 3, 1, 0), (7, .ifnull 12, 3, 0), (10, .iload_n 2, 1, 0), (11, .iconst 0, 1, 0), (12, .iconst 3, 1, 3), (13, .invokestatic 86, 3, 0), (16, .ifCond .ne 7, 3, 0), (19, .iconst (-1), 1, (-1)), (20, .goto 12, 3, 0), (23, .aload_n 0, 1, 0), (24, .getfield 10, 3, 0), (27, .aload_n 3, 1, 0), (28, .iload_n 2, 1, 0), (29, .invokevirtual 300, 3, 0), (32, .ireturn, 1, 0)]
set_option maxRecDepth 100000 in
theorem tk_X11_meals : g_okT cX11_meals tb_X11_meals = true := by decide +kernel
abbrev J_X11_meals (E : gE) (l : Launch) : Prop := g_J E cX11_meals RX11 "meals" (some .int) 4 tb_X11_meals 3 0 0 l
set_option maxHeartbeats 4000000 in
set_option maxRecDepth 100000 in
theorem p_X11_meals_19 {l : Launch} {E : gE} (J : J_X11_meals E l) (σ : gS) (M : gM) (N : gN) (hL : g_layC σ) : g_H E 0 0 19 [] [] (σ, M, N) (b_X11_meals_19 σ M) (eI σ M N) := by
  unfold b_X11_meals_19
  refine r_run J 2 (pc' := 32) (lv' := []) (st' := [vI (-1)]) rfl ?_
  exact r_iret J rfl rfl rfl rfl (by decide) (by decide)
set_option maxHeartbeats 4000000 in
set_option maxRecDepth 100000 in
theorem p_X11_meals_0 {l : Launch} {E : gE} (J : J_X11_meals E l) (x1 : Int32) (x2 : Int32) (σ : gS) (M : gM) (N : gN) (hL : g_layC σ) : g_H E 0 0 0 [(0, vR 1), (1, vI x1), (2, vI x2)] [] (σ, M, N) (b_X11_meals_0 x1 x2 σ M) (eI σ M N) := by
  unfold b_X11_meals_0
  refine r_run J 2 (pc' := 2) (lv' := [(0, vR 1), (1, vI x1), (2, vI x2)]) (st' := [vI x1, vR 1]) rfl ?_
  refine r_callV J (As := [vI x1]) (st := []) (fun r hr => c_X11_townAt x1 σ M N hL r hr) cls11 (ly_1 hL) wm_11_193 wy_X11_townAt wd_X11_townAt ⟨by decide, by decide, by decide, by decide, Nat.le_of_ble_eq_true rfl⟩ rfl rfl (fun q2 hq2 => ?_)
  show g_H E 0 0 5 [(0, vR 1), (1, vI x1), (2, vI x2)] [vR q2] (σ, M, N) _ _
  refine r_run J 2 (pc' := 7) (lv' := [(3, vR q2), (0, vR 1), (1, vI x1), (2, vI x2)]) (st' := [vR q2]) rfl ?_
  refine r_ifnull J (tgt := 19) rfl (by decide) (fun c7 => ?_) (fun c7 => ?_)
  · refine r_sub [] (lv' := []) rfl ?_
    exact p_X11_meals_19 J σ M N hL
  · refine r_run J 3 (pc' := 13) (lv' := [(3, vR q2), (0, vR 1), (1, vI x1), (2, vI x2)]) (st' := [vI 3, vI 0, vI x2]) rfl ?_
    refine r_callS J (As := [vI x2, vI 0, vI 3]) (st := []) (fun r hr => c_X11_isWithin x2 0 3 σ M N hL r hr) wm_11_86 wy_X11_isWithin wd_X11_isWithin ⟨by decide, by decide, by decide, by decide, Nat.le_of_ble_eq_true rfl⟩ rfl rfl (fun q13 hq13 => ?_)
    show g_H E 0 0 16 [(3, vR q2), (0, vR 1), (1, vI x1), (2, vI x2)] [vI q13] (σ, M, N) _ _
    refine r_if_ne J (tgt := 23) rfl (by decide) (fun c16 => ?_) (fun c16 => ?_)
    · refine r_sub [] (lv' := []) rfl ?_
      exact p_X11_meals_19 J σ M N hL
    · refine r_run J 1 (pc' := 24) (lv' := [(3, vR q2), (0, vR 1), (1, vI x1), (2, vI x2)]) (st' := [vR 1]) rfl ?_
      refine r_getR J cls11 rfl (k := 0) (t := 5) (by decide) wf_11_10 rfl rfl (ly_1 hL) (lr_1_0 hL) (fun _ => ?_)
      show g_H E 0 0 27 [(3, vR q2), (0, vR 1), (1, vI x1), (2, vI x2)] [vR 2] (σ, M, N) _ _
      refine r_run J 2 (pc' := 29) (lv' := [(3, vR q2), (0, vR 1), (1, vI x1), (2, vI x2)]) (st' := [vI x2, vR q2, vR 2]) rfl ?_
      refine r_callV J (As := [vR q2, vI x2]) (st := []) (fun r hr => c_X5_eaters q2 x2 σ M N hL r hr) cls5 (ly_2 hL) wm_11_300 wy_X5_eaters wd_X5_eaters ⟨by decide, by decide, by decide, by decide, Nat.le_of_ble_eq_true rfl⟩ rfl rfl (fun q29 hq29 => ?_)
      show g_H E 0 0 32 [(3, vR q2), (0, vR 1), (1, vI x1), (2, vI x2)] [vI q29] (σ, M, N) _ _
      exact r_iret J rfl rfl rfl rfl (by decide) (by decide)
theorem c_X11_meals {l : Launch} (x1 : Int32) (x2 : Int32) (σ : gS) (M : gM) (N : gN) (hL : g_layC σ) (r : Int32) (h : f_X11_meals x1 x2 σ M = some r) : g_Ct l yX11_meals cX11_meals 4 (some .int) 3 0 0 [vR 1, vI x1, vI x2] (σ, M, N) (eI σ M N r) :=
  g_Ct.of tb_X11_meals (by decide +kernel) tk_X11_meals (Nat.le_of_ble_eq_true rfl) (fun E J => p_X11_meals_0 J x1 x2 σ M N hL r h)
def tb_X11_townOf : gT := [(0, .aload_n 0, 1, 0), (1, .iload_n 1, 1, 0), (2, .invokevirtual 193, 3, 0), (5, .astore_n 3, 1, 0), (6, .aload_n 3, 1, 0), (7, .ifnonnull 5, 3, 0), (10, .iconst (-1), 1, (-1)), (11, .ireturn, 1, 0), (12, .iload_n 2, 1, 0), (13, .tableswitch 112 0 8 #[51, 56, 61, 66, 71, 79, 84, 90, 104], 51, 0), (64, .aload_n 3, 1, 0), (65, .getfield 303, 3, 0), (68, .ireturn, 1, 0), (69, .aload_n 3, 1, 0), (70, .getfield 304, 3, 0), (73, .ireturn, 1, 0), (74, .aload_n 3, 1, 0), (75, .getfield 146, 3, 0), (78, .ireturn, 1, 0), (79, .aload_n 3, 1, 0), (80, .invokevirtual 307, 3, 0), (83, .ireturn, 1, 0), (84, .aload_n 3, 1, 0), (85, .invokevirtual 310, 3, 0), (88, .invokestatic 313, 3, 0), (91, .ireturn, 1, 0), (92, .aload_n 3, 1, 0), (93, .invokevirtual 318, 3, 0), (96, .ireturn, 1, 0), (97, .aload_n 3, 1, 0), (98, .iconst 0, 1, 0), (99, .invokevirtual 276, 3, 0), (102, .ireturn, 1, 0), (103, .aload_n 0, 1, 0), (104, .aload_n 3, 1, 0), (105, .invokevirtual 321, 3, 0), (108, .ifCond .eq 7, 3, 0), (111, .iconst 1, 1, 1), (112, .goto 4, 3, 0), (115, .iconst 0, 1, 0), (116, .ireturn, 1, 0), (117, .aload_n 3, 1, 0), (118, .getfield 219, 3, 0), (121, .getfield 324, 3, 0), (124, .ireturn, 1, 0), (125, .iconst (-1), 1, (-1)), (126, .ireturn, 1, 0)]
set_option maxRecDepth 100000 in
theorem tk_X11_townOf : g_okT cX11_townOf tb_X11_townOf = true := by decide +kernel
abbrev J_X11_townOf (E : gE) (l : Launch) : Prop := g_J E cX11_townOf RX11 "townOf" (some .int) 4 tb_X11_townOf 3 0 0 l
set_option maxHeartbeats 4000000 in
set_option maxRecDepth 100000 in
theorem p_X11_townOf_0 {l : Launch} {E : gE} (J : J_X11_townOf E l) (x1 : Int32) (x2 : Int32) (σ : gS) (M : gM) (N : gN) (hL : g_layC σ) : g_H E 0 0 0 [(0, vR 1), (1, vI x1), (2, vI x2)] [] (σ, M, N) (b_X11_townOf_0 x1 x2 σ M) (eI σ M N) := by
  unfold b_X11_townOf_0
  refine r_run J 2 (pc' := 2) (lv' := [(0, vR 1), (1, vI x1), (2, vI x2)]) (st' := [vI x1, vR 1]) rfl ?_
  refine r_callV J (As := [vI x1]) (st := []) (fun r hr => c_X11_townAt x1 σ M N hL r hr) cls11 (ly_1 hL) wm_11_193 wy_X11_townAt wd_X11_townAt ⟨by decide, by decide, by decide, by decide, Nat.le_of_ble_eq_true rfl⟩ rfl rfl (fun q2 hq2 => ?_)
  show g_H E 0 0 5 [(0, vR 1), (1, vI x1), (2, vI x2)] [vR q2] (σ, M, N) _ _
  refine r_run J 2 (pc' := 7) (lv' := [(3, vR q2), (0, vR 1), (1, vI x1), (2, vI x2)]) (st' := [vR q2]) rfl ?_
  refine r_ifnonnull J (tgt := 12) rfl (by decide) (fun c7 => ?_) (fun c7 => ?_)
  · refine r_run J 1 (pc' := 11) (lv' := [(3, vR q2), (0, vR 1), (1, vI x1), (2, vI x2)]) (st' := [vI (-1)]) rfl ?_
    exact r_iret J rfl rfl rfl rfl (by decide) (by decide)
  · refine r_run J 1 (pc' := 13) (lv' := [(3, vR q2), (0, vR 1), (1, vI x1), (2, vI x2)]) (st' := [vI x2]) rfl ?_
    refine r_table J [(0, 64), (1, 69), (2, 74), (3, 79), (4, 84), (5, 92), (6, 97), (7, 103), (8, 117)] (d := 125) rfl (by decide +kernel) (List.forall_mem_cons.mpr ⟨fun hc => ?_, List.forall_mem_cons.mpr ⟨fun hc => ?_, List.forall_mem_cons.mpr ⟨fun hc => ?_, List.forall_mem_cons.mpr ⟨fun hc => ?_, List.forall_mem_cons.mpr ⟨fun hc => ?_, List.forall_mem_cons.mpr ⟨fun hc => ?_, List.forall_mem_cons.mpr ⟨fun hc => ?_, List.forall_mem_cons.mpr ⟨fun hc => ?_, List.forall_mem_cons.mpr ⟨fun hc => ?_, fun _ h => absurd h List.not_mem_nil⟩⟩⟩⟩⟩⟩⟩⟩⟩) (fun hd => ?_)
    · rw [if_pos hc]
      refine r_run J 1 (pc' := 65) (lv' := [(3, vR q2), (0, vR 1), (1, vI x1), (2, vI x2)]) (st' := [vR q2]) rfl ?_
      refine r_chk (fun hs65 => ?_)
      refine r_getI J cls10 rfl (k := 1) (by decide) wf_11_303 rfl (g_is_at hs65) ?_
      show g_H E 0 0 68 [(3, vR q2), (0, vR 1), (1, vI x1), (2, vI x2)] [vI (M q2 1)] (σ, M, N) _ _
      exact r_iret J rfl rfl rfl rfl (by decide) (by decide)
    · rw [if_neg (by rw [hc]; decide), if_pos hc]
      refine r_run J 1 (pc' := 70) (lv' := [(3, vR q2), (0, vR 1), (1, vI x1), (2, vI x2)]) (st' := [vR q2]) rfl ?_
      refine r_chk (fun hs70 => ?_)
      refine r_getI J cls10 rfl (k := 2) (by decide) wf_11_304 rfl (g_is_at hs70) ?_
      show g_H E 0 0 73 [(3, vR q2), (0, vR 1), (1, vI x1), (2, vI x2)] [vI (M q2 2)] (σ, M, N) _ _
      exact r_iret J rfl rfl rfl rfl (by decide) (by decide)
    · rw [if_neg (by rw [hc]; decide), if_neg (by rw [hc]; decide), if_pos hc]
      refine r_run J 1 (pc' := 75) (lv' := [(3, vR q2), (0, vR 1), (1, vI x1), (2, vI x2)]) (st' := [vR q2]) rfl ?_
      refine r_chk (fun hs75 => ?_)
      refine r_getI J cls10 rfl (k := 6) (by decide) wf_11_146 rfl (g_is_at hs75) ?_
      show g_H E 0 0 78 [(3, vR q2), (0, vR 1), (1, vI x1), (2, vI x2)] [vI (M q2 6)] (σ, M, N) _ _
      exact r_iret J rfl rfl rfl rfl (by decide) (by decide)
    · rw [if_neg (by rw [hc]; decide), if_neg (by rw [hc]; decide), if_neg (by rw [hc]; decide), if_pos hc]
      refine r_run J 1 (pc' := 80) (lv' := [(3, vR q2), (0, vR 1), (1, vI x1), (2, vI x2)]) (st' := [vR q2]) rfl ?_
      refine r_chk (fun hs80 => ?_)
      refine r_callV J (As := []) (st := []) (fun r hr => c_X10_heldRooms q2 σ M N hL r hr) cls10 (g_is_at hs80) wm_11_307 wy_X10_heldRooms wd_X10_heldRooms ⟨by decide, by decide, by decide, by decide, Nat.le_of_ble_eq_true rfl⟩ rfl rfl (fun q80 hq80 => ?_)
      show g_H E 0 0 83 [(3, vR q2), (0, vR 1), (1, vI x1), (2, vI x2)] [vI q80] (σ, M, N) _ _
      exact r_iret J rfl rfl rfl rfl (by decide) (by decide)
    · rw [if_neg (by rw [hc]; decide), if_neg (by rw [hc]; decide), if_neg (by rw [hc]; decide), if_neg (by rw [hc]; decide), if_pos hc]
      refine r_run J 1 (pc' := 85) (lv' := [(3, vR q2), (0, vR 1), (1, vI x1), (2, vI x2)]) (st' := [vR q2]) rfl ?_
      refine r_chk (fun hs85 => ?_)
      refine r_callV J (As := []) (st := []) (fun r hr => c_X10_usedRooms q2 σ M N hL r hr) cls10 (g_is_at hs85) wm_11_310 wy_X10_usedRooms wd_X10_usedRooms ⟨by decide, by decide, by decide, by decide, Nat.le_of_ble_eq_true rfl⟩ rfl rfl (fun q85 hq85 => ?_)
      show g_H E 0 0 88 [(3, vR q2), (0, vR 1), (1, vI x1), (2, vI x2)] [vI q85] (σ, M, N) _ _
      refine r_callS J (As := [vI q85]) (st := []) (fun r hr => c_J_bitCount q85 σ M N r hr) wm_11_313 wy_J_bitCount wd_J_bitCount ⟨by decide, by decide, by decide, by decide, Nat.le_of_ble_eq_true rfl⟩ rfl rfl (fun q88 hq88 => ?_)
      show g_H E 0 0 91 [(3, vR q2), (0, vR 1), (1, vI x1), (2, vI x2)] [vI q88] (σ, M, N) _ _
      exact r_iret J rfl rfl rfl rfl (by decide) (by decide)
    · rw [if_neg (by rw [hc]; decide), if_neg (by rw [hc]; decide), if_neg (by rw [hc]; decide), if_neg (by rw [hc]; decide), if_neg (by rw [hc]; decide), if_pos hc]
      refine r_run J 1 (pc' := 93) (lv' := [(3, vR q2), (0, vR 1), (1, vI x1), (2, vI x2)]) (st' := [vR q2]) rfl ?_
      refine r_chk (fun hs93 => ?_)
      refine r_callV J (As := []) (st := []) (fun r hr => c_X10_guests q2 σ M N hL r hr) cls10 (g_is_at hs93) wm_11_318 wy_X10_guests wd_X10_guests ⟨by decide, by decide, by decide, by decide, Nat.le_of_ble_eq_true rfl⟩ rfl rfl (fun q93 hq93 => ?_)
      show g_H E 0 0 96 [(3, vR q2), (0, vR 1), (1, vI x1), (2, vI x2)] [vI q93] (σ, M, N) _ _
      exact r_iret J rfl rfl rfl rfl (by decide) (by decide)
    · rw [if_neg (by rw [hc]; decide), if_neg (by rw [hc]; decide), if_neg (by rw [hc]; decide), if_neg (by rw [hc]; decide), if_neg (by rw [hc]; decide), if_neg (by rw [hc]; decide), if_pos hc]
      refine r_run J 2 (pc' := 99) (lv' := [(3, vR q2), (0, vR 1), (1, vI x1), (2, vI x2)]) (st' := [vI 0, vR q2]) rfl ?_
      refine r_chk (fun hs99 => ?_)
      refine r_callV J (As := [vI 0]) (st := []) (fun r hr => c_X10_billBut q2 0 σ M N hL r hr) cls10 (g_is_at hs99) wm_11_276 wy_X10_billBut wd_X10_billBut ⟨by decide, by decide, by decide, by decide, Nat.le_of_ble_eq_true rfl⟩ rfl rfl (fun q99 hq99 => ?_)
      show g_H E 0 0 102 [(3, vR q2), (0, vR 1), (1, vI x1), (2, vI x2)] [vI q99] (σ, M, N) _ _
      exact r_iret J rfl rfl rfl rfl (by decide) (by decide)
    · rw [if_neg (by rw [hc]; decide), if_neg (by rw [hc]; decide), if_neg (by rw [hc]; decide), if_neg (by rw [hc]; decide), if_neg (by rw [hc]; decide), if_neg (by rw [hc]; decide), if_neg (by rw [hc]; decide), if_pos hc]
      refine r_run J 2 (pc' := 105) (lv' := [(3, vR q2), (0, vR 1), (1, vI x1), (2, vI x2)]) (st' := [vR q2, vR 1]) rfl ?_
      refine r_callV J (As := [vR q2]) (st := []) (fun r hr => c_X11_isOver q2 σ M N hL r hr) cls11 (ly_1 hL) wm_11_321 wy_X11_isOver wd_X11_isOver ⟨by decide, by decide, by decide, by decide, Nat.le_of_ble_eq_true rfl⟩ rfl rfl (fun q105 hq105 => ?_)
      show g_H E 0 0 108 [(3, vR q2), (0, vR 1), (1, vI x1), (2, vI x2)] [vI q105] (σ, M, N) _ _
      refine r_if_eq J (tgt := 115) rfl (by decide) (fun c108 => ?_) (fun c108 => ?_)
      · refine r_run J 1 (pc' := 116) (lv' := [(3, vR q2), (0, vR 1), (1, vI x1), (2, vI x2)]) (st' := [vI 0]) rfl ?_
        exact r_iret J rfl rfl rfl rfl (by decide) (by decide)
      · refine r_run J 2 (pc' := 116) (lv' := [(3, vR q2), (0, vR 1), (1, vI x1), (2, vI x2)]) (st' := [vI 1]) rfl ?_
        exact r_iret J rfl rfl rfl rfl (by decide) (by decide)
    · rw [if_neg (by rw [hc]; decide), if_neg (by rw [hc]; decide), if_neg (by rw [hc]; decide), if_neg (by rw [hc]; decide), if_neg (by rw [hc]; decide), if_neg (by rw [hc]; decide), if_neg (by rw [hc]; decide), if_neg (by rw [hc]; decide), if_pos hc]
      refine r_run J 1 (pc' := 118) (lv' := [(3, vR q2), (0, vR 1), (1, vI x1), (2, vI x2)]) (st' := [vR q2]) rfl ?_
      refine r_chk (fun hs118 => ?_)
      refine r_getR J cls10 rfl (k := 5) (t := 2) (by decide) wf_11_219 rfl rfl (g_is_at hs118) rfl (fun _ => ?_)
      show g_H E 0 0 121 [(3, vR q2), (0, vR 1), (1, vI x1), (2, vI x2)] [vR (σ.2 q2 5)] (σ, M, N) _ _
      refine r_chk (fun hs121 => ?_)
      refine r_getI J cls2 rfl (k := 5) (by decide) wf_11_324 rfl (g_is_at hs121) ?_
      show g_H E 0 0 124 [(3, vR q2), (0, vR 1), (1, vI x1), (2, vI x2)] [vI (M (σ.2 q2 5) 5)] (σ, M, N) _ _
      exact r_iret J rfl rfl rfl rfl (by decide) (by decide)
    · rw [if_neg (hd _ (List.mem_of_getElem? (i := 0) rfl)), if_neg (hd _ (List.mem_of_getElem? (i := 1) rfl)), if_neg (hd _ (List.mem_of_getElem? (i := 2) rfl)), if_neg (hd _ (List.mem_of_getElem? (i := 3) rfl)), if_neg (hd _ (List.mem_of_getElem? (i := 4) rfl)), if_neg (hd _ (List.mem_of_getElem? (i := 5) rfl)), if_neg (hd _ (List.mem_of_getElem? (i := 6) rfl)), if_neg (hd _ (List.mem_of_getElem? (i := 7) rfl)), if_neg (hd _ (List.mem_of_getElem? (i := 8) rfl))]
      refine r_run J 1 (pc' := 126) (lv' := [(3, vR q2), (0, vR 1), (1, vI x1), (2, vI x2)]) (st' := [vI (-1)]) rfl ?_
      exact r_iret J rfl rfl rfl rfl (by decide) (by decide)
theorem c_X11_townOf {l : Launch} (x1 : Int32) (x2 : Int32) (σ : gS) (M : gM) (N : gN) (hL : g_layC σ) (r : Int32) (h : f_X11_townOf x1 x2 σ M = some r) : g_Ct l yX11_townOf cX11_townOf 4 (some .int) 3 0 0 [vR 1, vI x1, vI x2] (σ, M, N) (eI σ M N r) :=
  g_Ct.of tb_X11_townOf (by decide +kernel) tk_X11_townOf (Nat.le_of_ble_eq_true rfl) (fun E J => p_X11_townOf_0 J x1 x2 σ M N hL r h)
def tb_X11_roomOf : gT := [(0, .aload_n 0, 1, 0), (1, .iload_n 1, 1, 0), (2, .invokevirtual 193, 3, 0), (5, .astore 4, 2, 0), (7, .aload 4, 2, 0), (9, .ifnonnull 7, 3, 0), (12, .aconst_null, 1, 0), (13, .goto 9, 3, 0), (16, .aload 4, 2, 0), (18, .iload_n 2, 1, 0), (19, .invokevirtual 232, 3, 0), (22, .astore 5, 2, 0), (24, .aload 5, 2, 0), (26, .ifnonnull 5, 3, 0), (29, .iconst (-1), 1, (-1)), (30, .ireturn, 1, 0), (31, .iload_n 3, 1, 0), (32, .tableswitch 83 0 4 #[36, 42, 56, 62, 76], 36, 0), (68, .aload 5, 2, 0), (70, .getfield 327, 3, 0), (73, .ireturn, 1, 0), (74, .aload 5, 2, 0), (76, .getfield 330, 3, 0), (79, .ifCond .eq 7, 3, 0), (82, .iconst 1, 1, 1), (83, .goto 4, 3, 0), (86, .iconst 0, 1, 0), (87, .ireturn, 1, 0), (88, .aload 5, 2, 0), (90, .getfield 333, 3, 0), (93, .ireturn, 1, 0), (94, .aload 5, 2, 0), (96, .getfield 236, 3, 0), (99, .ifCond .eq 7, 3, 0), (102, .iconst 1, 1, 1), (103, .goto 4, 3, 0), (106, .iconst 0, 1, 0), (107, .ireturn, 1, 0), (108, .aload 4, 2, 0), (110, .iload_n 2, 1, 0), (111, .invokevirtual 239, 3, 0), (114, .ireturn, 1, 0), (115, .iconst (-1), 1, (-1)), (116, .ireturn, 1, 0)]
set_option maxRecDepth 100000 in
theorem tk_X11_roomOf : g_okT cX11_roomOf tb_X11_roomOf = true := by decide +kernel
abbrev J_X11_roomOf (E : gE) (l : Launch) : Prop := g_J E cX11_roomOf RX11 "roomOf" (some .int) 6 tb_X11_roomOf 3 0 0 l
set_option maxHeartbeats 4000000 in
set_option maxRecDepth 100000 in
theorem p_X11_roomOf_22 {l : Launch} {E : gE} (J : J_X11_roomOf E l) (x2 : Int32) (x3 : Int32) (r4 : Nat) (sr0 : Nat) (σ : gS) (M : gM) (N : gN) (hL : g_layC σ) : g_H E 0 0 22 [(2, vI x2), (3, vI x3), (4, vR r4)] [vR sr0] (σ, M, N) (b_X11_roomOf_22 x2 x3 r4 sr0 σ M) (eI σ M N) := by
  unfold b_X11_roomOf_22
  refine r_run J 2 (pc' := 26) (lv' := [(5, vR sr0), (2, vI x2), (3, vI x3), (4, vR r4)]) (st' := [vR sr0]) rfl ?_
  refine r_ifnonnull J (tgt := 31) rfl (by decide) (fun c26 => ?_) (fun c26 => ?_)
  · refine r_run J 1 (pc' := 30) (lv' := [(5, vR sr0), (2, vI x2), (3, vI x3), (4, vR r4)]) (st' := [vI (-1)]) rfl ?_
    exact r_iret J rfl rfl rfl rfl (by decide) (by decide)
  · refine r_run J 1 (pc' := 32) (lv' := [(5, vR sr0), (2, vI x2), (3, vI x3), (4, vR r4)]) (st' := [vI x3]) rfl ?_
    refine r_table J [(0, 68), (1, 74), (2, 88), (3, 94), (4, 108)] (d := 115) rfl (by decide +kernel) (List.forall_mem_cons.mpr ⟨fun hc => ?_, List.forall_mem_cons.mpr ⟨fun hc => ?_, List.forall_mem_cons.mpr ⟨fun hc => ?_, List.forall_mem_cons.mpr ⟨fun hc => ?_, List.forall_mem_cons.mpr ⟨fun hc => ?_, fun _ h => absurd h List.not_mem_nil⟩⟩⟩⟩⟩) (fun hd => ?_)
    · rw [if_pos hc]
      refine r_run J 1 (pc' := 70) (lv' := [(5, vR sr0), (2, vI x2), (3, vI x3), (4, vR r4)]) (st' := [vR sr0]) rfl ?_
      refine r_chk (fun hs70 => ?_)
      refine r_getI J cls8 rfl (k := 0) (by decide) wf_11_327 rfl (g_is_at hs70) ?_
      show g_H E 0 0 73 [(5, vR sr0), (2, vI x2), (3, vI x3), (4, vR r4)] [vI (M sr0 0)] (σ, M, N) _ _
      exact r_iret J rfl rfl rfl rfl (by decide) (by decide)
    · rw [if_neg (by rw [hc]; decide), if_pos hc]
      refine r_run J 1 (pc' := 76) (lv' := [(5, vR sr0), (2, vI x2), (3, vI x3), (4, vR r4)]) (st' := [vR sr0]) rfl ?_
      refine r_chk (fun hs76 => ?_)
      refine r_getI J cls8 rfl (k := 1) (by decide) wf_11_330 rfl (g_is_at hs76) ?_
      show g_H E 0 0 79 [(5, vR sr0), (2, vI x2), (3, vI x3), (4, vR r4)] [vI (M sr0 1)] (σ, M, N) _ _
      refine r_if_eq J (tgt := 86) rfl (by decide) (fun c79 => ?_) (fun c79 => ?_)
      · refine r_run J 1 (pc' := 87) (lv' := [(5, vR sr0), (2, vI x2), (3, vI x3), (4, vR r4)]) (st' := [vI 0]) rfl ?_
        exact r_iret J rfl rfl rfl rfl (by decide) (by decide)
      · refine r_run J 2 (pc' := 87) (lv' := [(5, vR sr0), (2, vI x2), (3, vI x3), (4, vR r4)]) (st' := [vI 1]) rfl ?_
        exact r_iret J rfl rfl rfl rfl (by decide) (by decide)
    · rw [if_neg (by rw [hc]; decide), if_neg (by rw [hc]; decide), if_pos hc]
      refine r_run J 1 (pc' := 90) (lv' := [(5, vR sr0), (2, vI x2), (3, vI x3), (4, vR r4)]) (st' := [vR sr0]) rfl ?_
      refine r_chk (fun hs90 => ?_)
      refine r_getI J cls8 rfl (k := 2) (by decide) wf_11_333 rfl (g_is_at hs90) ?_
      show g_H E 0 0 93 [(5, vR sr0), (2, vI x2), (3, vI x3), (4, vR r4)] [vI (M sr0 2)] (σ, M, N) _ _
      exact r_iret J rfl rfl rfl rfl (by decide) (by decide)
    · rw [if_neg (by rw [hc]; decide), if_neg (by rw [hc]; decide), if_neg (by rw [hc]; decide), if_pos hc]
      refine r_run J 1 (pc' := 96) (lv' := [(5, vR sr0), (2, vI x2), (3, vI x3), (4, vR r4)]) (st' := [vR sr0]) rfl ?_
      refine r_chk (fun hs96 => ?_)
      refine r_getI J cls8 rfl (k := 3) (by decide) wf_11_236 rfl (g_is_at hs96) ?_
      show g_H E 0 0 99 [(5, vR sr0), (2, vI x2), (3, vI x3), (4, vR r4)] [vI (M sr0 3)] (σ, M, N) _ _
      refine r_if_eq J (tgt := 106) rfl (by decide) (fun c99 => ?_) (fun c99 => ?_)
      · refine r_run J 1 (pc' := 107) (lv' := [(5, vR sr0), (2, vI x2), (3, vI x3), (4, vR r4)]) (st' := [vI 0]) rfl ?_
        exact r_iret J rfl rfl rfl rfl (by decide) (by decide)
      · refine r_run J 2 (pc' := 107) (lv' := [(5, vR sr0), (2, vI x2), (3, vI x3), (4, vR r4)]) (st' := [vI 1]) rfl ?_
        exact r_iret J rfl rfl rfl rfl (by decide) (by decide)
    · rw [if_neg (by rw [hc]; decide), if_neg (by rw [hc]; decide), if_neg (by rw [hc]; decide), if_neg (by rw [hc]; decide), if_pos hc]
      refine r_run J 2 (pc' := 111) (lv' := [(5, vR sr0), (2, vI x2), (3, vI x3), (4, vR r4)]) (st' := [vI x2, vR r4]) rfl ?_
      refine r_chk (fun hs111 => ?_)
      refine r_callV J (As := [vI x2]) (st := []) (fun r hr => c_X10_guestsOf r4 x2 σ M N hL r hr) cls10 (g_is_at hs111) wm_11_239 wy_X10_guestsOf wd_X10_guestsOf ⟨by decide, by decide, by decide, by decide, Nat.le_of_ble_eq_true rfl⟩ rfl rfl (fun q111 hq111 => ?_)
      show g_H E 0 0 114 [(5, vR sr0), (2, vI x2), (3, vI x3), (4, vR r4)] [vI q111] (σ, M, N) _ _
      exact r_iret J rfl rfl rfl rfl (by decide) (by decide)
    · rw [if_neg (hd _ (List.mem_of_getElem? (i := 0) rfl)), if_neg (hd _ (List.mem_of_getElem? (i := 1) rfl)), if_neg (hd _ (List.mem_of_getElem? (i := 2) rfl)), if_neg (hd _ (List.mem_of_getElem? (i := 3) rfl)), if_neg (hd _ (List.mem_of_getElem? (i := 4) rfl))]
      refine r_run J 1 (pc' := 116) (lv' := [(5, vR sr0), (2, vI x2), (3, vI x3), (4, vR r4)]) (st' := [vI (-1)]) rfl ?_
      exact r_iret J rfl rfl rfl rfl (by decide) (by decide)
set_option maxHeartbeats 4000000 in
set_option maxRecDepth 100000 in
theorem p_X11_roomOf_0 {l : Launch} {E : gE} (J : J_X11_roomOf E l) (x1 : Int32) (x2 : Int32) (x3 : Int32) (σ : gS) (M : gM) (N : gN) (hL : g_layC σ) : g_H E 0 0 0 [(0, vR 1), (1, vI x1), (2, vI x2), (3, vI x3)] [] (σ, M, N) (b_X11_roomOf_0 x1 x2 x3 σ M) (eI σ M N) := by
  unfold b_X11_roomOf_0
  refine r_run J 2 (pc' := 2) (lv' := [(0, vR 1), (1, vI x1), (2, vI x2), (3, vI x3)]) (st' := [vI x1, vR 1]) rfl ?_
  refine r_callV J (As := [vI x1]) (st := []) (fun r hr => c_X11_townAt x1 σ M N hL r hr) cls11 (ly_1 hL) wm_11_193 wy_X11_townAt wd_X11_townAt ⟨by decide, by decide, by decide, by decide, Nat.le_of_ble_eq_true rfl⟩ rfl rfl (fun q2 hq2 => ?_)
  show g_H E 0 0 5 [(0, vR 1), (1, vI x1), (2, vI x2), (3, vI x3)] [vR q2] (σ, M, N) _ _
  refine r_run J 2 (pc' := 9) (lv' := [(4, vR q2), (0, vR 1), (1, vI x1), (2, vI x2), (3, vI x3)]) (st' := [vR q2]) rfl ?_
  refine r_ifnonnull J (tgt := 16) rfl (by decide) (fun c9 => ?_) (fun c9 => ?_)
  · refine r_run J 2 (pc' := 22) (lv' := [(4, vR q2), (0, vR 1), (1, vI x1), (2, vI x2), (3, vI x3)]) (st' := [vR 0]) rfl ?_
    refine r_sub [3, 4, 0] (lv' := [(2, vI x2), (3, vI x3), (4, vR q2)]) rfl ?_
    exact p_X11_roomOf_22 J x2 x3 q2 0 σ M N hL
  · refine r_run J 2 (pc' := 19) (lv' := [(4, vR q2), (0, vR 1), (1, vI x1), (2, vI x2), (3, vI x3)]) (st' := [vI x2, vR q2]) rfl ?_
    refine r_chk (fun hs19 => ?_)
    refine r_callV J (As := [vI x2]) (st := []) (fun r hr => c_X10_roomAt q2 x2 σ M N hL r hr) cls10 (g_is_at hs19) wm_11_232 wy_X10_roomAt wd_X10_roomAt ⟨by decide, by decide, by decide, by decide, Nat.le_of_ble_eq_true rfl⟩ rfl rfl (fun q19 hq19 => ?_)
    show g_H E 0 0 22 [(4, vR q2), (0, vR 1), (1, vI x1), (2, vI x2), (3, vI x3)] [vR q19] (σ, M, N) _ _
    refine r_sub [3, 4, 0] (lv' := [(2, vI x2), (3, vI x3), (4, vR q2)]) rfl ?_
    exact p_X11_roomOf_22 J x2 x3 q2 q19 σ M N hL
theorem c_X11_roomOf {l : Launch} (x1 : Int32) (x2 : Int32) (x3 : Int32) (σ : gS) (M : gM) (N : gN) (hL : g_layC σ) (r : Int32) (h : f_X11_roomOf x1 x2 x3 σ M = some r) : g_Ct l yX11_roomOf cX11_roomOf 6 (some .int) 3 0 0 [vR 1, vI x1, vI x2, vI x3] (σ, M, N) (eI σ M N r) :=
  g_Ct.of tb_X11_roomOf (by decide +kernel) tk_X11_roomOf (Nat.le_of_ble_eq_true rfl) (fun E J => p_X11_roomOf_0 J x1 x2 x3 σ M N hL r h)
def tb_X11_personOf : gT := [(0, .aload_n 0, 1, 0), (1, .getfield 10, 3, 0), (4, .iload_n 1, 1, 0), (5, .invokevirtual 106, 3, 0), (8, .astore_n 3, 1, 0), (9, .aload_n 3, 1, 0), (10, .ifnonnull 5, 3, 0), (13, .iconst (-1), 1, (-1)), (14, .ireturn, 1, 0), (15, .iload_n 2, 1, 0), (16, .tableswitch 125 0 8 #[52, 65, 70, 83, 88, 93, 98, 111, 116], 52, 0), (68, .aload_n 3, 1, 0), (69, .getfield 336, 3, 0), (72, .ifCond .eq 7, 3, 0), (75, .iconst 1, 1, 1), (76, .goto 4, 3, 0), (79, .iconst 0, 1, 0), (80, .ireturn, 1, 0), (81, .aload_n 3, 1, 0), (82, .getfield 339, 3, 0), (85, .ireturn, 1, 0), (86, .aload_n 3, 1, 0), (87, .getfield 342, 3, 0), (90, .ifCond .eq 7, 3, 0), (93, .iconst 1, 1, 1), (94, .goto 4, 3, 0), (97, .iconst 0, 1, 0), (98, .ireturn, 1, 0), (99, .aload_n 3, 1, 0), (100, .getfield 343, 3, 0), (103, .ireturn, 1, 0), (104, .aload_n 3, 1, 0), (105, .getfield 127, 3, 0), (108, .ireturn, 1, 0), (109, .aload_n 3, 1, 0), (110, .getfield 130, 3, 0), (113, .ireturn, 1, 0), (114, .aload_n 3, 1, 0), (115, .getfield 110, 3, 0), (118, .ifCond .eq 7, 3, 0), (121, .iconst 1, 1, 1), (122, .goto 4, 3, 0), (125, .iconst 0, 1, 0), (126, .ireturn, 1, 0), (127, .aload_n 3, 1, 0), (128, .getfield 114, 3, 0), (131, .ireturn, 1, 0), (132, .aload_n 0, 1, 0), (133, .getfield 10, 3, 0), (136, .iload_n 1, 1, 0), (137, .invokevirtual 346, 3, 0), (140, .ireturn, 1, 0), (141, .iconst (-1), 1, (-1)), (142, .ireturn, 1, 0)]
set_option maxRecDepth 100000 in
theorem tk_X11_personOf : g_okT cX11_personOf tb_X11_personOf = true := by decide +kernel
abbrev J_X11_personOf (E : gE) (l : Launch) : Prop := g_J E cX11_personOf RX11 "personOf" (some .int) 4 tb_X11_personOf 4 0 0 l
set_option maxHeartbeats 4000000 in
set_option maxRecDepth 100000 in
theorem p_X11_personOf_0 {l : Launch} {E : gE} (J : J_X11_personOf E l) (x1 : Int32) (x2 : Int32) (σ : gS) (M : gM) (N : gN) (hL : g_layC σ) : g_H E 0 0 0 [(0, vR 1), (1, vI x1), (2, vI x2)] [] (σ, M, N) (b_X11_personOf_0 x1 x2 σ M) (eI σ M N) := by
  unfold b_X11_personOf_0
  refine r_run J 1 (pc' := 1) (lv' := [(0, vR 1), (1, vI x1), (2, vI x2)]) (st' := [vR 1]) rfl ?_
  refine r_getR J cls11 rfl (k := 0) (t := 5) (by decide) wf_11_10 rfl rfl (ly_1 hL) (lr_1_0 hL) (fun _ => ?_)
  show g_H E 0 0 4 [(0, vR 1), (1, vI x1), (2, vI x2)] [vR 2] (σ, M, N) _ _
  refine r_run J 1 (pc' := 5) (lv' := [(0, vR 1), (1, vI x1), (2, vI x2)]) (st' := [vI x1, vR 2]) rfl ?_
  refine r_callV J (As := [vI x1]) (st := []) (fun r hr => c_X5_at x1 σ M N hL r hr) cls5 (ly_2 hL) wm_11_106 wy_X5_at wd_X5_at ⟨by decide, by decide, by decide, by decide, Nat.le_of_ble_eq_true rfl⟩ rfl rfl (fun q5 hq5 => ?_)
  show g_H E 0 0 8 [(0, vR 1), (1, vI x1), (2, vI x2)] [vR q5] (σ, M, N) _ _
  refine r_run J 2 (pc' := 10) (lv' := [(3, vR q5), (0, vR 1), (1, vI x1), (2, vI x2)]) (st' := [vR q5]) rfl ?_
  refine r_ifnonnull J (tgt := 15) rfl (by decide) (fun c10 => ?_) (fun c10 => ?_)
  · refine r_run J 1 (pc' := 14) (lv' := [(3, vR q5), (0, vR 1), (1, vI x1), (2, vI x2)]) (st' := [vI (-1)]) rfl ?_
    exact r_iret J rfl rfl rfl rfl (by decide) (by decide)
  · refine r_run J 1 (pc' := 16) (lv' := [(3, vR q5), (0, vR 1), (1, vI x1), (2, vI x2)]) (st' := [vI x2]) rfl ?_
    refine r_table J [(0, 68), (1, 81), (2, 86), (3, 99), (4, 104), (5, 109), (6, 114), (7, 127), (8, 132)] (d := 141) rfl (by decide +kernel) (List.forall_mem_cons.mpr ⟨fun hc => ?_, List.forall_mem_cons.mpr ⟨fun hc => ?_, List.forall_mem_cons.mpr ⟨fun hc => ?_, List.forall_mem_cons.mpr ⟨fun hc => ?_, List.forall_mem_cons.mpr ⟨fun hc => ?_, List.forall_mem_cons.mpr ⟨fun hc => ?_, List.forall_mem_cons.mpr ⟨fun hc => ?_, List.forall_mem_cons.mpr ⟨fun hc => ?_, List.forall_mem_cons.mpr ⟨fun hc => ?_, fun _ h => absurd h List.not_mem_nil⟩⟩⟩⟩⟩⟩⟩⟩⟩) (fun hd => ?_)
    · rw [if_pos hc]
      refine r_run J 1 (pc' := 69) (lv' := [(3, vR q5), (0, vR 1), (1, vI x1), (2, vI x2)]) (st' := [vR q5]) rfl ?_
      refine r_chk (fun hs69 => ?_)
      refine r_getI J cls6 rfl (k := 0) (by decide) wf_11_336 rfl (g_is_at hs69) ?_
      show g_H E 0 0 72 [(3, vR q5), (0, vR 1), (1, vI x1), (2, vI x2)] [vI (M q5 0)] (σ, M, N) _ _
      refine r_if_eq J (tgt := 79) rfl (by decide) (fun c72 => ?_) (fun c72 => ?_)
      · refine r_run J 1 (pc' := 80) (lv' := [(3, vR q5), (0, vR 1), (1, vI x1), (2, vI x2)]) (st' := [vI 0]) rfl ?_
        exact r_iret J rfl rfl rfl rfl (by decide) (by decide)
      · refine r_run J 2 (pc' := 80) (lv' := [(3, vR q5), (0, vR 1), (1, vI x1), (2, vI x2)]) (st' := [vI 1]) rfl ?_
        exact r_iret J rfl rfl rfl rfl (by decide) (by decide)
    · rw [if_neg (by rw [hc]; decide), if_pos hc]
      refine r_run J 1 (pc' := 82) (lv' := [(3, vR q5), (0, vR 1), (1, vI x1), (2, vI x2)]) (st' := [vR q5]) rfl ?_
      refine r_chk (fun hs82 => ?_)
      refine r_getI J cls6 rfl (k := 1) (by decide) wf_11_339 rfl (g_is_at hs82) ?_
      show g_H E 0 0 85 [(3, vR q5), (0, vR 1), (1, vI x1), (2, vI x2)] [vI (M q5 1)] (σ, M, N) _ _
      exact r_iret J rfl rfl rfl rfl (by decide) (by decide)
    · rw [if_neg (by rw [hc]; decide), if_neg (by rw [hc]; decide), if_pos hc]
      refine r_run J 1 (pc' := 87) (lv' := [(3, vR q5), (0, vR 1), (1, vI x1), (2, vI x2)]) (st' := [vR q5]) rfl ?_
      refine r_chk (fun hs87 => ?_)
      refine r_getI J cls6 rfl (k := 2) (by decide) wf_11_342 rfl (g_is_at hs87) ?_
      show g_H E 0 0 90 [(3, vR q5), (0, vR 1), (1, vI x1), (2, vI x2)] [vI (M q5 2)] (σ, M, N) _ _
      refine r_if_eq J (tgt := 97) rfl (by decide) (fun c90 => ?_) (fun c90 => ?_)
      · refine r_run J 1 (pc' := 98) (lv' := [(3, vR q5), (0, vR 1), (1, vI x1), (2, vI x2)]) (st' := [vI 0]) rfl ?_
        exact r_iret J rfl rfl rfl rfl (by decide) (by decide)
      · refine r_run J 2 (pc' := 98) (lv' := [(3, vR q5), (0, vR 1), (1, vI x1), (2, vI x2)]) (st' := [vI 1]) rfl ?_
        exact r_iret J rfl rfl rfl rfl (by decide) (by decide)
    · rw [if_neg (by rw [hc]; decide), if_neg (by rw [hc]; decide), if_neg (by rw [hc]; decide), if_pos hc]
      refine r_run J 1 (pc' := 100) (lv' := [(3, vR q5), (0, vR 1), (1, vI x1), (2, vI x2)]) (st' := [vR q5]) rfl ?_
      refine r_chk (fun hs100 => ?_)
      refine r_getI J cls6 rfl (k := 3) (by decide) wf_11_343 rfl (g_is_at hs100) ?_
      show g_H E 0 0 103 [(3, vR q5), (0, vR 1), (1, vI x1), (2, vI x2)] [vI (M q5 3)] (σ, M, N) _ _
      exact r_iret J rfl rfl rfl rfl (by decide) (by decide)
    · rw [if_neg (by rw [hc]; decide), if_neg (by rw [hc]; decide), if_neg (by rw [hc]; decide), if_neg (by rw [hc]; decide), if_pos hc]
      refine r_run J 1 (pc' := 105) (lv' := [(3, vR q5), (0, vR 1), (1, vI x1), (2, vI x2)]) (st' := [vR q5]) rfl ?_
      refine r_chk (fun hs105 => ?_)
      refine r_getI J cls6 rfl (k := 4) (by decide) wf_11_127 rfl (g_is_at hs105) ?_
      show g_H E 0 0 108 [(3, vR q5), (0, vR 1), (1, vI x1), (2, vI x2)] [vI (M q5 4)] (σ, M, N) _ _
      exact r_iret J rfl rfl rfl rfl (by decide) (by decide)
    · rw [if_neg (by rw [hc]; decide), if_neg (by rw [hc]; decide), if_neg (by rw [hc]; decide), if_neg (by rw [hc]; decide), if_neg (by rw [hc]; decide), if_pos hc]
      refine r_run J 1 (pc' := 110) (lv' := [(3, vR q5), (0, vR 1), (1, vI x1), (2, vI x2)]) (st' := [vR q5]) rfl ?_
      refine r_chk (fun hs110 => ?_)
      refine r_getI J cls6 rfl (k := 5) (by decide) wf_11_130 rfl (g_is_at hs110) ?_
      show g_H E 0 0 113 [(3, vR q5), (0, vR 1), (1, vI x1), (2, vI x2)] [vI (M q5 5)] (σ, M, N) _ _
      exact r_iret J rfl rfl rfl rfl (by decide) (by decide)
    · rw [if_neg (by rw [hc]; decide), if_neg (by rw [hc]; decide), if_neg (by rw [hc]; decide), if_neg (by rw [hc]; decide), if_neg (by rw [hc]; decide), if_neg (by rw [hc]; decide), if_pos hc]
      refine r_run J 1 (pc' := 115) (lv' := [(3, vR q5), (0, vR 1), (1, vI x1), (2, vI x2)]) (st' := [vR q5]) rfl ?_
      refine r_chk (fun hs115 => ?_)
      refine r_getI J cls6 rfl (k := 6) (by decide) wf_11_110 rfl (g_is_at hs115) ?_
      show g_H E 0 0 118 [(3, vR q5), (0, vR 1), (1, vI x1), (2, vI x2)] [vI (M q5 6)] (σ, M, N) _ _
      refine r_if_eq J (tgt := 125) rfl (by decide) (fun c118 => ?_) (fun c118 => ?_)
      · refine r_run J 1 (pc' := 126) (lv' := [(3, vR q5), (0, vR 1), (1, vI x1), (2, vI x2)]) (st' := [vI 0]) rfl ?_
        exact r_iret J rfl rfl rfl rfl (by decide) (by decide)
      · refine r_run J 2 (pc' := 126) (lv' := [(3, vR q5), (0, vR 1), (1, vI x1), (2, vI x2)]) (st' := [vI 1]) rfl ?_
        exact r_iret J rfl rfl rfl rfl (by decide) (by decide)
    · rw [if_neg (by rw [hc]; decide), if_neg (by rw [hc]; decide), if_neg (by rw [hc]; decide), if_neg (by rw [hc]; decide), if_neg (by rw [hc]; decide), if_neg (by rw [hc]; decide), if_neg (by rw [hc]; decide), if_pos hc]
      refine r_run J 1 (pc' := 128) (lv' := [(3, vR q5), (0, vR 1), (1, vI x1), (2, vI x2)]) (st' := [vR q5]) rfl ?_
      refine r_chk (fun hs128 => ?_)
      refine r_getI J cls6 rfl (k := 7) (by decide) wf_11_114 rfl (g_is_at hs128) ?_
      show g_H E 0 0 131 [(3, vR q5), (0, vR 1), (1, vI x1), (2, vI x2)] [vI (M q5 7)] (σ, M, N) _ _
      exact r_iret J rfl rfl rfl rfl (by decide) (by decide)
    · rw [if_neg (by rw [hc]; decide), if_neg (by rw [hc]; decide), if_neg (by rw [hc]; decide), if_neg (by rw [hc]; decide), if_neg (by rw [hc]; decide), if_neg (by rw [hc]; decide), if_neg (by rw [hc]; decide), if_neg (by rw [hc]; decide), if_pos hc]
      refine r_run J 1 (pc' := 133) (lv' := [(3, vR q5), (0, vR 1), (1, vI x1), (2, vI x2)]) (st' := [vR 1]) rfl ?_
      refine r_getR J cls11 rfl (k := 0) (t := 5) (by decide) wf_11_10 rfl rfl (ly_1 hL) (lr_1_0 hL) (fun _ => ?_)
      show g_H E 0 0 136 [(3, vR q5), (0, vR 1), (1, vI x1), (2, vI x2)] [vR 2] (σ, M, N) _ _
      refine r_run J 1 (pc' := 137) (lv' := [(3, vR q5), (0, vR 1), (1, vI x1), (2, vI x2)]) (st' := [vI x1, vR 2]) rfl ?_
      refine r_callV J (As := [vI x1]) (st := []) (fun r hr => c_X5_sharersFor x1 σ M N hL r hr) cls5 (ly_2 hL) wm_11_346 wy_X5_sharersFor wd_X5_sharersFor ⟨by decide, by decide, by decide, by decide, Nat.le_of_ble_eq_true rfl⟩ rfl rfl (fun q137 hq137 => ?_)
      show g_H E 0 0 140 [(3, vR q5), (0, vR 1), (1, vI x1), (2, vI x2)] [vI q137] (σ, M, N) _ _
      exact r_iret J rfl rfl rfl rfl (by decide) (by decide)
    · rw [if_neg (hd _ (List.mem_of_getElem? (i := 0) rfl)), if_neg (hd _ (List.mem_of_getElem? (i := 1) rfl)), if_neg (hd _ (List.mem_of_getElem? (i := 2) rfl)), if_neg (hd _ (List.mem_of_getElem? (i := 3) rfl)), if_neg (hd _ (List.mem_of_getElem? (i := 4) rfl)), if_neg (hd _ (List.mem_of_getElem? (i := 5) rfl)), if_neg (hd _ (List.mem_of_getElem? (i := 6) rfl)), if_neg (hd _ (List.mem_of_getElem? (i := 7) rfl)), if_neg (hd _ (List.mem_of_getElem? (i := 8) rfl))]
      refine r_run J 1 (pc' := 142) (lv' := [(3, vR q5), (0, vR 1), (1, vI x1), (2, vI x2)]) (st' := [vI (-1)]) rfl ?_
      exact r_iret J rfl rfl rfl rfl (by decide) (by decide)
theorem c_X11_personOf {l : Launch} (x1 : Int32) (x2 : Int32) (σ : gS) (M : gM) (N : gN) (hL : g_layC σ) (r : Int32) (h : f_X11_personOf x1 x2 σ M = some r) : g_Ct l yX11_personOf cX11_personOf 4 (some .int) 4 0 0 [vR 1, vI x1, vI x2] (σ, M, N) (eI σ M N r) :=
  g_Ct.of tb_X11_personOf (by decide +kernel) tk_X11_personOf (Nat.le_of_ble_eq_true rfl) (fun E J => p_X11_personOf_0 J x1 x2 σ M N hL r h)
def tb_X11_count : gT := [(0, .iload_n 1, 1, 0), (1, .tableswitch 129 0 10 #[59, 64, 69, 74, 82, 87, 92, 100, 105, 113, 121], 59, 0), (60, .aload_n 0, 1, 0), (61, .getfield 71, 3, 0), (64, .ireturn, 1, 0), (65, .aload_n 0, 1, 0), (66, .getfield 74, 3, 0), (69, .ireturn, 1, 0), (70, .aload_n 0, 1, 0), (71, .getfield 77, 3, 0), (74, .ireturn, 1, 0), (75, .aload_n 0, 1, 0), (76, .getfield 10, 3, 0), (79, .getfield 94, 3, 0), (82, .ireturn, 1, 0), (83, .aload_n 0, 1, 0), (84, .getfield 64, 3, 0), (87, .ireturn, 1, 0), (88, .aload_n 0, 1, 0), (89, .getfield 68, 3, 0), (92, .ireturn, 1, 0), (93, .aload_n 0, 1, 0), (94, .getfield 60, 3, 0), (97, .getfield 133, 3, 0), (100, .ireturn, 1, 0), (101, .aload_n 0, 1, 0), (102, .getfield 80, 3, 0), (105, .ireturn, 1, 0), (106, .aload_n 0, 1, 0), (107, .getfield 32, 3, 0), (110, .getfield 212, 3, 0), (113, .ireturn, 1, 0), (114, .aload_n 0, 1, 0), (115, .getfield 53, 3, 0), (118, .getfield 349, 3, 0), (121, .ireturn, 1, 0), (122, .aload_n 0, 1, 0), (123, .getfield 25, 3, 0), (126, .getfield 352, 3, 0), (129, .ireturn, 1, 0), (130, .iconst (-1), 1, (-1)), (131, .ireturn, 1, 0)]
set_option maxRecDepth 100000 in
theorem tk_X11_count : g_okT cX11_count tb_X11_count = true := by decide +kernel
abbrev J_X11_count (E : gE) (l : Launch) : Prop := g_J E cX11_count RX11 "count" (some .int) 2 tb_X11_count 1 0 0 l
set_option maxHeartbeats 4000000 in
set_option maxRecDepth 100000 in
theorem p_X11_count_0 {l : Launch} {E : gE} (J : J_X11_count E l) (x1 : Int32) (σ : gS) (M : gM) (N : gN) (hL : g_layC σ) : g_H E 0 0 0 [(0, vR 1), (1, vI x1)] [] (σ, M, N) (b_X11_count_0 x1 σ M) (eI σ M N) := by
  unfold b_X11_count_0
  refine r_run J 1 (pc' := 1) (lv' := [(0, vR 1), (1, vI x1)]) (st' := [vI x1]) rfl ?_
  refine r_table J [(0, 60), (1, 65), (2, 70), (3, 75), (4, 83), (5, 88), (6, 93), (7, 101), (8, 106), (9, 114), (10, 122)] (d := 130) rfl (by decide +kernel) (List.forall_mem_cons.mpr ⟨fun hc => ?_, List.forall_mem_cons.mpr ⟨fun hc => ?_, List.forall_mem_cons.mpr ⟨fun hc => ?_, List.forall_mem_cons.mpr ⟨fun hc => ?_, List.forall_mem_cons.mpr ⟨fun hc => ?_, List.forall_mem_cons.mpr ⟨fun hc => ?_, List.forall_mem_cons.mpr ⟨fun hc => ?_, List.forall_mem_cons.mpr ⟨fun hc => ?_, List.forall_mem_cons.mpr ⟨fun hc => ?_, List.forall_mem_cons.mpr ⟨fun hc => ?_, List.forall_mem_cons.mpr ⟨fun hc => ?_, fun _ h => absurd h List.not_mem_nil⟩⟩⟩⟩⟩⟩⟩⟩⟩⟩⟩) (fun hd => ?_)
  · rw [if_pos hc]
    refine r_run J 1 (pc' := 61) (lv' := [(0, vR 1), (1, vI x1)]) (st' := [vR 1]) rfl ?_
    refine r_getI J cls11 rfl (k := 10) (by decide) wf_11_71 rfl (ly_1 hL) ?_
    show g_H E 0 0 64 [(0, vR 1), (1, vI x1)] [vI (M 1 10)] (σ, M, N) _ _
    exact r_iret J rfl rfl rfl rfl (by decide) (by decide)
  · rw [if_neg (by rw [hc]; decide), if_pos hc]
    refine r_run J 1 (pc' := 66) (lv' := [(0, vR 1), (1, vI x1)]) (st' := [vR 1]) rfl ?_
    refine r_getI J cls11 rfl (k := 11) (by decide) wf_11_74 rfl (ly_1 hL) ?_
    show g_H E 0 0 69 [(0, vR 1), (1, vI x1)] [vI (M 1 11)] (σ, M, N) _ _
    exact r_iret J rfl rfl rfl rfl (by decide) (by decide)
  · rw [if_neg (by rw [hc]; decide), if_neg (by rw [hc]; decide), if_pos hc]
    refine r_run J 1 (pc' := 71) (lv' := [(0, vR 1), (1, vI x1)]) (st' := [vR 1]) rfl ?_
    refine r_getI J cls11 rfl (k := 12) (by decide) wf_11_77 rfl (ly_1 hL) ?_
    show g_H E 0 0 74 [(0, vR 1), (1, vI x1)] [vI (M 1 12)] (σ, M, N) _ _
    exact r_iret J rfl rfl rfl rfl (by decide) (by decide)
  · rw [if_neg (by rw [hc]; decide), if_neg (by rw [hc]; decide), if_neg (by rw [hc]; decide), if_pos hc]
    refine r_run J 1 (pc' := 76) (lv' := [(0, vR 1), (1, vI x1)]) (st' := [vR 1]) rfl ?_
    refine r_getR J cls11 rfl (k := 0) (t := 5) (by decide) wf_11_10 rfl rfl (ly_1 hL) (lr_1_0 hL) (fun _ => ?_)
    show g_H E 0 0 79 [(0, vR 1), (1, vI x1)] [vR 2] (σ, M, N) _ _
    refine r_getI J cls5 rfl (k := 1) (by decide) wf_11_94 rfl (ly_2 hL) ?_
    show g_H E 0 0 82 [(0, vR 1), (1, vI x1)] [vI (M 2 1)] (σ, M, N) _ _
    exact r_iret J rfl rfl rfl rfl (by decide) (by decide)
  · rw [if_neg (by rw [hc]; decide), if_neg (by rw [hc]; decide), if_neg (by rw [hc]; decide), if_neg (by rw [hc]; decide), if_pos hc]
    refine r_run J 1 (pc' := 84) (lv' := [(0, vR 1), (1, vI x1)]) (st' := [vR 1]) rfl ?_
    refine r_getI J cls11 rfl (k := 8) (by decide) wf_11_64 rfl (ly_1 hL) ?_
    show g_H E 0 0 87 [(0, vR 1), (1, vI x1)] [vI (M 1 8)] (σ, M, N) _ _
    exact r_iret J rfl rfl rfl rfl (by decide) (by decide)
  · rw [if_neg (by rw [hc]; decide), if_neg (by rw [hc]; decide), if_neg (by rw [hc]; decide), if_neg (by rw [hc]; decide), if_neg (by rw [hc]; decide), if_pos hc]
    refine r_run J 1 (pc' := 89) (lv' := [(0, vR 1), (1, vI x1)]) (st' := [vR 1]) rfl ?_
    refine r_getI J cls11 rfl (k := 9) (by decide) wf_11_68 rfl (ly_1 hL) ?_
    show g_H E 0 0 92 [(0, vR 1), (1, vI x1)] [vI (M 1 9)] (σ, M, N) _ _
    exact r_iret J rfl rfl rfl rfl (by decide) (by decide)
  · rw [if_neg (by rw [hc]; decide), if_neg (by rw [hc]; decide), if_neg (by rw [hc]; decide), if_neg (by rw [hc]; decide), if_neg (by rw [hc]; decide), if_neg (by rw [hc]; decide), if_pos hc]
    refine r_run J 1 (pc' := 94) (lv' := [(0, vR 1), (1, vI x1)]) (st' := [vR 1]) rfl ?_
    refine r_getR J cls11 rfl (k := 7) (t := 0) (by decide) wf_11_60 rfl rfl (ly_1 hL) (lr_1_7 hL) (fun _ => ?_)
    show g_H E 0 0 97 [(0, vR 1), (1, vI x1)] [vR 33] (σ, M, N) _ _
    refine r_getI J cls0 rfl (k := 0) (by decide) wf_11_133 rfl (ly_33 hL) ?_
    show g_H E 0 0 100 [(0, vR 1), (1, vI x1)] [vI (M 33 0)] (σ, M, N) _ _
    exact r_iret J rfl rfl rfl rfl (by decide) (by decide)
  · rw [if_neg (by rw [hc]; decide), if_neg (by rw [hc]; decide), if_neg (by rw [hc]; decide), if_neg (by rw [hc]; decide), if_neg (by rw [hc]; decide), if_neg (by rw [hc]; decide), if_neg (by rw [hc]; decide), if_pos hc]
    refine r_run J 1 (pc' := 102) (lv' := [(0, vR 1), (1, vI x1)]) (st' := [vR 1]) rfl ?_
    refine r_getI J cls11 rfl (k := 13) (by decide) wf_11_80 rfl (ly_1 hL) ?_
    show g_H E 0 0 105 [(0, vR 1), (1, vI x1)] [vI (M 1 13)] (σ, M, N) _ _
    exact r_iret J rfl rfl rfl rfl (by decide) (by decide)
  · rw [if_neg (by rw [hc]; decide), if_neg (by rw [hc]; decide), if_neg (by rw [hc]; decide), if_neg (by rw [hc]; decide), if_neg (by rw [hc]; decide), if_neg (by rw [hc]; decide), if_neg (by rw [hc]; decide), if_neg (by rw [hc]; decide), if_pos hc]
    refine r_run J 1 (pc' := 107) (lv' := [(0, vR 1), (1, vI x1)]) (st' := [vR 1]) rfl ?_
    refine r_getR J cls11 rfl (k := 3) (t := 7) (by decide) wf_11_32 rfl rfl (ly_1 hL) (lr_1_3 hL) (fun _ => ?_)
    show g_H E 0 0 110 [(0, vR 1), (1, vI x1)] [vR 7] (σ, M, N) _ _
    refine r_getI J cls7 rfl (k := 6) (by decide) wf_11_212 rfl (ly_7 hL) ?_
    show g_H E 0 0 113 [(0, vR 1), (1, vI x1)] [vI (M 7 6)] (σ, M, N) _ _
    exact r_iret J rfl rfl rfl rfl (by decide) (by decide)
  · rw [if_neg (by rw [hc]; decide), if_neg (by rw [hc]; decide), if_neg (by rw [hc]; decide), if_neg (by rw [hc]; decide), if_neg (by rw [hc]; decide), if_neg (by rw [hc]; decide), if_neg (by rw [hc]; decide), if_neg (by rw [hc]; decide), if_neg (by rw [hc]; decide), if_pos hc]
    refine r_run J 1 (pc' := 115) (lv' := [(0, vR 1), (1, vI x1)]) (st' := [vR 1]) rfl ?_
    refine r_getR J cls11 rfl (k := 6) (t := 1) (by decide) wf_11_53 rfl rfl (ly_1 hL) (lr_1_6 hL) (fun _ => ?_)
    show g_H E 0 0 118 [(0, vR 1), (1, vI x1)] [vR 24] (σ, M, N) _ _
    refine r_getI J cls1 rfl (k := 0) (by decide) wf_11_349 rfl (ly_24 hL) ?_
    show g_H E 0 0 121 [(0, vR 1), (1, vI x1)] [vI (M 24 0)] (σ, M, N) _ _
    exact r_iret J rfl rfl rfl rfl (by decide) (by decide)
  · rw [if_neg (by rw [hc]; decide), if_neg (by rw [hc]; decide), if_neg (by rw [hc]; decide), if_neg (by rw [hc]; decide), if_neg (by rw [hc]; decide), if_neg (by rw [hc]; decide), if_neg (by rw [hc]; decide), if_neg (by rw [hc]; decide), if_neg (by rw [hc]; decide), if_neg (by rw [hc]; decide), if_pos hc]
    refine r_run J 1 (pc' := 123) (lv' := [(0, vR 1), (1, vI x1)]) (st' := [vR 1]) rfl ?_
    refine r_getR J cls11 rfl (k := 2) (t := 4) (by decide) wf_11_25 rfl rfl (ly_1 hL) (lr_1_2 hL) (fun _ => ?_)
    show g_H E 0 0 126 [(0, vR 1), (1, vI x1)] [vR 5] (σ, M, N) _ _
    refine r_getI J cls4 rfl (k := 1) (by decide) wf_11_352 rfl (ly_5 hL) ?_
    show g_H E 0 0 129 [(0, vR 1), (1, vI x1)] [vI (M 5 1)] (σ, M, N) _ _
    exact r_iret J rfl rfl rfl rfl (by decide) (by decide)
  · rw [if_neg (hd _ (List.mem_of_getElem? (i := 0) rfl)), if_neg (hd _ (List.mem_of_getElem? (i := 1) rfl)), if_neg (hd _ (List.mem_of_getElem? (i := 2) rfl)), if_neg (hd _ (List.mem_of_getElem? (i := 3) rfl)), if_neg (hd _ (List.mem_of_getElem? (i := 4) rfl)), if_neg (hd _ (List.mem_of_getElem? (i := 5) rfl)), if_neg (hd _ (List.mem_of_getElem? (i := 6) rfl)), if_neg (hd _ (List.mem_of_getElem? (i := 7) rfl)), if_neg (hd _ (List.mem_of_getElem? (i := 8) rfl)), if_neg (hd _ (List.mem_of_getElem? (i := 9) rfl)), if_neg (hd _ (List.mem_of_getElem? (i := 10) rfl))]
    refine r_run J 1 (pc' := 131) (lv' := [(0, vR 1), (1, vI x1)]) (st' := [vI (-1)]) rfl ?_
    exact r_iret J rfl rfl rfl rfl (by decide) (by decide)
theorem c_X11_count {l : Launch} (x1 : Int32) (σ : gS) (M : gM) (N : gN) (hL : g_layC σ) (r : Int32) (h : f_X11_count x1 σ M = some r) : g_Ct l yX11_count cX11_count 2 (some .int) 1 0 0 [vR 1, vI x1] (σ, M, N) (eI σ M N r) :=
  g_Ct.of tb_X11_count (by decide +kernel) tk_X11_count (Nat.le_of_ble_eq_true rfl) (fun E J => p_X11_count_0 J x1 σ M N hL r h)
def tb_X12_thrown : gT := [(0, .aload_n 0, 1, 0), (1, .getfield 1, 3, 0), (4, .ireturn, 1, 0)]
set_option maxRecDepth 100000 in
theorem tk_X12_thrown : g_okT cX12_thrown tb_X12_thrown = true := by decide +kernel
abbrev J_X12_thrown (E : gE) (l : Launch) : Prop := g_J E cX12_thrown RX12 "thrown" (some .int) 1 tb_X12_thrown 1 0 0 l
set_option maxHeartbeats 4000000 in
set_option maxRecDepth 100000 in
theorem p_X12_thrown_0 {l : Launch} {E : gE} (J : J_X12_thrown E l) (σ : gS) (M : gM) (N : gN) (hL : g_layM σ) : g_H E 0 0 0 [(0, vR 40)] [] (σ, M, N) (b_X12_thrown_0 σ M) (eI σ M N) := by
  unfold b_X12_thrown_0
  refine r_run J 1 (pc' := 1) (lv' := [(0, vR 40)]) (st' := [vR 40]) rfl ?_
  refine r_getI J cls12 rfl (k := 0) (by decide) wf_12_1 rfl (ly_40 hL) ?_
  show g_H E 0 0 4 [(0, vR 40)] [vI (M 40 0)] (σ, M, N) _ _
  exact r_iret J rfl rfl rfl rfl (by decide) (by decide)
theorem c_X12_thrown {l : Launch} (σ : gS) (M : gM) (N : gN) (hL : g_layM σ) (r : Int32) (h : f_X12_thrown σ M = some r) : g_Ct l yX12_thrown cX12_thrown 1 (some .int) 1 0 0 [vR 40] (σ, M, N) (eI σ M N r) :=
  g_Ct.of tb_X12_thrown (by decide +kernel) tk_X12_thrown (Nat.le_of_ble_eq_true rfl) (fun E J => p_X12_thrown_0 J σ M N hL r h)
def tb_X12_in : gT := [(0, .iload_n 0, 1, 0), (1, .iload_n 1, 1, 0), (2, .if_icmp .lt 12, 3, 0), (5, .iload_n 0, 1, 0), (6, .iload_n 2, 1, 0), (7, .if_icmp .gt 7, 3, 0), (10, .iconst 1, 1, 1), (11, .goto 4, 3, 0), (14, .iconst 0, 1, 0), (15, .ireturn, 1, 0)]
set_option maxRecDepth 100000 in
theorem tk_X12_in : g_okT cX12_in tb_X12_in = true := by decide +kernel
abbrev J_X12_in (E : gE) (l : Launch) : Prop := g_J E cX12_in RX12 "in" (some .boolean) 3 tb_X12_in 1 0 0 l
set_option maxHeartbeats 4000000 in
set_option maxRecDepth 100000 in
theorem p_X12_in_0 {l : Launch} {E : gE} (J : J_X12_in E l) (x0 : Int32) (x1 : Int32) (x2 : Int32) (σ : gS) (M : gM) (N : gN) (hL : g_layM σ) : g_H E 0 0 0 [(0, vI x0), (1, vI x1), (2, vI x2)] [] (σ, M, N) (b_X12_in_0 x0 x1 x2) (eI σ M N) := by
  unfold b_X12_in_0
  refine r_run J 2 (pc' := 2) (lv' := [(0, vI x0), (1, vI x1), (2, vI x2)]) (st' := [vI x1, vI x0]) rfl ?_
  refine r_icmp_lt J (tgt := 14) rfl (by decide) (fun c2 => ?_) (fun c2 => ?_)
  · refine r_run J 1 (pc' := 15) (lv' := [(0, vI x0), (1, vI x1), (2, vI x2)]) (st' := [vI 0]) rfl ?_
    exact r_iret J rfl rfl rfl rfl (by decide) (by decide)
  · refine r_run J 2 (pc' := 7) (lv' := [(0, vI x0), (1, vI x1), (2, vI x2)]) (st' := [vI x2, vI x0]) rfl ?_
    refine r_icmp_gt J (tgt := 14) rfl (by decide) (fun c7 => ?_) (fun c7 => ?_)
    · refine r_run J 1 (pc' := 15) (lv' := [(0, vI x0), (1, vI x1), (2, vI x2)]) (st' := [vI 0]) rfl ?_
      exact r_iret J rfl rfl rfl rfl (by decide) (by decide)
    · refine r_run J 2 (pc' := 15) (lv' := [(0, vI x0), (1, vI x1), (2, vI x2)]) (st' := [vI 1]) rfl ?_
      exact r_iret J rfl rfl rfl rfl (by decide) (by decide)
theorem c_X12_in {l : Launch} (x0 : Int32) (x1 : Int32) (x2 : Int32) (σ : gS) (M : gM) (N : gN) (hL : g_layM σ) (r : Int32) (h : f_X12_in x0 x1 x2 = some r) : g_Ct l yX12_in cX12_in 3 (some .boolean) 1 0 0 [vI x0, vI x1, vI x2] (σ, M, N) (eI σ M N r) :=
  g_Ct.of tb_X12_in (by decide +kernel) tk_X12_in (Nat.le_of_ble_eq_true rfl) (fun E J => p_X12_in_0 J x0 x1 x2 σ M N hL r h)
def tb_X12_init : gT := [(0, .aload_n 0, 1, 0), (1, .invokespecial 7, 3, 0), (4, .aload_n 0, 1, 0), (5, .bipush 10, 2, 10), (7, .newarray .boolean, 2, 0), (9, .putfield 13, 3, 0), (12, .aload_n 0, 1, 0), (13, .bipush 10, 2, 10), (15, .newarray .int, 2, 0), (17, .putfield 17, 3, 0), (20, .aload_n 0, 1, 0), (21, .bipush 10, 2, 10), (23, .newarray .boolean, 2, 0), (25, .putfield 21, 3, 0), (28, .aload_n 0, 1, 0), (29, .bipush 10, 2, 10), (31, .newarray .int, 2, 0), (33, .putfield 24, 3, 0), (36, .aload_n 0, 1, 0), (37, .bipush 10, 2, 10), (39, .newarray .int, 2, 0), (41, .putfield 27, 3, 0), (44, .aload_n 0, 1, 0), (45, .bipush 10, 2, 10), (47, .newarray .int, 2, 0), (49, .putfield 30, 3, 0), (52, .aload_n 0, 1, 0), (53, .bipush 10, 2, 10), (55, .newarray .boolean, 2, 0), (57, .putfield 33, 3, 0), (60, .aload_n 0, 1, 0), (61, .bipush 10, 2, 10), (63, .newarray .int, 2, 0), (65, .putfield 36, 3, 0), (68, .aload_n 0, 1, 0), (69, .bipush 100, 2, 100), (71, .newarray .boolean, 2, 0), (73, .putfield 39, 3, 0), (76, .aload_n 0, 1, 0), (77, .bipush 30, 2, 30), (79, .putfield 42, 3, 0), (82, .aload_n 0, 1, 0), (83, .bipush 6, 2, 6), (85, .newarray .int, 2, 0), (87, .putfield 45, 3, 0), (90, .aload_n 0, 1, 0), (91, .bipush 6, 2, 6), (93, .newarray .int, 2, 0), (95, .putfield 48, 3, 0), (98, .aload_n 0, 1, 0), (99, .bipush 6, 2, 6), (101, .newarray .int, 2, 0), (103, .putfield 51, 3, 0), (106, .aload_n 0, 1, 0), (107, .bipush 60, 2, 60), (109, .newarray .int, 2, 0), (111, .putfield 54, 3, 0), (114, .aload_n 0, 1, 0), (115, .bipush 60, 2, 60), (117, .newarray .boolean, 2, 0), (119, .putfield 57, 3, 0), (122, .aload_n 0, 1, 0), (123, .bipush 60, 2, 60), (125, .newarray .int, 2, 0), (127, .putfield 60, 3, 0), (130, .aload_n 0, 1, 0), (131, .bipush 60, 2, 60), (133, .newarray .boolean, 2, 0), (135, .putfield 63, 3, 0), (138, .aload_n 0, 1, 0), (139, .bipush 60, 2, 60), (141, .newarray .int, 2, 0), (143, .putfield 66, 3, 0), (146, .aload_n 0, 1, 0), (147, .sipush 500, 3, 500), (150, .newarray .int, 2, 0), (152, .putfield 69, 3, 0), (155, .aload_n 0, 1, 0), (156, .sipush 500, 3, 500), (159, .newarray .int, 2, 0), (161, .putfield 72, 3, 0), (164, .aload_n 0, 1, 0), (165, .sipush 500, 3, 500), (168, .newarray .int, 2, 0), (170, .putfield 75, 3, 0), (173, .aload_n 0, 1, 0), (174, .sipush 300, 3, 300), (177, .newarray .boolean, 2, 0), (179, .putfield 78, 3, 0), (182, .aload_n 0, 1, 0), (183, .sipush 300, 3, 300), (186, .newarray .int, 2, 0), (188, .putfield 81, 3, 0), (191, .aload_n 0, 1, 0), (192, .bipush 30, 2, 30), (194, .newarray .int, 2, 0), (196, .putfield 84, 3, 0), (199, .aload_n 0, 1, 0), (200, .bipush 10, 2, 10), (202, .newarray .int, 2, 0), (204, .putfield 87, 3, 0), (207, .aload_n 0, 1, 0), (208, .sipush 640, 3, 640), (211, .newarray .int, 2, 0), (213, .putfield 90, 3, 0), (216, .aload_n 0, 1, 0), (217, .bipush 10, 2, 10), (219, .newarray .int, 2, 0), (221, .putfield 93, 3, 0), (224, .aload_n 0, 1, 0), (225, .sipush 11264, 3, 11264), (228, .newarray .int, 2, 0), (230, .putfield 96, 3, 0), (233, .aload_n 0, 1, 0), (234, .iconst (-1), 1, (-1)), (235, .putfield 99, 3, 0), (238, .aload_n 0, 1, 0), (239, .bipush 10, 2, 10), (241, .newarray .int, 2, 0), (243, .putfield 102, 3, 0), (246, .aload_n 0, 1, 0), (247, .sipush 11264, 3, 11264), (250, .newarray .boolean, 2, 0), (252, .putfield 105, 3, 0), (255, .aload_n 0, 1, 0), (256, .sipush 400, 3, 400), (259, .newarray .byte, 2, 0), (261, .putfield 108, 3, 0), (264, .aload_n 0, 1, 0), (265, .sipush 2400, 3, 2400), (268, .newarray .byte, 2, 0), (270, .putfield 112, 3, 0), (273, .aload_n 0, 1, 0), (274, .bipush 6, 2, 6), (276, .newarray .int, 2, 0), (278, .putfield 115, 3, 0), (281, .aload_n 0, 1, 0), (282, .bipush 6, 2, 6), (284, .newarray .int, 2, 0), (286, .putfield 118, 3, 0), (289, .aload_n 0, 1, 0), (290, .sipush 400, 3, 400), (293, .newarray .byte, 2, 0), (295, .putfield 121, 3, 0), (298, .aload_n 0, 1, 0), (299, .bipush 121, 2, 121), (301, .newarray .int, 2, 0), (303, .putfield 124, 3, 0), (306, .aload_n 0, 1, 0), (307, .bipush 121, 2, 121), (309, .newarray .int, 2, 0), (311, .putfield 127, 3, 0), (314, .aload_n 0, 1, 0), (315, .bipush 7, 2, 7), (317, .newarray .int, 2, 0), (319, .putfield 130, 3, 0), (322, .aload_n 0, 1, 0), (323, .bipush 7, 2, 7), (325, .newarray .int, 2, 0), (327, .putfield 133, 3, 0), (330, .aload_n 0, 1, 0), (331, .bipush 7, 2, 7), (333, .newarray .int, 2, 0), (335, .putfield 136, 3, 0), (338, .aload_n 0, 1, 0), (339, .bipush 49, 2, 49), (341, .newarray .int, 2, 0), (343, .putfield 139, 3, 0), (346, .aload_n 0, 1, 0), (347, .bipush 7, 2, 7), (349, .newarray .int, 2, 0), (351, .putfield 142, 3, 0), (354, .aload_n 0, 1, 0), (355, .bipush 7, 2, 7), (357, .newarray .int, 2, 0), (359, .putfield 145, 3, 0), (362, .aload_n 0, 1, 0), (363, .bipush 6, 2, 6), (365, .newarray .int, 2, 0), (367, .putfield 148, 3, 0), (370, .aload_n 0, 1, 0), (371, .bipush 6, 2, 6), (373, .newarray .int, 2, 0), (375, .putfield 151, 3, 0), (378, .aload_n 0, 1, 0), (379, .bipush 10, 2, 10), (381, .newarray .boolean, 2, 0), (383, .putfield 154, 3, 0), (386, .iconst 0, 1, 0), (387, .istore_n 1, 1, 0), (388, .iload_n 1, 1, 0), (389, .bipush 60, 2, 60), (391, .if_icmp .ge 16, 3, 0), (394, .aload_n 0, 1, 0), (395, .getfield 66, 3, 0), (398, .iload_n 1, 1, 0), (399, .iconst (-1), 1, (-1)), (400, .iastore, 1, 0), (401, .iinc 1 1, 3, 1), (404, .goto (-16), 3, 0), (407, .return_, 1, 0)]
set_option maxRecDepth 100000 in
theorem tk_X12_init : g_okT cX12_init tb_X12_init = true := by decide +kernel
abbrev J_X12_init (E : gE) (l : Launch) : Prop := g_J E cX12_init RX12 "<init>" none 2 tb_X12_init 1 45 29386 l
set_option maxHeartbeats 4000000 in
set_option maxRecDepth 100000 in
theorem p_X12_init_401 {l : Launch} {E : gE} (J : J_X12_init E l) {k388 : Int32 → gS → gM → gN → Option (gS × gM × gN)} (H388 : ∀ (x1 : Int32) (σ : gS) (M : gM) (N : gN), g_H E 45 29386 388 [(0, vR 40), (1, vI x1)] [] (σ, M, N) (k388 x1 σ M N) (eVSMN)) (x1 : Int32) (σ : gS) (M : gM) (N : gN) : g_H E 45 29386 401 [(0, vR 40), (1, vI x1)] [] (σ, M, N) (b_X12_init_401 k388 x1 σ M N) (eVSMN) := by
  unfold b_X12_init_401
  refine r_run J 2 (pc' := 388) (lv' := [(1, vI (x1 + 1)), (0, vR 40)]) (st' := []) rfl ?_
  refine r_sub [1, 0] (lv' := [(0, vR 40), (1, vI (x1 + 1))]) rfl ?_
  exact H388 (x1 + 1) σ M N
set_option maxHeartbeats 4000000 in
set_option maxRecDepth 100000 in
theorem p_X12_init_388 {l : Launch} {E : gE} (J : J_X12_init E l) : ∀ (n : Nat) (x1 : Int32) (σ : gS) (M : gM) (N : gN), g_H E 45 29386 388 [(0, vR 40), (1, vI x1)] [] (σ, M, N) (l_X12_init_388 n x1 σ M N) (eVSMN) := by
  intro n
  induction n with
  | zero => intros; exact h_none
  | succ n ih =>
    intro x1 σ M N
    rw [l_X12_init_388]
    refine r_run J 2 (pc' := 391) (lv' := [(0, vR 40), (1, vI x1)]) (st' := [vI 60, vI x1]) rfl ?_
    refine r_icmp_ge J (tgt := 407) rfl (by decide) (fun c391 => ?_) (fun c391 => ?_)
    · refine r_run J 1 (pc' := 395) (lv' := [(0, vR 40), (1, vI x1)]) (st' := [vR 40]) rfl ?_
      refine r_chk (fun hs395 => ?_)
      refine r_getR J cls12 rfl (k := 25) (t := 14) (by decide) wf_12_66 rfl rfl (g_is_at hs395) rfl (fun _ => ?_)
      show g_H E 45 29386 398 [(0, vR 40), (1, vI x1)] [vR (σ.2 40 25)] (σ, M, N) _ _
      refine r_run J 2 (pc' := 400) (lv' := [(0, vR 40), (1, vI x1)]) (st' := [vI (-1), vI x1, vR (σ.2 40 25)]) rfl ?_
      refine r_chk (fun hs400 => ?_)
      refine r_iast J rfl (g_is_at hs400) (fun i400 => ?_)
      show g_H E 45 29386 401 [(0, vR 40), (1, vI x1)] [] (σ, (g_up M (σ.2 40 25) (x1.toNatClampNeg) (-1)), N) _ _
      exact p_X12_init_401 J ih x1 σ (g_up M (σ.2 40 25) (x1.toNatClampNeg) (-1)) N
    · exact r_vret J rfl rfl rfl (by decide) (by decide)
set_option maxHeartbeats 4000000 in
set_option maxRecDepth 100000 in
theorem p_X12_init_386 {l : Launch} {E : gE} (J : J_X12_init E l) (σ : gS) (M : gM) (N : gN) : g_H E 45 29386 386 [(0, vR 40)] [] (σ, M, N) (b_X12_init_386 σ M N) (eVSMN) := by
  unfold b_X12_init_386
  refine r_run J 2 (pc' := 388) (lv' := [(1, vI 0), (0, vR 40)]) (st' := []) rfl ?_
  refine r_sub [1, 0] (lv' := [(0, vR 40), (1, vI 0)]) rfl ?_
  exact p_X12_init_388 J g_FU 0 σ M N
set_option maxHeartbeats 4000000 in
set_option maxRecDepth 100000 in
theorem p_X12_init_378 {l : Launch} {E : gE} (J : J_X12_init E l) (σ : gS) (M : gM) (N : gN) : g_H E 44 29376 378 [(0, vR 40)] [] (σ, M, N) (b_X12_init_378 σ M N) (eVSMN) := by
  unfold b_X12_init_378
  refine r_run J 2 (pc' := 381) (lv' := [(0, vR 40)]) (st' := [vI 10, vR 40]) rfl ?_
  refine r_chk (fun hf381 => ?_)
  refine r_newZ J (B := 10) rfl wa_boolean (by decide) rfl (Nat.le_refl _) (by decide) (g_fr_0 hf381) (g_fr_n hf381) (by decide) (by decide) ?_
  show g_H E 45 29386 383 [(0, vR 40)] [vR 85, vR 40] ((g_nS σ 85 15 10), (g_z M 85 0), (g_z N 85 0)) _ _
  refine r_chk (fun hs383 => ?_)
  refine r_putR J cls12 rfl (k := 77) (t := 15) (by decide) wf_12_154 rfl rfl (Or.inr ⟨rfl, rfl, rfl⟩) (g_is_at hs383) (Or.inr ⟨_, (g_nS_at σ 85 15 10)⟩) ?_
  show g_H E 45 29386 386 [(0, vR 40)] [] ((g_pS (g_nS σ 85 15 10) 40 77 85), (g_z M 85 0), (g_z N 85 0)) _ _
  exact p_X12_init_386 J (g_pS (g_nS σ 85 15 10) 40 77 85) (g_z M 85 0) (g_z N 85 0)
set_option maxHeartbeats 4000000 in
set_option maxRecDepth 100000 in
theorem p_X12_init_370 {l : Launch} {E : gE} (J : J_X12_init E l) (σ : gS) (M : gM) (N : gN) : g_H E 43 29370 370 [(0, vR 40)] [] (σ, M, N) (b_X12_init_370 σ M N) (eVSMN) := by
  unfold b_X12_init_370
  refine r_run J 2 (pc' := 373) (lv' := [(0, vR 40)]) (st' := [vI 6, vR 40]) rfl ?_
  refine r_chk (fun hf373 => ?_)
  refine r_newI J (B := 6) rfl wa_int (by decide) rfl (Nat.le_refl _) (by decide) (g_fr_0 hf373) (g_fr_n hf373) (by decide) (by decide) ?_
  show g_H E 44 29376 375 [(0, vR 40)] [vR 84, vR 40] ((g_nS σ 84 14 6), (g_z M 84 0), (g_z N 84 0)) _ _
  refine r_chk (fun hs375 => ?_)
  refine r_putR J cls12 rfl (k := 76) (t := 14) (by decide) wf_12_151 rfl rfl (Or.inr ⟨rfl, rfl, rfl⟩) (g_is_at hs375) (Or.inr ⟨_, (g_nS_at σ 84 14 6)⟩) ?_
  show g_H E 44 29376 378 [(0, vR 40)] [] ((g_pS (g_nS σ 84 14 6) 40 76 84), (g_z M 84 0), (g_z N 84 0)) _ _
  exact p_X12_init_378 J (g_pS (g_nS σ 84 14 6) 40 76 84) (g_z M 84 0) (g_z N 84 0)
set_option maxHeartbeats 4000000 in
set_option maxRecDepth 100000 in
theorem p_X12_init_362 {l : Launch} {E : gE} (J : J_X12_init E l) (σ : gS) (M : gM) (N : gN) : g_H E 42 29364 362 [(0, vR 40)] [] (σ, M, N) (b_X12_init_362 σ M N) (eVSMN) := by
  unfold b_X12_init_362
  refine r_run J 2 (pc' := 365) (lv' := [(0, vR 40)]) (st' := [vI 6, vR 40]) rfl ?_
  refine r_chk (fun hf365 => ?_)
  refine r_newI J (B := 6) rfl wa_int (by decide) rfl (Nat.le_refl _) (by decide) (g_fr_0 hf365) (g_fr_n hf365) (by decide) (by decide) ?_
  show g_H E 43 29370 367 [(0, vR 40)] [vR 83, vR 40] ((g_nS σ 83 14 6), (g_z M 83 0), (g_z N 83 0)) _ _
  refine r_chk (fun hs367 => ?_)
  refine r_putR J cls12 rfl (k := 75) (t := 14) (by decide) wf_12_148 rfl rfl (Or.inr ⟨rfl, rfl, rfl⟩) (g_is_at hs367) (Or.inr ⟨_, (g_nS_at σ 83 14 6)⟩) ?_
  show g_H E 43 29370 370 [(0, vR 40)] [] ((g_pS (g_nS σ 83 14 6) 40 75 83), (g_z M 83 0), (g_z N 83 0)) _ _
  exact p_X12_init_370 J (g_pS (g_nS σ 83 14 6) 40 75 83) (g_z M 83 0) (g_z N 83 0)
set_option maxHeartbeats 4000000 in
set_option maxRecDepth 100000 in
theorem p_X12_init_354 {l : Launch} {E : gE} (J : J_X12_init E l) (σ : gS) (M : gM) (N : gN) : g_H E 41 29357 354 [(0, vR 40)] [] (σ, M, N) (b_X12_init_354 σ M N) (eVSMN) := by
  unfold b_X12_init_354
  refine r_run J 2 (pc' := 357) (lv' := [(0, vR 40)]) (st' := [vI 7, vR 40]) rfl ?_
  refine r_chk (fun hf357 => ?_)
  refine r_newI J (B := 7) rfl wa_int (by decide) rfl (Nat.le_refl _) (by decide) (g_fr_0 hf357) (g_fr_n hf357) (by decide) (by decide) ?_
  show g_H E 42 29364 359 [(0, vR 40)] [vR 82, vR 40] ((g_nS σ 82 14 7), (g_z M 82 0), (g_z N 82 0)) _ _
  refine r_chk (fun hs359 => ?_)
  refine r_putR J cls12 rfl (k := 69) (t := 14) (by decide) wf_12_145 rfl rfl (Or.inr ⟨rfl, rfl, rfl⟩) (g_is_at hs359) (Or.inr ⟨_, (g_nS_at σ 82 14 7)⟩) ?_
  show g_H E 42 29364 362 [(0, vR 40)] [] ((g_pS (g_nS σ 82 14 7) 40 69 82), (g_z M 82 0), (g_z N 82 0)) _ _
  exact p_X12_init_362 J (g_pS (g_nS σ 82 14 7) 40 69 82) (g_z M 82 0) (g_z N 82 0)
set_option maxHeartbeats 4000000 in
set_option maxRecDepth 100000 in
theorem p_X12_init_346 {l : Launch} {E : gE} (J : J_X12_init E l) (σ : gS) (M : gM) (N : gN) : g_H E 40 29350 346 [(0, vR 40)] [] (σ, M, N) (b_X12_init_346 σ M N) (eVSMN) := by
  unfold b_X12_init_346
  refine r_run J 2 (pc' := 349) (lv' := [(0, vR 40)]) (st' := [vI 7, vR 40]) rfl ?_
  refine r_chk (fun hf349 => ?_)
  refine r_newI J (B := 7) rfl wa_int (by decide) rfl (Nat.le_refl _) (by decide) (g_fr_0 hf349) (g_fr_n hf349) (by decide) (by decide) ?_
  show g_H E 41 29357 351 [(0, vR 40)] [vR 81, vR 40] ((g_nS σ 81 14 7), (g_z M 81 0), (g_z N 81 0)) _ _
  refine r_chk (fun hs351 => ?_)
  refine r_putR J cls12 rfl (k := 68) (t := 14) (by decide) wf_12_142 rfl rfl (Or.inr ⟨rfl, rfl, rfl⟩) (g_is_at hs351) (Or.inr ⟨_, (g_nS_at σ 81 14 7)⟩) ?_
  show g_H E 41 29357 354 [(0, vR 40)] [] ((g_pS (g_nS σ 81 14 7) 40 68 81), (g_z M 81 0), (g_z N 81 0)) _ _
  exact p_X12_init_354 J (g_pS (g_nS σ 81 14 7) 40 68 81) (g_z M 81 0) (g_z N 81 0)
set_option maxHeartbeats 4000000 in
set_option maxRecDepth 100000 in
theorem p_X12_init_338 {l : Launch} {E : gE} (J : J_X12_init E l) (σ : gS) (M : gM) (N : gN) : g_H E 39 29301 338 [(0, vR 40)] [] (σ, M, N) (b_X12_init_338 σ M N) (eVSMN) := by
  unfold b_X12_init_338
  refine r_run J 2 (pc' := 341) (lv' := [(0, vR 40)]) (st' := [vI 49, vR 40]) rfl ?_
  refine r_chk (fun hf341 => ?_)
  refine r_newI J (B := 49) rfl wa_int (by decide) rfl (Nat.le_refl _) (by decide) (g_fr_0 hf341) (g_fr_n hf341) (by decide) (by decide) ?_
  show g_H E 40 29350 343 [(0, vR 40)] [vR 80, vR 40] ((g_nS σ 80 14 49), (g_z M 80 0), (g_z N 80 0)) _ _
  refine r_chk (fun hs343 => ?_)
  refine r_putR J cls12 rfl (k := 67) (t := 14) (by decide) wf_12_139 rfl rfl (Or.inr ⟨rfl, rfl, rfl⟩) (g_is_at hs343) (Or.inr ⟨_, (g_nS_at σ 80 14 49)⟩) ?_
  show g_H E 40 29350 346 [(0, vR 40)] [] ((g_pS (g_nS σ 80 14 49) 40 67 80), (g_z M 80 0), (g_z N 80 0)) _ _
  exact p_X12_init_346 J (g_pS (g_nS σ 80 14 49) 40 67 80) (g_z M 80 0) (g_z N 80 0)
set_option maxHeartbeats 4000000 in
set_option maxRecDepth 100000 in
theorem p_X12_init_330 {l : Launch} {E : gE} (J : J_X12_init E l) (σ : gS) (M : gM) (N : gN) : g_H E 38 29294 330 [(0, vR 40)] [] (σ, M, N) (b_X12_init_330 σ M N) (eVSMN) := by
  unfold b_X12_init_330
  refine r_run J 2 (pc' := 333) (lv' := [(0, vR 40)]) (st' := [vI 7, vR 40]) rfl ?_
  refine r_chk (fun hf333 => ?_)
  refine r_newI J (B := 7) rfl wa_int (by decide) rfl (Nat.le_refl _) (by decide) (g_fr_0 hf333) (g_fr_n hf333) (by decide) (by decide) ?_
  show g_H E 39 29301 335 [(0, vR 40)] [vR 79, vR 40] ((g_nS σ 79 14 7), (g_z M 79 0), (g_z N 79 0)) _ _
  refine r_chk (fun hs335 => ?_)
  refine r_putR J cls12 rfl (k := 66) (t := 14) (by decide) wf_12_136 rfl rfl (Or.inr ⟨rfl, rfl, rfl⟩) (g_is_at hs335) (Or.inr ⟨_, (g_nS_at σ 79 14 7)⟩) ?_
  show g_H E 39 29301 338 [(0, vR 40)] [] ((g_pS (g_nS σ 79 14 7) 40 66 79), (g_z M 79 0), (g_z N 79 0)) _ _
  exact p_X12_init_338 J (g_pS (g_nS σ 79 14 7) 40 66 79) (g_z M 79 0) (g_z N 79 0)
set_option maxHeartbeats 4000000 in
set_option maxRecDepth 100000 in
theorem p_X12_init_322 {l : Launch} {E : gE} (J : J_X12_init E l) (σ : gS) (M : gM) (N : gN) : g_H E 37 29287 322 [(0, vR 40)] [] (σ, M, N) (b_X12_init_322 σ M N) (eVSMN) := by
  unfold b_X12_init_322
  refine r_run J 2 (pc' := 325) (lv' := [(0, vR 40)]) (st' := [vI 7, vR 40]) rfl ?_
  refine r_chk (fun hf325 => ?_)
  refine r_newI J (B := 7) rfl wa_int (by decide) rfl (Nat.le_refl _) (by decide) (g_fr_0 hf325) (g_fr_n hf325) (by decide) (by decide) ?_
  show g_H E 38 29294 327 [(0, vR 40)] [vR 78, vR 40] ((g_nS σ 78 14 7), (g_z M 78 0), (g_z N 78 0)) _ _
  refine r_chk (fun hs327 => ?_)
  refine r_putR J cls12 rfl (k := 65) (t := 14) (by decide) wf_12_133 rfl rfl (Or.inr ⟨rfl, rfl, rfl⟩) (g_is_at hs327) (Or.inr ⟨_, (g_nS_at σ 78 14 7)⟩) ?_
  show g_H E 38 29294 330 [(0, vR 40)] [] ((g_pS (g_nS σ 78 14 7) 40 65 78), (g_z M 78 0), (g_z N 78 0)) _ _
  exact p_X12_init_330 J (g_pS (g_nS σ 78 14 7) 40 65 78) (g_z M 78 0) (g_z N 78 0)
set_option maxHeartbeats 4000000 in
set_option maxRecDepth 100000 in
theorem p_X12_init_314 {l : Launch} {E : gE} (J : J_X12_init E l) (σ : gS) (M : gM) (N : gN) : g_H E 36 29280 314 [(0, vR 40)] [] (σ, M, N) (b_X12_init_314 σ M N) (eVSMN) := by
  unfold b_X12_init_314
  refine r_run J 2 (pc' := 317) (lv' := [(0, vR 40)]) (st' := [vI 7, vR 40]) rfl ?_
  refine r_chk (fun hf317 => ?_)
  refine r_newI J (B := 7) rfl wa_int (by decide) rfl (Nat.le_refl _) (by decide) (g_fr_0 hf317) (g_fr_n hf317) (by decide) (by decide) ?_
  show g_H E 37 29287 319 [(0, vR 40)] [vR 77, vR 40] ((g_nS σ 77 14 7), (g_z M 77 0), (g_z N 77 0)) _ _
  refine r_chk (fun hs319 => ?_)
  refine r_putR J cls12 rfl (k := 64) (t := 14) (by decide) wf_12_130 rfl rfl (Or.inr ⟨rfl, rfl, rfl⟩) (g_is_at hs319) (Or.inr ⟨_, (g_nS_at σ 77 14 7)⟩) ?_
  show g_H E 37 29287 322 [(0, vR 40)] [] ((g_pS (g_nS σ 77 14 7) 40 64 77), (g_z M 77 0), (g_z N 77 0)) _ _
  exact p_X12_init_322 J (g_pS (g_nS σ 77 14 7) 40 64 77) (g_z M 77 0) (g_z N 77 0)
set_option maxHeartbeats 4000000 in
set_option maxRecDepth 100000 in
theorem p_X12_init_306 {l : Launch} {E : gE} (J : J_X12_init E l) (σ : gS) (M : gM) (N : gN) : g_H E 35 29159 306 [(0, vR 40)] [] (σ, M, N) (b_X12_init_306 σ M N) (eVSMN) := by
  unfold b_X12_init_306
  refine r_run J 2 (pc' := 309) (lv' := [(0, vR 40)]) (st' := [vI 121, vR 40]) rfl ?_
  refine r_chk (fun hf309 => ?_)
  refine r_newI J (B := 121) rfl wa_int (by decide) rfl (Nat.le_refl _) (by decide) (g_fr_0 hf309) (g_fr_n hf309) (by decide) (by decide) ?_
  show g_H E 36 29280 311 [(0, vR 40)] [vR 76, vR 40] ((g_nS σ 76 14 121), (g_z M 76 0), (g_z N 76 0)) _ _
  refine r_chk (fun hs311 => ?_)
  refine r_putR J cls12 rfl (k := 61) (t := 14) (by decide) wf_12_127 rfl rfl (Or.inr ⟨rfl, rfl, rfl⟩) (g_is_at hs311) (Or.inr ⟨_, (g_nS_at σ 76 14 121)⟩) ?_
  show g_H E 36 29280 314 [(0, vR 40)] [] ((g_pS (g_nS σ 76 14 121) 40 61 76), (g_z M 76 0), (g_z N 76 0)) _ _
  exact p_X12_init_314 J (g_pS (g_nS σ 76 14 121) 40 61 76) (g_z M 76 0) (g_z N 76 0)
set_option maxHeartbeats 4000000 in
set_option maxRecDepth 100000 in
theorem p_X12_init_298 {l : Launch} {E : gE} (J : J_X12_init E l) (σ : gS) (M : gM) (N : gN) : g_H E 34 29038 298 [(0, vR 40)] [] (σ, M, N) (b_X12_init_298 σ M N) (eVSMN) := by
  unfold b_X12_init_298
  refine r_run J 2 (pc' := 301) (lv' := [(0, vR 40)]) (st' := [vI 121, vR 40]) rfl ?_
  refine r_chk (fun hf301 => ?_)
  refine r_newI J (B := 121) rfl wa_int (by decide) rfl (Nat.le_refl _) (by decide) (g_fr_0 hf301) (g_fr_n hf301) (by decide) (by decide) ?_
  show g_H E 35 29159 303 [(0, vR 40)] [vR 75, vR 40] ((g_nS σ 75 14 121), (g_z M 75 0), (g_z N 75 0)) _ _
  refine r_chk (fun hs303 => ?_)
  refine r_putR J cls12 rfl (k := 60) (t := 14) (by decide) wf_12_124 rfl rfl (Or.inr ⟨rfl, rfl, rfl⟩) (g_is_at hs303) (Or.inr ⟨_, (g_nS_at σ 75 14 121)⟩) ?_
  show g_H E 35 29159 306 [(0, vR 40)] [] ((g_pS (g_nS σ 75 14 121) 40 60 75), (g_z M 75 0), (g_z N 75 0)) _ _
  exact p_X12_init_306 J (g_pS (g_nS σ 75 14 121) 40 60 75) (g_z M 75 0) (g_z N 75 0)
set_option maxHeartbeats 4000000 in
set_option maxRecDepth 100000 in
theorem p_X12_init_289 {l : Launch} {E : gE} (J : J_X12_init E l) (σ : gS) (M : gM) (N : gN) : g_H E 33 28638 289 [(0, vR 40)] [] (σ, M, N) (b_X12_init_289 σ M N) (eVSMN) := by
  unfold b_X12_init_289
  refine r_run J 2 (pc' := 293) (lv' := [(0, vR 40)]) (st' := [vI 400, vR 40]) rfl ?_
  refine r_chk (fun hf293 => ?_)
  refine r_newB J (B := 400) rfl wa_byte (by decide) rfl (Nat.le_refl _) (by decide) (g_fr_0 hf293) (g_fr_n hf293) (by decide) (by decide) ?_
  show g_H E 34 29038 295 [(0, vR 40)] [vR 74, vR 40] ((g_nS σ 74 13 400), (g_z M 74 0), (g_z N 74 0)) _ _
  refine r_chk (fun hs295 => ?_)
  refine r_putR J cls12 rfl (k := 45) (t := 13) (by decide) wf_12_121 rfl rfl (Or.inr ⟨rfl, rfl, rfl⟩) (g_is_at hs295) (Or.inr ⟨_, (g_nS_at σ 74 13 400)⟩) ?_
  show g_H E 34 29038 298 [(0, vR 40)] [] ((g_pS (g_nS σ 74 13 400) 40 45 74), (g_z M 74 0), (g_z N 74 0)) _ _
  exact p_X12_init_298 J (g_pS (g_nS σ 74 13 400) 40 45 74) (g_z M 74 0) (g_z N 74 0)
set_option maxHeartbeats 4000000 in
set_option maxRecDepth 100000 in
theorem p_X12_init_281 {l : Launch} {E : gE} (J : J_X12_init E l) (σ : gS) (M : gM) (N : gN) : g_H E 32 28632 281 [(0, vR 40)] [] (σ, M, N) (b_X12_init_281 σ M N) (eVSMN) := by
  unfold b_X12_init_281
  refine r_run J 2 (pc' := 284) (lv' := [(0, vR 40)]) (st' := [vI 6, vR 40]) rfl ?_
  refine r_chk (fun hf284 => ?_)
  refine r_newI J (B := 6) rfl wa_int (by decide) rfl (Nat.le_refl _) (by decide) (g_fr_0 hf284) (g_fr_n hf284) (by decide) (by decide) ?_
  show g_H E 33 28638 286 [(0, vR 40)] [vR 73, vR 40] ((g_nS σ 73 14 6), (g_z M 73 0), (g_z N 73 0)) _ _
  refine r_chk (fun hs286 => ?_)
  refine r_putR J cls12 rfl (k := 44) (t := 14) (by decide) wf_12_118 rfl rfl (Or.inr ⟨rfl, rfl, rfl⟩) (g_is_at hs286) (Or.inr ⟨_, (g_nS_at σ 73 14 6)⟩) ?_
  show g_H E 33 28638 289 [(0, vR 40)] [] ((g_pS (g_nS σ 73 14 6) 40 44 73), (g_z M 73 0), (g_z N 73 0)) _ _
  exact p_X12_init_289 J (g_pS (g_nS σ 73 14 6) 40 44 73) (g_z M 73 0) (g_z N 73 0)
set_option maxHeartbeats 4000000 in
set_option maxRecDepth 100000 in
theorem p_X12_init_273 {l : Launch} {E : gE} (J : J_X12_init E l) (σ : gS) (M : gM) (N : gN) : g_H E 31 28626 273 [(0, vR 40)] [] (σ, M, N) (b_X12_init_273 σ M N) (eVSMN) := by
  unfold b_X12_init_273
  refine r_run J 2 (pc' := 276) (lv' := [(0, vR 40)]) (st' := [vI 6, vR 40]) rfl ?_
  refine r_chk (fun hf276 => ?_)
  refine r_newI J (B := 6) rfl wa_int (by decide) rfl (Nat.le_refl _) (by decide) (g_fr_0 hf276) (g_fr_n hf276) (by decide) (by decide) ?_
  show g_H E 32 28632 278 [(0, vR 40)] [vR 72, vR 40] ((g_nS σ 72 14 6), (g_z M 72 0), (g_z N 72 0)) _ _
  refine r_chk (fun hs278 => ?_)
  refine r_putR J cls12 rfl (k := 43) (t := 14) (by decide) wf_12_115 rfl rfl (Or.inr ⟨rfl, rfl, rfl⟩) (g_is_at hs278) (Or.inr ⟨_, (g_nS_at σ 72 14 6)⟩) ?_
  show g_H E 32 28632 281 [(0, vR 40)] [] ((g_pS (g_nS σ 72 14 6) 40 43 72), (g_z M 72 0), (g_z N 72 0)) _ _
  exact p_X12_init_281 J (g_pS (g_nS σ 72 14 6) 40 43 72) (g_z M 72 0) (g_z N 72 0)
set_option maxHeartbeats 4000000 in
set_option maxRecDepth 100000 in
theorem p_X12_init_264 {l : Launch} {E : gE} (J : J_X12_init E l) (σ : gS) (M : gM) (N : gN) : g_H E 30 26226 264 [(0, vR 40)] [] (σ, M, N) (b_X12_init_264 σ M N) (eVSMN) := by
  unfold b_X12_init_264
  refine r_run J 2 (pc' := 268) (lv' := [(0, vR 40)]) (st' := [vI 2400, vR 40]) rfl ?_
  refine r_chk (fun hf268 => ?_)
  refine r_newB J (B := 2400) rfl wa_byte (by decide) rfl (Nat.le_refl _) (by decide) (g_fr_0 hf268) (g_fr_n hf268) (by decide) (by decide) ?_
  show g_H E 31 28626 270 [(0, vR 40)] [vR 71, vR 40] ((g_nS σ 71 13 2400), (g_z M 71 0), (g_z N 71 0)) _ _
  refine r_chk (fun hs270 => ?_)
  refine r_putR J cls12 rfl (k := 42) (t := 13) (by decide) wf_12_112 rfl rfl (Or.inr ⟨rfl, rfl, rfl⟩) (g_is_at hs270) (Or.inr ⟨_, (g_nS_at σ 71 13 2400)⟩) ?_
  show g_H E 31 28626 273 [(0, vR 40)] [] ((g_pS (g_nS σ 71 13 2400) 40 42 71), (g_z M 71 0), (g_z N 71 0)) _ _
  exact p_X12_init_273 J (g_pS (g_nS σ 71 13 2400) 40 42 71) (g_z M 71 0) (g_z N 71 0)
set_option maxHeartbeats 4000000 in
set_option maxRecDepth 100000 in
theorem p_X12_init_255 {l : Launch} {E : gE} (J : J_X12_init E l) (σ : gS) (M : gM) (N : gN) : g_H E 29 25826 255 [(0, vR 40)] [] (σ, M, N) (b_X12_init_255 σ M N) (eVSMN) := by
  unfold b_X12_init_255
  refine r_run J 2 (pc' := 259) (lv' := [(0, vR 40)]) (st' := [vI 400, vR 40]) rfl ?_
  refine r_chk (fun hf259 => ?_)
  refine r_newB J (B := 400) rfl wa_byte (by decide) rfl (Nat.le_refl _) (by decide) (g_fr_0 hf259) (g_fr_n hf259) (by decide) (by decide) ?_
  show g_H E 30 26226 261 [(0, vR 40)] [vR 70, vR 40] ((g_nS σ 70 13 400), (g_z M 70 0), (g_z N 70 0)) _ _
  refine r_chk (fun hs261 => ?_)
  refine r_putR J cls12 rfl (k := 40) (t := 13) (by decide) wf_12_108 rfl rfl (Or.inr ⟨rfl, rfl, rfl⟩) (g_is_at hs261) (Or.inr ⟨_, (g_nS_at σ 70 13 400)⟩) ?_
  show g_H E 30 26226 264 [(0, vR 40)] [] ((g_pS (g_nS σ 70 13 400) 40 40 70), (g_z M 70 0), (g_z N 70 0)) _ _
  exact p_X12_init_264 J (g_pS (g_nS σ 70 13 400) 40 40 70) (g_z M 70 0) (g_z N 70 0)
set_option maxHeartbeats 4000000 in
set_option maxRecDepth 100000 in
theorem p_X12_init_246 {l : Launch} {E : gE} (J : J_X12_init E l) (σ : gS) (M : gM) (N : gN) : g_H E 28 14562 246 [(0, vR 40)] [] (σ, M, N) (b_X12_init_246 σ M N) (eVSMN) := by
  unfold b_X12_init_246
  refine r_run J 2 (pc' := 250) (lv' := [(0, vR 40)]) (st' := [vI 11264, vR 40]) rfl ?_
  refine r_chk (fun hf250 => ?_)
  refine r_newZ J (B := 11264) rfl wa_boolean (by decide) rfl (Nat.le_refl _) (by decide) (g_fr_0 hf250) (g_fr_n hf250) (by decide) (by decide) ?_
  show g_H E 29 25826 252 [(0, vR 40)] [vR 69, vR 40] ((g_nS σ 69 15 11264), (g_z M 69 0), (g_z N 69 0)) _ _
  refine r_chk (fun hs252 => ?_)
  refine r_putR J cls12 rfl (k := 39) (t := 15) (by decide) wf_12_105 rfl rfl (Or.inr ⟨rfl, rfl, rfl⟩) (g_is_at hs252) (Or.inr ⟨_, (g_nS_at σ 69 15 11264)⟩) ?_
  show g_H E 29 25826 255 [(0, vR 40)] [] ((g_pS (g_nS σ 69 15 11264) 40 39 69), (g_z M 69 0), (g_z N 69 0)) _ _
  exact p_X12_init_255 J (g_pS (g_nS σ 69 15 11264) 40 39 69) (g_z M 69 0) (g_z N 69 0)
set_option maxHeartbeats 4000000 in
set_option maxRecDepth 100000 in
theorem p_X12_init_238 {l : Launch} {E : gE} (J : J_X12_init E l) (σ : gS) (M : gM) (N : gN) : g_H E 27 14552 238 [(0, vR 40)] [] (σ, M, N) (b_X12_init_238 σ M N) (eVSMN) := by
  unfold b_X12_init_238
  refine r_run J 2 (pc' := 241) (lv' := [(0, vR 40)]) (st' := [vI 10, vR 40]) rfl ?_
  refine r_chk (fun hf241 => ?_)
  refine r_newI J (B := 10) rfl wa_int (by decide) rfl (Nat.le_refl _) (by decide) (g_fr_0 hf241) (g_fr_n hf241) (by decide) (by decide) ?_
  show g_H E 28 14562 243 [(0, vR 40)] [vR 68, vR 40] ((g_nS σ 68 14 10), (g_z M 68 0), (g_z N 68 0)) _ _
  refine r_chk (fun hs243 => ?_)
  refine r_putR J cls12 rfl (k := 38) (t := 14) (by decide) wf_12_102 rfl rfl (Or.inr ⟨rfl, rfl, rfl⟩) (g_is_at hs243) (Or.inr ⟨_, (g_nS_at σ 68 14 10)⟩) ?_
  show g_H E 28 14562 246 [(0, vR 40)] [] ((g_pS (g_nS σ 68 14 10) 40 38 68), (g_z M 68 0), (g_z N 68 0)) _ _
  exact p_X12_init_246 J (g_pS (g_nS σ 68 14 10) 40 38 68) (g_z M 68 0) (g_z N 68 0)
set_option maxHeartbeats 4000000 in
set_option maxRecDepth 100000 in
theorem p_X12_init_233 {l : Launch} {E : gE} (J : J_X12_init E l) (σ : gS) (M : gM) (N : gN) : g_H E 27 14552 233 [(0, vR 40)] [] (σ, M, N) (b_X12_init_233 σ M N) (eVSMN) := by
  unfold b_X12_init_233
  refine r_run J 2 (pc' := 235) (lv' := [(0, vR 40)]) (st' := [vI (-1), vR 40]) rfl ?_
  refine r_chk (fun hs235 => ?_)
  refine r_putI J cls12 rfl (k := 37) (by decide) wf_12_99 rfl (Or.inl rfl) ⟨rfl, rfl⟩ (g_is_at hs235) ?_
  show g_H E 27 14552 238 [(0, vR 40)] [] (σ, (g_up M 40 37 (-1)), N) _ _
  exact p_X12_init_238 J σ (g_up M 40 37 (-1)) N
set_option maxHeartbeats 4000000 in
set_option maxRecDepth 100000 in
theorem p_X12_init_224 {l : Launch} {E : gE} (J : J_X12_init E l) (σ : gS) (M : gM) (N : gN) : g_H E 26 3288 224 [(0, vR 40)] [] (σ, M, N) (b_X12_init_224 σ M N) (eVSMN) := by
  unfold b_X12_init_224
  refine r_run J 2 (pc' := 228) (lv' := [(0, vR 40)]) (st' := [vI 11264, vR 40]) rfl ?_
  refine r_chk (fun hf228 => ?_)
  refine r_newI J (B := 11264) rfl wa_int (by decide) rfl (Nat.le_refl _) (by decide) (g_fr_0 hf228) (g_fr_n hf228) (by decide) (by decide) ?_
  show g_H E 27 14552 230 [(0, vR 40)] [vR 67, vR 40] ((g_nS σ 67 14 11264), (g_z M 67 0), (g_z N 67 0)) _ _
  refine r_chk (fun hs230 => ?_)
  refine r_putR J cls12 rfl (k := 36) (t := 14) (by decide) wf_12_96 rfl rfl (Or.inr ⟨rfl, rfl, rfl⟩) (g_is_at hs230) (Or.inr ⟨_, (g_nS_at σ 67 14 11264)⟩) ?_
  show g_H E 27 14552 233 [(0, vR 40)] [] ((g_pS (g_nS σ 67 14 11264) 40 36 67), (g_z M 67 0), (g_z N 67 0)) _ _
  exact p_X12_init_233 J (g_pS (g_nS σ 67 14 11264) 40 36 67) (g_z M 67 0) (g_z N 67 0)
set_option maxHeartbeats 4000000 in
set_option maxRecDepth 100000 in
theorem p_X12_init_216 {l : Launch} {E : gE} (J : J_X12_init E l) (σ : gS) (M : gM) (N : gN) : g_H E 25 3278 216 [(0, vR 40)] [] (σ, M, N) (b_X12_init_216 σ M N) (eVSMN) := by
  unfold b_X12_init_216
  refine r_run J 2 (pc' := 219) (lv' := [(0, vR 40)]) (st' := [vI 10, vR 40]) rfl ?_
  refine r_chk (fun hf219 => ?_)
  refine r_newI J (B := 10) rfl wa_int (by decide) rfl (Nat.le_refl _) (by decide) (g_fr_0 hf219) (g_fr_n hf219) (by decide) (by decide) ?_
  show g_H E 26 3288 221 [(0, vR 40)] [vR 66, vR 40] ((g_nS σ 66 14 10), (g_z M 66 0), (g_z N 66 0)) _ _
  refine r_chk (fun hs221 => ?_)
  refine r_putR J cls12 rfl (k := 35) (t := 14) (by decide) wf_12_93 rfl rfl (Or.inr ⟨rfl, rfl, rfl⟩) (g_is_at hs221) (Or.inr ⟨_, (g_nS_at σ 66 14 10)⟩) ?_
  show g_H E 26 3288 224 [(0, vR 40)] [] ((g_pS (g_nS σ 66 14 10) 40 35 66), (g_z M 66 0), (g_z N 66 0)) _ _
  exact p_X12_init_224 J (g_pS (g_nS σ 66 14 10) 40 35 66) (g_z M 66 0) (g_z N 66 0)
set_option maxHeartbeats 4000000 in
set_option maxRecDepth 100000 in
theorem p_X12_init_207 {l : Launch} {E : gE} (J : J_X12_init E l) (σ : gS) (M : gM) (N : gN) : g_H E 24 2638 207 [(0, vR 40)] [] (σ, M, N) (b_X12_init_207 σ M N) (eVSMN) := by
  unfold b_X12_init_207
  refine r_run J 2 (pc' := 211) (lv' := [(0, vR 40)]) (st' := [vI 640, vR 40]) rfl ?_
  refine r_chk (fun hf211 => ?_)
  refine r_newI J (B := 640) rfl wa_int (by decide) rfl (Nat.le_refl _) (by decide) (g_fr_0 hf211) (g_fr_n hf211) (by decide) (by decide) ?_
  show g_H E 25 3278 213 [(0, vR 40)] [vR 65, vR 40] ((g_nS σ 65 14 640), (g_z M 65 0), (g_z N 65 0)) _ _
  refine r_chk (fun hs213 => ?_)
  refine r_putR J cls12 rfl (k := 34) (t := 14) (by decide) wf_12_90 rfl rfl (Or.inr ⟨rfl, rfl, rfl⟩) (g_is_at hs213) (Or.inr ⟨_, (g_nS_at σ 65 14 640)⟩) ?_
  show g_H E 25 3278 216 [(0, vR 40)] [] ((g_pS (g_nS σ 65 14 640) 40 34 65), (g_z M 65 0), (g_z N 65 0)) _ _
  exact p_X12_init_216 J (g_pS (g_nS σ 65 14 640) 40 34 65) (g_z M 65 0) (g_z N 65 0)
set_option maxHeartbeats 4000000 in
set_option maxRecDepth 100000 in
theorem p_X12_init_199 {l : Launch} {E : gE} (J : J_X12_init E l) (σ : gS) (M : gM) (N : gN) : g_H E 23 2628 199 [(0, vR 40)] [] (σ, M, N) (b_X12_init_199 σ M N) (eVSMN) := by
  unfold b_X12_init_199
  refine r_run J 2 (pc' := 202) (lv' := [(0, vR 40)]) (st' := [vI 10, vR 40]) rfl ?_
  refine r_chk (fun hf202 => ?_)
  refine r_newI J (B := 10) rfl wa_int (by decide) rfl (Nat.le_refl _) (by decide) (g_fr_0 hf202) (g_fr_n hf202) (by decide) (by decide) ?_
  show g_H E 24 2638 204 [(0, vR 40)] [vR 64, vR 40] ((g_nS σ 64 14 10), (g_z M 64 0), (g_z N 64 0)) _ _
  refine r_chk (fun hs204 => ?_)
  refine r_putR J cls12 rfl (k := 33) (t := 14) (by decide) wf_12_87 rfl rfl (Or.inr ⟨rfl, rfl, rfl⟩) (g_is_at hs204) (Or.inr ⟨_, (g_nS_at σ 64 14 10)⟩) ?_
  show g_H E 24 2638 207 [(0, vR 40)] [] ((g_pS (g_nS σ 64 14 10) 40 33 64), (g_z M 64 0), (g_z N 64 0)) _ _
  exact p_X12_init_207 J (g_pS (g_nS σ 64 14 10) 40 33 64) (g_z M 64 0) (g_z N 64 0)
set_option maxHeartbeats 4000000 in
set_option maxRecDepth 100000 in
theorem p_X12_init_191 {l : Launch} {E : gE} (J : J_X12_init E l) (σ : gS) (M : gM) (N : gN) : g_H E 22 2598 191 [(0, vR 40)] [] (σ, M, N) (b_X12_init_191 σ M N) (eVSMN) := by
  unfold b_X12_init_191
  refine r_run J 2 (pc' := 194) (lv' := [(0, vR 40)]) (st' := [vI 30, vR 40]) rfl ?_
  refine r_chk (fun hf194 => ?_)
  refine r_newI J (B := 30) rfl wa_int (by decide) rfl (Nat.le_refl _) (by decide) (g_fr_0 hf194) (g_fr_n hf194) (by decide) (by decide) ?_
  show g_H E 23 2628 196 [(0, vR 40)] [vR 63, vR 40] ((g_nS σ 63 14 30), (g_z M 63 0), (g_z N 63 0)) _ _
  refine r_chk (fun hs196 => ?_)
  refine r_putR J cls12 rfl (k := 32) (t := 14) (by decide) wf_12_84 rfl rfl (Or.inr ⟨rfl, rfl, rfl⟩) (g_is_at hs196) (Or.inr ⟨_, (g_nS_at σ 63 14 30)⟩) ?_
  show g_H E 23 2628 199 [(0, vR 40)] [] ((g_pS (g_nS σ 63 14 30) 40 32 63), (g_z M 63 0), (g_z N 63 0)) _ _
  exact p_X12_init_199 J (g_pS (g_nS σ 63 14 30) 40 32 63) (g_z M 63 0) (g_z N 63 0)
set_option maxHeartbeats 4000000 in
set_option maxRecDepth 100000 in
theorem p_X12_init_182 {l : Launch} {E : gE} (J : J_X12_init E l) (σ : gS) (M : gM) (N : gN) : g_H E 21 2298 182 [(0, vR 40)] [] (σ, M, N) (b_X12_init_182 σ M N) (eVSMN) := by
  unfold b_X12_init_182
  refine r_run J 2 (pc' := 186) (lv' := [(0, vR 40)]) (st' := [vI 300, vR 40]) rfl ?_
  refine r_chk (fun hf186 => ?_)
  refine r_newI J (B := 300) rfl wa_int (by decide) rfl (Nat.le_refl _) (by decide) (g_fr_0 hf186) (g_fr_n hf186) (by decide) (by decide) ?_
  show g_H E 22 2598 188 [(0, vR 40)] [vR 62, vR 40] ((g_nS σ 62 14 300), (g_z M 62 0), (g_z N 62 0)) _ _
  refine r_chk (fun hs188 => ?_)
  refine r_putR J cls12 rfl (k := 31) (t := 14) (by decide) wf_12_81 rfl rfl (Or.inr ⟨rfl, rfl, rfl⟩) (g_is_at hs188) (Or.inr ⟨_, (g_nS_at σ 62 14 300)⟩) ?_
  show g_H E 22 2598 191 [(0, vR 40)] [] ((g_pS (g_nS σ 62 14 300) 40 31 62), (g_z M 62 0), (g_z N 62 0)) _ _
  exact p_X12_init_191 J (g_pS (g_nS σ 62 14 300) 40 31 62) (g_z M 62 0) (g_z N 62 0)
set_option maxHeartbeats 4000000 in
set_option maxRecDepth 100000 in
theorem p_X12_init_173 {l : Launch} {E : gE} (J : J_X12_init E l) (σ : gS) (M : gM) (N : gN) : g_H E 20 1998 173 [(0, vR 40)] [] (σ, M, N) (b_X12_init_173 σ M N) (eVSMN) := by
  unfold b_X12_init_173
  refine r_run J 2 (pc' := 177) (lv' := [(0, vR 40)]) (st' := [vI 300, vR 40]) rfl ?_
  refine r_chk (fun hf177 => ?_)
  refine r_newZ J (B := 300) rfl wa_boolean (by decide) rfl (Nat.le_refl _) (by decide) (g_fr_0 hf177) (g_fr_n hf177) (by decide) (by decide) ?_
  show g_H E 21 2298 179 [(0, vR 40)] [vR 61, vR 40] ((g_nS σ 61 15 300), (g_z M 61 0), (g_z N 61 0)) _ _
  refine r_chk (fun hs179 => ?_)
  refine r_putR J cls12 rfl (k := 30) (t := 15) (by decide) wf_12_78 rfl rfl (Or.inr ⟨rfl, rfl, rfl⟩) (g_is_at hs179) (Or.inr ⟨_, (g_nS_at σ 61 15 300)⟩) ?_
  show g_H E 21 2298 182 [(0, vR 40)] [] ((g_pS (g_nS σ 61 15 300) 40 30 61), (g_z M 61 0), (g_z N 61 0)) _ _
  exact p_X12_init_182 J (g_pS (g_nS σ 61 15 300) 40 30 61) (g_z M 61 0) (g_z N 61 0)
set_option maxHeartbeats 4000000 in
set_option maxRecDepth 100000 in
theorem p_X12_init_164 {l : Launch} {E : gE} (J : J_X12_init E l) (σ : gS) (M : gM) (N : gN) : g_H E 19 1498 164 [(0, vR 40)] [] (σ, M, N) (b_X12_init_164 σ M N) (eVSMN) := by
  unfold b_X12_init_164
  refine r_run J 2 (pc' := 168) (lv' := [(0, vR 40)]) (st' := [vI 500, vR 40]) rfl ?_
  refine r_chk (fun hf168 => ?_)
  refine r_newI J (B := 500) rfl wa_int (by decide) rfl (Nat.le_refl _) (by decide) (g_fr_0 hf168) (g_fr_n hf168) (by decide) (by decide) ?_
  show g_H E 20 1998 170 [(0, vR 40)] [vR 60, vR 40] ((g_nS σ 60 14 500), (g_z M 60 0), (g_z N 60 0)) _ _
  refine r_chk (fun hs170 => ?_)
  refine r_putR J cls12 rfl (k := 29) (t := 14) (by decide) wf_12_75 rfl rfl (Or.inr ⟨rfl, rfl, rfl⟩) (g_is_at hs170) (Or.inr ⟨_, (g_nS_at σ 60 14 500)⟩) ?_
  show g_H E 20 1998 173 [(0, vR 40)] [] ((g_pS (g_nS σ 60 14 500) 40 29 60), (g_z M 60 0), (g_z N 60 0)) _ _
  exact p_X12_init_173 J (g_pS (g_nS σ 60 14 500) 40 29 60) (g_z M 60 0) (g_z N 60 0)
set_option maxHeartbeats 4000000 in
set_option maxRecDepth 100000 in
theorem p_X12_init_155 {l : Launch} {E : gE} (J : J_X12_init E l) (σ : gS) (M : gM) (N : gN) : g_H E 18 998 155 [(0, vR 40)] [] (σ, M, N) (b_X12_init_155 σ M N) (eVSMN) := by
  unfold b_X12_init_155
  refine r_run J 2 (pc' := 159) (lv' := [(0, vR 40)]) (st' := [vI 500, vR 40]) rfl ?_
  refine r_chk (fun hf159 => ?_)
  refine r_newI J (B := 500) rfl wa_int (by decide) rfl (Nat.le_refl _) (by decide) (g_fr_0 hf159) (g_fr_n hf159) (by decide) (by decide) ?_
  show g_H E 19 1498 161 [(0, vR 40)] [vR 59, vR 40] ((g_nS σ 59 14 500), (g_z M 59 0), (g_z N 59 0)) _ _
  refine r_chk (fun hs161 => ?_)
  refine r_putR J cls12 rfl (k := 28) (t := 14) (by decide) wf_12_72 rfl rfl (Or.inr ⟨rfl, rfl, rfl⟩) (g_is_at hs161) (Or.inr ⟨_, (g_nS_at σ 59 14 500)⟩) ?_
  show g_H E 19 1498 164 [(0, vR 40)] [] ((g_pS (g_nS σ 59 14 500) 40 28 59), (g_z M 59 0), (g_z N 59 0)) _ _
  exact p_X12_init_164 J (g_pS (g_nS σ 59 14 500) 40 28 59) (g_z M 59 0) (g_z N 59 0)
set_option maxHeartbeats 4000000 in
set_option maxRecDepth 100000 in
theorem p_X12_init_146 {l : Launch} {E : gE} (J : J_X12_init E l) (σ : gS) (M : gM) (N : gN) : g_H E 17 498 146 [(0, vR 40)] [] (σ, M, N) (b_X12_init_146 σ M N) (eVSMN) := by
  unfold b_X12_init_146
  refine r_run J 2 (pc' := 150) (lv' := [(0, vR 40)]) (st' := [vI 500, vR 40]) rfl ?_
  refine r_chk (fun hf150 => ?_)
  refine r_newI J (B := 500) rfl wa_int (by decide) rfl (Nat.le_refl _) (by decide) (g_fr_0 hf150) (g_fr_n hf150) (by decide) (by decide) ?_
  show g_H E 18 998 152 [(0, vR 40)] [vR 58, vR 40] ((g_nS σ 58 14 500), (g_z M 58 0), (g_z N 58 0)) _ _
  refine r_chk (fun hs152 => ?_)
  refine r_putR J cls12 rfl (k := 27) (t := 14) (by decide) wf_12_69 rfl rfl (Or.inr ⟨rfl, rfl, rfl⟩) (g_is_at hs152) (Or.inr ⟨_, (g_nS_at σ 58 14 500)⟩) ?_
  show g_H E 18 998 155 [(0, vR 40)] [] ((g_pS (g_nS σ 58 14 500) 40 27 58), (g_z M 58 0), (g_z N 58 0)) _ _
  exact p_X12_init_155 J (g_pS (g_nS σ 58 14 500) 40 27 58) (g_z M 58 0) (g_z N 58 0)
set_option maxHeartbeats 4000000 in
set_option maxRecDepth 100000 in
theorem p_X12_init_138 {l : Launch} {E : gE} (J : J_X12_init E l) (σ : gS) (M : gM) (N : gN) : g_H E 16 438 138 [(0, vR 40)] [] (σ, M, N) (b_X12_init_138 σ M N) (eVSMN) := by
  unfold b_X12_init_138
  refine r_run J 2 (pc' := 141) (lv' := [(0, vR 40)]) (st' := [vI 60, vR 40]) rfl ?_
  refine r_chk (fun hf141 => ?_)
  refine r_newI J (B := 60) rfl wa_int (by decide) rfl (Nat.le_refl _) (by decide) (g_fr_0 hf141) (g_fr_n hf141) (by decide) (by decide) ?_
  show g_H E 17 498 143 [(0, vR 40)] [vR 57, vR 40] ((g_nS σ 57 14 60), (g_z M 57 0), (g_z N 57 0)) _ _
  refine r_chk (fun hs143 => ?_)
  refine r_putR J cls12 rfl (k := 25) (t := 14) (by decide) wf_12_66 rfl rfl (Or.inr ⟨rfl, rfl, rfl⟩) (g_is_at hs143) (Or.inr ⟨_, (g_nS_at σ 57 14 60)⟩) ?_
  show g_H E 17 498 146 [(0, vR 40)] [] ((g_pS (g_nS σ 57 14 60) 40 25 57), (g_z M 57 0), (g_z N 57 0)) _ _
  exact p_X12_init_146 J (g_pS (g_nS σ 57 14 60) 40 25 57) (g_z M 57 0) (g_z N 57 0)
set_option maxHeartbeats 4000000 in
set_option maxRecDepth 100000 in
theorem p_X12_init_130 {l : Launch} {E : gE} (J : J_X12_init E l) (σ : gS) (M : gM) (N : gN) : g_H E 15 378 130 [(0, vR 40)] [] (σ, M, N) (b_X12_init_130 σ M N) (eVSMN) := by
  unfold b_X12_init_130
  refine r_run J 2 (pc' := 133) (lv' := [(0, vR 40)]) (st' := [vI 60, vR 40]) rfl ?_
  refine r_chk (fun hf133 => ?_)
  refine r_newZ J (B := 60) rfl wa_boolean (by decide) rfl (Nat.le_refl _) (by decide) (g_fr_0 hf133) (g_fr_n hf133) (by decide) (by decide) ?_
  show g_H E 16 438 135 [(0, vR 40)] [vR 56, vR 40] ((g_nS σ 56 15 60), (g_z M 56 0), (g_z N 56 0)) _ _
  refine r_chk (fun hs135 => ?_)
  refine r_putR J cls12 rfl (k := 24) (t := 15) (by decide) wf_12_63 rfl rfl (Or.inr ⟨rfl, rfl, rfl⟩) (g_is_at hs135) (Or.inr ⟨_, (g_nS_at σ 56 15 60)⟩) ?_
  show g_H E 16 438 138 [(0, vR 40)] [] ((g_pS (g_nS σ 56 15 60) 40 24 56), (g_z M 56 0), (g_z N 56 0)) _ _
  exact p_X12_init_138 J (g_pS (g_nS σ 56 15 60) 40 24 56) (g_z M 56 0) (g_z N 56 0)
set_option maxHeartbeats 4000000 in
set_option maxRecDepth 100000 in
theorem p_X12_init_122 {l : Launch} {E : gE} (J : J_X12_init E l) (σ : gS) (M : gM) (N : gN) : g_H E 14 318 122 [(0, vR 40)] [] (σ, M, N) (b_X12_init_122 σ M N) (eVSMN) := by
  unfold b_X12_init_122
  refine r_run J 2 (pc' := 125) (lv' := [(0, vR 40)]) (st' := [vI 60, vR 40]) rfl ?_
  refine r_chk (fun hf125 => ?_)
  refine r_newI J (B := 60) rfl wa_int (by decide) rfl (Nat.le_refl _) (by decide) (g_fr_0 hf125) (g_fr_n hf125) (by decide) (by decide) ?_
  show g_H E 15 378 127 [(0, vR 40)] [vR 55, vR 40] ((g_nS σ 55 14 60), (g_z M 55 0), (g_z N 55 0)) _ _
  refine r_chk (fun hs127 => ?_)
  refine r_putR J cls12 rfl (k := 23) (t := 14) (by decide) wf_12_60 rfl rfl (Or.inr ⟨rfl, rfl, rfl⟩) (g_is_at hs127) (Or.inr ⟨_, (g_nS_at σ 55 14 60)⟩) ?_
  show g_H E 15 378 130 [(0, vR 40)] [] ((g_pS (g_nS σ 55 14 60) 40 23 55), (g_z M 55 0), (g_z N 55 0)) _ _
  exact p_X12_init_130 J (g_pS (g_nS σ 55 14 60) 40 23 55) (g_z M 55 0) (g_z N 55 0)
set_option maxHeartbeats 4000000 in
set_option maxRecDepth 100000 in
theorem p_X12_init_114 {l : Launch} {E : gE} (J : J_X12_init E l) (σ : gS) (M : gM) (N : gN) : g_H E 13 258 114 [(0, vR 40)] [] (σ, M, N) (b_X12_init_114 σ M N) (eVSMN) := by
  unfold b_X12_init_114
  refine r_run J 2 (pc' := 117) (lv' := [(0, vR 40)]) (st' := [vI 60, vR 40]) rfl ?_
  refine r_chk (fun hf117 => ?_)
  refine r_newZ J (B := 60) rfl wa_boolean (by decide) rfl (Nat.le_refl _) (by decide) (g_fr_0 hf117) (g_fr_n hf117) (by decide) (by decide) ?_
  show g_H E 14 318 119 [(0, vR 40)] [vR 54, vR 40] ((g_nS σ 54 15 60), (g_z M 54 0), (g_z N 54 0)) _ _
  refine r_chk (fun hs119 => ?_)
  refine r_putR J cls12 rfl (k := 22) (t := 15) (by decide) wf_12_57 rfl rfl (Or.inr ⟨rfl, rfl, rfl⟩) (g_is_at hs119) (Or.inr ⟨_, (g_nS_at σ 54 15 60)⟩) ?_
  show g_H E 14 318 122 [(0, vR 40)] [] ((g_pS (g_nS σ 54 15 60) 40 22 54), (g_z M 54 0), (g_z N 54 0)) _ _
  exact p_X12_init_122 J (g_pS (g_nS σ 54 15 60) 40 22 54) (g_z M 54 0) (g_z N 54 0)
set_option maxHeartbeats 4000000 in
set_option maxRecDepth 100000 in
theorem p_X12_init_106 {l : Launch} {E : gE} (J : J_X12_init E l) (σ : gS) (M : gM) (N : gN) : g_H E 12 198 106 [(0, vR 40)] [] (σ, M, N) (b_X12_init_106 σ M N) (eVSMN) := by
  unfold b_X12_init_106
  refine r_run J 2 (pc' := 109) (lv' := [(0, vR 40)]) (st' := [vI 60, vR 40]) rfl ?_
  refine r_chk (fun hf109 => ?_)
  refine r_newI J (B := 60) rfl wa_int (by decide) rfl (Nat.le_refl _) (by decide) (g_fr_0 hf109) (g_fr_n hf109) (by decide) (by decide) ?_
  show g_H E 13 258 111 [(0, vR 40)] [vR 53, vR 40] ((g_nS σ 53 14 60), (g_z M 53 0), (g_z N 53 0)) _ _
  refine r_chk (fun hs111 => ?_)
  refine r_putR J cls12 rfl (k := 21) (t := 14) (by decide) wf_12_54 rfl rfl (Or.inr ⟨rfl, rfl, rfl⟩) (g_is_at hs111) (Or.inr ⟨_, (g_nS_at σ 53 14 60)⟩) ?_
  show g_H E 13 258 114 [(0, vR 40)] [] ((g_pS (g_nS σ 53 14 60) 40 21 53), (g_z M 53 0), (g_z N 53 0)) _ _
  exact p_X12_init_114 J (g_pS (g_nS σ 53 14 60) 40 21 53) (g_z M 53 0) (g_z N 53 0)
set_option maxHeartbeats 4000000 in
set_option maxRecDepth 100000 in
theorem p_X12_init_98 {l : Launch} {E : gE} (J : J_X12_init E l) (σ : gS) (M : gM) (N : gN) : g_H E 11 192 98 [(0, vR 40)] [] (σ, M, N) (b_X12_init_98 σ M N) (eVSMN) := by
  unfold b_X12_init_98
  refine r_run J 2 (pc' := 101) (lv' := [(0, vR 40)]) (st' := [vI 6, vR 40]) rfl ?_
  refine r_chk (fun hf101 => ?_)
  refine r_newI J (B := 6) rfl wa_int (by decide) rfl (Nat.le_refl _) (by decide) (g_fr_0 hf101) (g_fr_n hf101) (by decide) (by decide) ?_
  show g_H E 12 198 103 [(0, vR 40)] [vR 52, vR 40] ((g_nS σ 52 14 6), (g_z M 52 0), (g_z N 52 0)) _ _
  refine r_chk (fun hs103 => ?_)
  refine r_putR J cls12 rfl (k := 20) (t := 14) (by decide) wf_12_51 rfl rfl (Or.inr ⟨rfl, rfl, rfl⟩) (g_is_at hs103) (Or.inr ⟨_, (g_nS_at σ 52 14 6)⟩) ?_
  show g_H E 12 198 106 [(0, vR 40)] [] ((g_pS (g_nS σ 52 14 6) 40 20 52), (g_z M 52 0), (g_z N 52 0)) _ _
  exact p_X12_init_106 J (g_pS (g_nS σ 52 14 6) 40 20 52) (g_z M 52 0) (g_z N 52 0)
set_option maxHeartbeats 4000000 in
set_option maxRecDepth 100000 in
theorem p_X12_init_90 {l : Launch} {E : gE} (J : J_X12_init E l) (σ : gS) (M : gM) (N : gN) : g_H E 10 186 90 [(0, vR 40)] [] (σ, M, N) (b_X12_init_90 σ M N) (eVSMN) := by
  unfold b_X12_init_90
  refine r_run J 2 (pc' := 93) (lv' := [(0, vR 40)]) (st' := [vI 6, vR 40]) rfl ?_
  refine r_chk (fun hf93 => ?_)
  refine r_newI J (B := 6) rfl wa_int (by decide) rfl (Nat.le_refl _) (by decide) (g_fr_0 hf93) (g_fr_n hf93) (by decide) (by decide) ?_
  show g_H E 11 192 95 [(0, vR 40)] [vR 51, vR 40] ((g_nS σ 51 14 6), (g_z M 51 0), (g_z N 51 0)) _ _
  refine r_chk (fun hs95 => ?_)
  refine r_putR J cls12 rfl (k := 19) (t := 14) (by decide) wf_12_48 rfl rfl (Or.inr ⟨rfl, rfl, rfl⟩) (g_is_at hs95) (Or.inr ⟨_, (g_nS_at σ 51 14 6)⟩) ?_
  show g_H E 11 192 98 [(0, vR 40)] [] ((g_pS (g_nS σ 51 14 6) 40 19 51), (g_z M 51 0), (g_z N 51 0)) _ _
  exact p_X12_init_98 J (g_pS (g_nS σ 51 14 6) 40 19 51) (g_z M 51 0) (g_z N 51 0)
set_option maxHeartbeats 4000000 in
set_option maxRecDepth 100000 in
theorem p_X12_init_82 {l : Launch} {E : gE} (J : J_X12_init E l) (σ : gS) (M : gM) (N : gN) : g_H E 9 180 82 [(0, vR 40)] [] (σ, M, N) (b_X12_init_82 σ M N) (eVSMN) := by
  unfold b_X12_init_82
  refine r_run J 2 (pc' := 85) (lv' := [(0, vR 40)]) (st' := [vI 6, vR 40]) rfl ?_
  refine r_chk (fun hf85 => ?_)
  refine r_newI J (B := 6) rfl wa_int (by decide) rfl (Nat.le_refl _) (by decide) (g_fr_0 hf85) (g_fr_n hf85) (by decide) (by decide) ?_
  show g_H E 10 186 87 [(0, vR 40)] [vR 50, vR 40] ((g_nS σ 50 14 6), (g_z M 50 0), (g_z N 50 0)) _ _
  refine r_chk (fun hs87 => ?_)
  refine r_putR J cls12 rfl (k := 18) (t := 14) (by decide) wf_12_45 rfl rfl (Or.inr ⟨rfl, rfl, rfl⟩) (g_is_at hs87) (Or.inr ⟨_, (g_nS_at σ 50 14 6)⟩) ?_
  show g_H E 10 186 90 [(0, vR 40)] [] ((g_pS (g_nS σ 50 14 6) 40 18 50), (g_z M 50 0), (g_z N 50 0)) _ _
  exact p_X12_init_90 J (g_pS (g_nS σ 50 14 6) 40 18 50) (g_z M 50 0) (g_z N 50 0)
set_option maxHeartbeats 4000000 in
set_option maxRecDepth 100000 in
theorem p_X12_init_76 {l : Launch} {E : gE} (J : J_X12_init E l) (σ : gS) (M : gM) (N : gN) : g_H E 9 180 76 [(0, vR 40)] [] (σ, M, N) (b_X12_init_76 σ M N) (eVSMN) := by
  unfold b_X12_init_76
  refine r_run J 2 (pc' := 79) (lv' := [(0, vR 40)]) (st' := [vI 30, vR 40]) rfl ?_
  refine r_chk (fun hs79 => ?_)
  refine r_putI J cls12 rfl (k := 15) (by decide) wf_12_42 rfl (Or.inl rfl) ⟨rfl, rfl⟩ (g_is_at hs79) ?_
  show g_H E 9 180 82 [(0, vR 40)] [] (σ, (g_up M 40 15 30), N) _ _
  exact p_X12_init_82 J σ (g_up M 40 15 30) N
set_option maxHeartbeats 4000000 in
set_option maxRecDepth 100000 in
theorem p_X12_init_68 {l : Launch} {E : gE} (J : J_X12_init E l) (σ : gS) (M : gM) (N : gN) : g_H E 8 80 68 [(0, vR 40)] [] (σ, M, N) (b_X12_init_68 σ M N) (eVSMN) := by
  unfold b_X12_init_68
  refine r_run J 2 (pc' := 71) (lv' := [(0, vR 40)]) (st' := [vI 100, vR 40]) rfl ?_
  refine r_chk (fun hf71 => ?_)
  refine r_newZ J (B := 100) rfl wa_boolean (by decide) rfl (Nat.le_refl _) (by decide) (g_fr_0 hf71) (g_fr_n hf71) (by decide) (by decide) ?_
  show g_H E 9 180 73 [(0, vR 40)] [vR 49, vR 40] ((g_nS σ 49 15 100), (g_z M 49 0), (g_z N 49 0)) _ _
  refine r_chk (fun hs73 => ?_)
  refine r_putR J cls12 rfl (k := 10) (t := 15) (by decide) wf_12_39 rfl rfl (Or.inr ⟨rfl, rfl, rfl⟩) (g_is_at hs73) (Or.inr ⟨_, (g_nS_at σ 49 15 100)⟩) ?_
  show g_H E 9 180 76 [(0, vR 40)] [] ((g_pS (g_nS σ 49 15 100) 40 10 49), (g_z M 49 0), (g_z N 49 0)) _ _
  exact p_X12_init_76 J (g_pS (g_nS σ 49 15 100) 40 10 49) (g_z M 49 0) (g_z N 49 0)
set_option maxHeartbeats 4000000 in
set_option maxRecDepth 100000 in
theorem p_X12_init_60 {l : Launch} {E : gE} (J : J_X12_init E l) (σ : gS) (M : gM) (N : gN) : g_H E 7 70 60 [(0, vR 40)] [] (σ, M, N) (b_X12_init_60 σ M N) (eVSMN) := by
  unfold b_X12_init_60
  refine r_run J 2 (pc' := 63) (lv' := [(0, vR 40)]) (st' := [vI 10, vR 40]) rfl ?_
  refine r_chk (fun hf63 => ?_)
  refine r_newI J (B := 10) rfl wa_int (by decide) rfl (Nat.le_refl _) (by decide) (g_fr_0 hf63) (g_fr_n hf63) (by decide) (by decide) ?_
  show g_H E 8 80 65 [(0, vR 40)] [vR 48, vR 40] ((g_nS σ 48 14 10), (g_z M 48 0), (g_z N 48 0)) _ _
  refine r_chk (fun hs65 => ?_)
  refine r_putR J cls12 rfl (k := 9) (t := 14) (by decide) wf_12_36 rfl rfl (Or.inr ⟨rfl, rfl, rfl⟩) (g_is_at hs65) (Or.inr ⟨_, (g_nS_at σ 48 14 10)⟩) ?_
  show g_H E 8 80 68 [(0, vR 40)] [] ((g_pS (g_nS σ 48 14 10) 40 9 48), (g_z M 48 0), (g_z N 48 0)) _ _
  exact p_X12_init_68 J (g_pS (g_nS σ 48 14 10) 40 9 48) (g_z M 48 0) (g_z N 48 0)
set_option maxHeartbeats 4000000 in
set_option maxRecDepth 100000 in
theorem p_X12_init_52 {l : Launch} {E : gE} (J : J_X12_init E l) (σ : gS) (M : gM) (N : gN) : g_H E 6 60 52 [(0, vR 40)] [] (σ, M, N) (b_X12_init_52 σ M N) (eVSMN) := by
  unfold b_X12_init_52
  refine r_run J 2 (pc' := 55) (lv' := [(0, vR 40)]) (st' := [vI 10, vR 40]) rfl ?_
  refine r_chk (fun hf55 => ?_)
  refine r_newZ J (B := 10) rfl wa_boolean (by decide) rfl (Nat.le_refl _) (by decide) (g_fr_0 hf55) (g_fr_n hf55) (by decide) (by decide) ?_
  show g_H E 7 70 57 [(0, vR 40)] [vR 47, vR 40] ((g_nS σ 47 15 10), (g_z M 47 0), (g_z N 47 0)) _ _
  refine r_chk (fun hs57 => ?_)
  refine r_putR J cls12 rfl (k := 8) (t := 15) (by decide) wf_12_33 rfl rfl (Or.inr ⟨rfl, rfl, rfl⟩) (g_is_at hs57) (Or.inr ⟨_, (g_nS_at σ 47 15 10)⟩) ?_
  show g_H E 7 70 60 [(0, vR 40)] [] ((g_pS (g_nS σ 47 15 10) 40 8 47), (g_z M 47 0), (g_z N 47 0)) _ _
  exact p_X12_init_60 J (g_pS (g_nS σ 47 15 10) 40 8 47) (g_z M 47 0) (g_z N 47 0)
set_option maxHeartbeats 4000000 in
set_option maxRecDepth 100000 in
theorem p_X12_init_44 {l : Launch} {E : gE} (J : J_X12_init E l) (σ : gS) (M : gM) (N : gN) : g_H E 5 50 44 [(0, vR 40)] [] (σ, M, N) (b_X12_init_44 σ M N) (eVSMN) := by
  unfold b_X12_init_44
  refine r_run J 2 (pc' := 47) (lv' := [(0, vR 40)]) (st' := [vI 10, vR 40]) rfl ?_
  refine r_chk (fun hf47 => ?_)
  refine r_newI J (B := 10) rfl wa_int (by decide) rfl (Nat.le_refl _) (by decide) (g_fr_0 hf47) (g_fr_n hf47) (by decide) (by decide) ?_
  show g_H E 6 60 49 [(0, vR 40)] [vR 46, vR 40] ((g_nS σ 46 14 10), (g_z M 46 0), (g_z N 46 0)) _ _
  refine r_chk (fun hs49 => ?_)
  refine r_putR J cls12 rfl (k := 7) (t := 14) (by decide) wf_12_30 rfl rfl (Or.inr ⟨rfl, rfl, rfl⟩) (g_is_at hs49) (Or.inr ⟨_, (g_nS_at σ 46 14 10)⟩) ?_
  show g_H E 6 60 52 [(0, vR 40)] [] ((g_pS (g_nS σ 46 14 10) 40 7 46), (g_z M 46 0), (g_z N 46 0)) _ _
  exact p_X12_init_52 J (g_pS (g_nS σ 46 14 10) 40 7 46) (g_z M 46 0) (g_z N 46 0)
set_option maxHeartbeats 4000000 in
set_option maxRecDepth 100000 in
theorem p_X12_init_36 {l : Launch} {E : gE} (J : J_X12_init E l) (σ : gS) (M : gM) (N : gN) : g_H E 4 40 36 [(0, vR 40)] [] (σ, M, N) (b_X12_init_36 σ M N) (eVSMN) := by
  unfold b_X12_init_36
  refine r_run J 2 (pc' := 39) (lv' := [(0, vR 40)]) (st' := [vI 10, vR 40]) rfl ?_
  refine r_chk (fun hf39 => ?_)
  refine r_newI J (B := 10) rfl wa_int (by decide) rfl (Nat.le_refl _) (by decide) (g_fr_0 hf39) (g_fr_n hf39) (by decide) (by decide) ?_
  show g_H E 5 50 41 [(0, vR 40)] [vR 45, vR 40] ((g_nS σ 45 14 10), (g_z M 45 0), (g_z N 45 0)) _ _
  refine r_chk (fun hs41 => ?_)
  refine r_putR J cls12 rfl (k := 6) (t := 14) (by decide) wf_12_27 rfl rfl (Or.inr ⟨rfl, rfl, rfl⟩) (g_is_at hs41) (Or.inr ⟨_, (g_nS_at σ 45 14 10)⟩) ?_
  show g_H E 5 50 44 [(0, vR 40)] [] ((g_pS (g_nS σ 45 14 10) 40 6 45), (g_z M 45 0), (g_z N 45 0)) _ _
  exact p_X12_init_44 J (g_pS (g_nS σ 45 14 10) 40 6 45) (g_z M 45 0) (g_z N 45 0)
set_option maxHeartbeats 4000000 in
set_option maxRecDepth 100000 in
theorem p_X12_init_28 {l : Launch} {E : gE} (J : J_X12_init E l) (σ : gS) (M : gM) (N : gN) : g_H E 3 30 28 [(0, vR 40)] [] (σ, M, N) (b_X12_init_28 σ M N) (eVSMN) := by
  unfold b_X12_init_28
  refine r_run J 2 (pc' := 31) (lv' := [(0, vR 40)]) (st' := [vI 10, vR 40]) rfl ?_
  refine r_chk (fun hf31 => ?_)
  refine r_newI J (B := 10) rfl wa_int (by decide) rfl (Nat.le_refl _) (by decide) (g_fr_0 hf31) (g_fr_n hf31) (by decide) (by decide) ?_
  show g_H E 4 40 33 [(0, vR 40)] [vR 44, vR 40] ((g_nS σ 44 14 10), (g_z M 44 0), (g_z N 44 0)) _ _
  refine r_chk (fun hs33 => ?_)
  refine r_putR J cls12 rfl (k := 5) (t := 14) (by decide) wf_12_24 rfl rfl (Or.inr ⟨rfl, rfl, rfl⟩) (g_is_at hs33) (Or.inr ⟨_, (g_nS_at σ 44 14 10)⟩) ?_
  show g_H E 4 40 36 [(0, vR 40)] [] ((g_pS (g_nS σ 44 14 10) 40 5 44), (g_z M 44 0), (g_z N 44 0)) _ _
  exact p_X12_init_36 J (g_pS (g_nS σ 44 14 10) 40 5 44) (g_z M 44 0) (g_z N 44 0)
set_option maxHeartbeats 4000000 in
set_option maxRecDepth 100000 in
theorem p_X12_init_20 {l : Launch} {E : gE} (J : J_X12_init E l) (σ : gS) (M : gM) (N : gN) : g_H E 2 20 20 [(0, vR 40)] [] (σ, M, N) (b_X12_init_20 σ M N) (eVSMN) := by
  unfold b_X12_init_20
  refine r_run J 2 (pc' := 23) (lv' := [(0, vR 40)]) (st' := [vI 10, vR 40]) rfl ?_
  refine r_chk (fun hf23 => ?_)
  refine r_newZ J (B := 10) rfl wa_boolean (by decide) rfl (Nat.le_refl _) (by decide) (g_fr_0 hf23) (g_fr_n hf23) (by decide) (by decide) ?_
  show g_H E 3 30 25 [(0, vR 40)] [vR 43, vR 40] ((g_nS σ 43 15 10), (g_z M 43 0), (g_z N 43 0)) _ _
  refine r_chk (fun hs25 => ?_)
  refine r_putR J cls12 rfl (k := 4) (t := 15) (by decide) wf_12_21 rfl rfl (Or.inr ⟨rfl, rfl, rfl⟩) (g_is_at hs25) (Or.inr ⟨_, (g_nS_at σ 43 15 10)⟩) ?_
  show g_H E 3 30 28 [(0, vR 40)] [] ((g_pS (g_nS σ 43 15 10) 40 4 43), (g_z M 43 0), (g_z N 43 0)) _ _
  exact p_X12_init_28 J (g_pS (g_nS σ 43 15 10) 40 4 43) (g_z M 43 0) (g_z N 43 0)
set_option maxHeartbeats 4000000 in
set_option maxRecDepth 100000 in
theorem p_X12_init_12 {l : Launch} {E : gE} (J : J_X12_init E l) (σ : gS) (M : gM) (N : gN) : g_H E 1 10 12 [(0, vR 40)] [] (σ, M, N) (b_X12_init_12 σ M N) (eVSMN) := by
  unfold b_X12_init_12
  refine r_run J 2 (pc' := 15) (lv' := [(0, vR 40)]) (st' := [vI 10, vR 40]) rfl ?_
  refine r_chk (fun hf15 => ?_)
  refine r_newI J (B := 10) rfl wa_int (by decide) rfl (Nat.le_refl _) (by decide) (g_fr_0 hf15) (g_fr_n hf15) (by decide) (by decide) ?_
  show g_H E 2 20 17 [(0, vR 40)] [vR 42, vR 40] ((g_nS σ 42 14 10), (g_z M 42 0), (g_z N 42 0)) _ _
  refine r_chk (fun hs17 => ?_)
  refine r_putR J cls12 rfl (k := 3) (t := 14) (by decide) wf_12_17 rfl rfl (Or.inr ⟨rfl, rfl, rfl⟩) (g_is_at hs17) (Or.inr ⟨_, (g_nS_at σ 42 14 10)⟩) ?_
  show g_H E 2 20 20 [(0, vR 40)] [] ((g_pS (g_nS σ 42 14 10) 40 3 42), (g_z M 42 0), (g_z N 42 0)) _ _
  exact p_X12_init_20 J (g_pS (g_nS σ 42 14 10) 40 3 42) (g_z M 42 0) (g_z N 42 0)
set_option maxHeartbeats 4000000 in
set_option maxRecDepth 100000 in
theorem p_X12_init_0 {l : Launch} {E : gE} (J : J_X12_init E l) (σ : gS) (M : gM) (N : gN) : g_H E 0 0 0 [(0, vR 40)] [] (σ, M, N) (b_X12_init_0 σ M N) (eVSMN) := by
  unfold b_X12_init_0
  refine r_run J 1 (pc' := 1) (lv' := [(0, vR 40)]) (st' := [vR 40]) rfl ?_
  refine r_chk (fun hs1 => ?_)
  refine r_objI J (by rw [(g_is_at hs1)]; exact Option.some_ne_none _) wm_12_7 w_obj rfl ⟨by decide, Nat.le_of_ble_eq_true rfl⟩ ?_
  refine r_run J 2 (pc' := 7) (lv' := [(0, vR 40)]) (st' := [vI 10, vR 40]) rfl ?_
  refine r_chk (fun hf7 => ?_)
  refine r_newZ J (B := 10) rfl wa_boolean (by decide) rfl (Nat.le_refl _) (by decide) (g_fr_0 hf7) (g_fr_n hf7) (by decide) (by decide) ?_
  show g_H E 1 10 9 [(0, vR 40)] [vR 41, vR 40] ((g_nS σ 41 15 10), (g_z M 41 0), (g_z N 41 0)) _ _
  refine r_chk (fun hs9 => ?_)
  refine r_putR J cls12 rfl (k := 2) (t := 15) (by decide) wf_12_13 rfl rfl (Or.inr ⟨rfl, rfl, rfl⟩) (g_is_at hs9) (Or.inr ⟨_, (g_nS_at σ 41 15 10)⟩) ?_
  show g_H E 1 10 12 [(0, vR 40)] [] ((g_pS (g_nS σ 41 15 10) 40 2 41), (g_z M 41 0), (g_z N 41 0)) _ _
  exact p_X12_init_12 J (g_pS (g_nS σ 41 15 10) 40 2 41) (g_z M 41 0) (g_z N 41 0)
theorem c_X12_init {l : Launch} (σ : gS) (M : gM) (N : gN) (r : gS × gM × gN) (h : f_X12_init σ M N = some r) : g_Ct l yX12_init cX12_init 2 none 1 45 29386 [vR 40] (σ, M, N) (eVSMN r) :=
  g_Ct.of tb_X12_init (by decide +kernel) tk_X12_init (Nat.le_of_ble_eq_true rfl) (fun E J => p_X12_init_0 J σ M N r h)
def tb_X12_isPerson : gT := [(0, .iload_n 1, 1, 0), (1, .iconst 0, 1, 0), (2, .aload_n 0, 1, 0), (3, .getfield 157, 3, 0), (6, .iconst 1, 1, 1), (7, .isub, 1, 0), (8, .invokestatic 160, 3, 0), (11, .ireturn, 1, 0)]
set_option maxRecDepth 100000 in
theorem tk_X12_isPerson : g_okT cX12_isPerson tb_X12_isPerson = true := by decide +kernel
abbrev J_X12_isPerson (E : gE) (l : Launch) : Prop := g_J E cX12_isPerson RX12 "isPerson" (some .boolean) 2 tb_X12_isPerson 2 0 0 l
set_option maxHeartbeats 4000000 in
set_option maxRecDepth 100000 in
theorem p_X12_isPerson_0 {l : Launch} {E : gE} (J : J_X12_isPerson E l) (x1 : Int32) (σ : gS) (M : gM) (N : gN) (hL : g_layM σ) : g_H E 0 0 0 [(0, vR 40), (1, vI x1)] [] (σ, M, N) (b_X12_isPerson_0 x1 σ M) (eI σ M N) := by
  unfold b_X12_isPerson_0
  refine r_run J 3 (pc' := 3) (lv' := [(0, vR 40), (1, vI x1)]) (st' := [vR 40, vI 0, vI x1]) rfl ?_
  refine r_getI J cls12 rfl (k := 1) (by decide) wf_12_157 rfl (ly_40 hL) ?_
  show g_H E 0 0 6 [(0, vR 40), (1, vI x1)] [vI (M 40 1), vI 0, vI x1] (σ, M, N) _ _
  refine r_run J 2 (pc' := 8) (lv' := [(0, vR 40), (1, vI x1)]) (st' := [vI ((M 40 1) - (1 : Int32)), vI 0, vI x1]) rfl ?_
  refine r_callS J (As := [vI x1, vI 0, vI ((M 40 1) - (1 : Int32))]) (st := []) (fun r hr => c_X12_in x1 0 ((M 40 1) - (1 : Int32)) σ M N hL r hr) wm_12_160 wy_X12_in wd_X12_in ⟨by decide, by decide, by decide, by decide, Nat.le_of_ble_eq_true rfl⟩ rfl rfl (fun q8 hq8 => ?_)
  show g_H E 0 0 11 [(0, vR 40), (1, vI x1)] [vI q8] (σ, M, N) _ _
  refine r_chk (fun hz => ?_)
  exact r_iret J rfl rfl (g_b_nar hz) rfl (by decide) (by decide)
theorem c_X12_isPerson {l : Launch} (x1 : Int32) (σ : gS) (M : gM) (N : gN) (hL : g_layM σ) (r : Int32) (h : f_X12_isPerson x1 σ M = some r) : g_Ct l yX12_isPerson cX12_isPerson 2 (some .boolean) 2 0 0 [vR 40, vI x1] (σ, M, N) (eI σ M N r) :=
  g_Ct.of tb_X12_isPerson (by decide +kernel) tk_X12_isPerson (Nat.le_of_ble_eq_true rfl) (fun E J => p_X12_isPerson_0 J x1 σ M N hL r h)
def tb_X12_isTown : gT := [(0, .iload_n 1, 1, 0), (1, .iconst 0, 1, 0), (2, .aload_n 0, 1, 0), (3, .getfield 164, 3, 0), (6, .iconst 1, 1, 1), (7, .isub, 1, 0), (8, .invokestatic 160, 3, 0), (11, .ireturn, 1, 0)]
set_option maxRecDepth 100000 in
theorem tk_X12_isTown : g_okT cX12_isTown tb_X12_isTown = true := by decide +kernel
abbrev J_X12_isTown (E : gE) (l : Launch) : Prop := g_J E cX12_isTown RX12 "isTown" (some .boolean) 2 tb_X12_isTown 2 0 0 l
set_option maxHeartbeats 4000000 in
set_option maxRecDepth 100000 in
theorem p_X12_isTown_0 {l : Launch} {E : gE} (J : J_X12_isTown E l) (x1 : Int32) (σ : gS) (M : gM) (N : gN) (hL : g_layM σ) : g_H E 0 0 0 [(0, vR 40), (1, vI x1)] [] (σ, M, N) (b_X12_isTown_0 x1 σ M) (eI σ M N) := by
  unfold b_X12_isTown_0
  refine r_run J 3 (pc' := 3) (lv' := [(0, vR 40), (1, vI x1)]) (st' := [vR 40, vI 0, vI x1]) rfl ?_
  refine r_getI J cls12 rfl (k := 11) (by decide) wf_12_164 rfl (ly_40 hL) ?_
  show g_H E 0 0 6 [(0, vR 40), (1, vI x1)] [vI (M 40 11), vI 0, vI x1] (σ, M, N) _ _
  refine r_run J 2 (pc' := 8) (lv' := [(0, vR 40), (1, vI x1)]) (st' := [vI ((M 40 11) - (1 : Int32)), vI 0, vI x1]) rfl ?_
  refine r_callS J (As := [vI x1, vI 0, vI ((M 40 11) - (1 : Int32))]) (st := []) (fun r hr => c_X12_in x1 0 ((M 40 11) - (1 : Int32)) σ M N hL r hr) wm_12_160 wy_X12_in wd_X12_in ⟨by decide, by decide, by decide, by decide, Nat.le_of_ble_eq_true rfl⟩ rfl rfl (fun q8 hq8 => ?_)
  show g_H E 0 0 11 [(0, vR 40), (1, vI x1)] [vI q8] (σ, M, N) _ _
  refine r_chk (fun hz => ?_)
  exact r_iret J rfl rfl (g_b_nar hz) rfl (by decide) (by decide)
theorem c_X12_isTown {l : Launch} (x1 : Int32) (σ : gS) (M : gM) (N : gN) (hL : g_layM σ) (r : Int32) (h : f_X12_isTown x1 σ M = some r) : g_Ct l yX12_isTown cX12_isTown 2 (some .boolean) 2 0 0 [vR 40, vI x1] (σ, M, N) (eI σ M N r) :=
  g_Ct.of tb_X12_isTown (by decide +kernel) tk_X12_isTown (Nat.le_of_ble_eq_true rfl) (fun E J => p_X12_isTown_0 J x1 σ M N hL r h)
def tb_X12_isOver : gT := [(0, .aload_n 0, 1, 0), (1, .getfield 167, 3, 0), (4, .aload_n 0, 1, 0), (5, .getfield 48, 3, 0), (8, .iload_n 1, 1, 0), (9, .iaload, 1, 0), (10, .aload_n 0, 1, 0), (11, .getfield 45, 3, 0), (14, .iload_n 1, 1, 0), (15, .iaload, 1, 0), (16, .iadd, 1, 0), (17, .if_icmp .lt 7, 3, 0), (20, .iconst 1, 1, 1), (21, .goto 4, 3, 0), (24, .iconst 0, 1, 0), (25, .ireturn, 1, 0)]
set_option maxRecDepth 100000 in
theorem tk_X12_isOver : g_okT cX12_isOver tb_X12_isOver = true := by decide +kernel
abbrev J_X12_isOver (E : gE) (l : Launch) : Prop := g_J E cX12_isOver RX12 "isOver" (some .boolean) 2 tb_X12_isOver 1 0 0 l
set_option maxHeartbeats 4000000 in
set_option maxRecDepth 100000 in
theorem p_X12_isOver_0 {l : Launch} {E : gE} (J : J_X12_isOver E l) (x1 : Int32) (σ : gS) (M : gM) (N : gN) (hL : g_layM σ) : g_H E 0 0 0 [(0, vR 40), (1, vI x1)] [] (σ, M, N) (b_X12_isOver_0 x1 σ M) (eI σ M N) := by
  unfold b_X12_isOver_0
  refine r_run J 1 (pc' := 1) (lv' := [(0, vR 40), (1, vI x1)]) (st' := [vR 40]) rfl ?_
  refine r_getI J cls12 rfl (k := 13) (by decide) wf_12_167 rfl (ly_40 hL) ?_
  show g_H E 0 0 4 [(0, vR 40), (1, vI x1)] [vI (M 40 13)] (σ, M, N) _ _
  refine r_run J 1 (pc' := 5) (lv' := [(0, vR 40), (1, vI x1)]) (st' := [vR 40, vI (M 40 13)]) rfl ?_
  refine r_getR J cls12 rfl (k := 19) (t := 14) (by decide) wf_12_48 rfl rfl (ly_40 hL) (lr_40_19 hL) (fun _ => ?_)
  show g_H E 0 0 8 [(0, vR 40), (1, vI x1)] [vR 51, vI (M 40 13)] (σ, M, N) _ _
  refine r_run J 1 (pc' := 9) (lv' := [(0, vR 40), (1, vI x1)]) (st' := [vI x1, vR 51, vI (M 40 13)]) rfl ?_
  refine r_iald J rfl (ly_51 hL) (fun i9 => ?_)
  show g_H E 0 0 10 [(0, vR 40), (1, vI x1)] [vI (M 51 x1.toNatClampNeg), vI (M 40 13)] (σ, M, N) _ _
  refine r_run J 1 (pc' := 11) (lv' := [(0, vR 40), (1, vI x1)]) (st' := [vR 40, vI (M 51 x1.toNatClampNeg), vI (M 40 13)]) rfl ?_
  refine r_getR J cls12 rfl (k := 18) (t := 14) (by decide) wf_12_45 rfl rfl (ly_40 hL) (lr_40_18 hL) (fun _ => ?_)
  show g_H E 0 0 14 [(0, vR 40), (1, vI x1)] [vR 50, vI (M 51 x1.toNatClampNeg), vI (M 40 13)] (σ, M, N) _ _
  refine r_run J 1 (pc' := 15) (lv' := [(0, vR 40), (1, vI x1)]) (st' := [vI x1, vR 50, vI (M 51 x1.toNatClampNeg), vI (M 40 13)]) rfl ?_
  refine r_iald J rfl (ly_50 hL) (fun i15 => ?_)
  show g_H E 0 0 16 [(0, vR 40), (1, vI x1)] [vI (M 50 x1.toNatClampNeg), vI (M 51 x1.toNatClampNeg), vI (M 40 13)] (σ, M, N) _ _
  refine r_run J 1 (pc' := 17) (lv' := [(0, vR 40), (1, vI x1)]) (st' := [vI ((M 51 x1.toNatClampNeg) + (M 50 x1.toNatClampNeg)), vI (M 40 13)]) rfl ?_
  refine r_icmp_lt J (tgt := 24) rfl (by decide) (fun c17 => ?_) (fun c17 => ?_)
  · refine r_run J 1 (pc' := 25) (lv' := [(0, vR 40), (1, vI x1)]) (st' := [vI 0]) rfl ?_
    exact r_iret J rfl rfl rfl rfl (by decide) (by decide)
  · refine r_run J 2 (pc' := 25) (lv' := [(0, vR 40), (1, vI x1)]) (st' := [vI 1]) rfl ?_
    exact r_iret J rfl rfl rfl rfl (by decide) (by decide)
theorem c_X12_isOver {l : Launch} (x1 : Int32) (σ : gS) (M : gM) (N : gN) (hL : g_layM σ) (r : Int32) (h : f_X12_isOver x1 σ M = some r) : g_Ct l yX12_isOver cX12_isOver 2 (some .boolean) 1 0 0 [vR 40, vI x1] (σ, M, N) (eI σ M N r) :=
  g_Ct.of tb_X12_isOver (by decide +kernel) tk_X12_isOver (Nat.le_of_ble_eq_true rfl) (fun E J => p_X12_isOver_0 J x1 σ M N hL r h)
def tb_X12_isOpen : gT := [(0, .aload_n 0, 1, 0), (1, .iload_n 1, 1, 0), (2, .invokevirtual 170, 3, 0), (5, .ifCond .eq 15, 3, 0), (8, .aload_n 0, 1, 0), (9, .iload_n 1, 1, 0), (10, .invokevirtual 174, 3, 0), (13, .ifCond .ne 7, 3, 0), (16, .iconst 1, 1, 1), (17, .goto 4, 3, 0), (20, .iconst 0, 1, 0), (21, .ireturn, 1, 0)]
set_option maxRecDepth 100000 in
theorem tk_X12_isOpen : g_okT cX12_isOpen tb_X12_isOpen = true := by decide +kernel
abbrev J_X12_isOpen (E : gE) (l : Launch) : Prop := g_J E cX12_isOpen RX12 "isOpen" (some .boolean) 2 tb_X12_isOpen 3 0 0 l
set_option maxHeartbeats 4000000 in
set_option maxRecDepth 100000 in
theorem p_X12_isOpen_0 {l : Launch} {E : gE} (J : J_X12_isOpen E l) (x1 : Int32) (σ : gS) (M : gM) (N : gN) (hL : g_layM σ) : g_H E 0 0 0 [(0, vR 40), (1, vI x1)] [] (σ, M, N) (b_X12_isOpen_0 x1 σ M) (eI σ M N) := by
  unfold b_X12_isOpen_0
  refine r_run J 2 (pc' := 2) (lv' := [(0, vR 40), (1, vI x1)]) (st' := [vI x1, vR 40]) rfl ?_
  refine r_callV J (As := [vI x1]) (st := []) (fun r hr => c_X12_isTown x1 σ M N hL r hr) cls12 (ly_40 hL) wm_12_170 wy_X12_isTown wd_X12_isTown ⟨by decide, by decide, by decide, by decide, Nat.le_of_ble_eq_true rfl⟩ rfl rfl (fun q2 hq2 => ?_)
  show g_H E 0 0 5 [(0, vR 40), (1, vI x1)] [vI q2] (σ, M, N) _ _
  refine r_if_eq J (tgt := 20) rfl (by decide) (fun c5 => ?_) (fun c5 => ?_)
  · refine r_run J 1 (pc' := 21) (lv' := [(0, vR 40), (1, vI x1)]) (st' := [vI 0]) rfl ?_
    exact r_iret J rfl rfl rfl rfl (by decide) (by decide)
  · refine r_run J 2 (pc' := 10) (lv' := [(0, vR 40), (1, vI x1)]) (st' := [vI x1, vR 40]) rfl ?_
    refine r_callV J (As := [vI x1]) (st := []) (fun r hr => c_X12_isOver x1 σ M N hL r hr) cls12 (ly_40 hL) wm_12_174 wy_X12_isOver wd_X12_isOver ⟨by decide, by decide, by decide, by decide, Nat.le_of_ble_eq_true rfl⟩ rfl rfl (fun q10 hq10 => ?_)
    show g_H E 0 0 13 [(0, vR 40), (1, vI x1)] [vI q10] (σ, M, N) _ _
    refine r_if_ne J (tgt := 20) rfl (by decide) (fun c13 => ?_) (fun c13 => ?_)
    · refine r_run J 2 (pc' := 21) (lv' := [(0, vR 40), (1, vI x1)]) (st' := [vI 1]) rfl ?_
      exact r_iret J rfl rfl rfl rfl (by decide) (by decide)
    · refine r_run J 1 (pc' := 21) (lv' := [(0, vR 40), (1, vI x1)]) (st' := [vI 0]) rfl ?_
      exact r_iret J rfl rfl rfl rfl (by decide) (by decide)
theorem c_X12_isOpen {l : Launch} (x1 : Int32) (σ : gS) (M : gM) (N : gN) (hL : g_layM σ) (r : Int32) (h : f_X12_isOpen x1 σ M = some r) : g_Ct l yX12_isOpen cX12_isOpen 2 (some .boolean) 3 0 0 [vR 40, vI x1] (σ, M, N) (eI σ M N r) :=
  g_Ct.of tb_X12_isOpen (by decide +kernel) tk_X12_isOpen (Nat.le_of_ble_eq_true rfl) (fun E J => p_X12_isOpen_0 J x1 σ M N hL r h)
def tb_X12_isThere : gT := [(0, .aload_n 0, 1, 0), (1, .getfield 33, 3, 0), (4, .iload_n 1, 1, 0), (5, .baload, 1, 0), (6, .ifCond .ne 27, 3, 0), (9, .aload_n 0, 1, 0), (10, .getfield 27, 3, 0), (13, .iload_n 1, 1, 0), (14, .iaload, 1, 0), (15, .iload_n 2, 1, 0), (16, .if_icmp .gt 17, 3, 0), (19, .aload_n 0, 1, 0), (20, .getfield 30, 3, 0), (23, .iload_n 1, 1, 0), (24, .iaload, 1, 0), (25, .iload_n 2, 1, 0), (26, .if_icmp .lt 7, 3, 0), (29, .iconst 1, 1, 1), (30, .goto 4, 3, 0), (33, .iconst 0, 1, 0), (34, .ireturn, 1, 0)]
set_option maxRecDepth 100000 in
theorem tk_X12_isThere : g_okT cX12_isThere tb_X12_isThere = true := by decide +kernel
abbrev J_X12_isThere (E : gE) (l : Launch) : Prop := g_J E cX12_isThere RX12 "isThere" (some .boolean) 3 tb_X12_isThere 1 0 0 l
set_option maxHeartbeats 4000000 in
set_option maxRecDepth 100000 in
theorem p_X12_isThere_0 {l : Launch} {E : gE} (J : J_X12_isThere E l) (x1 : Int32) (x2 : Int32) (σ : gS) (M : gM) (N : gN) (hL : g_layM σ) : g_H E 0 0 0 [(0, vR 40), (1, vI x1), (2, vI x2)] [] (σ, M, N) (b_X12_isThere_0 x1 x2 σ M) (eI σ M N) := by
  unfold b_X12_isThere_0
  refine r_run J 1 (pc' := 1) (lv' := [(0, vR 40), (1, vI x1), (2, vI x2)]) (st' := [vR 40]) rfl ?_
  refine r_getR J cls12 rfl (k := 8) (t := 15) (by decide) wf_12_33 rfl rfl (ly_40 hL) (lr_40_8 hL) (fun _ => ?_)
  show g_H E 0 0 4 [(0, vR 40), (1, vI x1), (2, vI x2)] [vR 47] (σ, M, N) _ _
  refine r_run J 1 (pc' := 5) (lv' := [(0, vR 40), (1, vI x1), (2, vI x2)]) (st' := [vI x1, vR 47]) rfl ?_
  refine r_zald J rfl (ly_47 hL) (fun i5 => ?_)
  show g_H E 0 0 6 [(0, vR 40), (1, vI x1), (2, vI x2)] [vI (M 47 x1.toNatClampNeg)] (σ, M, N) _ _
  refine r_if_ne J (tgt := 33) rfl (by decide) (fun c6 => ?_) (fun c6 => ?_)
  · refine r_run J 1 (pc' := 10) (lv' := [(0, vR 40), (1, vI x1), (2, vI x2)]) (st' := [vR 40]) rfl ?_
    refine r_getR J cls12 rfl (k := 6) (t := 14) (by decide) wf_12_27 rfl rfl (ly_40 hL) (lr_40_6 hL) (fun _ => ?_)
    show g_H E 0 0 13 [(0, vR 40), (1, vI x1), (2, vI x2)] [vR 45] (σ, M, N) _ _
    refine r_run J 1 (pc' := 14) (lv' := [(0, vR 40), (1, vI x1), (2, vI x2)]) (st' := [vI x1, vR 45]) rfl ?_
    refine r_iald J rfl (ly_45 hL) (fun i14 => ?_)
    show g_H E 0 0 15 [(0, vR 40), (1, vI x1), (2, vI x2)] [vI (M 45 x1.toNatClampNeg)] (σ, M, N) _ _
    refine r_run J 1 (pc' := 16) (lv' := [(0, vR 40), (1, vI x1), (2, vI x2)]) (st' := [vI x2, vI (M 45 x1.toNatClampNeg)]) rfl ?_
    refine r_icmp_gt J (tgt := 33) rfl (by decide) (fun c16 => ?_) (fun c16 => ?_)
    · refine r_run J 1 (pc' := 34) (lv' := [(0, vR 40), (1, vI x1), (2, vI x2)]) (st' := [vI 0]) rfl ?_
      exact r_iret J rfl rfl rfl rfl (by decide) (by decide)
    · refine r_run J 1 (pc' := 20) (lv' := [(0, vR 40), (1, vI x1), (2, vI x2)]) (st' := [vR 40]) rfl ?_
      refine r_getR J cls12 rfl (k := 7) (t := 14) (by decide) wf_12_30 rfl rfl (ly_40 hL) (lr_40_7 hL) (fun _ => ?_)
      show g_H E 0 0 23 [(0, vR 40), (1, vI x1), (2, vI x2)] [vR 46] (σ, M, N) _ _
      refine r_run J 1 (pc' := 24) (lv' := [(0, vR 40), (1, vI x1), (2, vI x2)]) (st' := [vI x1, vR 46]) rfl ?_
      refine r_iald J rfl (ly_46 hL) (fun i24 => ?_)
      show g_H E 0 0 25 [(0, vR 40), (1, vI x1), (2, vI x2)] [vI (M 46 x1.toNatClampNeg)] (σ, M, N) _ _
      refine r_run J 1 (pc' := 26) (lv' := [(0, vR 40), (1, vI x1), (2, vI x2)]) (st' := [vI x2, vI (M 46 x1.toNatClampNeg)]) rfl ?_
      refine r_icmp_lt J (tgt := 33) rfl (by decide) (fun c26 => ?_) (fun c26 => ?_)
      · refine r_run J 1 (pc' := 34) (lv' := [(0, vR 40), (1, vI x1), (2, vI x2)]) (st' := [vI 0]) rfl ?_
        exact r_iret J rfl rfl rfl rfl (by decide) (by decide)
      · refine r_run J 2 (pc' := 34) (lv' := [(0, vR 40), (1, vI x1), (2, vI x2)]) (st' := [vI 1]) rfl ?_
        exact r_iret J rfl rfl rfl rfl (by decide) (by decide)
  · refine r_run J 1 (pc' := 34) (lv' := [(0, vR 40), (1, vI x1), (2, vI x2)]) (st' := [vI 0]) rfl ?_
    exact r_iret J rfl rfl rfl rfl (by decide) (by decide)
theorem c_X12_isThere {l : Launch} (x1 : Int32) (x2 : Int32) (σ : gS) (M : gM) (N : gN) (hL : g_layM σ) (r : Int32) (h : f_X12_isThere x1 x2 σ M = some r) : g_Ct l yX12_isThere cX12_isThere 3 (some .boolean) 1 0 0 [vR 40, vI x1, vI x2] (σ, M, N) (eI σ M N r) :=
  g_Ct.of tb_X12_isThere (by decide +kernel) tk_X12_isThere (Nat.le_of_ble_eq_true rfl) (fun E J => p_X12_isThere_0 J x1 x2 σ M N hL r h)
def tb_X12_isRoom : gT := [(0, .iload_n 2, 1, 0), (1, .iconst 0, 1, 0), (2, .aload_n 0, 1, 0), (3, .getfield 51, 3, 0), (6, .iload_n 1, 1, 0), (7, .iaload, 1, 0), (8, .iconst 1, 1, 1), (9, .isub, 1, 0), (10, .invokestatic 160, 3, 0), (13, .ireturn, 1, 0)]
set_option maxRecDepth 100000 in
theorem tk_X12_isRoom : g_okT cX12_isRoom tb_X12_isRoom = true := by decide +kernel
abbrev J_X12_isRoom (E : gE) (l : Launch) : Prop := g_J E cX12_isRoom RX12 "isRoom" (some .boolean) 3 tb_X12_isRoom 2 0 0 l
set_option maxHeartbeats 4000000 in
set_option maxRecDepth 100000 in
theorem p_X12_isRoom_0 {l : Launch} {E : gE} (J : J_X12_isRoom E l) (x1 : Int32) (x2 : Int32) (σ : gS) (M : gM) (N : gN) (hL : g_layM σ) : g_H E 0 0 0 [(0, vR 40), (1, vI x1), (2, vI x2)] [] (σ, M, N) (b_X12_isRoom_0 x1 x2 σ M) (eI σ M N) := by
  unfold b_X12_isRoom_0
  refine r_run J 3 (pc' := 3) (lv' := [(0, vR 40), (1, vI x1), (2, vI x2)]) (st' := [vR 40, vI 0, vI x2]) rfl ?_
  refine r_getR J cls12 rfl (k := 20) (t := 14) (by decide) wf_12_51 rfl rfl (ly_40 hL) (lr_40_20 hL) (fun _ => ?_)
  show g_H E 0 0 6 [(0, vR 40), (1, vI x1), (2, vI x2)] [vR 52, vI 0, vI x2] (σ, M, N) _ _
  refine r_run J 1 (pc' := 7) (lv' := [(0, vR 40), (1, vI x1), (2, vI x2)]) (st' := [vI x1, vR 52, vI 0, vI x2]) rfl ?_
  refine r_iald J rfl (ly_52 hL) (fun i7 => ?_)
  show g_H E 0 0 8 [(0, vR 40), (1, vI x1), (2, vI x2)] [vI (M 52 x1.toNatClampNeg), vI 0, vI x2] (σ, M, N) _ _
  refine r_run J 2 (pc' := 10) (lv' := [(0, vR 40), (1, vI x1), (2, vI x2)]) (st' := [vI ((M 52 x1.toNatClampNeg) - (1 : Int32)), vI 0, vI x2]) rfl ?_
  refine r_callS J (As := [vI x2, vI 0, vI ((M 52 x1.toNatClampNeg) - (1 : Int32))]) (st := []) (fun r hr => c_X12_in x2 0 ((M 52 x1.toNatClampNeg) - (1 : Int32)) σ M N hL r hr) wm_12_160 wy_X12_in wd_X12_in ⟨by decide, by decide, by decide, by decide, Nat.le_of_ble_eq_true rfl⟩ rfl rfl (fun q10 hq10 => ?_)
  show g_H E 0 0 13 [(0, vR 40), (1, vI x1), (2, vI x2)] [vI q10] (σ, M, N) _ _
  refine r_chk (fun hz => ?_)
  exact r_iret J rfl rfl (g_b_nar hz) rfl (by decide) (by decide)
theorem c_X12_isRoom {l : Launch} (x1 : Int32) (x2 : Int32) (σ : gS) (M : gM) (N : gN) (hL : g_layM σ) (r : Int32) (h : f_X12_isRoom x1 x2 σ M = some r) : g_Ct l yX12_isRoom cX12_isRoom 3 (some .boolean) 2 0 0 [vR 40, vI x1, vI x2] (σ, M, N) (eI σ M N r) :=
  g_Ct.of tb_X12_isRoom (by decide +kernel) tk_X12_isRoom (Nat.le_of_ble_eq_true rfl) (fun E J => p_X12_isRoom_0 J x1 x2 σ M N hL r h)
def tb_X12_mayShare : gT := [(0, .aload_n 0, 1, 0), (1, .getfield 36, 3, 0), (4, .iload_n 1, 1, 0), (5, .iaload, 1, 0), (6, .iload_n 2, 1, 0), (7, .if_icmp .ne 5, 3, 0), (10, .iconst 1, 1, 1), (11, .ireturn, 1, 0), (12, .aload_n 0, 1, 0), (13, .getfield 13, 3, 0), (16, .iload_n 1, 1, 0), (17, .baload, 1, 0), (18, .ifCond .eq 65, 3, 0), (21, .aload_n 0, 1, 0), (22, .getfield 13, 3, 0), (25, .iload_n 2, 1, 0), (26, .baload, 1, 0), (27, .ifCond .eq 56, 3, 0), (30, .aload_n 0, 1, 0), (31, .getfield 17, 3, 0), (34, .iload_n 1, 1, 0), (35, .iaload, 1, 0), (36, .aload_n 0, 1, 0), (37, .getfield 17, 3, 0), (40, .iload_n 2, 1, 0), (41, .iaload, 1, 0), (42, .if_icmp .ne 41, 3, 0), (45, .aload_n 0, 1, 0), (46, .getfield 36, 3, 0), (49, .iload_n 1, 1, 0), (50, .iaload, 1, 0), (51, .iconst (-1), 1, (-1)), (52, .if_icmp .ne 31, 3, 0), (55, .aload_n 0, 1, 0), (56, .getfield 36, 3, 0), (59, .iload_n 2, 1, 0), (60, .iaload, 1, 0), (61, .iconst (-1), 1, (-1)), (62, .if_icmp .ne 21, 3, 0), (65, .aload_n 0, 1, 0), (66, .getfield 39, 3, 0), (69, .bipush 10, 2, 10), (71, .iload_n 1, 1, 0), (72, .imul, 1, 0), (73, .iload_n 2, 1, 0), (74, .iadd, 1, 0), (75, .baload, 1, 0), (76, .ifCond .ne 7, 3, 0), (79, .iconst 1, 1, 1), (80, .goto 4, 3, 0), (83, .iconst 0, 1, 0), (84, .ireturn, 1, 0)]
set_option maxRecDepth 100000 in
theorem tk_X12_mayShare : g_okT cX12_mayShare tb_X12_mayShare = true := by decide +kernel
abbrev J_X12_mayShare (E : gE) (l : Launch) : Prop := g_J E cX12_mayShare RX12 "mayShare" (some .boolean) 3 tb_X12_mayShare 1 0 0 l
set_option maxHeartbeats 4000000 in
set_option maxRecDepth 100000 in
theorem p_X12_mayShare_0 {l : Launch} {E : gE} (J : J_X12_mayShare E l) (x1 : Int32) (x2 : Int32) (σ : gS) (M : gM) (N : gN) (hL : g_layM σ) : g_H E 0 0 0 [(0, vR 40), (1, vI x1), (2, vI x2)] [] (σ, M, N) (b_X12_mayShare_0 x1 x2 σ M) (eI σ M N) := by
  unfold b_X12_mayShare_0
  refine r_run J 1 (pc' := 1) (lv' := [(0, vR 40), (1, vI x1), (2, vI x2)]) (st' := [vR 40]) rfl ?_
  refine r_getR J cls12 rfl (k := 9) (t := 14) (by decide) wf_12_36 rfl rfl (ly_40 hL) (lr_40_9 hL) (fun _ => ?_)
  show g_H E 0 0 4 [(0, vR 40), (1, vI x1), (2, vI x2)] [vR 48] (σ, M, N) _ _
  refine r_run J 1 (pc' := 5) (lv' := [(0, vR 40), (1, vI x1), (2, vI x2)]) (st' := [vI x1, vR 48]) rfl ?_
  refine r_iald J rfl (ly_48 hL) (fun i5 => ?_)
  show g_H E 0 0 6 [(0, vR 40), (1, vI x1), (2, vI x2)] [vI (M 48 x1.toNatClampNeg)] (σ, M, N) _ _
  refine r_run J 1 (pc' := 7) (lv' := [(0, vR 40), (1, vI x1), (2, vI x2)]) (st' := [vI x2, vI (M 48 x1.toNatClampNeg)]) rfl ?_
  refine r_icmp_ne J (tgt := 12) rfl (by decide) (fun c7 => ?_) (fun c7 => ?_)
  · refine r_run J 1 (pc' := 11) (lv' := [(0, vR 40), (1, vI x1), (2, vI x2)]) (st' := [vI 1]) rfl ?_
    exact r_iret J rfl rfl rfl rfl (by decide) (by decide)
  · refine r_run J 1 (pc' := 13) (lv' := [(0, vR 40), (1, vI x1), (2, vI x2)]) (st' := [vR 40]) rfl ?_
    refine r_getR J cls12 rfl (k := 2) (t := 15) (by decide) wf_12_13 rfl rfl (ly_40 hL) (lr_40_2 hL) (fun _ => ?_)
    show g_H E 0 0 16 [(0, vR 40), (1, vI x1), (2, vI x2)] [vR 41] (σ, M, N) _ _
    refine r_run J 1 (pc' := 17) (lv' := [(0, vR 40), (1, vI x1), (2, vI x2)]) (st' := [vI x1, vR 41]) rfl ?_
    refine r_zald J rfl (ly_41 hL) (fun i17 => ?_)
    show g_H E 0 0 18 [(0, vR 40), (1, vI x1), (2, vI x2)] [vI (M 41 x1.toNatClampNeg)] (σ, M, N) _ _
    refine r_if_eq J (tgt := 83) rfl (by decide) (fun c18 => ?_) (fun c18 => ?_)
    · refine r_run J 1 (pc' := 84) (lv' := [(0, vR 40), (1, vI x1), (2, vI x2)]) (st' := [vI 0]) rfl ?_
      exact r_iret J rfl rfl rfl rfl (by decide) (by decide)
    · refine r_run J 1 (pc' := 22) (lv' := [(0, vR 40), (1, vI x1), (2, vI x2)]) (st' := [vR 40]) rfl ?_
      refine r_getR J cls12 rfl (k := 2) (t := 15) (by decide) wf_12_13 rfl rfl (ly_40 hL) (lr_40_2 hL) (fun _ => ?_)
      show g_H E 0 0 25 [(0, vR 40), (1, vI x1), (2, vI x2)] [vR 41] (σ, M, N) _ _
      refine r_run J 1 (pc' := 26) (lv' := [(0, vR 40), (1, vI x1), (2, vI x2)]) (st' := [vI x2, vR 41]) rfl ?_
      refine r_zald J rfl (ly_41 hL) (fun i26 => ?_)
      show g_H E 0 0 27 [(0, vR 40), (1, vI x1), (2, vI x2)] [vI (M 41 x2.toNatClampNeg)] (σ, M, N) _ _
      refine r_if_eq J (tgt := 83) rfl (by decide) (fun c27 => ?_) (fun c27 => ?_)
      · refine r_run J 1 (pc' := 84) (lv' := [(0, vR 40), (1, vI x1), (2, vI x2)]) (st' := [vI 0]) rfl ?_
        exact r_iret J rfl rfl rfl rfl (by decide) (by decide)
      · refine r_run J 1 (pc' := 31) (lv' := [(0, vR 40), (1, vI x1), (2, vI x2)]) (st' := [vR 40]) rfl ?_
        refine r_getR J cls12 rfl (k := 3) (t := 14) (by decide) wf_12_17 rfl rfl (ly_40 hL) (lr_40_3 hL) (fun _ => ?_)
        show g_H E 0 0 34 [(0, vR 40), (1, vI x1), (2, vI x2)] [vR 42] (σ, M, N) _ _
        refine r_run J 1 (pc' := 35) (lv' := [(0, vR 40), (1, vI x1), (2, vI x2)]) (st' := [vI x1, vR 42]) rfl ?_
        refine r_iald J rfl (ly_42 hL) (fun i35 => ?_)
        show g_H E 0 0 36 [(0, vR 40), (1, vI x1), (2, vI x2)] [vI (M 42 x1.toNatClampNeg)] (σ, M, N) _ _
        refine r_run J 1 (pc' := 37) (lv' := [(0, vR 40), (1, vI x1), (2, vI x2)]) (st' := [vR 40, vI (M 42 x1.toNatClampNeg)]) rfl ?_
        refine r_getR J cls12 rfl (k := 3) (t := 14) (by decide) wf_12_17 rfl rfl (ly_40 hL) (lr_40_3 hL) (fun _ => ?_)
        show g_H E 0 0 40 [(0, vR 40), (1, vI x1), (2, vI x2)] [vR 42, vI (M 42 x1.toNatClampNeg)] (σ, M, N) _ _
        refine r_run J 1 (pc' := 41) (lv' := [(0, vR 40), (1, vI x1), (2, vI x2)]) (st' := [vI x2, vR 42, vI (M 42 x1.toNatClampNeg)]) rfl ?_
        refine r_iald J rfl (ly_42 hL) (fun i41 => ?_)
        show g_H E 0 0 42 [(0, vR 40), (1, vI x1), (2, vI x2)] [vI (M 42 x2.toNatClampNeg), vI (M 42 x1.toNatClampNeg)] (σ, M, N) _ _
        refine r_icmp_ne J (tgt := 83) rfl (by decide) (fun c42 => ?_) (fun c42 => ?_)
        · refine r_run J 1 (pc' := 46) (lv' := [(0, vR 40), (1, vI x1), (2, vI x2)]) (st' := [vR 40]) rfl ?_
          refine r_getR J cls12 rfl (k := 9) (t := 14) (by decide) wf_12_36 rfl rfl (ly_40 hL) (lr_40_9 hL) (fun _ => ?_)
          show g_H E 0 0 49 [(0, vR 40), (1, vI x1), (2, vI x2)] [vR 48] (σ, M, N) _ _
          refine r_run J 1 (pc' := 50) (lv' := [(0, vR 40), (1, vI x1), (2, vI x2)]) (st' := [vI x1, vR 48]) rfl ?_
          refine r_iald J rfl (ly_48 hL) (fun i50 => ?_)
          show g_H E 0 0 51 [(0, vR 40), (1, vI x1), (2, vI x2)] [vI (M 48 x1.toNatClampNeg)] (σ, M, N) _ _
          refine r_run J 1 (pc' := 52) (lv' := [(0, vR 40), (1, vI x1), (2, vI x2)]) (st' := [vI (-1), vI (M 48 x1.toNatClampNeg)]) rfl ?_
          refine r_icmp_ne J (tgt := 83) rfl (by decide) (fun c52 => ?_) (fun c52 => ?_)
          · refine r_run J 1 (pc' := 56) (lv' := [(0, vR 40), (1, vI x1), (2, vI x2)]) (st' := [vR 40]) rfl ?_
            refine r_getR J cls12 rfl (k := 9) (t := 14) (by decide) wf_12_36 rfl rfl (ly_40 hL) (lr_40_9 hL) (fun _ => ?_)
            show g_H E 0 0 59 [(0, vR 40), (1, vI x1), (2, vI x2)] [vR 48] (σ, M, N) _ _
            refine r_run J 1 (pc' := 60) (lv' := [(0, vR 40), (1, vI x1), (2, vI x2)]) (st' := [vI x2, vR 48]) rfl ?_
            refine r_iald J rfl (ly_48 hL) (fun i60 => ?_)
            show g_H E 0 0 61 [(0, vR 40), (1, vI x1), (2, vI x2)] [vI (M 48 x2.toNatClampNeg)] (σ, M, N) _ _
            refine r_run J 1 (pc' := 62) (lv' := [(0, vR 40), (1, vI x1), (2, vI x2)]) (st' := [vI (-1), vI (M 48 x2.toNatClampNeg)]) rfl ?_
            refine r_icmp_ne J (tgt := 83) rfl (by decide) (fun c62 => ?_) (fun c62 => ?_)
            · refine r_run J 1 (pc' := 66) (lv' := [(0, vR 40), (1, vI x1), (2, vI x2)]) (st' := [vR 40]) rfl ?_
              refine r_getR J cls12 rfl (k := 10) (t := 15) (by decide) wf_12_39 rfl rfl (ly_40 hL) (lr_40_10 hL) (fun _ => ?_)
              show g_H E 0 0 69 [(0, vR 40), (1, vI x1), (2, vI x2)] [vR 49] (σ, M, N) _ _
              refine r_run J 5 (pc' := 75) (lv' := [(0, vR 40), (1, vI x1), (2, vI x2)]) (st' := [vI (((10 : Int32) * x1) + x2), vR 49]) rfl ?_
              refine r_zald J rfl (ly_49 hL) (fun i75 => ?_)
              show g_H E 0 0 76 [(0, vR 40), (1, vI x1), (2, vI x2)] [vI (M 49 (((10 : Int32) * x1) + x2).toNatClampNeg)] (σ, M, N) _ _
              refine r_if_ne J (tgt := 83) rfl (by decide) (fun c76 => ?_) (fun c76 => ?_)
              · refine r_run J 2 (pc' := 84) (lv' := [(0, vR 40), (1, vI x1), (2, vI x2)]) (st' := [vI 1]) rfl ?_
                exact r_iret J rfl rfl rfl rfl (by decide) (by decide)
              · refine r_run J 1 (pc' := 84) (lv' := [(0, vR 40), (1, vI x1), (2, vI x2)]) (st' := [vI 0]) rfl ?_
                exact r_iret J rfl rfl rfl rfl (by decide) (by decide)
            · refine r_run J 1 (pc' := 84) (lv' := [(0, vR 40), (1, vI x1), (2, vI x2)]) (st' := [vI 0]) rfl ?_
              exact r_iret J rfl rfl rfl rfl (by decide) (by decide)
          · refine r_run J 1 (pc' := 84) (lv' := [(0, vR 40), (1, vI x1), (2, vI x2)]) (st' := [vI 0]) rfl ?_
            exact r_iret J rfl rfl rfl rfl (by decide) (by decide)
        · refine r_run J 1 (pc' := 84) (lv' := [(0, vR 40), (1, vI x1), (2, vI x2)]) (st' := [vI 0]) rfl ?_
          exact r_iret J rfl rfl rfl rfl (by decide) (by decide)
theorem c_X12_mayShare {l : Launch} (x1 : Int32) (x2 : Int32) (σ : gS) (M : gM) (N : gN) (hL : g_layM σ) (r : Int32) (h : f_X12_mayShare x1 x2 σ M = some r) : g_Ct l yX12_mayShare cX12_mayShare 3 (some .boolean) 1 0 0 [vR 40, vI x1, vI x2] (σ, M, N) (eI σ M N r) :=
  g_Ct.of tb_X12_mayShare (by decide +kernel) tk_X12_mayShare (Nat.le_of_ble_eq_true rfl) (fun E J => p_X12_mayShare_0 J x1 x2 σ M N hL r h)
def tb_X12_person : gT := [(0, .iload_n 2, 1, 0), (1, .iconst 0, 1, 0), (2, .iconst 3, 1, 3), (3, .invokestatic 160, 3, 0), (6, .ifCond .eq 43, 3, 0), (9, .iload 4, 2, 0), (11, .iconst 0, 1, 0), (12, .iconst 3, 1, 3), (13, .invokestatic 160, 3, 0), (16, .ifCond .eq 33, 3, 0), (19, .iload 5, 2, 0), (21, .iconst 0, 1, 0), (22, .iconst 5, 1, 5), (23, .invokestatic 160, 3, 0), (26, .ifCond .eq 23, 3, 0), (29, .iload 6, 2, 0), (31, .iload 5, 2, 0), (33, .iconst 5, 1, 5), (34, .invokestatic 160, 3, 0), (37, .ifCond .eq 12, 3, 0), (40, .aload_n 0, 1, 0), (41, .getfield 157, 3, 0), (44, .bipush 10, 2, 10), (46, .if_icmp .ne 5, 3, 0), (49, .iconst (-1), 1, (-1)), (50, .ireturn, 1, 0), (51, .aload_n 0, 1, 0), (52, .getfield 13, 3, 0), (55, .aload_n 0, 1, 0), (56, .getfield 157, 3, 0), (59, .iload_n 1, 1, 0), (60, .bastore, 1, 0), (61, .aload_n 0, 1, 0), (62, .getfield 17, 3, 0), (65, .aload_n 0, 1, 0), (66, .getfield 157, 3, 0), (69, .iload_n 2, 1, 0), (70, .iastore, 1, 0), (71, .aload_n 0, 1, 0), (72, .getfield 21, 3, 0), (75, .aload_n 0, 1, 0), (76, .getfield 157, 3, 0), (79, .iload_n 3, 1, 0), (80, .bastore, 1, 0), (81, .aload_n 0, 1, 0), (82, .getfield 24, 3, 0), (85, .aload_n 0, 1, 0), (86, .getfield 157, 3, 0), (89, .iload 4, 2, 0), (91, .iastore, 1, 0), (92, .aload_n 0, 1, 0), (93, .getfield 27, 3, 0), (96, .aload_n 0, 1, 0), (97, .getfield 157, 3, 0), (100, .iload 5, 2, 0), (102, .iastore, 1, 0), (103, .aload_n 0, 1, 0), (104, .getfield 30, 3, 0), (107, .aload_n 0, 1, 0), (108, .getfield 157, 3, 0), (111, .iload 6, 2, 0), (113, .iastore, 1, 0), (114, .aload_n 0, 1, 0), (115, .getfield 36, 3, 0), (118, .aload_n 0, 1, 0), (119, .getfield 157, 3, 0), (122, .iconst (-1), 1, (-1)), (123, .iastore, 1, 0), (124, .aload_n 0, 1, 0), (125, .dup, 1, 0), (126, .getfield 157, 3, 0), (129, .iconst 1, 1, 1), (130, .iadd, 1, 0), (131, .putfield 157, 3, 0), (134, .aload_n 0, 1, 0), (135, .getfield 157, 3, 0), (138, .iconst 1, 1, 1), (139, .isub, 1, 0), (140, .ireturn, 1, 0)]
set_option maxRecDepth 100000 in
theorem tk_X12_person : g_okT cX12_person tb_X12_person = true := by decide +kernel
abbrev J_X12_person (E : gE) (l : Launch) : Prop := g_J E cX12_person RX12 "person" (some .int) 7 tb_X12_person 2 0 0 l
set_option maxHeartbeats 4000000 in
set_option maxRecDepth 100000 in
theorem p_X12_person_114 {l : Launch} {E : gE} (J : J_X12_person E l) (σ : gS) (M : gM) (N : gN) (hL : g_layM σ) : g_H E 0 0 114 [(0, vR 40)] [] (σ, M, N) (b_X12_person_114 σ M) (eIM σ N) := by
  unfold b_X12_person_114
  refine r_run J 1 (pc' := 115) (lv' := [(0, vR 40)]) (st' := [vR 40]) rfl ?_
  refine r_getR J cls12 rfl (k := 9) (t := 14) (by decide) wf_12_36 rfl rfl (ly_40 hL) (lr_40_9 hL) (fun _ => ?_)
  show g_H E 0 0 118 [(0, vR 40)] [vR 48] (σ, M, N) _ _
  refine r_run J 1 (pc' := 119) (lv' := [(0, vR 40)]) (st' := [vR 40, vR 48]) rfl ?_
  refine r_getI J cls12 rfl (k := 1) (by decide) wf_12_157 rfl (ly_40 hL) ?_
  show g_H E 0 0 122 [(0, vR 40)] [vI (M 40 1), vR 48] (σ, M, N) _ _
  refine r_run J 1 (pc' := 123) (lv' := [(0, vR 40)]) (st' := [vI (-1), vI (M 40 1), vR 48]) rfl ?_
  refine r_iast J rfl (ly_48 hL) (fun i123 => ?_)
  show g_H E 0 0 124 [(0, vR 40)] [] (σ, (g_up M 48 ((M 40 1).toNatClampNeg) (-1)), N) _ _
  refine r_run J 2 (pc' := 126) (lv' := [(0, vR 40)]) (st' := [vR 40, vR 40]) rfl ?_
  refine r_getI J cls12 rfl (k := 1) (by decide) wf_12_157 rfl (ly_40 hL) ?_
  show g_H E 0 0 129 [(0, vR 40)] [vI ((g_up M 48 ((M 40 1).toNatClampNeg) (-1)) 40 1), vR 40] (σ, (g_up M 48 ((M 40 1).toNatClampNeg) (-1)), N) _ _
  refine r_run J 2 (pc' := 131) (lv' := [(0, vR 40)]) (st' := [vI (((g_up M 48 ((M 40 1).toNatClampNeg) (-1)) 40 1) + (1 : Int32)), vR 40]) rfl ?_
  refine r_putI J cls12 rfl (k := 1) (by decide) wf_12_157 rfl (Or.inl rfl) ⟨rfl, rfl⟩ (ly_40 hL) ?_
  show g_H E 0 0 134 [(0, vR 40)] [] (σ, (g_up (g_up M 48 ((M 40 1).toNatClampNeg) (-1)) 40 1 (((g_up M 48 ((M 40 1).toNatClampNeg) (-1)) 40 1) + (1 : Int32))), N) _ _
  refine r_run J 1 (pc' := 135) (lv' := [(0, vR 40)]) (st' := [vR 40]) rfl ?_
  refine r_getI J cls12 rfl (k := 1) (by decide) wf_12_157 rfl (ly_40 hL) ?_
  show g_H E 0 0 138 [(0, vR 40)] [vI ((g_up (g_up M 48 ((M 40 1).toNatClampNeg) (-1)) 40 1 (((g_up M 48 ((M 40 1).toNatClampNeg) (-1)) 40 1) + (1 : Int32))) 40 1)] (σ, (g_up (g_up M 48 ((M 40 1).toNatClampNeg) (-1)) 40 1 (((g_up M 48 ((M 40 1).toNatClampNeg) (-1)) 40 1) + (1 : Int32))), N) _ _
  refine r_run J 2 (pc' := 140) (lv' := [(0, vR 40)]) (st' := [vI (((g_up (g_up M 48 ((M 40 1).toNatClampNeg) (-1)) 40 1 (((g_up M 48 ((M 40 1).toNatClampNeg) (-1)) 40 1) + (1 : Int32))) 40 1) - (1 : Int32))]) rfl ?_
  exact r_iret J rfl rfl rfl rfl (by decide) (by decide)
set_option maxHeartbeats 4000000 in
set_option maxRecDepth 100000 in
theorem p_X12_person_81 {l : Launch} {E : gE} (J : J_X12_person E l) (x4 : Int32) (x5 : Int32) (x6 : Int32) (σ : gS) (M : gM) (N : gN) (hL : g_layM σ) : g_H E 0 0 81 [(0, vR 40), (4, vI x4), (5, vI x5), (6, vI x6)] [] (σ, M, N) (b_X12_person_81 x4 x5 x6 σ M) (eIM σ N) := by
  unfold b_X12_person_81
  refine r_run J 1 (pc' := 82) (lv' := [(0, vR 40), (4, vI x4), (5, vI x5), (6, vI x6)]) (st' := [vR 40]) rfl ?_
  refine r_getR J cls12 rfl (k := 5) (t := 14) (by decide) wf_12_24 rfl rfl (ly_40 hL) (lr_40_5 hL) (fun _ => ?_)
  show g_H E 0 0 85 [(0, vR 40), (4, vI x4), (5, vI x5), (6, vI x6)] [vR 44] (σ, M, N) _ _
  refine r_run J 1 (pc' := 86) (lv' := [(0, vR 40), (4, vI x4), (5, vI x5), (6, vI x6)]) (st' := [vR 40, vR 44]) rfl ?_
  refine r_getI J cls12 rfl (k := 1) (by decide) wf_12_157 rfl (ly_40 hL) ?_
  show g_H E 0 0 89 [(0, vR 40), (4, vI x4), (5, vI x5), (6, vI x6)] [vI (M 40 1), vR 44] (σ, M, N) _ _
  refine r_run J 1 (pc' := 91) (lv' := [(0, vR 40), (4, vI x4), (5, vI x5), (6, vI x6)]) (st' := [vI x4, vI (M 40 1), vR 44]) rfl ?_
  refine r_iast J rfl (ly_44 hL) (fun i91 => ?_)
  show g_H E 0 0 92 [(0, vR 40), (4, vI x4), (5, vI x5), (6, vI x6)] [] (σ, (g_up M 44 ((M 40 1).toNatClampNeg) x4), N) _ _
  refine r_run J 1 (pc' := 93) (lv' := [(0, vR 40), (4, vI x4), (5, vI x5), (6, vI x6)]) (st' := [vR 40]) rfl ?_
  refine r_getR J cls12 rfl (k := 6) (t := 14) (by decide) wf_12_27 rfl rfl (ly_40 hL) (lr_40_6 hL) (fun _ => ?_)
  show g_H E 0 0 96 [(0, vR 40), (4, vI x4), (5, vI x5), (6, vI x6)] [vR 45] (σ, (g_up M 44 ((M 40 1).toNatClampNeg) x4), N) _ _
  refine r_run J 1 (pc' := 97) (lv' := [(0, vR 40), (4, vI x4), (5, vI x5), (6, vI x6)]) (st' := [vR 40, vR 45]) rfl ?_
  refine r_getI J cls12 rfl (k := 1) (by decide) wf_12_157 rfl (ly_40 hL) ?_
  show g_H E 0 0 100 [(0, vR 40), (4, vI x4), (5, vI x5), (6, vI x6)] [vI ((g_up M 44 ((M 40 1).toNatClampNeg) x4) 40 1), vR 45] (σ, (g_up M 44 ((M 40 1).toNatClampNeg) x4), N) _ _
  refine r_run J 1 (pc' := 102) (lv' := [(0, vR 40), (4, vI x4), (5, vI x5), (6, vI x6)]) (st' := [vI x5, vI ((g_up M 44 ((M 40 1).toNatClampNeg) x4) 40 1), vR 45]) rfl ?_
  refine r_iast J rfl (ly_45 hL) (fun i102 => ?_)
  show g_H E 0 0 103 [(0, vR 40), (4, vI x4), (5, vI x5), (6, vI x6)] [] (σ, (g_up (g_up M 44 ((M 40 1).toNatClampNeg) x4) 45 (((g_up M 44 ((M 40 1).toNatClampNeg) x4) 40 1).toNatClampNeg) x5), N) _ _
  refine r_run J 1 (pc' := 104) (lv' := [(0, vR 40), (4, vI x4), (5, vI x5), (6, vI x6)]) (st' := [vR 40]) rfl ?_
  refine r_getR J cls12 rfl (k := 7) (t := 14) (by decide) wf_12_30 rfl rfl (ly_40 hL) (lr_40_7 hL) (fun _ => ?_)
  show g_H E 0 0 107 [(0, vR 40), (4, vI x4), (5, vI x5), (6, vI x6)] [vR 46] (σ, (g_up (g_up M 44 ((M 40 1).toNatClampNeg) x4) 45 (((g_up M 44 ((M 40 1).toNatClampNeg) x4) 40 1).toNatClampNeg) x5), N) _ _
  refine r_run J 1 (pc' := 108) (lv' := [(0, vR 40), (4, vI x4), (5, vI x5), (6, vI x6)]) (st' := [vR 40, vR 46]) rfl ?_
  refine r_getI J cls12 rfl (k := 1) (by decide) wf_12_157 rfl (ly_40 hL) ?_
  show g_H E 0 0 111 [(0, vR 40), (4, vI x4), (5, vI x5), (6, vI x6)] [vI ((g_up (g_up M 44 ((M 40 1).toNatClampNeg) x4) 45 (((g_up M 44 ((M 40 1).toNatClampNeg) x4) 40 1).toNatClampNeg) x5) 40 1), vR 46] (σ, (g_up (g_up M 44 ((M 40 1).toNatClampNeg) x4) 45 (((g_up M 44 ((M 40 1).toNatClampNeg) x4) 40 1).toNatClampNeg) x5), N) _ _
  refine r_run J 1 (pc' := 113) (lv' := [(0, vR 40), (4, vI x4), (5, vI x5), (6, vI x6)]) (st' := [vI x6, vI ((g_up (g_up M 44 ((M 40 1).toNatClampNeg) x4) 45 (((g_up M 44 ((M 40 1).toNatClampNeg) x4) 40 1).toNatClampNeg) x5) 40 1), vR 46]) rfl ?_
  refine r_iast J rfl (ly_46 hL) (fun i113 => ?_)
  show g_H E 0 0 114 [(0, vR 40), (4, vI x4), (5, vI x5), (6, vI x6)] [] (σ, (g_up (g_up (g_up M 44 ((M 40 1).toNatClampNeg) x4) 45 (((g_up M 44 ((M 40 1).toNatClampNeg) x4) 40 1).toNatClampNeg) x5) 46 (((g_up (g_up M 44 ((M 40 1).toNatClampNeg) x4) 45 (((g_up M 44 ((M 40 1).toNatClampNeg) x4) 40 1).toNatClampNeg) x5) 40 1).toNatClampNeg) x6), N) _ _
  refine r_sub [0] (lv' := [(0, vR 40)]) rfl ?_
  exact p_X12_person_114 J σ (g_up (g_up (g_up M 44 ((M 40 1).toNatClampNeg) x4) 45 (((g_up M 44 ((M 40 1).toNatClampNeg) x4) 40 1).toNatClampNeg) x5) 46 (((g_up (g_up M 44 ((M 40 1).toNatClampNeg) x4) 45 (((g_up M 44 ((M 40 1).toNatClampNeg) x4) 40 1).toNatClampNeg) x5) 40 1).toNatClampNeg) x6) N hL
set_option maxHeartbeats 4000000 in
set_option maxRecDepth 100000 in
theorem p_X12_person_0 {l : Launch} {E : gE} (J : J_X12_person E l) (x1 : Int32) (x2 : Int32) (x3 : Int32) (x4 : Int32) (x5 : Int32) (x6 : Int32) (σ : gS) (M : gM) (N : gN) (hL : g_layM σ) : g_H E 0 0 0 [(0, vR 40), (1, vI x1), (2, vI x2), (3, vI x3), (4, vI x4), (5, vI x5), (6, vI x6)] [] (σ, M, N) (b_X12_person_0 x1 x2 x3 x4 x5 x6 σ M) (eIM σ N) := by
  unfold b_X12_person_0
  refine r_run J 3 (pc' := 3) (lv' := [(0, vR 40), (1, vI x1), (2, vI x2), (3, vI x3), (4, vI x4), (5, vI x5), (6, vI x6)]) (st' := [vI 3, vI 0, vI x2]) rfl ?_
  refine r_callS J (As := [vI x2, vI 0, vI 3]) (st := []) (fun r hr => c_X12_in x2 0 3 σ M N hL r hr) wm_12_160 wy_X12_in wd_X12_in ⟨by decide, by decide, by decide, by decide, Nat.le_of_ble_eq_true rfl⟩ rfl rfl (fun q3 hq3 => ?_)
  show g_H E 0 0 6 [(0, vR 40), (1, vI x1), (2, vI x2), (3, vI x3), (4, vI x4), (5, vI x5), (6, vI x6)] [vI q3] (σ, M, N) _ _
  refine r_if_eq J (tgt := 49) rfl (by decide) (fun c6 => ?_) (fun c6 => ?_)
  · refine r_run J 1 (pc' := 50) (lv' := [(0, vR 40), (1, vI x1), (2, vI x2), (3, vI x3), (4, vI x4), (5, vI x5), (6, vI x6)]) (st' := [vI (-1)]) rfl ?_
    exact r_iret J rfl rfl rfl rfl (by decide) (by decide)
  · refine r_run J 3 (pc' := 13) (lv' := [(0, vR 40), (1, vI x1), (2, vI x2), (3, vI x3), (4, vI x4), (5, vI x5), (6, vI x6)]) (st' := [vI 3, vI 0, vI x4]) rfl ?_
    refine r_callS J (As := [vI x4, vI 0, vI 3]) (st := []) (fun r hr => c_X12_in x4 0 3 σ M N hL r hr) wm_12_160 wy_X12_in wd_X12_in ⟨by decide, by decide, by decide, by decide, Nat.le_of_ble_eq_true rfl⟩ rfl rfl (fun q13 hq13 => ?_)
    show g_H E 0 0 16 [(0, vR 40), (1, vI x1), (2, vI x2), (3, vI x3), (4, vI x4), (5, vI x5), (6, vI x6)] [vI q13] (σ, M, N) _ _
    refine r_if_eq J (tgt := 49) rfl (by decide) (fun c16 => ?_) (fun c16 => ?_)
    · refine r_run J 1 (pc' := 50) (lv' := [(0, vR 40), (1, vI x1), (2, vI x2), (3, vI x3), (4, vI x4), (5, vI x5), (6, vI x6)]) (st' := [vI (-1)]) rfl ?_
      exact r_iret J rfl rfl rfl rfl (by decide) (by decide)
    · refine r_run J 3 (pc' := 23) (lv' := [(0, vR 40), (1, vI x1), (2, vI x2), (3, vI x3), (4, vI x4), (5, vI x5), (6, vI x6)]) (st' := [vI 5, vI 0, vI x5]) rfl ?_
      refine r_callS J (As := [vI x5, vI 0, vI 5]) (st := []) (fun r hr => c_X12_in x5 0 5 σ M N hL r hr) wm_12_160 wy_X12_in wd_X12_in ⟨by decide, by decide, by decide, by decide, Nat.le_of_ble_eq_true rfl⟩ rfl rfl (fun q23 hq23 => ?_)
      show g_H E 0 0 26 [(0, vR 40), (1, vI x1), (2, vI x2), (3, vI x3), (4, vI x4), (5, vI x5), (6, vI x6)] [vI q23] (σ, M, N) _ _
      refine r_if_eq J (tgt := 49) rfl (by decide) (fun c26 => ?_) (fun c26 => ?_)
      · refine r_run J 1 (pc' := 50) (lv' := [(0, vR 40), (1, vI x1), (2, vI x2), (3, vI x3), (4, vI x4), (5, vI x5), (6, vI x6)]) (st' := [vI (-1)]) rfl ?_
        exact r_iret J rfl rfl rfl rfl (by decide) (by decide)
      · refine r_run J 3 (pc' := 34) (lv' := [(0, vR 40), (1, vI x1), (2, vI x2), (3, vI x3), (4, vI x4), (5, vI x5), (6, vI x6)]) (st' := [vI 5, vI x5, vI x6]) rfl ?_
        refine r_callS J (As := [vI x6, vI x5, vI 5]) (st := []) (fun r hr => c_X12_in x6 x5 5 σ M N hL r hr) wm_12_160 wy_X12_in wd_X12_in ⟨by decide, by decide, by decide, by decide, Nat.le_of_ble_eq_true rfl⟩ rfl rfl (fun q34 hq34 => ?_)
        show g_H E 0 0 37 [(0, vR 40), (1, vI x1), (2, vI x2), (3, vI x3), (4, vI x4), (5, vI x5), (6, vI x6)] [vI q34] (σ, M, N) _ _
        refine r_if_eq J (tgt := 49) rfl (by decide) (fun c37 => ?_) (fun c37 => ?_)
        · refine r_run J 1 (pc' := 50) (lv' := [(0, vR 40), (1, vI x1), (2, vI x2), (3, vI x3), (4, vI x4), (5, vI x5), (6, vI x6)]) (st' := [vI (-1)]) rfl ?_
          exact r_iret J rfl rfl rfl rfl (by decide) (by decide)
        · refine r_run J 1 (pc' := 41) (lv' := [(0, vR 40), (1, vI x1), (2, vI x2), (3, vI x3), (4, vI x4), (5, vI x5), (6, vI x6)]) (st' := [vR 40]) rfl ?_
          refine r_getI J cls12 rfl (k := 1) (by decide) wf_12_157 rfl (ly_40 hL) ?_
          show g_H E 0 0 44 [(0, vR 40), (1, vI x1), (2, vI x2), (3, vI x3), (4, vI x4), (5, vI x5), (6, vI x6)] [vI (M 40 1)] (σ, M, N) _ _
          refine r_run J 1 (pc' := 46) (lv' := [(0, vR 40), (1, vI x1), (2, vI x2), (3, vI x3), (4, vI x4), (5, vI x5), (6, vI x6)]) (st' := [vI 10, vI (M 40 1)]) rfl ?_
          refine r_icmp_ne J (tgt := 51) rfl (by decide) (fun c46 => ?_) (fun c46 => ?_)
          · refine r_run J 1 (pc' := 50) (lv' := [(0, vR 40), (1, vI x1), (2, vI x2), (3, vI x3), (4, vI x4), (5, vI x5), (6, vI x6)]) (st' := [vI (-1)]) rfl ?_
            exact r_iret J rfl rfl rfl rfl (by decide) (by decide)
          · refine r_run J 1 (pc' := 52) (lv' := [(0, vR 40), (1, vI x1), (2, vI x2), (3, vI x3), (4, vI x4), (5, vI x5), (6, vI x6)]) (st' := [vR 40]) rfl ?_
            refine r_getR J cls12 rfl (k := 2) (t := 15) (by decide) wf_12_13 rfl rfl (ly_40 hL) (lr_40_2 hL) (fun _ => ?_)
            show g_H E 0 0 55 [(0, vR 40), (1, vI x1), (2, vI x2), (3, vI x3), (4, vI x4), (5, vI x5), (6, vI x6)] [vR 41] (σ, M, N) _ _
            refine r_run J 1 (pc' := 56) (lv' := [(0, vR 40), (1, vI x1), (2, vI x2), (3, vI x3), (4, vI x4), (5, vI x5), (6, vI x6)]) (st' := [vR 40, vR 41]) rfl ?_
            refine r_getI J cls12 rfl (k := 1) (by decide) wf_12_157 rfl (ly_40 hL) ?_
            show g_H E 0 0 59 [(0, vR 40), (1, vI x1), (2, vI x2), (3, vI x3), (4, vI x4), (5, vI x5), (6, vI x6)] [vI (M 40 1), vR 41] (σ, M, N) _ _
            refine r_run J 1 (pc' := 60) (lv' := [(0, vR 40), (1, vI x1), (2, vI x2), (3, vI x3), (4, vI x4), (5, vI x5), (6, vI x6)]) (st' := [vI x1, vI (M 40 1), vR 41]) rfl ?_
            refine r_zast J rfl (ly_41 hL) (fun i60 => ?_)
            show g_H E 0 0 61 [(0, vR 40), (1, vI x1), (2, vI x2), (3, vI x3), (4, vI x4), (5, vI x5), (6, vI x6)] [] (σ, (g_up M 41 ((M 40 1).toNatClampNeg) (vp_nar .boolean x1)), N) _ _
            refine r_run J 1 (pc' := 62) (lv' := [(0, vR 40), (1, vI x1), (2, vI x2), (3, vI x3), (4, vI x4), (5, vI x5), (6, vI x6)]) (st' := [vR 40]) rfl ?_
            refine r_getR J cls12 rfl (k := 3) (t := 14) (by decide) wf_12_17 rfl rfl (ly_40 hL) (lr_40_3 hL) (fun _ => ?_)
            show g_H E 0 0 65 [(0, vR 40), (1, vI x1), (2, vI x2), (3, vI x3), (4, vI x4), (5, vI x5), (6, vI x6)] [vR 42] (σ, (g_up M 41 ((M 40 1).toNatClampNeg) (vp_nar .boolean x1)), N) _ _
            refine r_run J 1 (pc' := 66) (lv' := [(0, vR 40), (1, vI x1), (2, vI x2), (3, vI x3), (4, vI x4), (5, vI x5), (6, vI x6)]) (st' := [vR 40, vR 42]) rfl ?_
            refine r_getI J cls12 rfl (k := 1) (by decide) wf_12_157 rfl (ly_40 hL) ?_
            show g_H E 0 0 69 [(0, vR 40), (1, vI x1), (2, vI x2), (3, vI x3), (4, vI x4), (5, vI x5), (6, vI x6)] [vI ((g_up M 41 ((M 40 1).toNatClampNeg) (vp_nar .boolean x1)) 40 1), vR 42] (σ, (g_up M 41 ((M 40 1).toNatClampNeg) (vp_nar .boolean x1)), N) _ _
            refine r_run J 1 (pc' := 70) (lv' := [(0, vR 40), (1, vI x1), (2, vI x2), (3, vI x3), (4, vI x4), (5, vI x5), (6, vI x6)]) (st' := [vI x2, vI ((g_up M 41 ((M 40 1).toNatClampNeg) (vp_nar .boolean x1)) 40 1), vR 42]) rfl ?_
            refine r_iast J rfl (ly_42 hL) (fun i70 => ?_)
            show g_H E 0 0 71 [(0, vR 40), (1, vI x1), (2, vI x2), (3, vI x3), (4, vI x4), (5, vI x5), (6, vI x6)] [] (σ, (g_up (g_up M 41 ((M 40 1).toNatClampNeg) (vp_nar .boolean x1)) 42 (((g_up M 41 ((M 40 1).toNatClampNeg) (vp_nar .boolean x1)) 40 1).toNatClampNeg) x2), N) _ _
            refine r_run J 1 (pc' := 72) (lv' := [(0, vR 40), (1, vI x1), (2, vI x2), (3, vI x3), (4, vI x4), (5, vI x5), (6, vI x6)]) (st' := [vR 40]) rfl ?_
            refine r_getR J cls12 rfl (k := 4) (t := 15) (by decide) wf_12_21 rfl rfl (ly_40 hL) (lr_40_4 hL) (fun _ => ?_)
            show g_H E 0 0 75 [(0, vR 40), (1, vI x1), (2, vI x2), (3, vI x3), (4, vI x4), (5, vI x5), (6, vI x6)] [vR 43] (σ, (g_up (g_up M 41 ((M 40 1).toNatClampNeg) (vp_nar .boolean x1)) 42 (((g_up M 41 ((M 40 1).toNatClampNeg) (vp_nar .boolean x1)) 40 1).toNatClampNeg) x2), N) _ _
            refine r_run J 1 (pc' := 76) (lv' := [(0, vR 40), (1, vI x1), (2, vI x2), (3, vI x3), (4, vI x4), (5, vI x5), (6, vI x6)]) (st' := [vR 40, vR 43]) rfl ?_
            refine r_getI J cls12 rfl (k := 1) (by decide) wf_12_157 rfl (ly_40 hL) ?_
            show g_H E 0 0 79 [(0, vR 40), (1, vI x1), (2, vI x2), (3, vI x3), (4, vI x4), (5, vI x5), (6, vI x6)] [vI ((g_up (g_up M 41 ((M 40 1).toNatClampNeg) (vp_nar .boolean x1)) 42 (((g_up M 41 ((M 40 1).toNatClampNeg) (vp_nar .boolean x1)) 40 1).toNatClampNeg) x2) 40 1), vR 43] (σ, (g_up (g_up M 41 ((M 40 1).toNatClampNeg) (vp_nar .boolean x1)) 42 (((g_up M 41 ((M 40 1).toNatClampNeg) (vp_nar .boolean x1)) 40 1).toNatClampNeg) x2), N) _ _
            refine r_run J 1 (pc' := 80) (lv' := [(0, vR 40), (1, vI x1), (2, vI x2), (3, vI x3), (4, vI x4), (5, vI x5), (6, vI x6)]) (st' := [vI x3, vI ((g_up (g_up M 41 ((M 40 1).toNatClampNeg) (vp_nar .boolean x1)) 42 (((g_up M 41 ((M 40 1).toNatClampNeg) (vp_nar .boolean x1)) 40 1).toNatClampNeg) x2) 40 1), vR 43]) rfl ?_
            refine r_zast J rfl (ly_43 hL) (fun i80 => ?_)
            show g_H E 0 0 81 [(0, vR 40), (1, vI x1), (2, vI x2), (3, vI x3), (4, vI x4), (5, vI x5), (6, vI x6)] [] (σ, (g_up (g_up (g_up M 41 ((M 40 1).toNatClampNeg) (vp_nar .boolean x1)) 42 (((g_up M 41 ((M 40 1).toNatClampNeg) (vp_nar .boolean x1)) 40 1).toNatClampNeg) x2) 43 (((g_up (g_up M 41 ((M 40 1).toNatClampNeg) (vp_nar .boolean x1)) 42 (((g_up M 41 ((M 40 1).toNatClampNeg) (vp_nar .boolean x1)) 40 1).toNatClampNeg) x2) 40 1).toNatClampNeg) (vp_nar .boolean x3)), N) _ _
            refine r_sub [0, 4, 5, 6] (lv' := [(0, vR 40), (4, vI x4), (5, vI x5), (6, vI x6)]) rfl ?_
            exact p_X12_person_81 J x4 x5 x6 σ (g_up (g_up (g_up M 41 ((M 40 1).toNatClampNeg) (vp_nar .boolean x1)) 42 (((g_up M 41 ((M 40 1).toNatClampNeg) (vp_nar .boolean x1)) 40 1).toNatClampNeg) x2) 43 (((g_up (g_up M 41 ((M 40 1).toNatClampNeg) (vp_nar .boolean x1)) 42 (((g_up M 41 ((M 40 1).toNatClampNeg) (vp_nar .boolean x1)) 40 1).toNatClampNeg) x2) 40 1).toNatClampNeg) (vp_nar .boolean x3)) N hL
theorem c_X12_person {l : Launch} (x1 : Int32) (x2 : Int32) (x3 : Int32) (x4 : Int32) (x5 : Int32) (x6 : Int32) (σ : gS) (M : gM) (N : gN) (hL : g_layM σ) (r : Int32 × gM) (h : f_X12_person x1 x2 x3 x4 x5 x6 σ M = some r) : g_Ct l yX12_person cX12_person 7 (some .int) 2 0 0 [vR 40, vI x1, vI x2, vI x3, vI x4, vI x5, vI x6] (σ, M, N) (eIM σ N r) :=
  g_Ct.of tb_X12_person (by decide +kernel) tk_X12_person (Nat.le_of_ble_eq_true rfl) (fun E J => p_X12_person_0 J x1 x2 x3 x4 x5 x6 σ M N hL r h)
