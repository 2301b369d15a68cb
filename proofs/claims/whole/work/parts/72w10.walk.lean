def tb_X0_init : gT := [(0, .aload_n 0, 1, 0), (1, .invokespecial 3, 3, 0), (4, .aload_n 0, 1, 0), (5, .iconst 0, 1, 0), (6, .putfield 9, 3, 0), (9, .aload_n 0, 1, 0), (10, .bipush 30, 2, 30), (12, .newarray .int, 2, 0), (14, .putfield 15, 3, 0), (17, .aload_n 0, 1, 0), (18, .sipush 300, 3, 300), (21, .newarray .int, 2, 0), (23, .putfield 19, 3, 0), (26, .return_, 1, 0)]
set_option maxRecDepth 100000 in
theorem tk_X0_init : g_okT cX0_init tb_X0_init = true := by decide +kernel
abbrev J_X0_init (E : gE) (l : Launch) : Prop := g_J E cX0_init RX0 "<init>" none 1 tb_X0_init 1 2 330 l
set_option maxHeartbeats 4000000 in
set_option maxRecDepth 100000 in
theorem p_X0_init_17 {l : Launch} {E : gE} (J : J_X0_init E l) (σ : gS) (M : gM) (N : gN) : g_H E 1 30 17 [(0, vR 33)] [] (σ, M, N) (b_X0_init_17 σ M N) (eVSMN) := by
  unfold b_X0_init_17
  refine r_run J 2 (pc' := 21) (lv' := [(0, vR 33)]) (st' := [vI 300, vR 33]) rfl ?_
  refine r_chk (fun hf21 => ?_)
  refine r_newI J (B := 300) rfl wa_int (by decide) rfl (Nat.le_refl _) (by decide) (g_fr_0 hf21) (g_fr_n hf21) (by decide) (by decide) ?_
  show g_H E 2 330 23 [(0, vR 33)] [vR 35, vR 33] ((g_nS σ 35 14 300), (g_z M 35 0), (g_z N 35 0)) _ _
  refine r_chk (fun hs23 => ?_)
  refine r_putR J cls0 rfl (k := 2) (t := 14) (by decide) wf_0_19 rfl rfl (Or.inr ⟨rfl, rfl, rfl⟩) (g_is_at hs23) (Or.inr ⟨_, (g_nS_at σ 35 14 300)⟩) ?_
  show g_H E 2 330 26 [(0, vR 33)] [] ((g_pS (g_nS σ 35 14 300) 33 2 35), (g_z M 35 0), (g_z N 35 0)) _ _
  exact r_vret J rfl rfl rfl (by decide) (by decide)
set_option maxHeartbeats 4000000 in
set_option maxRecDepth 100000 in
theorem p_X0_init_9 {l : Launch} {E : gE} (J : J_X0_init E l) (σ : gS) (M : gM) (N : gN) : g_H E 0 0 9 [(0, vR 33)] [] (σ, M, N) (b_X0_init_9 σ M N) (eVSMN) := by
  unfold b_X0_init_9
  refine r_run J 2 (pc' := 12) (lv' := [(0, vR 33)]) (st' := [vI 30, vR 33]) rfl ?_
  refine r_chk (fun hf12 => ?_)
  refine r_newI J (B := 30) rfl wa_int (by decide) rfl (Nat.le_refl _) (by decide) (g_fr_0 hf12) (g_fr_n hf12) (by decide) (by decide) ?_
  show g_H E 1 30 14 [(0, vR 33)] [vR 34, vR 33] ((g_nS σ 34 14 30), (g_z M 34 0), (g_z N 34 0)) _ _
  refine r_chk (fun hs14 => ?_)
  refine r_putR J cls0 rfl (k := 1) (t := 14) (by decide) wf_0_15 rfl rfl (Or.inr ⟨rfl, rfl, rfl⟩) (g_is_at hs14) (Or.inr ⟨_, (g_nS_at σ 34 14 30)⟩) ?_
  show g_H E 1 30 17 [(0, vR 33)] [] ((g_pS (g_nS σ 34 14 30) 33 1 34), (g_z M 34 0), (g_z N 34 0)) _ _
  exact p_X0_init_17 J (g_pS (g_nS σ 34 14 30) 33 1 34) (g_z M 34 0) (g_z N 34 0)
set_option maxHeartbeats 4000000 in
set_option maxRecDepth 100000 in
theorem p_X0_init_0 {l : Launch} {E : gE} (J : J_X0_init E l) (σ : gS) (M : gM) (N : gN) : g_H E 0 0 0 [(0, vR 33)] [] (σ, M, N) (b_X0_init_0 σ M N) (eVSMN) := by
  unfold b_X0_init_0
  refine r_run J 1 (pc' := 1) (lv' := [(0, vR 33)]) (st' := [vR 33]) rfl ?_
  refine r_chk (fun hs1 => ?_)
  refine r_objI J (by rw [(g_is_at hs1)]; exact Option.some_ne_none _) wm_0_3 w_obj rfl ⟨by decide, Nat.le_of_ble_eq_true rfl⟩ ?_
  refine r_run J 2 (pc' := 6) (lv' := [(0, vR 33)]) (st' := [vI 0, vR 33]) rfl ?_
  refine r_putI J cls0 rfl (k := 0) (by decide) wf_0_9 rfl (Or.inl rfl) ⟨rfl, rfl⟩ (g_is_at hs1) ?_
  show g_H E 0 0 9 [(0, vR 33)] [] (σ, (g_up M 33 0 0), N) _ _
  exact p_X0_init_9 J σ (g_up M 33 0 0) N
theorem c_X0_init {l : Launch} (σ : gS) (M : gM) (N : gN) (r : gS × gM × gN) (h : f_X0_init σ M N = some r) : g_Ct l yX0_init cX0_init 1 none 1 2 330 [vR 33] (σ, M, N) (eVSMN r) :=
  g_Ct.of tb_X0_init (by decide +kernel) tk_X0_init (Nat.le_of_ble_eq_true rfl) (fun E J => p_X0_init_0 J σ M N r h)
def tb_X10_roomOfGuest : gT := [(0, .iload_n 1, 1, 0), (1, .ifCond .lt 18, 3, 0), (4, .iload_n 1, 1, 0), (5, .bipush 10, 2, 10), (7, .if_icmp .ge 12, 3, 0), (10, .aload_n 0, 1, 0), (11, .getfield 17, 3, 0), (14, .iload_n 1, 1, 0), (15, .iaload, 1, 0), (16, .goto 4, 3, 0), (19, .iconst (-1), 1, (-1)), (20, .ireturn, 1, 0)]
set_option maxRecDepth 100000 in
theorem tk_X10_roomOfGuest : g_okT cX10_roomOfGuest tb_X10_roomOfGuest = true := by decide +kernel
abbrev J_X10_roomOfGuest (E : gE) (l : Launch) : Prop := g_J E cX10_roomOfGuest RX10 "roomOfGuest" (some .int) 2 tb_X10_roomOfGuest 1 0 0 l
set_option maxHeartbeats 4000000 in
set_option maxRecDepth 100000 in
theorem p_X10_roomOfGuest_0 {l : Launch} {E : gE} (J : J_X10_roomOfGuest E l) (r0 : Nat) (x1 : Int32) (σ : gS) (M : gM) (N : gN) (hL : g_layC σ) : g_H E 0 0 0 [(0, vR r0), (1, vI x1)] [] (σ, M, N) (b_X10_roomOfGuest_0 r0 x1 σ M) (eI σ M N) := by
  unfold b_X10_roomOfGuest_0
  refine r_run J 1 (pc' := 1) (lv' := [(0, vR r0), (1, vI x1)]) (st' := [vI x1]) rfl ?_
  refine r_if_lt J (tgt := 19) rfl (by decide) (fun c1 => ?_) (fun c1 => ?_)
  · refine r_run J 1 (pc' := 20) (lv' := [(0, vR r0), (1, vI x1)]) (st' := [vI (-1)]) rfl ?_
    exact r_iret J rfl rfl rfl rfl (by decide) (by decide)
  · refine r_run J 2 (pc' := 7) (lv' := [(0, vR r0), (1, vI x1)]) (st' := [vI 10, vI x1]) rfl ?_
    refine r_icmp_ge J (tgt := 19) rfl (by decide) (fun c7 => ?_) (fun c7 => ?_)
    · refine r_run J 1 (pc' := 11) (lv' := [(0, vR r0), (1, vI x1)]) (st' := [vR r0]) rfl ?_
      refine r_chk (fun hs11 => ?_)
      refine r_getR J cls10 rfl (k := 4) (t := 14) (by decide) wf_10_17 rfl rfl (g_is_at hs11) rfl (fun _ => ?_)
      show g_H E 0 0 14 [(0, vR r0), (1, vI x1)] [vR (σ.2 r0 4)] (σ, M, N) _ _
      refine r_run J 1 (pc' := 15) (lv' := [(0, vR r0), (1, vI x1)]) (st' := [vI x1, vR (σ.2 r0 4)]) rfl ?_
      refine r_chk (fun hs15 => ?_)
      refine r_iald J rfl (g_is_at hs15) (fun i15 => ?_)
      show g_H E 0 0 16 [(0, vR r0), (1, vI x1)] [vI (M (σ.2 r0 4) x1.toNatClampNeg)] (σ, M, N) _ _
      refine r_run J 1 (pc' := 20) (lv' := [(0, vR r0), (1, vI x1)]) (st' := [vI (M (σ.2 r0 4) x1.toNatClampNeg)]) rfl ?_
      exact r_iret J rfl rfl rfl rfl (by decide) (by decide)
    · refine r_run J 1 (pc' := 20) (lv' := [(0, vR r0), (1, vI x1)]) (st' := [vI (-1)]) rfl ?_
      exact r_iret J rfl rfl rfl rfl (by decide) (by decide)
theorem c_X10_roomOfGuest {l : Launch} (r0 : Nat) (x1 : Int32) (σ : gS) (M : gM) (N : gN) (hL : g_layC σ) (r : Int32) (h : f_X10_roomOfGuest r0 x1 σ M = some r) : g_Ct l yX10_roomOfGuest cX10_roomOfGuest 2 (some .int) 1 0 0 [vR r0, vI x1] (σ, M, N) (eI σ M N r) :=
  g_Ct.of tb_X10_roomOfGuest (by decide +kernel) tk_X10_roomOfGuest (Nat.le_of_ble_eq_true rfl) (fun E J => p_X10_roomOfGuest_0 J r0 x1 σ M N hL r h)
def tb_X0_close : gT := [(0, .aload_n 0, 1, 0), (1, .getfield 9, 3, 0), (4, .bipush 30, 2, 30), (6, .if_icmp .lt 5, 3, 0), (9, .iconst (-1), 1, (-1)), (10, .ireturn, 1, 0), (11, .iconst 0, 1, 0), (12, .istore_n 3, 1, 0), (13, .iload_n 3, 1, 0), (14, .bipush 10, 2, 10), (16, .if_icmp .ge 28, 3, 0), (19, .aload_n 0, 1, 0), (20, .getfield 19, 3, 0), (23, .aload_n 0, 1, 0), (24, .getfield 9, 3, 0), (27, .bipush 10, 2, 10), (29, .imul, 1, 0), (30, .iload_n 3, 1, 0), (31, .iadd, 1, 0), (32, .aload_n 1, 1, 0), (33, .iload_n 3, 1, 0), (34, .invokevirtual 22, 3, 0), (37, .iastore, 1, 0), (38, .iinc 3 1, 3, 1), (41, .goto (-28), 3, 0), (44, .aload_n 0, 1, 0), (45, .getfield 15, 3, 0), (48, .aload_n 0, 1, 0), (49, .getfield 9, 3, 0), (52, .iload_n 2, 1, 0), (53, .iastore, 1, 0), (54, .aload_n 0, 1, 0), (55, .dup, 1, 0), (56, .getfield 9, 3, 0), (59, .iconst 1, 1, 1), (60, .iadd, 1, 0), (61, .putfield 9, 3, 0), (64, .aload_n 0, 1, 0), (65, .getfield 9, 3, 0), (68, .iconst 1, 1, 1), (69, .isub, 1, 0), (70, .ireturn, 1, 0)]
set_option maxRecDepth 100000 in
theorem tk_X0_close : g_okT cX0_close tb_X0_close = true := by decide +kernel
abbrev J_X0_close (E : gE) (l : Launch) : Prop := g_J E cX0_close RX0 "close" (some .int) 4 tb_X0_close 2 0 0 l
set_option maxHeartbeats 4000000 in
set_option maxRecDepth 100000 in
theorem p_X0_close_64 {l : Launch} {E : gE} (J : J_X0_close E l) (σ : gS) (M : gM) (N : gN) (hL : g_layC σ) : g_H E 0 0 64 [(0, vR 33)] [] (σ, M, N) (b_X0_close_64 σ M) (eIM σ N) := by
  unfold b_X0_close_64
  refine r_run J 1 (pc' := 65) (lv' := [(0, vR 33)]) (st' := [vR 33]) rfl ?_
  refine r_getI J cls0 rfl (k := 0) (by decide) wf_0_9 rfl (ly_33 hL) ?_
  show g_H E 0 0 68 [(0, vR 33)] [vI (M 33 0)] (σ, M, N) _ _
  refine r_run J 2 (pc' := 70) (lv' := [(0, vR 33)]) (st' := [vI ((M 33 0) - (1 : Int32))]) rfl ?_
  exact r_iret J rfl rfl rfl rfl (by decide) (by decide)
set_option maxHeartbeats 4000000 in
set_option maxRecDepth 100000 in
theorem p_X0_close_13 {l : Launch} {E : gE} (J : J_X0_close E l) : ∀ (n : Nat) (r1 : Nat) (x2 : Int32) (x3 : Int32) (σ : gS) (M : gM) (N : gN) (hL : g_layC σ), g_H E 0 0 13 [(0, vR 33), (1, vR r1), (2, vI x2), (3, vI x3)] [] (σ, M, N) (l_X0_close_13 n r1 x2 x3 σ M) (eIM σ N) := by
  intro n
  induction n with
  | zero => intros; exact h_none
  | succ n ih =>
    intro r1 x2 x3 σ M N hL
    rw [l_X0_close_13]
    refine r_run J 2 (pc' := 16) (lv' := [(0, vR 33), (1, vR r1), (2, vI x2), (3, vI x3)]) (st' := [vI 10, vI x3]) rfl ?_
    refine r_icmp_ge J (tgt := 44) rfl (by decide) (fun c16 => ?_) (fun c16 => ?_)
    · refine r_run J 1 (pc' := 20) (lv' := [(0, vR 33), (1, vR r1), (2, vI x2), (3, vI x3)]) (st' := [vR 33]) rfl ?_
      refine r_getR J cls0 rfl (k := 2) (t := 14) (by decide) wf_0_19 rfl rfl (ly_33 hL) (lr_33_2 hL) (fun _ => ?_)
      show g_H E 0 0 23 [(0, vR 33), (1, vR r1), (2, vI x2), (3, vI x3)] [vR 35] (σ, M, N) _ _
      refine r_run J 1 (pc' := 24) (lv' := [(0, vR 33), (1, vR r1), (2, vI x2), (3, vI x3)]) (st' := [vR 33, vR 35]) rfl ?_
      refine r_getI J cls0 rfl (k := 0) (by decide) wf_0_9 rfl (ly_33 hL) ?_
      show g_H E 0 0 27 [(0, vR 33), (1, vR r1), (2, vI x2), (3, vI x3)] [vI (M 33 0), vR 35] (σ, M, N) _ _
      refine r_run J 6 (pc' := 34) (lv' := [(0, vR 33), (1, vR r1), (2, vI x2), (3, vI x3)]) (st' := [vI x3, vR r1, vI (((M 33 0) * (10 : Int32)) + x3), vR 35]) rfl ?_
      refine r_chk (fun hs34 => ?_)
      refine r_callV J (As := [vI x3]) (st := [vI (((M 33 0) * (10 : Int32)) + x3), vR 35]) (fun r hr => c_X10_roomOfGuest r1 x3 σ M N hL r hr) cls10 (g_is_at hs34) wm_0_22 wy_X10_roomOfGuest wd_X10_roomOfGuest ⟨by decide, by decide, by decide, by decide, Nat.le_of_ble_eq_true rfl⟩ rfl rfl (fun q34 hq34 => ?_)
      show g_H E 0 0 37 [(0, vR 33), (1, vR r1), (2, vI x2), (3, vI x3)] [vI q34, vI (((M 33 0) * (10 : Int32)) + x3), vR 35] (σ, M, N) _ _
      refine r_iast J rfl (ly_35 hL) (fun i37 => ?_)
      show g_H E 0 0 38 [(0, vR 33), (1, vR r1), (2, vI x2), (3, vI x3)] [] (σ, (g_up M 35 ((((M 33 0) * (10 : Int32)) + x3).toNatClampNeg) q34), N) _ _
      refine r_run J 2 (pc' := 13) (lv' := [(3, vI (x3 + 1)), (0, vR 33), (1, vR r1), (2, vI x2)]) (st' := []) rfl ?_
      refine r_sub [1, 2, 3, 0] (lv' := [(0, vR 33), (1, vR r1), (2, vI x2), (3, vI (x3 + 1))]) rfl ?_
      exact ih r1 x2 (x3 + 1) σ (g_up M 35 ((((M 33 0) * (10 : Int32)) + x3).toNatClampNeg) q34) N hL
    · refine r_run J 1 (pc' := 45) (lv' := [(0, vR 33), (1, vR r1), (2, vI x2), (3, vI x3)]) (st' := [vR 33]) rfl ?_
      refine r_getR J cls0 rfl (k := 1) (t := 14) (by decide) wf_0_15 rfl rfl (ly_33 hL) (lr_33_1 hL) (fun _ => ?_)
      show g_H E 0 0 48 [(0, vR 33), (1, vR r1), (2, vI x2), (3, vI x3)] [vR 34] (σ, M, N) _ _
      refine r_run J 1 (pc' := 49) (lv' := [(0, vR 33), (1, vR r1), (2, vI x2), (3, vI x3)]) (st' := [vR 33, vR 34]) rfl ?_
      refine r_getI J cls0 rfl (k := 0) (by decide) wf_0_9 rfl (ly_33 hL) ?_
      show g_H E 0 0 52 [(0, vR 33), (1, vR r1), (2, vI x2), (3, vI x3)] [vI (M 33 0), vR 34] (σ, M, N) _ _
      refine r_run J 1 (pc' := 53) (lv' := [(0, vR 33), (1, vR r1), (2, vI x2), (3, vI x3)]) (st' := [vI x2, vI (M 33 0), vR 34]) rfl ?_
      refine r_iast J rfl (ly_34 hL) (fun i53 => ?_)
      show g_H E 0 0 54 [(0, vR 33), (1, vR r1), (2, vI x2), (3, vI x3)] [] (σ, (g_up M 34 ((M 33 0).toNatClampNeg) x2), N) _ _
      refine r_run J 2 (pc' := 56) (lv' := [(0, vR 33), (1, vR r1), (2, vI x2), (3, vI x3)]) (st' := [vR 33, vR 33]) rfl ?_
      refine r_getI J cls0 rfl (k := 0) (by decide) wf_0_9 rfl (ly_33 hL) ?_
      show g_H E 0 0 59 [(0, vR 33), (1, vR r1), (2, vI x2), (3, vI x3)] [vI ((g_up M 34 ((M 33 0).toNatClampNeg) x2) 33 0), vR 33] (σ, (g_up M 34 ((M 33 0).toNatClampNeg) x2), N) _ _
      refine r_run J 2 (pc' := 61) (lv' := [(0, vR 33), (1, vR r1), (2, vI x2), (3, vI x3)]) (st' := [vI (((g_up M 34 ((M 33 0).toNatClampNeg) x2) 33 0) + (1 : Int32)), vR 33]) rfl ?_
      refine r_putI J cls0 rfl (k := 0) (by decide) wf_0_9 rfl (Or.inl rfl) ⟨rfl, rfl⟩ (ly_33 hL) ?_
      show g_H E 0 0 64 [(0, vR 33), (1, vR r1), (2, vI x2), (3, vI x3)] [] (σ, (g_up (g_up M 34 ((M 33 0).toNatClampNeg) x2) 33 0 (((g_up M 34 ((M 33 0).toNatClampNeg) x2) 33 0) + (1 : Int32))), N) _ _
      refine r_sub [0] (lv' := [(0, vR 33)]) rfl ?_
      exact p_X0_close_64 J σ (g_up (g_up M 34 ((M 33 0).toNatClampNeg) x2) 33 0 (((g_up M 34 ((M 33 0).toNatClampNeg) x2) 33 0) + (1 : Int32))) N hL
set_option maxHeartbeats 4000000 in
set_option maxRecDepth 100000 in
theorem p_X0_close_0 {l : Launch} {E : gE} (J : J_X0_close E l) (r1 : Nat) (x2 : Int32) (σ : gS) (M : gM) (N : gN) (hL : g_layC σ) : g_H E 0 0 0 [(0, vR 33), (1, vR r1), (2, vI x2)] [] (σ, M, N) (b_X0_close_0 r1 x2 σ M) (eIM σ N) := by
  unfold b_X0_close_0
  refine r_run J 1 (pc' := 1) (lv' := [(0, vR 33), (1, vR r1), (2, vI x2)]) (st' := [vR 33]) rfl ?_
  refine r_getI J cls0 rfl (k := 0) (by decide) wf_0_9 rfl (ly_33 hL) ?_
  show g_H E 0 0 4 [(0, vR 33), (1, vR r1), (2, vI x2)] [vI (M 33 0)] (σ, M, N) _ _
  refine r_run J 1 (pc' := 6) (lv' := [(0, vR 33), (1, vR r1), (2, vI x2)]) (st' := [vI 30, vI (M 33 0)]) rfl ?_
  refine r_icmp_lt J (tgt := 11) rfl (by decide) (fun c6 => ?_) (fun c6 => ?_)
  · refine r_run J 2 (pc' := 13) (lv' := [(3, vI 0), (0, vR 33), (1, vR r1), (2, vI x2)]) (st' := []) rfl ?_
    refine r_sub [1, 2, 3, 0] (lv' := [(0, vR 33), (1, vR r1), (2, vI x2), (3, vI 0)]) rfl ?_
    exact p_X0_close_13 J g_FU r1 x2 0 σ M N hL
  · refine r_run J 1 (pc' := 10) (lv' := [(0, vR 33), (1, vR r1), (2, vI x2)]) (st' := [vI (-1)]) rfl ?_
    exact r_iret J rfl rfl rfl rfl (by decide) (by decide)
theorem c_X0_close {l : Launch} (r1 : Nat) (x2 : Int32) (σ : gS) (M : gM) (N : gN) (hL : g_layC σ) (r : Int32 × gM) (h : f_X0_close r1 x2 σ M = some r) : g_Ct l yX0_close cX0_close 4 (some .int) 2 0 0 [vR 33, vR r1, vI x2] (σ, M, N) (eIM σ N r) :=
  g_Ct.of tb_X0_close (by decide +kernel) tk_X0_close (Nat.le_of_ble_eq_true rfl) (fun E J => p_X0_close_0 J r1 x2 σ M N hL r h)
def tb_X11_isWithin : gT := [(0, .iload_n 0, 1, 0), (1, .iload_n 1, 1, 0), (2, .if_icmp .lt 12, 3, 0), (5, .iload_n 0, 1, 0), (6, .iload_n 2, 1, 0), (7, .if_icmp .gt 7, 3, 0), (10, .iconst 1, 1, 1), (11, .goto 4, 3, 0), (14, .iconst 0, 1, 0), (15, .ireturn, 1, 0)]
set_option maxRecDepth 100000 in
theorem tk_X11_isWithin : g_okT cX11_isWithin tb_X11_isWithin = true := by decide +kernel
abbrev J_X11_isWithin (E : gE) (l : Launch) : Prop := g_J E cX11_isWithin RX11 "isWithin" (some .boolean) 3 tb_X11_isWithin 1 0 0 l
set_option maxHeartbeats 4000000 in
set_option maxRecDepth 100000 in
theorem p_X11_isWithin_0 {l : Launch} {E : gE} (J : J_X11_isWithin E l) (x0 : Int32) (x1 : Int32) (x2 : Int32) (σ : gS) (M : gM) (N : gN) (hL : g_layC σ) : g_H E 0 0 0 [(0, vI x0), (1, vI x1), (2, vI x2)] [] (σ, M, N) (b_X11_isWithin_0 x0 x1 x2) (eI σ M N) := by
  unfold b_X11_isWithin_0
  refine r_run J 2 (pc' := 2) (lv' := [(0, vI x0), (1, vI x1), (2, vI x2)]) (st' := [vI x1, vI x0]) rfl ?_
  refine r_icmp_lt J (tgt := 14) rfl (by decide) (fun c2 => ?_) (fun c2 => ?_)
  · refine r_run J 1 (pc' := 15) (lv' := [(0, vI x0), (1, vI x1), (2, vI x2)]) (st' := [vI 0]) rfl ?_
    exact r_iret J rfl rfl rfl rfl (by decide) (by decide)
  · refine r_run J 2 (pc' := 7) (lv' := [(0, vI x0), (1, vI x1), (2, vI x2)]) (st' := [vI x2, vI x0]) rfl ?_
    refine r_icmp_gt J (tgt := 14) rfl (by decide) (fun c7 => ?_) (fun c7 => ?_)
    · refine r_run J 1 (pc' := 15) (lv' := [(0, vI x0), (1, vI x1), (2, vI x2)]) (st' := [vI 0]) rfl ?_
      exact r_iret J rfl rfl rfl rfl (by decide) (by decide)
    · refine r_run J 2 (pc' := 15) (lv' := [(0, vI x0), (1, vI x1), (2, vI x2)]) (st' := [vI 1]) rfl ?_
      exact r_iret J rfl rfl rfl rfl (by decide) (by decide)
theorem c_X11_isWithin {l : Launch} (x0 : Int32) (x1 : Int32) (x2 : Int32) (σ : gS) (M : gM) (N : gN) (hL : g_layC σ) (r : Int32) (h : f_X11_isWithin x0 x1 x2 = some r) : g_Ct l yX11_isWithin cX11_isWithin 3 (some .boolean) 1 0 0 [vI x0, vI x1, vI x2] (σ, M, N) (eI σ M N r) :=
  g_Ct.of tb_X11_isWithin (by decide +kernel) tk_X11_isWithin (Nat.le_of_ble_eq_true rfl) (fun E J => p_X11_isWithin_0 J x0 x1 x2 σ M N hL r h)
def tb_X0_roomOfGuest : gT := [(0, .iload_n 1, 1, 0), (1, .iconst 0, 1, 0), (2, .aload_n 0, 1, 0), (3, .getfield 9, 3, 0), (6, .iconst 1, 1, 1), (7, .isub, 1, 0), (8, .invokestatic 28, 3, 0), (11, .ifCond .eq 17, 3, 0), (14, .iload_n 2, 1, 0), (15, .iconst 0, 1, 0), (16, .bipush 9, 2, 9), (18, .invokestatic 28, 3, 0), (21, .ifCond .eq 7, 3, 0), (24, .iconst 1, 1, 1), (25, .goto 4, 3, 0), (28, .iconst 0, 1, 0), (29, .istore_n 3, 1, 0), (30, .iload_n 3, 1, 0), (31, .ifCond .eq 17, 3, 0), (34, .aload_n 0, 1, 0), (35, .getfield 19, 3, 0), (38, .iload_n 1, 1, 0), (39, .bipush 10, 2, 10), (41, .imul, 1, 0), (42, .iload_n 2, 1, 0), (43, .iadd, 1, 0), (44, .iaload, 1, 0), (45, .goto 4, 3, 0), (48, .iconst (-1), 1, (-1)), (49, .ireturn, 1, 0)]
set_option maxRecDepth 100000 in
theorem tk_X0_roomOfGuest : g_okT cX0_roomOfGuest tb_X0_roomOfGuest = true := by decide +kernel
abbrev J_X0_roomOfGuest (E : gE) (l : Launch) : Prop := g_J E cX0_roomOfGuest RX0 "roomOfGuest" (some .int) 4 tb_X0_roomOfGuest 2 0 0 l
set_option maxHeartbeats 4000000 in
set_option maxRecDepth 100000 in
theorem p_X0_roomOfGuest_29 {l : Launch} {E : gE} (J : J_X0_roomOfGuest E l) (x1 : Int32) (x2 : Int32) (sx0 : Int32) (σ : gS) (M : gM) (N : gN) (hL : g_layC σ) : g_H E 0 0 29 [(0, vR 33), (1, vI x1), (2, vI x2)] [vI sx0] (σ, M, N) (b_X0_roomOfGuest_29 x1 x2 sx0 σ M) (eI σ M N) := by
  unfold b_X0_roomOfGuest_29
  refine r_run J 2 (pc' := 31) (lv' := [(3, vI sx0), (0, vR 33), (1, vI x1), (2, vI x2)]) (st' := [vI sx0]) rfl ?_
  refine r_if_eq J (tgt := 48) rfl (by decide) (fun c31 => ?_) (fun c31 => ?_)
  · refine r_run J 1 (pc' := 49) (lv' := [(3, vI sx0), (0, vR 33), (1, vI x1), (2, vI x2)]) (st' := [vI (-1)]) rfl ?_
    exact r_iret J rfl rfl rfl rfl (by decide) (by decide)
  · refine r_run J 1 (pc' := 35) (lv' := [(3, vI sx0), (0, vR 33), (1, vI x1), (2, vI x2)]) (st' := [vR 33]) rfl ?_
    refine r_getR J cls0 rfl (k := 2) (t := 14) (by decide) wf_0_19 rfl rfl (ly_33 hL) (lr_33_2 hL) (fun _ => ?_)
    show g_H E 0 0 38 [(3, vI sx0), (0, vR 33), (1, vI x1), (2, vI x2)] [vR 35] (σ, M, N) _ _
    refine r_run J 5 (pc' := 44) (lv' := [(3, vI sx0), (0, vR 33), (1, vI x1), (2, vI x2)]) (st' := [vI ((x1 * (10 : Int32)) + x2), vR 35]) rfl ?_
    refine r_iald J rfl (ly_35 hL) (fun i44 => ?_)
    show g_H E 0 0 45 [(3, vI sx0), (0, vR 33), (1, vI x1), (2, vI x2)] [vI (M 35 ((x1 * (10 : Int32)) + x2).toNatClampNeg)] (σ, M, N) _ _
    refine r_run J 1 (pc' := 49) (lv' := [(3, vI sx0), (0, vR 33), (1, vI x1), (2, vI x2)]) (st' := [vI (M 35 ((x1 * (10 : Int32)) + x2).toNatClampNeg)]) rfl ?_
    exact r_iret J rfl rfl rfl rfl (by decide) (by decide)
set_option maxHeartbeats 4000000 in
set_option maxRecDepth 100000 in
theorem p_X0_roomOfGuest_28 {l : Launch} {E : gE} (J : J_X0_roomOfGuest E l) (x1 : Int32) (x2 : Int32) (σ : gS) (M : gM) (N : gN) (hL : g_layC σ) : g_H E 0 0 28 [(0, vR 33), (1, vI x1), (2, vI x2)] [] (σ, M, N) (b_X0_roomOfGuest_28 x1 x2 σ M) (eI σ M N) := by
  unfold b_X0_roomOfGuest_28
  refine r_run J 1 (pc' := 29) (lv' := [(0, vR 33), (1, vI x1), (2, vI x2)]) (st' := [vI 0]) rfl ?_
  exact p_X0_roomOfGuest_29 J x1 x2 0 σ M N hL
set_option maxHeartbeats 4000000 in
set_option maxRecDepth 100000 in
theorem p_X0_roomOfGuest_0 {l : Launch} {E : gE} (J : J_X0_roomOfGuest E l) (x1 : Int32) (x2 : Int32) (σ : gS) (M : gM) (N : gN) (hL : g_layC σ) : g_H E 0 0 0 [(0, vR 33), (1, vI x1), (2, vI x2)] [] (σ, M, N) (b_X0_roomOfGuest_0 x1 x2 σ M) (eI σ M N) := by
  unfold b_X0_roomOfGuest_0
  refine r_run J 3 (pc' := 3) (lv' := [(0, vR 33), (1, vI x1), (2, vI x2)]) (st' := [vR 33, vI 0, vI x1]) rfl ?_
  refine r_getI J cls0 rfl (k := 0) (by decide) wf_0_9 rfl (ly_33 hL) ?_
  show g_H E 0 0 6 [(0, vR 33), (1, vI x1), (2, vI x2)] [vI (M 33 0), vI 0, vI x1] (σ, M, N) _ _
  refine r_run J 2 (pc' := 8) (lv' := [(0, vR 33), (1, vI x1), (2, vI x2)]) (st' := [vI ((M 33 0) - (1 : Int32)), vI 0, vI x1]) rfl ?_
  refine r_callSN J (As := [vI x1, vI 0, vI ((M 33 0) - (1 : Int32))]) (st := []) (fun r hr => c_X11_isWithin x1 0 ((M 33 0) - (1 : Int32)) σ M N hL r hr) wn_0_28 wy_X11_isWithin wd_X11_isWithin ⟨by decide, by decide, by decide, by decide, Nat.le_of_ble_eq_true rfl⟩ rfl rfl (fun q8 hq8 => ?_)
  show g_H E 0 0 11 [(0, vR 33), (1, vI x1), (2, vI x2)] [vI q8] (σ, M, N) _ _
  refine r_if_eq J (tgt := 28) rfl (by decide) (fun c11 => ?_) (fun c11 => ?_)
  · exact p_X0_roomOfGuest_28 J x1 x2 σ M N hL
  · refine r_run J 3 (pc' := 18) (lv' := [(0, vR 33), (1, vI x1), (2, vI x2)]) (st' := [vI 9, vI 0, vI x2]) rfl ?_
    refine r_callSN J (As := [vI x2, vI 0, vI 9]) (st := []) (fun r hr => c_X11_isWithin x2 0 9 σ M N hL r hr) wn_0_28 wy_X11_isWithin wd_X11_isWithin ⟨by decide, by decide, by decide, by decide, Nat.le_of_ble_eq_true rfl⟩ rfl rfl (fun q18 hq18 => ?_)
    show g_H E 0 0 21 [(0, vR 33), (1, vI x1), (2, vI x2)] [vI q18] (σ, M, N) _ _
    refine r_if_eq J (tgt := 28) rfl (by decide) (fun c21 => ?_) (fun c21 => ?_)
    · exact p_X0_roomOfGuest_28 J x1 x2 σ M N hL
    · refine r_run J 2 (pc' := 29) (lv' := [(0, vR 33), (1, vI x1), (2, vI x2)]) (st' := [vI 1]) rfl ?_
      exact p_X0_roomOfGuest_29 J x1 x2 1 σ M N hL
theorem c_X0_roomOfGuest {l : Launch} (x1 : Int32) (x2 : Int32) (σ : gS) (M : gM) (N : gN) (hL : g_layC σ) (r : Int32) (h : f_X0_roomOfGuest x1 x2 σ M = some r) : g_Ct l yX0_roomOfGuest cX0_roomOfGuest 4 (some .int) 2 0 0 [vR 33, vI x1, vI x2] (σ, M, N) (eI σ M N r) :=
  g_Ct.of tb_X0_roomOfGuest (by decide +kernel) tk_X0_roomOfGuest (Nat.le_of_ble_eq_true rfl) (fun E J => p_X0_roomOfGuest_0 J x1 x2 σ M N hL r h)
def tb_X1_init : gT := [(0, .aload_n 0, 1, 0), (1, .invokespecial 5, 3, 0), (4, .aload_n 0, 1, 0), (5, .iconst 0, 1, 0), (6, .putfield 11, 3, 0), (9, .aload_n 0, 1, 0), (10, .bipush 7, 2, 7), (12, .newarray .int, 2, 0), (14, .putfield 15, 3, 0), (17, .aload_n 0, 1, 0), (18, .bipush 7, 2, 7), (20, .newarray .int, 2, 0), (22, .putfield 19, 3, 0), (25, .aload_n 0, 1, 0), (26, .bipush 7, 2, 7), (28, .newarray .int, 2, 0), (30, .putfield 22, 3, 0), (33, .aload_n 0, 1, 0), (34, .bipush 49, 2, 49), (36, .newarray .int, 2, 0), (38, .putfield 25, 3, 0), (41, .aload_n 0, 1, 0), (42, .bipush 6, 2, 6), (44, .newarray .int, 2, 0), (46, .putfield 28, 3, 0), (49, .aload_n 0, 1, 0), (50, .bipush 6, 2, 6), (52, .newarray .int, 2, 0), (54, .putfield 31, 3, 0), (57, .aload_n 0, 1, 0), (58, .bipush 6, 2, 6), (60, .newarray .int, 2, 0), (62, .putfield 34, 3, 0), (65, .aload_n 0, 1, 0), (66, .bipush 6, 2, 6), (68, .newarray .int, 2, 0), (70, .putfield 37, 3, 0), (73, .aload_n 0, 1, 0), (74, .iconst 0, 1, 0), (75, .putfield 40, 3, 0), (78, .aload_n 0, 1, 0), (79, .iconst 0, 1, 0), (80, .putfield 44, 3, 0), (83, .aload_n 0, 1, 0), (84, .iconst 0, 1, 0), (85, .putfield 47, 3, 0), (88, .aload_n 0, 1, 0), (89, .iconst 0, 1, 0), (90, .putfield 50, 3, 0), (93, .aload_n 0, 1, 0), (94, .iconst 0, 1, 0), (95, .putfield 53, 3, 0), (98, .return_, 1, 0)]
set_option maxRecDepth 100000 in
theorem tk_X1_init : g_okT cX1_init tb_X1_init = true := by decide +kernel
abbrev J_X1_init (E : gE) (l : Launch) : Prop := g_J E cX1_init RX1 "<init>" none 1 tb_X1_init 1 8 94 l
set_option maxHeartbeats 4000000 in
set_option maxRecDepth 100000 in
theorem p_X1_init_93 {l : Launch} {E : gE} (J : J_X1_init E l) (σ : gS) (M : gM) (N : gN) : g_H E 8 94 93 [(0, vR 24)] [] (σ, M, N) (b_X1_init_93 σ M N) (eVSMN) := by
  unfold b_X1_init_93
  refine r_run J 2 (pc' := 95) (lv' := [(0, vR 24)]) (st' := [vI 0, vR 24]) rfl ?_
  refine r_chk (fun hs95 => ?_)
  refine r_putI J cls1 rfl (k := 13) (by decide) wf_1_53 rfl (Or.inl rfl) ⟨rfl, rfl⟩ (g_is_at hs95) ?_
  show g_H E 8 94 98 [(0, vR 24)] [] (σ, (g_up M 24 13 0), N) _ _
  exact r_vret J rfl rfl rfl (by decide) (by decide)
set_option maxHeartbeats 4000000 in
set_option maxRecDepth 100000 in
theorem p_X1_init_88 {l : Launch} {E : gE} (J : J_X1_init E l) (σ : gS) (M : gM) (N : gN) : g_H E 8 94 88 [(0, vR 24)] [] (σ, M, N) (b_X1_init_88 σ M N) (eVSMN) := by
  unfold b_X1_init_88
  refine r_run J 2 (pc' := 90) (lv' := [(0, vR 24)]) (st' := [vI 0, vR 24]) rfl ?_
  refine r_chk (fun hs90 => ?_)
  refine r_putI J cls1 rfl (k := 12) (by decide) wf_1_50 rfl (Or.inl rfl) ⟨rfl, rfl⟩ (g_is_at hs90) ?_
  show g_H E 8 94 93 [(0, vR 24)] [] (σ, (g_up M 24 12 0), N) _ _
  exact p_X1_init_93 J σ (g_up M 24 12 0) N
set_option maxHeartbeats 4000000 in
set_option maxRecDepth 100000 in
theorem p_X1_init_83 {l : Launch} {E : gE} (J : J_X1_init E l) (σ : gS) (M : gM) (N : gN) : g_H E 8 94 83 [(0, vR 24)] [] (σ, M, N) (b_X1_init_83 σ M N) (eVSMN) := by
  unfold b_X1_init_83
  refine r_run J 2 (pc' := 85) (lv' := [(0, vR 24)]) (st' := [vI 0, vR 24]) rfl ?_
  refine r_chk (fun hs85 => ?_)
  refine r_putI J cls1 rfl (k := 11) (by decide) wf_1_47 rfl (Or.inl rfl) ⟨rfl, rfl⟩ (g_is_at hs85) ?_
  show g_H E 8 94 88 [(0, vR 24)] [] (σ, (g_up M 24 11 0), N) _ _
  exact p_X1_init_88 J σ (g_up M 24 11 0) N
set_option maxHeartbeats 4000000 in
set_option maxRecDepth 100000 in
theorem p_X1_init_78 {l : Launch} {E : gE} (J : J_X1_init E l) (σ : gS) (M : gM) (N : gN) : g_H E 8 94 78 [(0, vR 24)] [] (σ, M, N) (b_X1_init_78 σ M N) (eVSMN) := by
  unfold b_X1_init_78
  refine r_run J 2 (pc' := 80) (lv' := [(0, vR 24)]) (st' := [vI 0, vR 24]) rfl ?_
  refine r_chk (fun hs80 => ?_)
  refine r_putI J cls1 rfl (k := 10) (by decide) wf_1_44 rfl (Or.inl rfl) ⟨rfl, rfl⟩ (g_is_at hs80) ?_
  show g_H E 8 94 83 [(0, vR 24)] [] (σ, (g_up M 24 10 0), N) _ _
  exact p_X1_init_83 J σ (g_up M 24 10 0) N
set_option maxHeartbeats 4000000 in
set_option maxRecDepth 100000 in
theorem p_X1_init_73 {l : Launch} {E : gE} (J : J_X1_init E l) (σ : gS) (M : gM) (N : gN) : g_H E 8 94 73 [(0, vR 24)] [] (σ, M, N) (b_X1_init_73 σ M N) (eVSMN) := by
  unfold b_X1_init_73
  refine r_run J 2 (pc' := 75) (lv' := [(0, vR 24)]) (st' := [vI 0, vR 24]) rfl ?_
  refine r_chk (fun hs75 => ?_)
  refine r_putI J cls1 rfl (k := 9) (by decide) wf_1_40 rfl (Or.inl rfl) ⟨rfl, rfl⟩ (g_is_at hs75) ?_
  show g_H E 8 94 78 [(0, vR 24)] [] (σ, (g_up M 24 9 0), N) _ _
  exact p_X1_init_78 J σ (g_up M 24 9 0) N
set_option maxHeartbeats 4000000 in
set_option maxRecDepth 100000 in
theorem p_X1_init_65 {l : Launch} {E : gE} (J : J_X1_init E l) (σ : gS) (M : gM) (N : gN) : g_H E 7 88 65 [(0, vR 24)] [] (σ, M, N) (b_X1_init_65 σ M N) (eVSMN) := by
  unfold b_X1_init_65
  refine r_run J 2 (pc' := 68) (lv' := [(0, vR 24)]) (st' := [vI 6, vR 24]) rfl ?_
  refine r_chk (fun hf68 => ?_)
  refine r_newI J (B := 6) rfl wa_int (by decide) rfl (Nat.le_refl _) (by decide) (g_fr_0 hf68) (g_fr_n hf68) (by decide) (by decide) ?_
  show g_H E 8 94 70 [(0, vR 24)] [vR 32, vR 24] ((g_nS σ 32 14 6), (g_z M 32 0), (g_z N 32 0)) _ _
  refine r_chk (fun hs70 => ?_)
  refine r_putR J cls1 rfl (k := 8) (t := 14) (by decide) wf_1_37 rfl rfl (Or.inr ⟨rfl, rfl, rfl⟩) (g_is_at hs70) (Or.inr ⟨_, (g_nS_at σ 32 14 6)⟩) ?_
  show g_H E 8 94 73 [(0, vR 24)] [] ((g_pS (g_nS σ 32 14 6) 24 8 32), (g_z M 32 0), (g_z N 32 0)) _ _
  exact p_X1_init_73 J (g_pS (g_nS σ 32 14 6) 24 8 32) (g_z M 32 0) (g_z N 32 0)
set_option maxHeartbeats 4000000 in
set_option maxRecDepth 100000 in
theorem p_X1_init_57 {l : Launch} {E : gE} (J : J_X1_init E l) (σ : gS) (M : gM) (N : gN) : g_H E 6 82 57 [(0, vR 24)] [] (σ, M, N) (b_X1_init_57 σ M N) (eVSMN) := by
  unfold b_X1_init_57
  refine r_run J 2 (pc' := 60) (lv' := [(0, vR 24)]) (st' := [vI 6, vR 24]) rfl ?_
  refine r_chk (fun hf60 => ?_)
  refine r_newI J (B := 6) rfl wa_int (by decide) rfl (Nat.le_refl _) (by decide) (g_fr_0 hf60) (g_fr_n hf60) (by decide) (by decide) ?_
  show g_H E 7 88 62 [(0, vR 24)] [vR 31, vR 24] ((g_nS σ 31 14 6), (g_z M 31 0), (g_z N 31 0)) _ _
  refine r_chk (fun hs62 => ?_)
  refine r_putR J cls1 rfl (k := 7) (t := 14) (by decide) wf_1_34 rfl rfl (Or.inr ⟨rfl, rfl, rfl⟩) (g_is_at hs62) (Or.inr ⟨_, (g_nS_at σ 31 14 6)⟩) ?_
  show g_H E 7 88 65 [(0, vR 24)] [] ((g_pS (g_nS σ 31 14 6) 24 7 31), (g_z M 31 0), (g_z N 31 0)) _ _
  exact p_X1_init_65 J (g_pS (g_nS σ 31 14 6) 24 7 31) (g_z M 31 0) (g_z N 31 0)
set_option maxHeartbeats 4000000 in
set_option maxRecDepth 100000 in
theorem p_X1_init_49 {l : Launch} {E : gE} (J : J_X1_init E l) (σ : gS) (M : gM) (N : gN) : g_H E 5 76 49 [(0, vR 24)] [] (σ, M, N) (b_X1_init_49 σ M N) (eVSMN) := by
  unfold b_X1_init_49
  refine r_run J 2 (pc' := 52) (lv' := [(0, vR 24)]) (st' := [vI 6, vR 24]) rfl ?_
  refine r_chk (fun hf52 => ?_)
  refine r_newI J (B := 6) rfl wa_int (by decide) rfl (Nat.le_refl _) (by decide) (g_fr_0 hf52) (g_fr_n hf52) (by decide) (by decide) ?_
  show g_H E 6 82 54 [(0, vR 24)] [vR 30, vR 24] ((g_nS σ 30 14 6), (g_z M 30 0), (g_z N 30 0)) _ _
  refine r_chk (fun hs54 => ?_)
  refine r_putR J cls1 rfl (k := 6) (t := 14) (by decide) wf_1_31 rfl rfl (Or.inr ⟨rfl, rfl, rfl⟩) (g_is_at hs54) (Or.inr ⟨_, (g_nS_at σ 30 14 6)⟩) ?_
  show g_H E 6 82 57 [(0, vR 24)] [] ((g_pS (g_nS σ 30 14 6) 24 6 30), (g_z M 30 0), (g_z N 30 0)) _ _
  exact p_X1_init_57 J (g_pS (g_nS σ 30 14 6) 24 6 30) (g_z M 30 0) (g_z N 30 0)
set_option maxHeartbeats 4000000 in
set_option maxRecDepth 100000 in
theorem p_X1_init_41 {l : Launch} {E : gE} (J : J_X1_init E l) (σ : gS) (M : gM) (N : gN) : g_H E 4 70 41 [(0, vR 24)] [] (σ, M, N) (b_X1_init_41 σ M N) (eVSMN) := by
  unfold b_X1_init_41
  refine r_run J 2 (pc' := 44) (lv' := [(0, vR 24)]) (st' := [vI 6, vR 24]) rfl ?_
  refine r_chk (fun hf44 => ?_)
  refine r_newI J (B := 6) rfl wa_int (by decide) rfl (Nat.le_refl _) (by decide) (g_fr_0 hf44) (g_fr_n hf44) (by decide) (by decide) ?_
  show g_H E 5 76 46 [(0, vR 24)] [vR 29, vR 24] ((g_nS σ 29 14 6), (g_z M 29 0), (g_z N 29 0)) _ _
  refine r_chk (fun hs46 => ?_)
  refine r_putR J cls1 rfl (k := 5) (t := 14) (by decide) wf_1_28 rfl rfl (Or.inr ⟨rfl, rfl, rfl⟩) (g_is_at hs46) (Or.inr ⟨_, (g_nS_at σ 29 14 6)⟩) ?_
  show g_H E 5 76 49 [(0, vR 24)] [] ((g_pS (g_nS σ 29 14 6) 24 5 29), (g_z M 29 0), (g_z N 29 0)) _ _
  exact p_X1_init_49 J (g_pS (g_nS σ 29 14 6) 24 5 29) (g_z M 29 0) (g_z N 29 0)
set_option maxHeartbeats 4000000 in
set_option maxRecDepth 100000 in
theorem p_X1_init_33 {l : Launch} {E : gE} (J : J_X1_init E l) (σ : gS) (M : gM) (N : gN) : g_H E 3 21 33 [(0, vR 24)] [] (σ, M, N) (b_X1_init_33 σ M N) (eVSMN) := by
  unfold b_X1_init_33
  refine r_run J 2 (pc' := 36) (lv' := [(0, vR 24)]) (st' := [vI 49, vR 24]) rfl ?_
  refine r_chk (fun hf36 => ?_)
  refine r_newI J (B := 49) rfl wa_int (by decide) rfl (Nat.le_refl _) (by decide) (g_fr_0 hf36) (g_fr_n hf36) (by decide) (by decide) ?_
  show g_H E 4 70 38 [(0, vR 24)] [vR 28, vR 24] ((g_nS σ 28 14 49), (g_z M 28 0), (g_z N 28 0)) _ _
  refine r_chk (fun hs38 => ?_)
  refine r_putR J cls1 rfl (k := 4) (t := 14) (by decide) wf_1_25 rfl rfl (Or.inr ⟨rfl, rfl, rfl⟩) (g_is_at hs38) (Or.inr ⟨_, (g_nS_at σ 28 14 49)⟩) ?_
  show g_H E 4 70 41 [(0, vR 24)] [] ((g_pS (g_nS σ 28 14 49) 24 4 28), (g_z M 28 0), (g_z N 28 0)) _ _
  exact p_X1_init_41 J (g_pS (g_nS σ 28 14 49) 24 4 28) (g_z M 28 0) (g_z N 28 0)
set_option maxHeartbeats 4000000 in
set_option maxRecDepth 100000 in
theorem p_X1_init_25 {l : Launch} {E : gE} (J : J_X1_init E l) (σ : gS) (M : gM) (N : gN) : g_H E 2 14 25 [(0, vR 24)] [] (σ, M, N) (b_X1_init_25 σ M N) (eVSMN) := by
  unfold b_X1_init_25
  refine r_run J 2 (pc' := 28) (lv' := [(0, vR 24)]) (st' := [vI 7, vR 24]) rfl ?_
  refine r_chk (fun hf28 => ?_)
  refine r_newI J (B := 7) rfl wa_int (by decide) rfl (Nat.le_refl _) (by decide) (g_fr_0 hf28) (g_fr_n hf28) (by decide) (by decide) ?_
  show g_H E 3 21 30 [(0, vR 24)] [vR 27, vR 24] ((g_nS σ 27 14 7), (g_z M 27 0), (g_z N 27 0)) _ _
  refine r_chk (fun hs30 => ?_)
  refine r_putR J cls1 rfl (k := 3) (t := 14) (by decide) wf_1_22 rfl rfl (Or.inr ⟨rfl, rfl, rfl⟩) (g_is_at hs30) (Or.inr ⟨_, (g_nS_at σ 27 14 7)⟩) ?_
  show g_H E 3 21 33 [(0, vR 24)] [] ((g_pS (g_nS σ 27 14 7) 24 3 27), (g_z M 27 0), (g_z N 27 0)) _ _
  exact p_X1_init_33 J (g_pS (g_nS σ 27 14 7) 24 3 27) (g_z M 27 0) (g_z N 27 0)
set_option maxHeartbeats 4000000 in
set_option maxRecDepth 100000 in
theorem p_X1_init_17 {l : Launch} {E : gE} (J : J_X1_init E l) (σ : gS) (M : gM) (N : gN) : g_H E 1 7 17 [(0, vR 24)] [] (σ, M, N) (b_X1_init_17 σ M N) (eVSMN) := by
  unfold b_X1_init_17
  refine r_run J 2 (pc' := 20) (lv' := [(0, vR 24)]) (st' := [vI 7, vR 24]) rfl ?_
  refine r_chk (fun hf20 => ?_)
  refine r_newI J (B := 7) rfl wa_int (by decide) rfl (Nat.le_refl _) (by decide) (g_fr_0 hf20) (g_fr_n hf20) (by decide) (by decide) ?_
  show g_H E 2 14 22 [(0, vR 24)] [vR 26, vR 24] ((g_nS σ 26 14 7), (g_z M 26 0), (g_z N 26 0)) _ _
  refine r_chk (fun hs22 => ?_)
  refine r_putR J cls1 rfl (k := 2) (t := 14) (by decide) wf_1_19 rfl rfl (Or.inr ⟨rfl, rfl, rfl⟩) (g_is_at hs22) (Or.inr ⟨_, (g_nS_at σ 26 14 7)⟩) ?_
  show g_H E 2 14 25 [(0, vR 24)] [] ((g_pS (g_nS σ 26 14 7) 24 2 26), (g_z M 26 0), (g_z N 26 0)) _ _
  exact p_X1_init_25 J (g_pS (g_nS σ 26 14 7) 24 2 26) (g_z M 26 0) (g_z N 26 0)
set_option maxHeartbeats 4000000 in
set_option maxRecDepth 100000 in
theorem p_X1_init_9 {l : Launch} {E : gE} (J : J_X1_init E l) (σ : gS) (M : gM) (N : gN) : g_H E 0 0 9 [(0, vR 24)] [] (σ, M, N) (b_X1_init_9 σ M N) (eVSMN) := by
  unfold b_X1_init_9
  refine r_run J 2 (pc' := 12) (lv' := [(0, vR 24)]) (st' := [vI 7, vR 24]) rfl ?_
  refine r_chk (fun hf12 => ?_)
  refine r_newI J (B := 7) rfl wa_int (by decide) rfl (Nat.le_refl _) (by decide) (g_fr_0 hf12) (g_fr_n hf12) (by decide) (by decide) ?_
  show g_H E 1 7 14 [(0, vR 24)] [vR 25, vR 24] ((g_nS σ 25 14 7), (g_z M 25 0), (g_z N 25 0)) _ _
  refine r_chk (fun hs14 => ?_)
  refine r_putR J cls1 rfl (k := 1) (t := 14) (by decide) wf_1_15 rfl rfl (Or.inr ⟨rfl, rfl, rfl⟩) (g_is_at hs14) (Or.inr ⟨_, (g_nS_at σ 25 14 7)⟩) ?_
  show g_H E 1 7 17 [(0, vR 24)] [] ((g_pS (g_nS σ 25 14 7) 24 1 25), (g_z M 25 0), (g_z N 25 0)) _ _
  exact p_X1_init_17 J (g_pS (g_nS σ 25 14 7) 24 1 25) (g_z M 25 0) (g_z N 25 0)
set_option maxHeartbeats 4000000 in
set_option maxRecDepth 100000 in
theorem p_X1_init_0 {l : Launch} {E : gE} (J : J_X1_init E l) (σ : gS) (M : gM) (N : gN) : g_H E 0 0 0 [(0, vR 24)] [] (σ, M, N) (b_X1_init_0 σ M N) (eVSMN) := by
  unfold b_X1_init_0
  refine r_run J 1 (pc' := 1) (lv' := [(0, vR 24)]) (st' := [vR 24]) rfl ?_
  refine r_chk (fun hs1 => ?_)
  refine r_objI J (by rw [(g_is_at hs1)]; exact Option.some_ne_none _) wm_1_5 w_obj rfl ⟨by decide, Nat.le_of_ble_eq_true rfl⟩ ?_
  refine r_run J 2 (pc' := 6) (lv' := [(0, vR 24)]) (st' := [vI 0, vR 24]) rfl ?_
  refine r_putI J cls1 rfl (k := 0) (by decide) wf_1_11 rfl (Or.inl rfl) ⟨rfl, rfl⟩ (g_is_at hs1) ?_
  show g_H E 0 0 9 [(0, vR 24)] [] (σ, (g_up M 24 0 0), N) _ _
  exact p_X1_init_9 J σ (g_up M 24 0 0) N
theorem c_X1_init {l : Launch} (σ : gS) (M : gM) (N : gN) (r : gS × gM × gN) (h : f_X1_init σ M N = some r) : g_Ct l yX1_init cX1_init 1 none 1 8 94 [vR 24] (σ, M, N) (eVSMN r) :=
  g_Ct.of tb_X1_init (by decide +kernel) tk_X1_init (Nat.le_of_ble_eq_true rfl) (fun E J => p_X1_init_0 J σ M N r h)
def tb_X1_addSight : gT := [(0, .iload_n 1, 1, 0), (1, .iconst 0, 1, 0), (2, .sipush 1440, 3, 1440), (5, .invokestatic 56, 3, 0), (8, .ifCond .eq 18, 3, 0), (11, .iload_n 2, 1, 0), (12, .iconst 0, 1, 0), (13, .sipush 1440, 3, 1440), (16, .invokestatic 56, 3, 0), (19, .ifCond .eq 7, 3, 0), (22, .iconst 1, 1, 1), (23, .goto 4, 3, 0), (26, .iconst 0, 1, 0), (27, .istore 4, 2, 0), (29, .iload 4, 2, 0), (31, .ifCond .eq 21, 3, 0), (34, .iload_n 3, 1, 0), (35, .iconst 1, 1, 1), (36, .sipush 300, 3, 300), (39, .invokestatic 56, 3, 0), (42, .ifCond .eq 10, 3, 0), (45, .iload_n 1, 1, 0), (46, .iload_n 3, 1, 0), (47, .iadd, 1, 0), (48, .iload_n 2, 1, 0), (49, .if_icmp .le 5, 3, 0), (52, .iconst (-1), 1, (-1)), (53, .ireturn, 1, 0), (54, .aload_n 0, 1, 0), (55, .getfield 11, 3, 0), (58, .bipush 6, 2, 6), (60, .if_icmp .lt 5, 3, 0), (63, .iconst (-1), 1, (-1)), (64, .ireturn, 1, 0), (65, .aload_n 0, 1, 0), (66, .dup, 1, 0), (67, .getfield 11, 3, 0), (70, .iconst 1, 1, 1), (71, .iadd, 1, 0), (72, .putfield 11, 3, 0), (75, .aload_n 0, 1, 0), (76, .getfield 15, 3, 0), (79, .aload_n 0, 1, 0), (80, .getfield 11, 3, 0), (83, .iload_n 1, 1, 0), (84, .iastore, 1, 0), (85, .aload_n 0, 1, 0), (86, .getfield 19, 3, 0), (89, .aload_n 0, 1, 0), (90, .getfield 11, 3, 0), (93, .iload_n 2, 1, 0), (94, .iastore, 1, 0), (95, .aload_n 0, 1, 0), (96, .getfield 22, 3, 0), (99, .aload_n 0, 1, 0), (100, .getfield 11, 3, 0), (103, .iload_n 3, 1, 0), (104, .iastore, 1, 0), (105, .aload_n 0, 1, 0), (106, .getfield 11, 3, 0), (109, .ireturn, 1, 0)]
set_option maxRecDepth 100000 in
theorem tk_X1_addSight : g_okT cX1_addSight tb_X1_addSight = true := by decide +kernel
abbrev J_X1_addSight (E : gE) (l : Launch) : Prop := g_J E cX1_addSight RX1 "addSight" (some .int) 5 tb_X1_addSight 2 0 0 l
set_option maxHeartbeats 4000000 in
set_option maxRecDepth 100000 in
theorem p_X1_addSight_95 {l : Launch} {E : gE} (J : J_X1_addSight E l) (x3 : Int32) (σ : gS) (M : gM) (N : gN) (hL : g_layC σ) : g_H E 0 0 95 [(0, vR 24), (3, vI x3)] [] (σ, M, N) (b_X1_addSight_95 x3 σ M) (eIM σ N) := by
  unfold b_X1_addSight_95
  refine r_run J 1 (pc' := 96) (lv' := [(0, vR 24), (3, vI x3)]) (st' := [vR 24]) rfl ?_
  refine r_getR J cls1 rfl (k := 3) (t := 14) (by decide) wf_1_22 rfl rfl (ly_24 hL) (lr_24_3 hL) (fun _ => ?_)
  show g_H E 0 0 99 [(0, vR 24), (3, vI x3)] [vR 27] (σ, M, N) _ _
  refine r_run J 1 (pc' := 100) (lv' := [(0, vR 24), (3, vI x3)]) (st' := [vR 24, vR 27]) rfl ?_
  refine r_getI J cls1 rfl (k := 0) (by decide) wf_1_11 rfl (ly_24 hL) ?_
  show g_H E 0 0 103 [(0, vR 24), (3, vI x3)] [vI (M 24 0), vR 27] (σ, M, N) _ _
  refine r_run J 1 (pc' := 104) (lv' := [(0, vR 24), (3, vI x3)]) (st' := [vI x3, vI (M 24 0), vR 27]) rfl ?_
  refine r_iast J rfl (ly_27 hL) (fun i104 => ?_)
  show g_H E 0 0 105 [(0, vR 24), (3, vI x3)] [] (σ, (g_up M 27 ((M 24 0).toNatClampNeg) x3), N) _ _
  refine r_run J 1 (pc' := 106) (lv' := [(0, vR 24), (3, vI x3)]) (st' := [vR 24]) rfl ?_
  refine r_getI J cls1 rfl (k := 0) (by decide) wf_1_11 rfl (ly_24 hL) ?_
  show g_H E 0 0 109 [(0, vR 24), (3, vI x3)] [vI ((g_up M 27 ((M 24 0).toNatClampNeg) x3) 24 0)] (σ, (g_up M 27 ((M 24 0).toNatClampNeg) x3), N) _ _
  exact r_iret J rfl rfl rfl rfl (by decide) (by decide)
set_option maxHeartbeats 4000000 in
set_option maxRecDepth 100000 in
theorem p_X1_addSight_27 {l : Launch} {E : gE} (J : J_X1_addSight E l) (x1 : Int32) (x2 : Int32) (x3 : Int32) (sx0 : Int32) (σ : gS) (M : gM) (N : gN) (hL : g_layC σ) : g_H E 0 0 27 [(0, vR 24), (1, vI x1), (2, vI x2), (3, vI x3)] [vI sx0] (σ, M, N) (b_X1_addSight_27 x1 x2 x3 sx0 σ M) (eIM σ N) := by
  unfold b_X1_addSight_27
  refine r_run J 2 (pc' := 31) (lv' := [(4, vI sx0), (0, vR 24), (1, vI x1), (2, vI x2), (3, vI x3)]) (st' := [vI sx0]) rfl ?_
  refine r_if_eq J (tgt := 52) rfl (by decide) (fun c31 => ?_) (fun c31 => ?_)
  · refine r_run J 1 (pc' := 53) (lv' := [(4, vI sx0), (0, vR 24), (1, vI x1), (2, vI x2), (3, vI x3)]) (st' := [vI (-1)]) rfl ?_
    exact r_iret J rfl rfl rfl rfl (by decide) (by decide)
  · refine r_run J 3 (pc' := 39) (lv' := [(4, vI sx0), (0, vR 24), (1, vI x1), (2, vI x2), (3, vI x3)]) (st' := [vI 300, vI 1, vI x3]) rfl ?_
    refine r_callSN J (As := [vI x3, vI 1, vI 300]) (st := []) (fun r hr => c_X11_isWithin x3 1 300 σ M N hL r hr) wn_1_56 wy_X11_isWithin wd_X11_isWithin ⟨by decide, by decide, by decide, by decide, Nat.le_of_ble_eq_true rfl⟩ rfl rfl (fun q39 hq39 => ?_)
    show g_H E 0 0 42 [(4, vI sx0), (0, vR 24), (1, vI x1), (2, vI x2), (3, vI x3)] [vI q39] (σ, M, N) _ _
    refine r_if_eq J (tgt := 52) rfl (by decide) (fun c42 => ?_) (fun c42 => ?_)
    · refine r_run J 1 (pc' := 53) (lv' := [(4, vI sx0), (0, vR 24), (1, vI x1), (2, vI x2), (3, vI x3)]) (st' := [vI (-1)]) rfl ?_
      exact r_iret J rfl rfl rfl rfl (by decide) (by decide)
    · refine r_run J 4 (pc' := 49) (lv' := [(4, vI sx0), (0, vR 24), (1, vI x1), (2, vI x2), (3, vI x3)]) (st' := [vI x2, vI (x1 + x3)]) rfl ?_
      refine r_icmp_le J (tgt := 54) rfl (by decide) (fun c49 => ?_) (fun c49 => ?_)
      · refine r_run J 1 (pc' := 53) (lv' := [(4, vI sx0), (0, vR 24), (1, vI x1), (2, vI x2), (3, vI x3)]) (st' := [vI (-1)]) rfl ?_
        exact r_iret J rfl rfl rfl rfl (by decide) (by decide)
      · refine r_run J 1 (pc' := 55) (lv' := [(4, vI sx0), (0, vR 24), (1, vI x1), (2, vI x2), (3, vI x3)]) (st' := [vR 24]) rfl ?_
        refine r_getI J cls1 rfl (k := 0) (by decide) wf_1_11 rfl (ly_24 hL) ?_
        show g_H E 0 0 58 [(4, vI sx0), (0, vR 24), (1, vI x1), (2, vI x2), (3, vI x3)] [vI (M 24 0)] (σ, M, N) _ _
        refine r_run J 1 (pc' := 60) (lv' := [(4, vI sx0), (0, vR 24), (1, vI x1), (2, vI x2), (3, vI x3)]) (st' := [vI 6, vI (M 24 0)]) rfl ?_
        refine r_icmp_lt J (tgt := 65) rfl (by decide) (fun c60 => ?_) (fun c60 => ?_)
        · refine r_run J 2 (pc' := 67) (lv' := [(4, vI sx0), (0, vR 24), (1, vI x1), (2, vI x2), (3, vI x3)]) (st' := [vR 24, vR 24]) rfl ?_
          refine r_getI J cls1 rfl (k := 0) (by decide) wf_1_11 rfl (ly_24 hL) ?_
          show g_H E 0 0 70 [(4, vI sx0), (0, vR 24), (1, vI x1), (2, vI x2), (3, vI x3)] [vI (M 24 0), vR 24] (σ, M, N) _ _
          refine r_run J 2 (pc' := 72) (lv' := [(4, vI sx0), (0, vR 24), (1, vI x1), (2, vI x2), (3, vI x3)]) (st' := [vI ((M 24 0) + (1 : Int32)), vR 24]) rfl ?_
          refine r_putI J cls1 rfl (k := 0) (by decide) wf_1_11 rfl (Or.inl rfl) ⟨rfl, rfl⟩ (ly_24 hL) ?_
          show g_H E 0 0 75 [(4, vI sx0), (0, vR 24), (1, vI x1), (2, vI x2), (3, vI x3)] [] (σ, (g_up M 24 0 ((M 24 0) + (1 : Int32))), N) _ _
          refine r_run J 1 (pc' := 76) (lv' := [(4, vI sx0), (0, vR 24), (1, vI x1), (2, vI x2), (3, vI x3)]) (st' := [vR 24]) rfl ?_
          refine r_getR J cls1 rfl (k := 1) (t := 14) (by decide) wf_1_15 rfl rfl (ly_24 hL) (lr_24_1 hL) (fun _ => ?_)
          show g_H E 0 0 79 [(4, vI sx0), (0, vR 24), (1, vI x1), (2, vI x2), (3, vI x3)] [vR 25] (σ, (g_up M 24 0 ((M 24 0) + (1 : Int32))), N) _ _
          refine r_run J 1 (pc' := 80) (lv' := [(4, vI sx0), (0, vR 24), (1, vI x1), (2, vI x2), (3, vI x3)]) (st' := [vR 24, vR 25]) rfl ?_
          refine r_getI J cls1 rfl (k := 0) (by decide) wf_1_11 rfl (ly_24 hL) ?_
          show g_H E 0 0 83 [(4, vI sx0), (0, vR 24), (1, vI x1), (2, vI x2), (3, vI x3)] [vI ((g_up M 24 0 ((M 24 0) + (1 : Int32))) 24 0), vR 25] (σ, (g_up M 24 0 ((M 24 0) + (1 : Int32))), N) _ _
          refine r_run J 1 (pc' := 84) (lv' := [(4, vI sx0), (0, vR 24), (1, vI x1), (2, vI x2), (3, vI x3)]) (st' := [vI x1, vI ((g_up M 24 0 ((M 24 0) + (1 : Int32))) 24 0), vR 25]) rfl ?_
          refine r_iast J rfl (ly_25 hL) (fun i84 => ?_)
          show g_H E 0 0 85 [(4, vI sx0), (0, vR 24), (1, vI x1), (2, vI x2), (3, vI x3)] [] (σ, (g_up (g_up M 24 0 ((M 24 0) + (1 : Int32))) 25 (((g_up M 24 0 ((M 24 0) + (1 : Int32))) 24 0).toNatClampNeg) x1), N) _ _
          refine r_run J 1 (pc' := 86) (lv' := [(4, vI sx0), (0, vR 24), (1, vI x1), (2, vI x2), (3, vI x3)]) (st' := [vR 24]) rfl ?_
          refine r_getR J cls1 rfl (k := 2) (t := 14) (by decide) wf_1_19 rfl rfl (ly_24 hL) (lr_24_2 hL) (fun _ => ?_)
          show g_H E 0 0 89 [(4, vI sx0), (0, vR 24), (1, vI x1), (2, vI x2), (3, vI x3)] [vR 26] (σ, (g_up (g_up M 24 0 ((M 24 0) + (1 : Int32))) 25 (((g_up M 24 0 ((M 24 0) + (1 : Int32))) 24 0).toNatClampNeg) x1), N) _ _
          refine r_run J 1 (pc' := 90) (lv' := [(4, vI sx0), (0, vR 24), (1, vI x1), (2, vI x2), (3, vI x3)]) (st' := [vR 24, vR 26]) rfl ?_
          refine r_getI J cls1 rfl (k := 0) (by decide) wf_1_11 rfl (ly_24 hL) ?_
          show g_H E 0 0 93 [(4, vI sx0), (0, vR 24), (1, vI x1), (2, vI x2), (3, vI x3)] [vI ((g_up (g_up M 24 0 ((M 24 0) + (1 : Int32))) 25 (((g_up M 24 0 ((M 24 0) + (1 : Int32))) 24 0).toNatClampNeg) x1) 24 0), vR 26] (σ, (g_up (g_up M 24 0 ((M 24 0) + (1 : Int32))) 25 (((g_up M 24 0 ((M 24 0) + (1 : Int32))) 24 0).toNatClampNeg) x1), N) _ _
          refine r_run J 1 (pc' := 94) (lv' := [(4, vI sx0), (0, vR 24), (1, vI x1), (2, vI x2), (3, vI x3)]) (st' := [vI x2, vI ((g_up (g_up M 24 0 ((M 24 0) + (1 : Int32))) 25 (((g_up M 24 0 ((M 24 0) + (1 : Int32))) 24 0).toNatClampNeg) x1) 24 0), vR 26]) rfl ?_
          refine r_iast J rfl (ly_26 hL) (fun i94 => ?_)
          show g_H E 0 0 95 [(4, vI sx0), (0, vR 24), (1, vI x1), (2, vI x2), (3, vI x3)] [] (σ, (g_up (g_up (g_up M 24 0 ((M 24 0) + (1 : Int32))) 25 (((g_up M 24 0 ((M 24 0) + (1 : Int32))) 24 0).toNatClampNeg) x1) 26 (((g_up (g_up M 24 0 ((M 24 0) + (1 : Int32))) 25 (((g_up M 24 0 ((M 24 0) + (1 : Int32))) 24 0).toNatClampNeg) x1) 24 0).toNatClampNeg) x2), N) _ _
          refine r_sub [1, 4] (lv' := [(0, vR 24), (3, vI x3)]) rfl ?_
          exact p_X1_addSight_95 J x3 σ (g_up (g_up (g_up M 24 0 ((M 24 0) + (1 : Int32))) 25 (((g_up M 24 0 ((M 24 0) + (1 : Int32))) 24 0).toNatClampNeg) x1) 26 (((g_up (g_up M 24 0 ((M 24 0) + (1 : Int32))) 25 (((g_up M 24 0 ((M 24 0) + (1 : Int32))) 24 0).toNatClampNeg) x1) 24 0).toNatClampNeg) x2) N hL
        · refine r_run J 1 (pc' := 64) (lv' := [(4, vI sx0), (0, vR 24), (1, vI x1), (2, vI x2), (3, vI x3)]) (st' := [vI (-1)]) rfl ?_
          exact r_iret J rfl rfl rfl rfl (by decide) (by decide)
set_option maxHeartbeats 4000000 in
set_option maxRecDepth 100000 in
theorem p_X1_addSight_26 {l : Launch} {E : gE} (J : J_X1_addSight E l) (x1 : Int32) (x2 : Int32) (x3 : Int32) (σ : gS) (M : gM) (N : gN) (hL : g_layC σ) : g_H E 0 0 26 [(0, vR 24), (1, vI x1), (2, vI x2), (3, vI x3)] [] (σ, M, N) (b_X1_addSight_26 x1 x2 x3 σ M) (eIM σ N) := by
  unfold b_X1_addSight_26
  refine r_run J 1 (pc' := 27) (lv' := [(0, vR 24), (1, vI x1), (2, vI x2), (3, vI x3)]) (st' := [vI 0]) rfl ?_
  exact p_X1_addSight_27 J x1 x2 x3 0 σ M N hL
set_option maxHeartbeats 4000000 in
set_option maxRecDepth 100000 in
theorem p_X1_addSight_0 {l : Launch} {E : gE} (J : J_X1_addSight E l) (x1 : Int32) (x2 : Int32) (x3 : Int32) (σ : gS) (M : gM) (N : gN) (hL : g_layC σ) : g_H E 0 0 0 [(0, vR 24), (1, vI x1), (2, vI x2), (3, vI x3)] [] (σ, M, N) (b_X1_addSight_0 x1 x2 x3 σ M) (eIM σ N) := by
  unfold b_X1_addSight_0
  refine r_run J 3 (pc' := 5) (lv' := [(0, vR 24), (1, vI x1), (2, vI x2), (3, vI x3)]) (st' := [vI 1440, vI 0, vI x1]) rfl ?_
  refine r_callSN J (As := [vI x1, vI 0, vI 1440]) (st := []) (fun r hr => c_X11_isWithin x1 0 1440 σ M N hL r hr) wn_1_56 wy_X11_isWithin wd_X11_isWithin ⟨by decide, by decide, by decide, by decide, Nat.le_of_ble_eq_true rfl⟩ rfl rfl (fun q5 hq5 => ?_)
  show g_H E 0 0 8 [(0, vR 24), (1, vI x1), (2, vI x2), (3, vI x3)] [vI q5] (σ, M, N) _ _
  refine r_if_eq J (tgt := 26) rfl (by decide) (fun c8 => ?_) (fun c8 => ?_)
  · exact p_X1_addSight_26 J x1 x2 x3 σ M N hL
  · refine r_run J 3 (pc' := 16) (lv' := [(0, vR 24), (1, vI x1), (2, vI x2), (3, vI x3)]) (st' := [vI 1440, vI 0, vI x2]) rfl ?_
    refine r_callSN J (As := [vI x2, vI 0, vI 1440]) (st := []) (fun r hr => c_X11_isWithin x2 0 1440 σ M N hL r hr) wn_1_56 wy_X11_isWithin wd_X11_isWithin ⟨by decide, by decide, by decide, by decide, Nat.le_of_ble_eq_true rfl⟩ rfl rfl (fun q16 hq16 => ?_)
    show g_H E 0 0 19 [(0, vR 24), (1, vI x1), (2, vI x2), (3, vI x3)] [vI q16] (σ, M, N) _ _
    refine r_if_eq J (tgt := 26) rfl (by decide) (fun c19 => ?_) (fun c19 => ?_)
    · exact p_X1_addSight_26 J x1 x2 x3 σ M N hL
    · refine r_run J 2 (pc' := 27) (lv' := [(0, vR 24), (1, vI x1), (2, vI x2), (3, vI x3)]) (st' := [vI 1]) rfl ?_
      exact p_X1_addSight_27 J x1 x2 x3 1 σ M N hL
theorem c_X1_addSight {l : Launch} (x1 : Int32) (x2 : Int32) (x3 : Int32) (σ : gS) (M : gM) (N : gN) (hL : g_layC σ) (r : Int32 × gM) (h : f_X1_addSight x1 x2 x3 σ M = some r) : g_Ct l yX1_addSight cX1_addSight 5 (some .int) 2 0 0 [vR 24, vI x1, vI x2, vI x3] (σ, M, N) (eIM σ N r) :=
  g_Ct.of tb_X1_addSight (by decide +kernel) tk_X1_addSight (Nat.le_of_ble_eq_true rfl) (fun E J => p_X1_addSight_0 J x1 x2 x3 σ M N hL r h)
def tb_X1_setWay : gT := [(0, .iload_n 1, 1, 0), (1, .iconst 0, 1, 0), (2, .aload_n 0, 1, 0), (3, .getfield 11, 3, 0), (6, .invokestatic 56, 3, 0), (9, .ifCond .eq 24, 3, 0), (12, .iload_n 2, 1, 0), (13, .iconst 0, 1, 0), (14, .aload_n 0, 1, 0), (15, .getfield 11, 3, 0), (18, .invokestatic 56, 3, 0), (21, .ifCond .eq 12, 3, 0), (24, .iload_n 1, 1, 0), (25, .iload_n 2, 1, 0), (26, .if_icmp .eq 7, 3, 0), (29, .iconst 1, 1, 1), (30, .goto 4, 3, 0), (33, .iconst 0, 1, 0), (34, .istore 4, 2, 0), (36, .iload 4, 2, 0), (38, .ifCond .eq 14, 3, 0), (41, .iload_n 3, 1, 0), (42, .iconst 0, 1, 0), (43, .sipush 270, 3, 270), (46, .invokestatic 56, 3, 0), (49, .ifCond .ne 5, 3, 0), (52, .iconst 0, 1, 0), (53, .ireturn, 1, 0), (54, .aload_n 0, 1, 0), (55, .getfield 25, 3, 0), (58, .iload_n 1, 1, 0), (59, .bipush 7, 2, 7), (61, .imul, 1, 0), (62, .iload_n 2, 1, 0), (63, .iadd, 1, 0), (64, .iload_n 3, 1, 0), (65, .iastore, 1, 0), (66, .iconst 1, 1, 1), (67, .ireturn, 1, 0)]
set_option maxRecDepth 100000 in
theorem tk_X1_setWay : g_okT cX1_setWay tb_X1_setWay = true := by decide +kernel
abbrev J_X1_setWay (E : gE) (l : Launch) : Prop := g_J E cX1_setWay RX1 "setWay" (some .boolean) 5 tb_X1_setWay 2 0 0 l
set_option maxHeartbeats 4000000 in
set_option maxRecDepth 100000 in
theorem p_X1_setWay_34 {l : Launch} {E : gE} (J : J_X1_setWay E l) (x1 : Int32) (x2 : Int32) (x3 : Int32) (sx0 : Int32) (σ : gS) (M : gM) (N : gN) (hL : g_layC σ) : g_H E 0 0 34 [(0, vR 24), (1, vI x1), (2, vI x2), (3, vI x3)] [vI sx0] (σ, M, N) (b_X1_setWay_34 x1 x2 x3 sx0 σ M) (eIM σ N) := by
  unfold b_X1_setWay_34
  refine r_run J 2 (pc' := 38) (lv' := [(4, vI sx0), (0, vR 24), (1, vI x1), (2, vI x2), (3, vI x3)]) (st' := [vI sx0]) rfl ?_
  refine r_if_eq J (tgt := 52) rfl (by decide) (fun c38 => ?_) (fun c38 => ?_)
  · refine r_run J 1 (pc' := 53) (lv' := [(4, vI sx0), (0, vR 24), (1, vI x1), (2, vI x2), (3, vI x3)]) (st' := [vI 0]) rfl ?_
    exact r_iret J rfl rfl rfl rfl (by decide) (by decide)
  · refine r_run J 3 (pc' := 46) (lv' := [(4, vI sx0), (0, vR 24), (1, vI x1), (2, vI x2), (3, vI x3)]) (st' := [vI 270, vI 0, vI x3]) rfl ?_
    refine r_callSN J (As := [vI x3, vI 0, vI 270]) (st := []) (fun r hr => c_X11_isWithin x3 0 270 σ M N hL r hr) wn_1_56 wy_X11_isWithin wd_X11_isWithin ⟨by decide, by decide, by decide, by decide, Nat.le_of_ble_eq_true rfl⟩ rfl rfl (fun q46 hq46 => ?_)
    show g_H E 0 0 49 [(4, vI sx0), (0, vR 24), (1, vI x1), (2, vI x2), (3, vI x3)] [vI q46] (σ, M, N) _ _
    refine r_if_ne J (tgt := 54) rfl (by decide) (fun c49 => ?_) (fun c49 => ?_)
    · refine r_run J 1 (pc' := 53) (lv' := [(4, vI sx0), (0, vR 24), (1, vI x1), (2, vI x2), (3, vI x3)]) (st' := [vI 0]) rfl ?_
      exact r_iret J rfl rfl rfl rfl (by decide) (by decide)
    · refine r_run J 1 (pc' := 55) (lv' := [(4, vI sx0), (0, vR 24), (1, vI x1), (2, vI x2), (3, vI x3)]) (st' := [vR 24]) rfl ?_
      refine r_getR J cls1 rfl (k := 4) (t := 14) (by decide) wf_1_25 rfl rfl (ly_24 hL) (lr_24_4 hL) (fun _ => ?_)
      show g_H E 0 0 58 [(4, vI sx0), (0, vR 24), (1, vI x1), (2, vI x2), (3, vI x3)] [vR 28] (σ, M, N) _ _
      refine r_run J 6 (pc' := 65) (lv' := [(4, vI sx0), (0, vR 24), (1, vI x1), (2, vI x2), (3, vI x3)]) (st' := [vI x3, vI ((x1 * (7 : Int32)) + x2), vR 28]) rfl ?_
      refine r_iast J rfl (ly_28 hL) (fun i65 => ?_)
      show g_H E 0 0 66 [(4, vI sx0), (0, vR 24), (1, vI x1), (2, vI x2), (3, vI x3)] [] (σ, (g_up M 28 (((x1 * (7 : Int32)) + x2).toNatClampNeg) x3), N) _ _
      refine r_run J 1 (pc' := 67) (lv' := [(4, vI sx0), (0, vR 24), (1, vI x1), (2, vI x2), (3, vI x3)]) (st' := [vI 1]) rfl ?_
      exact r_iret J rfl rfl rfl rfl (by decide) (by decide)
set_option maxHeartbeats 4000000 in
set_option maxRecDepth 100000 in
theorem p_X1_setWay_33 {l : Launch} {E : gE} (J : J_X1_setWay E l) (x1 : Int32) (x2 : Int32) (x3 : Int32) (σ : gS) (M : gM) (N : gN) (hL : g_layC σ) : g_H E 0 0 33 [(0, vR 24), (1, vI x1), (2, vI x2), (3, vI x3)] [] (σ, M, N) (b_X1_setWay_33 x1 x2 x3 σ M) (eIM σ N) := by
  unfold b_X1_setWay_33
  refine r_run J 1 (pc' := 34) (lv' := [(0, vR 24), (1, vI x1), (2, vI x2), (3, vI x3)]) (st' := [vI 0]) rfl ?_
  exact p_X1_setWay_34 J x1 x2 x3 0 σ M N hL
set_option maxHeartbeats 4000000 in
set_option maxRecDepth 100000 in
theorem p_X1_setWay_0 {l : Launch} {E : gE} (J : J_X1_setWay E l) (x1 : Int32) (x2 : Int32) (x3 : Int32) (σ : gS) (M : gM) (N : gN) (hL : g_layC σ) : g_H E 0 0 0 [(0, vR 24), (1, vI x1), (2, vI x2), (3, vI x3)] [] (σ, M, N) (b_X1_setWay_0 x1 x2 x3 σ M) (eIM σ N) := by
  unfold b_X1_setWay_0
  refine r_run J 3 (pc' := 3) (lv' := [(0, vR 24), (1, vI x1), (2, vI x2), (3, vI x3)]) (st' := [vR 24, vI 0, vI x1]) rfl ?_
  refine r_getI J cls1 rfl (k := 0) (by decide) wf_1_11 rfl (ly_24 hL) ?_
  show g_H E 0 0 6 [(0, vR 24), (1, vI x1), (2, vI x2), (3, vI x3)] [vI (M 24 0), vI 0, vI x1] (σ, M, N) _ _
  refine r_callSN J (As := [vI x1, vI 0, vI (M 24 0)]) (st := []) (fun r hr => c_X11_isWithin x1 0 (M 24 0) σ M N hL r hr) wn_1_56 wy_X11_isWithin wd_X11_isWithin ⟨by decide, by decide, by decide, by decide, Nat.le_of_ble_eq_true rfl⟩ rfl rfl (fun q6 hq6 => ?_)
  show g_H E 0 0 9 [(0, vR 24), (1, vI x1), (2, vI x2), (3, vI x3)] [vI q6] (σ, M, N) _ _
  refine r_if_eq J (tgt := 33) rfl (by decide) (fun c9 => ?_) (fun c9 => ?_)
  · exact p_X1_setWay_33 J x1 x2 x3 σ M N hL
  · refine r_run J 3 (pc' := 15) (lv' := [(0, vR 24), (1, vI x1), (2, vI x2), (3, vI x3)]) (st' := [vR 24, vI 0, vI x2]) rfl ?_
    refine r_getI J cls1 rfl (k := 0) (by decide) wf_1_11 rfl (ly_24 hL) ?_
    show g_H E 0 0 18 [(0, vR 24), (1, vI x1), (2, vI x2), (3, vI x3)] [vI (M 24 0), vI 0, vI x2] (σ, M, N) _ _
    refine r_callSN J (As := [vI x2, vI 0, vI (M 24 0)]) (st := []) (fun r hr => c_X11_isWithin x2 0 (M 24 0) σ M N hL r hr) wn_1_56 wy_X11_isWithin wd_X11_isWithin ⟨by decide, by decide, by decide, by decide, Nat.le_of_ble_eq_true rfl⟩ rfl rfl (fun q18 hq18 => ?_)
    show g_H E 0 0 21 [(0, vR 24), (1, vI x1), (2, vI x2), (3, vI x3)] [vI q18] (σ, M, N) _ _
    refine r_if_eq J (tgt := 33) rfl (by decide) (fun c21 => ?_) (fun c21 => ?_)
    · exact p_X1_setWay_33 J x1 x2 x3 σ M N hL
    · refine r_run J 2 (pc' := 26) (lv' := [(0, vR 24), (1, vI x1), (2, vI x2), (3, vI x3)]) (st' := [vI x2, vI x1]) rfl ?_
      refine r_icmp_eq J (tgt := 33) rfl (by decide) (fun c26 => ?_) (fun c26 => ?_)
      · exact p_X1_setWay_33 J x1 x2 x3 σ M N hL
      · refine r_run J 2 (pc' := 34) (lv' := [(0, vR 24), (1, vI x1), (2, vI x2), (3, vI x3)]) (st' := [vI 1]) rfl ?_
        exact p_X1_setWay_34 J x1 x2 x3 1 σ M N hL
theorem c_X1_setWay {l : Launch} (x1 : Int32) (x2 : Int32) (x3 : Int32) (σ : gS) (M : gM) (N : gN) (hL : g_layC σ) (r : Int32 × gM) (h : f_X1_setWay x1 x2 x3 σ M = some r) : g_Ct l yX1_setWay cX1_setWay 5 (some .boolean) 2 0 0 [vR 24, vI x1, vI x2, vI x3] (σ, M, N) (eIM σ N r) :=
  g_Ct.of tb_X1_setWay (by decide +kernel) tk_X1_setWay (Nat.le_of_ble_eq_true rfl) (fun E J => p_X1_setWay_0 J x1 x2 x3 σ M N hL r h)
def tb_X1_forget : gT := [(0, .aload_n 0, 1, 0), (1, .getfield 11, 3, 0), (4, .istore_n 1, 1, 0), (5, .aload_n 0, 1, 0), (6, .iconst 0, 1, 0), (7, .putfield 11, 3, 0), (10, .iconst 0, 1, 0), (11, .istore_n 2, 1, 0), (12, .iload_n 2, 1, 0), (13, .bipush 49, 2, 49), (15, .if_icmp .ge 16, 3, 0), (18, .aload_n 0, 1, 0), (19, .getfield 25, 3, 0), (22, .iload_n 2, 1, 0), (23, .iconst 0, 1, 0), (24, .iastore, 1, 0), (25, .iinc 2 1, 3, 1), (28, .goto (-16), 3, 0), (31, .iload_n 1, 1, 0), (32, .ireturn, 1, 0)]
set_option maxRecDepth 100000 in
theorem tk_X1_forget : g_okT cX1_forget tb_X1_forget = true := by decide +kernel
abbrev J_X1_forget (E : gE) (l : Launch) : Prop := g_J E cX1_forget RX1 "forget" (some .int) 3 tb_X1_forget 1 0 0 l
set_option maxHeartbeats 4000000 in
set_option maxRecDepth 100000 in
theorem p_X1_forget_12 {l : Launch} {E : gE} (J : J_X1_forget E l) : ∀ (n : Nat) (x1 : Int32) (x2 : Int32) (σ : gS) (M : gM) (N : gN) (hL : g_layC σ), g_H E 0 0 12 [(0, vR 24), (1, vI x1), (2, vI x2)] [] (σ, M, N) (l_X1_forget_12 n x1 x2 σ M) (eIM σ N) := by
  intro n
  induction n with
  | zero => intros; exact h_none
  | succ n ih =>
    intro x1 x2 σ M N hL
    rw [l_X1_forget_12]
    refine r_run J 2 (pc' := 15) (lv' := [(0, vR 24), (1, vI x1), (2, vI x2)]) (st' := [vI 49, vI x2]) rfl ?_
    refine r_icmp_ge J (tgt := 31) rfl (by decide) (fun c15 => ?_) (fun c15 => ?_)
    · refine r_run J 1 (pc' := 19) (lv' := [(0, vR 24), (1, vI x1), (2, vI x2)]) (st' := [vR 24]) rfl ?_
      refine r_getR J cls1 rfl (k := 4) (t := 14) (by decide) wf_1_25 rfl rfl (ly_24 hL) (lr_24_4 hL) (fun _ => ?_)
      show g_H E 0 0 22 [(0, vR 24), (1, vI x1), (2, vI x2)] [vR 28] (σ, M, N) _ _
      refine r_run J 2 (pc' := 24) (lv' := [(0, vR 24), (1, vI x1), (2, vI x2)]) (st' := [vI 0, vI x2, vR 28]) rfl ?_
      refine r_iast J rfl (ly_28 hL) (fun i24 => ?_)
      show g_H E 0 0 25 [(0, vR 24), (1, vI x1), (2, vI x2)] [] (σ, (g_up M 28 (x2.toNatClampNeg) 0), N) _ _
      refine r_run J 2 (pc' := 12) (lv' := [(2, vI (x2 + 1)), (0, vR 24), (1, vI x1)]) (st' := []) rfl ?_
      refine r_sub [1, 2, 0] (lv' := [(0, vR 24), (1, vI x1), (2, vI (x2 + 1))]) rfl ?_
      exact ih x1 (x2 + 1) σ (g_up M 28 (x2.toNatClampNeg) 0) N hL
    · refine r_run J 1 (pc' := 32) (lv' := [(0, vR 24), (1, vI x1), (2, vI x2)]) (st' := [vI x1]) rfl ?_
      exact r_iret J rfl rfl rfl rfl (by decide) (by decide)
set_option maxHeartbeats 4000000 in
set_option maxRecDepth 100000 in
theorem p_X1_forget_0 {l : Launch} {E : gE} (J : J_X1_forget E l) (σ : gS) (M : gM) (N : gN) (hL : g_layC σ) : g_H E 0 0 0 [(0, vR 24)] [] (σ, M, N) (b_X1_forget_0 σ M) (eIM σ N) := by
  unfold b_X1_forget_0
  refine r_run J 1 (pc' := 1) (lv' := [(0, vR 24)]) (st' := [vR 24]) rfl ?_
  refine r_getI J cls1 rfl (k := 0) (by decide) wf_1_11 rfl (ly_24 hL) ?_
  show g_H E 0 0 4 [(0, vR 24)] [vI (M 24 0)] (σ, M, N) _ _
  refine r_run J 3 (pc' := 7) (lv' := [(1, vI (M 24 0)), (0, vR 24)]) (st' := [vI 0, vR 24]) rfl ?_
  refine r_putI J cls1 rfl (k := 0) (by decide) wf_1_11 rfl (Or.inl rfl) ⟨rfl, rfl⟩ (ly_24 hL) ?_
  show g_H E 0 0 10 [(1, vI (M 24 0)), (0, vR 24)] [] (σ, (g_up M 24 0 0), N) _ _
  refine r_run J 2 (pc' := 12) (lv' := [(2, vI 0), (1, vI (M 24 0)), (0, vR 24)]) (st' := []) rfl ?_
  refine r_sub [2, 1, 0] (lv' := [(0, vR 24), (1, vI (M 24 0)), (2, vI 0)]) rfl ?_
  exact p_X1_forget_12 J g_FU (M 24 0) 0 σ (g_up M 24 0 0) N hL
theorem c_X1_forget {l : Launch} (σ : gS) (M : gM) (N : gN) (hL : g_layC σ) (r : Int32 × gM) (h : f_X1_forget σ M = some r) : g_Ct l yX1_forget cX1_forget 3 (some .int) 1 0 0 [vR 24] (σ, M, N) (eIM σ N r) :=
  g_Ct.of tb_X1_forget (by decide +kernel) tk_X1_forget (Nat.le_of_ble_eq_true rfl) (fun E J => p_X1_forget_0 J σ M N hL r h)
def tb_X1_isBetter : gT := [(0, .iload_n 1, 1, 0), (1, .aload_n 0, 1, 0), (2, .getfield 44, 3, 0), (5, .if_icmp .eq 17, 3, 0), (8, .iload_n 1, 1, 0), (9, .aload_n 0, 1, 0), (10, .getfield 44, 3, 0), (13, .if_icmp .le 7, 3, 0), (16, .iconst 1, 1, 1), (17, .goto 4, 3, 0), (20, .iconst 0, 1, 0), (21, .ireturn, 1, 0), (22, .iload_n 2, 1, 0), (23, .aload_n 0, 1, 0), (24, .getfield 47, 3, 0), (27, .if_icmp .lt 19, 3, 0), (30, .iload_n 2, 1, 0), (31, .aload_n 0, 1, 0), (32, .getfield 47, 3, 0), (35, .if_icmp .ne 15, 3, 0), (38, .iload_n 3, 1, 0), (39, .aload_n 0, 1, 0), (40, .getfield 50, 3, 0), (43, .if_icmp .ge 7, 3, 0), (46, .iconst 1, 1, 1), (47, .goto 4, 3, 0), (50, .iconst 0, 1, 0), (51, .ireturn, 1, 0)]
set_option maxRecDepth 100000 in
theorem tk_X1_isBetter : g_okT cX1_isBetter tb_X1_isBetter = true := by decide +kernel
abbrev J_X1_isBetter (E : gE) (l : Launch) : Prop := g_J E cX1_isBetter RX1 "isBetter" (some .boolean) 4 tb_X1_isBetter 1 0 0 l
set_option maxHeartbeats 4000000 in
set_option maxRecDepth 100000 in
theorem p_X1_isBetter_46 {l : Launch} {E : gE} (J : J_X1_isBetter E l) (σ : gS) (M : gM) (N : gN) (hL : g_layC σ) : g_H E 0 0 46 [] [] (σ, M, N) (b_X1_isBetter_46 σ M) (eI σ M N) := by
  unfold b_X1_isBetter_46
  refine r_run J 2 (pc' := 51) (lv' := []) (st' := [vI 1]) rfl ?_
  exact r_iret J rfl rfl rfl rfl (by decide) (by decide)
set_option maxHeartbeats 4000000 in
set_option maxRecDepth 100000 in
theorem p_X1_isBetter_0 {l : Launch} {E : gE} (J : J_X1_isBetter E l) (x1 : Int32) (x2 : Int32) (x3 : Int32) (σ : gS) (M : gM) (N : gN) (hL : g_layC σ) : g_H E 0 0 0 [(0, vR 24), (1, vI x1), (2, vI x2), (3, vI x3)] [] (σ, M, N) (b_X1_isBetter_0 x1 x2 x3 σ M) (eI σ M N) := by
  unfold b_X1_isBetter_0
  refine r_run J 2 (pc' := 2) (lv' := [(0, vR 24), (1, vI x1), (2, vI x2), (3, vI x3)]) (st' := [vR 24, vI x1]) rfl ?_
  refine r_getI J cls1 rfl (k := 10) (by decide) wf_1_44 rfl (ly_24 hL) ?_
  show g_H E 0 0 5 [(0, vR 24), (1, vI x1), (2, vI x2), (3, vI x3)] [vI (M 24 10), vI x1] (σ, M, N) _ _
  refine r_icmp_eq J (tgt := 22) rfl (by decide) (fun c5 => ?_) (fun c5 => ?_)
  · refine r_run J 2 (pc' := 24) (lv' := [(0, vR 24), (1, vI x1), (2, vI x2), (3, vI x3)]) (st' := [vR 24, vI x2]) rfl ?_
    refine r_getI J cls1 rfl (k := 11) (by decide) wf_1_47 rfl (ly_24 hL) ?_
    show g_H E 0 0 27 [(0, vR 24), (1, vI x1), (2, vI x2), (3, vI x3)] [vI (M 24 11), vI x2] (σ, M, N) _ _
    refine r_icmp_lt J (tgt := 46) rfl (by decide) (fun c27 => ?_) (fun c27 => ?_)
    · refine r_sub [] (lv' := []) rfl ?_
      exact p_X1_isBetter_46 J σ M N hL
    · refine r_run J 2 (pc' := 32) (lv' := [(0, vR 24), (1, vI x1), (2, vI x2), (3, vI x3)]) (st' := [vR 24, vI x2]) rfl ?_
      refine r_getI J cls1 rfl (k := 11) (by decide) wf_1_47 rfl (ly_24 hL) ?_
      show g_H E 0 0 35 [(0, vR 24), (1, vI x1), (2, vI x2), (3, vI x3)] [vI (M 24 11), vI x2] (σ, M, N) _ _
      refine r_icmp_ne J (tgt := 50) rfl (by decide) (fun c35 => ?_) (fun c35 => ?_)
      · refine r_run J 2 (pc' := 40) (lv' := [(0, vR 24), (1, vI x1), (2, vI x2), (3, vI x3)]) (st' := [vR 24, vI x3]) rfl ?_
        refine r_getI J cls1 rfl (k := 12) (by decide) wf_1_50 rfl (ly_24 hL) ?_
        show g_H E 0 0 43 [(0, vR 24), (1, vI x1), (2, vI x2), (3, vI x3)] [vI (M 24 12), vI x3] (σ, M, N) _ _
        refine r_icmp_ge J (tgt := 50) rfl (by decide) (fun c43 => ?_) (fun c43 => ?_)
        · refine r_sub [] (lv' := []) rfl ?_
          exact p_X1_isBetter_46 J σ M N hL
        · refine r_run J 1 (pc' := 51) (lv' := [(0, vR 24), (1, vI x1), (2, vI x2), (3, vI x3)]) (st' := [vI 0]) rfl ?_
          exact r_iret J rfl rfl rfl rfl (by decide) (by decide)
      · refine r_run J 1 (pc' := 51) (lv' := [(0, vR 24), (1, vI x1), (2, vI x2), (3, vI x3)]) (st' := [vI 0]) rfl ?_
        exact r_iret J rfl rfl rfl rfl (by decide) (by decide)
  · refine r_run J 2 (pc' := 10) (lv' := [(0, vR 24), (1, vI x1), (2, vI x2), (3, vI x3)]) (st' := [vR 24, vI x1]) rfl ?_
    refine r_getI J cls1 rfl (k := 10) (by decide) wf_1_44 rfl (ly_24 hL) ?_
    show g_H E 0 0 13 [(0, vR 24), (1, vI x1), (2, vI x2), (3, vI x3)] [vI (M 24 10), vI x1] (σ, M, N) _ _
    refine r_icmp_le J (tgt := 20) rfl (by decide) (fun c13 => ?_) (fun c13 => ?_)
    · refine r_run J 2 (pc' := 21) (lv' := [(0, vR 24), (1, vI x1), (2, vI x2), (3, vI x3)]) (st' := [vI 1]) rfl ?_
      exact r_iret J rfl rfl rfl rfl (by decide) (by decide)
    · refine r_run J 1 (pc' := 21) (lv' := [(0, vR 24), (1, vI x1), (2, vI x2), (3, vI x3)]) (st' := [vI 0]) rfl ?_
      exact r_iret J rfl rfl rfl rfl (by decide) (by decide)
theorem c_X1_isBetter {l : Launch} (x1 : Int32) (x2 : Int32) (x3 : Int32) (σ : gS) (M : gM) (N : gN) (hL : g_layC σ) (r : Int32) (h : f_X1_isBetter x1 x2 x3 σ M = some r) : g_Ct l yX1_isBetter cX1_isBetter 4 (some .boolean) 1 0 0 [vR 24, vI x1, vI x2, vI x3] (σ, M, N) (eI σ M N r) :=
  g_Ct.of tb_X1_isBetter (by decide +kernel) tk_X1_isBetter (Nat.le_of_ble_eq_true rfl) (fun E J => p_X1_isBetter_0 J x1 x2 x3 σ M N hL r h)
def tb_X1_comeHome : gT := [(0, .iload_n 2, 1, 0), (1, .sipush 1440, 3, 1440), (4, .if_icmp .gt 13, 3, 0), (7, .aload_n 0, 1, 0), (8, .iload_n 1, 1, 0), (9, .iload_n 2, 1, 0), (10, .iload_n 3, 1, 0), (11, .invokevirtual 74, 3, 0), (14, .ifCond .ne 4, 3, 0), (17, .return_, 1, 0), (18, .aload_n 0, 1, 0), (19, .iload_n 1, 1, 0), (20, .putfield 44, 3, 0), (23, .aload_n 0, 1, 0), (24, .iload_n 2, 1, 0), (25, .putfield 47, 3, 0), (28, .aload_n 0, 1, 0), (29, .iload_n 3, 1, 0), (30, .putfield 50, 3, 0), (33, .aload_n 0, 1, 0), (34, .iload 4, 2, 0), (36, .putfield 53, 3, 0), (39, .iconst 0, 1, 0), (40, .istore 5, 2, 0), (42, .iload 5, 2, 0), (44, .iload_n 1, 1, 0), (45, .if_icmp .ge 37, 3, 0), (48, .aload_n 0, 1, 0), (49, .getfield 34, 3, 0), (52, .iload 5, 2, 0), (54, .aload_n 0, 1, 0), (55, .getfield 28, 3, 0), (58, .iload 5, 2, 0), (60, .iaload, 1, 0), (61, .iastore, 1, 0), (62, .aload_n 0, 1, 0), (63, .getfield 37, 3, 0), (66, .iload 5, 2, 0), (68, .aload_n 0, 1, 0), (69, .getfield 31, 3, 0), (72, .iload 5, 2, 0), (74, .iaload, 1, 0), (75, .iastore, 1, 0), (76, .iinc 5 1, 3, 1), (79, .goto (-37), 3, 0), (82, .return_, 1, 0)]
set_option maxRecDepth 100000 in
theorem tk_X1_comeHome : g_okT cX1_comeHome tb_X1_comeHome = true := by decide +kernel
abbrev J_X1_comeHome (E : gE) (l : Launch) : Prop := g_J E cX1_comeHome RX1 "comeHome" none 6 tb_X1_comeHome 2 0 0 l
set_option maxHeartbeats 4000000 in
set_option maxRecDepth 100000 in
theorem p_X1_comeHome_42 {l : Launch} {E : gE} (J : J_X1_comeHome E l) : ∀ (n : Nat) (x1 : Int32) (x5 : Int32) (σ : gS) (M : gM) (N : gN) (hL : g_layC σ), g_H E 0 0 42 [(0, vR 24), (1, vI x1), (5, vI x5)] [] (σ, M, N) (l_X1_comeHome_42 n x1 x5 σ M) (eVM σ N) := by
  intro n
  induction n with
  | zero => intros; exact h_none
  | succ n ih =>
    intro x1 x5 σ M N hL
    rw [l_X1_comeHome_42]
    refine r_run J 2 (pc' := 45) (lv' := [(0, vR 24), (1, vI x1), (5, vI x5)]) (st' := [vI x1, vI x5]) rfl ?_
    refine r_icmp_ge J (tgt := 82) rfl (by decide) (fun c45 => ?_) (fun c45 => ?_)
    · refine r_run J 1 (pc' := 49) (lv' := [(0, vR 24), (1, vI x1), (5, vI x5)]) (st' := [vR 24]) rfl ?_
      refine r_getR J cls1 rfl (k := 7) (t := 14) (by decide) wf_1_34 rfl rfl (ly_24 hL) (lr_24_7 hL) (fun _ => ?_)
      show g_H E 0 0 52 [(0, vR 24), (1, vI x1), (5, vI x5)] [vR 31] (σ, M, N) _ _
      refine r_run J 2 (pc' := 55) (lv' := [(0, vR 24), (1, vI x1), (5, vI x5)]) (st' := [vR 24, vI x5, vR 31]) rfl ?_
      refine r_getR J cls1 rfl (k := 5) (t := 14) (by decide) wf_1_28 rfl rfl (ly_24 hL) (lr_24_5 hL) (fun _ => ?_)
      show g_H E 0 0 58 [(0, vR 24), (1, vI x1), (5, vI x5)] [vR 29, vI x5, vR 31] (σ, M, N) _ _
      refine r_run J 1 (pc' := 60) (lv' := [(0, vR 24), (1, vI x1), (5, vI x5)]) (st' := [vI x5, vR 29, vI x5, vR 31]) rfl ?_
      refine r_iald J rfl (ly_29 hL) (fun i60 => ?_)
      show g_H E 0 0 61 [(0, vR 24), (1, vI x1), (5, vI x5)] [vI (M 29 x5.toNatClampNeg), vI x5, vR 31] (σ, M, N) _ _
      refine r_iast J rfl (ly_31 hL) (fun i61 => ?_)
      show g_H E 0 0 62 [(0, vR 24), (1, vI x1), (5, vI x5)] [] (σ, (g_up M 31 (x5.toNatClampNeg) (M 29 x5.toNatClampNeg)), N) _ _
      refine r_run J 1 (pc' := 63) (lv' := [(0, vR 24), (1, vI x1), (5, vI x5)]) (st' := [vR 24]) rfl ?_
      refine r_getR J cls1 rfl (k := 8) (t := 14) (by decide) wf_1_37 rfl rfl (ly_24 hL) (lr_24_8 hL) (fun _ => ?_)
      show g_H E 0 0 66 [(0, vR 24), (1, vI x1), (5, vI x5)] [vR 32] (σ, (g_up M 31 (x5.toNatClampNeg) (M 29 x5.toNatClampNeg)), N) _ _
      refine r_run J 2 (pc' := 69) (lv' := [(0, vR 24), (1, vI x1), (5, vI x5)]) (st' := [vR 24, vI x5, vR 32]) rfl ?_
      refine r_getR J cls1 rfl (k := 6) (t := 14) (by decide) wf_1_31 rfl rfl (ly_24 hL) (lr_24_6 hL) (fun _ => ?_)
      show g_H E 0 0 72 [(0, vR 24), (1, vI x1), (5, vI x5)] [vR 30, vI x5, vR 32] (σ, (g_up M 31 (x5.toNatClampNeg) (M 29 x5.toNatClampNeg)), N) _ _
      refine r_run J 1 (pc' := 74) (lv' := [(0, vR 24), (1, vI x1), (5, vI x5)]) (st' := [vI x5, vR 30, vI x5, vR 32]) rfl ?_
      refine r_iald J rfl (ly_30 hL) (fun i74 => ?_)
      show g_H E 0 0 75 [(0, vR 24), (1, vI x1), (5, vI x5)] [vI ((g_up M 31 (x5.toNatClampNeg) (M 29 x5.toNatClampNeg)) 30 x5.toNatClampNeg), vI x5, vR 32] (σ, (g_up M 31 (x5.toNatClampNeg) (M 29 x5.toNatClampNeg)), N) _ _
      refine r_iast J rfl (ly_32 hL) (fun i75 => ?_)
      show g_H E 0 0 76 [(0, vR 24), (1, vI x1), (5, vI x5)] [] (σ, (g_up (g_up M 31 (x5.toNatClampNeg) (M 29 x5.toNatClampNeg)) 32 (x5.toNatClampNeg) ((g_up M 31 (x5.toNatClampNeg) (M 29 x5.toNatClampNeg)) 30 x5.toNatClampNeg)), N) _ _
      refine r_run J 2 (pc' := 42) (lv' := [(5, vI (x5 + 1)), (0, vR 24), (1, vI x1)]) (st' := []) rfl ?_
      refine r_sub [1, 2, 0] (lv' := [(0, vR 24), (1, vI x1), (5, vI (x5 + 1))]) rfl ?_
      exact ih x1 (x5 + 1) σ (g_up (g_up M 31 (x5.toNatClampNeg) (M 29 x5.toNatClampNeg)) 32 (x5.toNatClampNeg) ((g_up M 31 (x5.toNatClampNeg) (M 29 x5.toNatClampNeg)) 30 x5.toNatClampNeg)) N hL
    · exact r_vret J rfl rfl rfl (by decide) (by decide)
set_option maxHeartbeats 4000000 in
set_option maxRecDepth 100000 in
theorem p_X1_comeHome_33 {l : Launch} {E : gE} (J : J_X1_comeHome E l) (x1 : Int32) (x4 : Int32) (σ : gS) (M : gM) (N : gN) (hL : g_layC σ) : g_H E 0 0 33 [(0, vR 24), (1, vI x1), (4, vI x4)] [] (σ, M, N) (b_X1_comeHome_33 x1 x4 σ M) (eVM σ N) := by
  unfold b_X1_comeHome_33
  refine r_run J 2 (pc' := 36) (lv' := [(0, vR 24), (1, vI x1), (4, vI x4)]) (st' := [vI x4, vR 24]) rfl ?_
  refine r_putI J cls1 rfl (k := 13) (by decide) wf_1_53 rfl (Or.inl rfl) ⟨rfl, rfl⟩ (ly_24 hL) ?_
  show g_H E 0 0 39 [(0, vR 24), (1, vI x1), (4, vI x4)] [] (σ, (g_up M 24 13 x4), N) _ _
  refine r_run J 2 (pc' := 42) (lv' := [(5, vI 0), (0, vR 24), (1, vI x1), (4, vI x4)]) (st' := []) rfl ?_
  refine r_sub [1, 2, 0] (lv' := [(0, vR 24), (1, vI x1), (5, vI 0)]) rfl ?_
  exact p_X1_comeHome_42 J g_FU x1 0 σ (g_up M 24 13 x4) N hL
set_option maxHeartbeats 4000000 in
set_option maxRecDepth 100000 in
theorem p_X1_comeHome_0 {l : Launch} {E : gE} (J : J_X1_comeHome E l) (x1 : Int32) (x2 : Int32) (x3 : Int32) (x4 : Int32) (σ : gS) (M : gM) (N : gN) (hL : g_layC σ) : g_H E 0 0 0 [(0, vR 24), (1, vI x1), (2, vI x2), (3, vI x3), (4, vI x4)] [] (σ, M, N) (b_X1_comeHome_0 x1 x2 x3 x4 σ M) (eVM σ N) := by
  unfold b_X1_comeHome_0
  refine r_run J 2 (pc' := 4) (lv' := [(0, vR 24), (1, vI x1), (2, vI x2), (3, vI x3), (4, vI x4)]) (st' := [vI 1440, vI x2]) rfl ?_
  refine r_icmp_gt J (tgt := 17) rfl (by decide) (fun c4 => ?_) (fun c4 => ?_)
  · exact r_vret J rfl rfl rfl (by decide) (by decide)
  · refine r_run J 4 (pc' := 11) (lv' := [(0, vR 24), (1, vI x1), (2, vI x2), (3, vI x3), (4, vI x4)]) (st' := [vI x3, vI x2, vI x1, vR 24]) rfl ?_
    refine r_callV J (As := [vI x1, vI x2, vI x3]) (st := []) (fun r hr => c_X1_isBetter x1 x2 x3 σ M N hL r hr) cls1 (ly_24 hL) wm_1_74 wy_X1_isBetter wd_X1_isBetter ⟨by decide, by decide, by decide, by decide, Nat.le_of_ble_eq_true rfl⟩ rfl rfl (fun q11 hq11 => ?_)
    show g_H E 0 0 14 [(0, vR 24), (1, vI x1), (2, vI x2), (3, vI x3), (4, vI x4)] [vI q11] (σ, M, N) _ _
    refine r_if_ne J (tgt := 18) rfl (by decide) (fun c14 => ?_) (fun c14 => ?_)
    · exact r_vret J rfl rfl rfl (by decide) (by decide)
    · refine r_run J 2 (pc' := 20) (lv' := [(0, vR 24), (1, vI x1), (2, vI x2), (3, vI x3), (4, vI x4)]) (st' := [vI x1, vR 24]) rfl ?_
      refine r_putI J cls1 rfl (k := 10) (by decide) wf_1_44 rfl (Or.inl rfl) ⟨rfl, rfl⟩ (ly_24 hL) ?_
      show g_H E 0 0 23 [(0, vR 24), (1, vI x1), (2, vI x2), (3, vI x3), (4, vI x4)] [] (σ, (g_up M 24 10 x1), N) _ _
      refine r_run J 2 (pc' := 25) (lv' := [(0, vR 24), (1, vI x1), (2, vI x2), (3, vI x3), (4, vI x4)]) (st' := [vI x2, vR 24]) rfl ?_
      refine r_putI J cls1 rfl (k := 11) (by decide) wf_1_47 rfl (Or.inl rfl) ⟨rfl, rfl⟩ (ly_24 hL) ?_
      show g_H E 0 0 28 [(0, vR 24), (1, vI x1), (2, vI x2), (3, vI x3), (4, vI x4)] [] (σ, (g_up (g_up M 24 10 x1) 24 11 x2), N) _ _
      refine r_run J 2 (pc' := 30) (lv' := [(0, vR 24), (1, vI x1), (2, vI x2), (3, vI x3), (4, vI x4)]) (st' := [vI x3, vR 24]) rfl ?_
      refine r_putI J cls1 rfl (k := 12) (by decide) wf_1_50 rfl (Or.inl rfl) ⟨rfl, rfl⟩ (ly_24 hL) ?_
      show g_H E 0 0 33 [(0, vR 24), (1, vI x1), (2, vI x2), (3, vI x3), (4, vI x4)] [] (σ, (g_up (g_up (g_up M 24 10 x1) 24 11 x2) 24 12 x3), N) _ _
      refine r_sub [0, 1, 4] (lv' := [(0, vR 24), (1, vI x1), (4, vI x4)]) rfl ?_
      exact p_X1_comeHome_33 J x1 x4 σ (g_up (g_up (g_up M 24 10 x1) 24 11 x2) 24 12 x3) N hL
theorem c_X1_comeHome {l : Launch} (x1 : Int32) (x2 : Int32) (x3 : Int32) (x4 : Int32) (σ : gS) (M : gM) (N : gN) (hL : g_layC σ) (r : gM) (h : f_X1_comeHome x1 x2 x3 x4 σ M = some r) : g_Ct l yX1_comeHome cX1_comeHome 6 none 2 0 0 [vR 24, vI x1, vI x2, vI x3, vI x4] (σ, M, N) (eVM σ N r) :=
  g_Ct.of tb_X1_comeHome (by decide +kernel) tk_X1_comeHome (Nat.le_of_ble_eq_true rfl) (fun E J => p_X1_comeHome_0 J x1 x2 x3 x4 σ M N hL r h)
def tb_X1_goOn : gT := [(0, .iload_n 1, 1, 0), (1, .bipush 6, 2, 6), (3, .if_icmp .le 4, 3, 0), (6, .return_, 1, 0), (7, .iconst 0, 1, 0), (8, .istore 8, 2, 0), (10, .iload 8, 2, 0), (12, .aload_n 0, 1, 0), (13, .getfield 11, 3, 0), (16, .if_icmp .gt 248, 3, 0), (19, .aload_n 0, 1, 0), (20, .getfield 25, 3, 0), (23, .iload_n 2, 1, 0), (24, .bipush 7, 2, 7), (26, .imul, 1, 0), (27, .iload 8, 2, 0), (29, .iadd, 1, 0), (30, .iaload, 1, 0), (31, .istore 9, 2, 0), (33, .iload 9, 2, 0), (35, .ifCond .eq 223, 3, 0), (38, .iload 5, 2, 0), (40, .iload 9, 2, 0), (42, .iadd, 1, 0), (43, .sipush 540, 3, 540), (46, .if_icmp .le 6, 3, 0), (49, .goto 209, 3, 0), (52, .iload 4, 2, 0), (54, .iload 9, 2, 0), (56, .iadd, 1, 0), (57, .sipush 270, 3, 270), (60, .if_icmp .le 7, 3, 0), (63, .iconst 1, 1, 1), (64, .goto 4, 3, 0), (67, .iconst 0, 1, 0), (68, .istore 10, 2, 0), (70, .iload_n 3, 1, 0), (71, .iload 9, 2, 0), (73, .iadd, 1, 0), (74, .iload 10, 2, 0), (76, .ifCond .eq 8, 3, 0), (79, .bipush 45, 2, 45), (81, .goto 4, 3, 0), (84, .iconst 0, 1, 0), (85, .iadd, 1, 0), (86, .istore 11, 2, 0), (88, .iload 10, 2, 0), (90, .ifCond .eq 8, 3, 0), (93, .iload 9, 2, 0), (95, .goto 8, 3, 0), (98, .iload 4, 2, 0), (100, .iload 9, 2, 0), (102, .iadd, 1, 0), (103, .istore 12, 2, 0), (105, .iload 10, 2, 0), (107, .ifCond .eq 10, 3, 0), (110, .iload 6, 2, 0), (112, .iconst 1, 1, 1), (113, .iadd, 1, 0), (114, .goto 5, 3, 0), (117, .iload 6, 2, 0), (119, .istore 13, 2, 0), (121, .iload 8, 2, 0), (123, .ifCond .ne 20, 3, 0), (126, .aload_n 0, 1, 0), (127, .iload_n 1, 1, 0), (128, .iload 11, 2, 0), (130, .iload 5, 2, 0), (132, .iload 9, 2, 0), (134, .iadd, 1, 0), (135, .iload 13, 2, 0), (137, .invokevirtual 64, 3, 0), (140, .goto 118, 3, 0), (143, .iload 7, 2, 0), (145, .iload 8, 2, 0), (147, .ishr, 1, 0), (148, .iconst 1, 1, 1), (149, .iand, 1, 0), (150, .ifCond .ne 108, 3, 0), (153, .iload 11, 2, 0), (155, .aload_n 0, 1, 0), (156, .getfield 15, 3, 0), (159, .iload 8, 2, 0), (161, .iaload, 1, 0), (162, .invokestatic 68, 3, 0), (165, .istore 14, 2, 0), (167, .iload 14, 2, 0), (169, .aload_n 0, 1, 0), (170, .getfield 22, 3, 0), (173, .iload 8, 2, 0), (175, .iaload, 1, 0), (176, .iadd, 1, 0), (177, .istore 15, 2, 0), (179, .iload 15, 2, 0), (181, .aload_n 0, 1, 0), (182, .getfield 19, 3, 0), (185, .iload 8, 2, 0), (187, .iaload, 1, 0), (188, .if_icmp .gt 70, 3, 0), (191, .iload_n 1, 1, 0), (192, .bipush 6, 2, 6), (194, .if_icmp .ge 64, 3, 0), (197, .aload_n 0, 1, 0), (198, .getfield 28, 3, 0), (201, .iload_n 1, 1, 0), (202, .iload 8, 2, 0), (204, .iastore, 1, 0), (205, .aload_n 0, 1, 0), (206, .getfield 31, 3, 0), (209, .iload_n 1, 1, 0), (210, .iload 14, 2, 0), (212, .iastore, 1, 0), (213, .iload 15, 2, 0), (215, .iload 11, 2, 0), (217, .isub, 1, 0), (218, .bipush 45, 2, 45), (220, .if_icmp .lt 7, 3, 0), (223, .iconst 0, 1, 0), (224, .goto 5, 3, 0), (227, .iload 12, 2, 0), (229, .istore 16, 2, 0), (231, .aload_n 0, 1, 0), (232, .iload_n 1, 1, 0), (233, .iconst 1, 1, 1), (234, .iadd, 1, 0), (235, .iload 8, 2, 0), (237, .iload 15, 2, 0), (239, .iload 16, 2, 0), (241, .iload 5, 2, 0), (243, .iload 9, 2, 0), (245, .iadd, 1, 0), (246, .iload 13, 2, 0), (248, .iload 7, 2, 0), (250, .iconst 1, 1, 1), (251, .iload 8, 2, 0), (253, .ishl, 1, 0), (254, .ior, 1, 0), (255, .invokevirtual 60, 3, 0), (258, .iinc 8 1, 3, 1), (261, .goto (-251), 3, 0), (264, .return_, 1, 0)]
set_option maxRecDepth 100000 in
theorem tk_X1_goOn : g_okT cX1_goOn tb_X1_goOn = true := by decide +kernel
abbrev J_X1_goOn (d : Nat) (E : gE) (l : Launch) : Prop := g_J E cX1_goOn RX1 "goOn" none 17 tb_X1_goOn (3 + d) 0 0 l
set_option maxHeartbeats 4000000 in
set_option maxRecDepth 100000 in
theorem p_X1_goOn_258 {l : Launch} {E : gE} {d' : Nat}  {recX1_goOn : Int32 → Int32 → Int32 → Int32 → Int32 → Int32 → Int32 → gS → gM → Option (gM)}(J : J_X1_goOn (d' + 1) E l) (hrecX1_goOn : ∀ (x1 : Int32) (x2 : Int32) (x3 : Int32) (x4 : Int32) (x5 : Int32) (x6 : Int32) (x7 : Int32) (σ : gS) (M : gM) (N : gN) (_ : g_layC σ) r, recX1_goOn x1 x2 x3 x4 x5 x6 x7 σ M = some r → g_Ct l yX1_goOn cX1_goOn 17 none (3 + d') 0 0 [vR 24, vI x1, vI x2, vI x3, vI x4, vI x5, vI x6, vI x7] (σ, M, N) (eVM σ N r)) {k10 : Int32 → Int32 → Int32 → Int32 → Int32 → Int32 → Int32 → Int32 → gS → gM → Option (gM)} (H10 : ∀ (x1 : Int32) (x2 : Int32) (x3 : Int32) (x4 : Int32) (x5 : Int32) (x6 : Int32) (x7 : Int32) (x8 : Int32) (σ : gS) (M : gM) (N : gN) (_ : g_layC σ), g_H E 0 0 10 [(0, vR 24), (1, vI x1), (2, vI x2), (3, vI x3), (4, vI x4), (5, vI x5), (6, vI x6), (7, vI x7), (8, vI x8)] [] (σ, M, N) (k10 x1 x2 x3 x4 x5 x6 x7 x8 σ M) (eVM σ N)) (x1 : Int32) (x2 : Int32) (x3 : Int32) (x4 : Int32) (x5 : Int32) (x6 : Int32) (x7 : Int32) (x8 : Int32) (σ : gS) (M : gM) (N : gN) (hL : g_layC σ) : g_H E 0 0 258 [(0, vR 24), (1, vI x1), (2, vI x2), (3, vI x3), (4, vI x4), (5, vI x5), (6, vI x6), (7, vI x7), (8, vI x8)] [] (σ, M, N) (b_X1_goOn_258 recX1_goOn k10 x1 x2 x3 x4 x5 x6 x7 x8 σ M) (eVM σ N) := by
  unfold b_X1_goOn_258
  refine r_run J 2 (pc' := 10) (lv' := [(8, vI (x8 + 1)), (0, vR 24), (1, vI x1), (2, vI x2), (3, vI x3), (4, vI x4), (5, vI x5), (6, vI x6), (7, vI x7)]) (st' := []) rfl ?_
  refine r_sub [1, 2, 3, 4, 5, 6, 7, 8, 0] (lv' := [(0, vR 24), (1, vI x1), (2, vI x2), (3, vI x3), (4, vI x4), (5, vI x5), (6, vI x6), (7, vI x7), (8, vI (x8 + 1))]) rfl ?_
  exact H10 x1 x2 x3 x4 x5 x6 x7 (x8 + 1) σ M N hL
set_option maxHeartbeats 4000000 in
set_option maxRecDepth 100000 in
theorem p_X1_goOn_229 {l : Launch} {E : gE} {d' : Nat}  {recX1_goOn : Int32 → Int32 → Int32 → Int32 → Int32 → Int32 → Int32 → gS → gM → Option (gM)}(J : J_X1_goOn (d' + 1) E l) (hrecX1_goOn : ∀ (x1 : Int32) (x2 : Int32) (x3 : Int32) (x4 : Int32) (x5 : Int32) (x6 : Int32) (x7 : Int32) (σ : gS) (M : gM) (N : gN) (_ : g_layC σ) r, recX1_goOn x1 x2 x3 x4 x5 x6 x7 σ M = some r → g_Ct l yX1_goOn cX1_goOn 17 none (3 + d') 0 0 [vR 24, vI x1, vI x2, vI x3, vI x4, vI x5, vI x6, vI x7] (σ, M, N) (eVM σ N r)) {k10 : Int32 → Int32 → Int32 → Int32 → Int32 → Int32 → Int32 → Int32 → gS → gM → Option (gM)} (H10 : ∀ (x1 : Int32) (x2 : Int32) (x3 : Int32) (x4 : Int32) (x5 : Int32) (x6 : Int32) (x7 : Int32) (x8 : Int32) (σ : gS) (M : gM) (N : gN) (_ : g_layC σ), g_H E 0 0 10 [(0, vR 24), (1, vI x1), (2, vI x2), (3, vI x3), (4, vI x4), (5, vI x5), (6, vI x6), (7, vI x7), (8, vI x8)] [] (σ, M, N) (k10 x1 x2 x3 x4 x5 x6 x7 x8 σ M) (eVM σ N)) (x1 : Int32) (x2 : Int32) (x3 : Int32) (x4 : Int32) (x5 : Int32) (x6 : Int32) (x7 : Int32) (x8 : Int32) (x9 : Int32) (x13 : Int32) (x15 : Int32) (sx0 : Int32) (σ : gS) (M : gM) (N : gN) (hL : g_layC σ) : g_H E 0 0 229 [(0, vR 24), (1, vI x1), (2, vI x2), (3, vI x3), (4, vI x4), (5, vI x5), (6, vI x6), (7, vI x7), (8, vI x8), (9, vI x9), (13, vI x13), (15, vI x15)] [vI sx0] (σ, M, N) (b_X1_goOn_229 recX1_goOn k10 x1 x2 x3 x4 x5 x6 x7 x8 x9 x13 x15 sx0 σ M) (eVM σ N) := by
  unfold b_X1_goOn_229
  refine r_run J 17 (pc' := 255) (lv' := [(16, vI sx0), (0, vR 24), (1, vI x1), (2, vI x2), (3, vI x3), (4, vI x4), (5, vI x5), (6, vI x6), (7, vI x7), (8, vI x8), (9, vI x9), (13, vI x13), (15, vI x15)]) (st' := [vI (x7 ||| ((1 : Int32) <<< (x8 &&& 31))), vI x13, vI (x5 + x9), vI sx0, vI x15, vI x8, vI (x1 + (1 : Int32)), vR 24]) rfl ?_
  refine r_callV J (As := [vI (x1 + (1 : Int32)), vI x8, vI x15, vI sx0, vI (x5 + x9), vI x13, vI (x7 ||| ((1 : Int32) <<< (x8 &&& 31)))]) (st := []) (fun r hr => hrecX1_goOn (x1 + (1 : Int32)) x8 x15 sx0 (x5 + x9) x13 (x7 ||| ((1 : Int32) <<< (x8 &&& 31))) σ M N hL r hr) cls1 (ly_24 hL) wm_1_60 wy_X1_goOn wd_X1_goOn ⟨by omega, by decide, by decide, by decide, Nat.le_of_ble_eq_true rfl⟩ rfl rfl (fun q255 hq255 => ?_)
  show g_H E 0 0 258 [(16, vI sx0), (0, vR 24), (1, vI x1), (2, vI x2), (3, vI x3), (4, vI x4), (5, vI x5), (6, vI x6), (7, vI x7), (8, vI x8), (9, vI x9), (13, vI x13), (15, vI x15)] [] (σ, q255, N) _ _
  refine r_sub [1, 2, 3, 4, 5, 6, 7, 8, 9] (lv' := [(0, vR 24), (1, vI x1), (2, vI x2), (3, vI x3), (4, vI x4), (5, vI x5), (6, vI x6), (7, vI x7), (8, vI x8)]) rfl ?_
  exact p_X1_goOn_258 J hrecX1_goOn H10 x1 x2 x3 x4 x5 x6 x7 x8 σ q255 N hL
set_option maxHeartbeats 4000000 in
set_option maxRecDepth 100000 in
theorem p_X1_goOn_119 {l : Launch} {E : gE} {d' : Nat}  {recX1_goOn : Int32 → Int32 → Int32 → Int32 → Int32 → Int32 → Int32 → gS → gM → Option (gM)}(J : J_X1_goOn (d' + 1) E l) (hrecX1_goOn : ∀ (x1 : Int32) (x2 : Int32) (x3 : Int32) (x4 : Int32) (x5 : Int32) (x6 : Int32) (x7 : Int32) (σ : gS) (M : gM) (N : gN) (_ : g_layC σ) r, recX1_goOn x1 x2 x3 x4 x5 x6 x7 σ M = some r → g_Ct l yX1_goOn cX1_goOn 17 none (3 + d') 0 0 [vR 24, vI x1, vI x2, vI x3, vI x4, vI x5, vI x6, vI x7] (σ, M, N) (eVM σ N r)) {k10 : Int32 → Int32 → Int32 → Int32 → Int32 → Int32 → Int32 → Int32 → gS → gM → Option (gM)} (H10 : ∀ (x1 : Int32) (x2 : Int32) (x3 : Int32) (x4 : Int32) (x5 : Int32) (x6 : Int32) (x7 : Int32) (x8 : Int32) (σ : gS) (M : gM) (N : gN) (_ : g_layC σ), g_H E 0 0 10 [(0, vR 24), (1, vI x1), (2, vI x2), (3, vI x3), (4, vI x4), (5, vI x5), (6, vI x6), (7, vI x7), (8, vI x8)] [] (σ, M, N) (k10 x1 x2 x3 x4 x5 x6 x7 x8 σ M) (eVM σ N)) (x1 : Int32) (x2 : Int32) (x3 : Int32) (x4 : Int32) (x5 : Int32) (x6 : Int32) (x7 : Int32) (x8 : Int32) (x9 : Int32) (x11 : Int32) (x12 : Int32) (sx0 : Int32) (σ : gS) (M : gM) (N : gN) (hL : g_layC σ) : g_H E 0 0 119 [(0, vR 24), (1, vI x1), (2, vI x2), (3, vI x3), (4, vI x4), (5, vI x5), (6, vI x6), (7, vI x7), (8, vI x8), (9, vI x9), (11, vI x11), (12, vI x12)] [vI sx0] (σ, M, N) (b_X1_goOn_119 recX1_goOn k10 x1 x2 x3 x4 x5 x6 x7 x8 x9 x11 x12 sx0 σ M) (eVM σ N) := by
  unfold b_X1_goOn_119
  refine r_run J 2 (pc' := 123) (lv' := [(13, vI sx0), (0, vR 24), (1, vI x1), (2, vI x2), (3, vI x3), (4, vI x4), (5, vI x5), (6, vI x6), (7, vI x7), (8, vI x8), (9, vI x9), (11, vI x11), (12, vI x12)]) (st' := [vI x8]) rfl ?_
  refine r_if_ne J (tgt := 143) rfl (by decide) (fun c123 => ?_) (fun c123 => ?_)
  · refine r_run J 7 (pc' := 137) (lv' := [(13, vI sx0), (0, vR 24), (1, vI x1), (2, vI x2), (3, vI x3), (4, vI x4), (5, vI x5), (6, vI x6), (7, vI x7), (8, vI x8), (9, vI x9), (11, vI x11), (12, vI x12)]) (st' := [vI sx0, vI (x5 + x9), vI x11, vI x1, vR 24]) rfl ?_
    refine r_callV J (As := [vI x1, vI x11, vI (x5 + x9), vI sx0]) (st := []) (fun r hr => c_X1_comeHome x1 x11 (x5 + x9) sx0 σ M N hL r hr) cls1 (ly_24 hL) wm_1_64 wy_X1_comeHome wd_X1_comeHome ⟨by omega, by decide, by decide, by decide, Nat.le_of_ble_eq_true rfl⟩ rfl rfl (fun q137 hq137 => ?_)
    show g_H E 0 0 140 [(13, vI sx0), (0, vR 24), (1, vI x1), (2, vI x2), (3, vI x3), (4, vI x4), (5, vI x5), (6, vI x6), (7, vI x7), (8, vI x8), (9, vI x9), (11, vI x11), (12, vI x12)] [] (σ, q137, N) _ _
    refine r_run J 1 (pc' := 258) (lv' := [(13, vI sx0), (0, vR 24), (1, vI x1), (2, vI x2), (3, vI x3), (4, vI x4), (5, vI x5), (6, vI x6), (7, vI x7), (8, vI x8), (9, vI x9), (11, vI x11), (12, vI x12)]) (st' := []) rfl ?_
    refine r_sub [1, 2, 3, 4, 5, 6, 7, 8, 9] (lv' := [(0, vR 24), (1, vI x1), (2, vI x2), (3, vI x3), (4, vI x4), (5, vI x5), (6, vI x6), (7, vI x7), (8, vI x8)]) rfl ?_
    exact p_X1_goOn_258 J hrecX1_goOn H10 x1 x2 x3 x4 x5 x6 x7 x8 σ q137 N hL
  · refine r_run J 5 (pc' := 150) (lv' := [(13, vI sx0), (0, vR 24), (1, vI x1), (2, vI x2), (3, vI x3), (4, vI x4), (5, vI x5), (6, vI x6), (7, vI x7), (8, vI x8), (9, vI x9), (11, vI x11), (12, vI x12)]) (st' := [vI ((x7 >>> (x8 &&& 31)) &&& (1 : Int32))]) rfl ?_
    refine r_if_ne J (tgt := 258) rfl (by decide) (fun c150 => ?_) (fun c150 => ?_)
    · refine r_run J 2 (pc' := 156) (lv' := [(13, vI sx0), (0, vR 24), (1, vI x1), (2, vI x2), (3, vI x3), (4, vI x4), (5, vI x5), (6, vI x6), (7, vI x7), (8, vI x8), (9, vI x9), (11, vI x11), (12, vI x12)]) (st' := [vR 24, vI x11]) rfl ?_
      refine r_getR J cls1 rfl (k := 1) (t := 14) (by decide) wf_1_15 rfl rfl (ly_24 hL) (lr_24_1 hL) (fun _ => ?_)
      show g_H E 0 0 159 [(13, vI sx0), (0, vR 24), (1, vI x1), (2, vI x2), (3, vI x3), (4, vI x4), (5, vI x5), (6, vI x6), (7, vI x7), (8, vI x8), (9, vI x9), (11, vI x11), (12, vI x12)] [vR 25, vI x11] (σ, M, N) _ _
      refine r_run J 1 (pc' := 161) (lv' := [(13, vI sx0), (0, vR 24), (1, vI x1), (2, vI x2), (3, vI x3), (4, vI x4), (5, vI x5), (6, vI x6), (7, vI x7), (8, vI x8), (9, vI x9), (11, vI x11), (12, vI x12)]) (st' := [vI x8, vR 25, vI x11]) rfl ?_
      refine r_iald J rfl (ly_25 hL) (fun i161 => ?_)
      show g_H E 0 0 162 [(13, vI sx0), (0, vR 24), (1, vI x1), (2, vI x2), (3, vI x3), (4, vI x4), (5, vI x5), (6, vI x6), (7, vI x7), (8, vI x8), (9, vI x9), (11, vI x11), (12, vI x12)] [vI (M 25 x8.toNatClampNeg), vI x11] (σ, M, N) _ _
      refine r_mmax J rfl wm_1_68 ⟨by omega, Nat.le_of_ble_eq_true rfl, by decide, by decide⟩ ?_
      show g_H E 0 0 165 [(13, vI sx0), (0, vR 24), (1, vI x1), (2, vI x2), (3, vI x3), (4, vI x4), (5, vI x5), (6, vI x6), (7, vI x7), (8, vI x8), (9, vI x9), (11, vI x11), (12, vI x12)] [vI (if x11 < (M 25 x8.toNatClampNeg) then (M 25 x8.toNatClampNeg) else x11)] (σ, M, N) _ _
      refine r_run J 3 (pc' := 170) (lv' := [(14, vI (if x11 < (M 25 x8.toNatClampNeg) then (M 25 x8.toNatClampNeg) else x11)), (13, vI sx0), (0, vR 24), (1, vI x1), (2, vI x2), (3, vI x3), (4, vI x4), (5, vI x5), (6, vI x6), (7, vI x7), (8, vI x8), (9, vI x9), (11, vI x11), (12, vI x12)]) (st' := [vR 24, vI (if x11 < (M 25 x8.toNatClampNeg) then (M 25 x8.toNatClampNeg) else x11)]) rfl ?_
      refine r_getR J cls1 rfl (k := 3) (t := 14) (by decide) wf_1_22 rfl rfl (ly_24 hL) (lr_24_3 hL) (fun _ => ?_)
      show g_H E 0 0 173 [(14, vI (if x11 < (M 25 x8.toNatClampNeg) then (M 25 x8.toNatClampNeg) else x11)), (13, vI sx0), (0, vR 24), (1, vI x1), (2, vI x2), (3, vI x3), (4, vI x4), (5, vI x5), (6, vI x6), (7, vI x7), (8, vI x8), (9, vI x9), (11, vI x11), (12, vI x12)] [vR 27, vI (if x11 < (M 25 x8.toNatClampNeg) then (M 25 x8.toNatClampNeg) else x11)] (σ, M, N) _ _
      refine r_run J 1 (pc' := 175) (lv' := [(14, vI (if x11 < (M 25 x8.toNatClampNeg) then (M 25 x8.toNatClampNeg) else x11)), (13, vI sx0), (0, vR 24), (1, vI x1), (2, vI x2), (3, vI x3), (4, vI x4), (5, vI x5), (6, vI x6), (7, vI x7), (8, vI x8), (9, vI x9), (11, vI x11), (12, vI x12)]) (st' := [vI x8, vR 27, vI (if x11 < (M 25 x8.toNatClampNeg) then (M 25 x8.toNatClampNeg) else x11)]) rfl ?_
      refine r_iald J rfl (ly_27 hL) (fun i175 => ?_)
      show g_H E 0 0 176 [(14, vI (if x11 < (M 25 x8.toNatClampNeg) then (M 25 x8.toNatClampNeg) else x11)), (13, vI sx0), (0, vR 24), (1, vI x1), (2, vI x2), (3, vI x3), (4, vI x4), (5, vI x5), (6, vI x6), (7, vI x7), (8, vI x8), (9, vI x9), (11, vI x11), (12, vI x12)] [vI (M 27 x8.toNatClampNeg), vI (if x11 < (M 25 x8.toNatClampNeg) then (M 25 x8.toNatClampNeg) else x11)] (σ, M, N) _ _
      refine r_run J 4 (pc' := 182) (lv' := [(15, vI ((if x11 < (M 25 x8.toNatClampNeg) then (M 25 x8.toNatClampNeg) else x11) + (M 27 x8.toNatClampNeg))), (14, vI (if x11 < (M 25 x8.toNatClampNeg) then (M 25 x8.toNatClampNeg) else x11)), (13, vI sx0), (0, vR 24), (1, vI x1), (2, vI x2), (3, vI x3), (4, vI x4), (5, vI x5), (6, vI x6), (7, vI x7), (8, vI x8), (9, vI x9), (11, vI x11), (12, vI x12)]) (st' := [vR 24, vI ((if x11 < (M 25 x8.toNatClampNeg) then (M 25 x8.toNatClampNeg) else x11) + (M 27 x8.toNatClampNeg))]) rfl ?_
      refine r_getR J cls1 rfl (k := 2) (t := 14) (by decide) wf_1_19 rfl rfl (ly_24 hL) (lr_24_2 hL) (fun _ => ?_)
      show g_H E 0 0 185 [(15, vI ((if x11 < (M 25 x8.toNatClampNeg) then (M 25 x8.toNatClampNeg) else x11) + (M 27 x8.toNatClampNeg))), (14, vI (if x11 < (M 25 x8.toNatClampNeg) then (M 25 x8.toNatClampNeg) else x11)), (13, vI sx0), (0, vR 24), (1, vI x1), (2, vI x2), (3, vI x3), (4, vI x4), (5, vI x5), (6, vI x6), (7, vI x7), (8, vI x8), (9, vI x9), (11, vI x11), (12, vI x12)] [vR 26, vI ((if x11 < (M 25 x8.toNatClampNeg) then (M 25 x8.toNatClampNeg) else x11) + (M 27 x8.toNatClampNeg))] (σ, M, N) _ _
      refine r_run J 1 (pc' := 187) (lv' := [(15, vI ((if x11 < (M 25 x8.toNatClampNeg) then (M 25 x8.toNatClampNeg) else x11) + (M 27 x8.toNatClampNeg))), (14, vI (if x11 < (M 25 x8.toNatClampNeg) then (M 25 x8.toNatClampNeg) else x11)), (13, vI sx0), (0, vR 24), (1, vI x1), (2, vI x2), (3, vI x3), (4, vI x4), (5, vI x5), (6, vI x6), (7, vI x7), (8, vI x8), (9, vI x9), (11, vI x11), (12, vI x12)]) (st' := [vI x8, vR 26, vI ((if x11 < (M 25 x8.toNatClampNeg) then (M 25 x8.toNatClampNeg) else x11) + (M 27 x8.toNatClampNeg))]) rfl ?_
      refine r_iald J rfl (ly_26 hL) (fun i187 => ?_)
      show g_H E 0 0 188 [(15, vI ((if x11 < (M 25 x8.toNatClampNeg) then (M 25 x8.toNatClampNeg) else x11) + (M 27 x8.toNatClampNeg))), (14, vI (if x11 < (M 25 x8.toNatClampNeg) then (M 25 x8.toNatClampNeg) else x11)), (13, vI sx0), (0, vR 24), (1, vI x1), (2, vI x2), (3, vI x3), (4, vI x4), (5, vI x5), (6, vI x6), (7, vI x7), (8, vI x8), (9, vI x9), (11, vI x11), (12, vI x12)] [vI (M 26 x8.toNatClampNeg), vI ((if x11 < (M 25 x8.toNatClampNeg) then (M 25 x8.toNatClampNeg) else x11) + (M 27 x8.toNatClampNeg))] (σ, M, N) _ _
      refine r_icmp_gt J (tgt := 258) rfl (by decide) (fun c188 => ?_) (fun c188 => ?_)
      · refine r_sub [3, 4, 5, 6, 7, 8, 9, 10, 11] (lv' := [(0, vR 24), (1, vI x1), (2, vI x2), (3, vI x3), (4, vI x4), (5, vI x5), (6, vI x6), (7, vI x7), (8, vI x8)]) rfl ?_
        exact p_X1_goOn_258 J hrecX1_goOn H10 x1 x2 x3 x4 x5 x6 x7 x8 σ M N hL
      · refine r_run J 2 (pc' := 194) (lv' := [(15, vI ((if x11 < (M 25 x8.toNatClampNeg) then (M 25 x8.toNatClampNeg) else x11) + (M 27 x8.toNatClampNeg))), (14, vI (if x11 < (M 25 x8.toNatClampNeg) then (M 25 x8.toNatClampNeg) else x11)), (13, vI sx0), (0, vR 24), (1, vI x1), (2, vI x2), (3, vI x3), (4, vI x4), (5, vI x5), (6, vI x6), (7, vI x7), (8, vI x8), (9, vI x9), (11, vI x11), (12, vI x12)]) (st' := [vI 6, vI x1]) rfl ?_
        refine r_icmp_ge J (tgt := 258) rfl (by decide) (fun c194 => ?_) (fun c194 => ?_)
        · refine r_run J 1 (pc' := 198) (lv' := [(15, vI ((if x11 < (M 25 x8.toNatClampNeg) then (M 25 x8.toNatClampNeg) else x11) + (M 27 x8.toNatClampNeg))), (14, vI (if x11 < (M 25 x8.toNatClampNeg) then (M 25 x8.toNatClampNeg) else x11)), (13, vI sx0), (0, vR 24), (1, vI x1), (2, vI x2), (3, vI x3), (4, vI x4), (5, vI x5), (6, vI x6), (7, vI x7), (8, vI x8), (9, vI x9), (11, vI x11), (12, vI x12)]) (st' := [vR 24]) rfl ?_
          refine r_getR J cls1 rfl (k := 5) (t := 14) (by decide) wf_1_28 rfl rfl (ly_24 hL) (lr_24_5 hL) (fun _ => ?_)
          show g_H E 0 0 201 [(15, vI ((if x11 < (M 25 x8.toNatClampNeg) then (M 25 x8.toNatClampNeg) else x11) + (M 27 x8.toNatClampNeg))), (14, vI (if x11 < (M 25 x8.toNatClampNeg) then (M 25 x8.toNatClampNeg) else x11)), (13, vI sx0), (0, vR 24), (1, vI x1), (2, vI x2), (3, vI x3), (4, vI x4), (5, vI x5), (6, vI x6), (7, vI x7), (8, vI x8), (9, vI x9), (11, vI x11), (12, vI x12)] [vR 29] (σ, M, N) _ _
          refine r_run J 2 (pc' := 204) (lv' := [(15, vI ((if x11 < (M 25 x8.toNatClampNeg) then (M 25 x8.toNatClampNeg) else x11) + (M 27 x8.toNatClampNeg))), (14, vI (if x11 < (M 25 x8.toNatClampNeg) then (M 25 x8.toNatClampNeg) else x11)), (13, vI sx0), (0, vR 24), (1, vI x1), (2, vI x2), (3, vI x3), (4, vI x4), (5, vI x5), (6, vI x6), (7, vI x7), (8, vI x8), (9, vI x9), (11, vI x11), (12, vI x12)]) (st' := [vI x8, vI x1, vR 29]) rfl ?_
          refine r_iast J rfl (ly_29 hL) (fun i204 => ?_)
          show g_H E 0 0 205 [(15, vI ((if x11 < (M 25 x8.toNatClampNeg) then (M 25 x8.toNatClampNeg) else x11) + (M 27 x8.toNatClampNeg))), (14, vI (if x11 < (M 25 x8.toNatClampNeg) then (M 25 x8.toNatClampNeg) else x11)), (13, vI sx0), (0, vR 24), (1, vI x1), (2, vI x2), (3, vI x3), (4, vI x4), (5, vI x5), (6, vI x6), (7, vI x7), (8, vI x8), (9, vI x9), (11, vI x11), (12, vI x12)] [] (σ, (g_up M 29 (x1.toNatClampNeg) x8), N) _ _
          refine r_run J 1 (pc' := 206) (lv' := [(15, vI ((if x11 < (M 25 x8.toNatClampNeg) then (M 25 x8.toNatClampNeg) else x11) + (M 27 x8.toNatClampNeg))), (14, vI (if x11 < (M 25 x8.toNatClampNeg) then (M 25 x8.toNatClampNeg) else x11)), (13, vI sx0), (0, vR 24), (1, vI x1), (2, vI x2), (3, vI x3), (4, vI x4), (5, vI x5), (6, vI x6), (7, vI x7), (8, vI x8), (9, vI x9), (11, vI x11), (12, vI x12)]) (st' := [vR 24]) rfl ?_
          refine r_getR J cls1 rfl (k := 6) (t := 14) (by decide) wf_1_31 rfl rfl (ly_24 hL) (lr_24_6 hL) (fun _ => ?_)
          show g_H E 0 0 209 [(15, vI ((if x11 < (M 25 x8.toNatClampNeg) then (M 25 x8.toNatClampNeg) else x11) + (M 27 x8.toNatClampNeg))), (14, vI (if x11 < (M 25 x8.toNatClampNeg) then (M 25 x8.toNatClampNeg) else x11)), (13, vI sx0), (0, vR 24), (1, vI x1), (2, vI x2), (3, vI x3), (4, vI x4), (5, vI x5), (6, vI x6), (7, vI x7), (8, vI x8), (9, vI x9), (11, vI x11), (12, vI x12)] [vR 30] (σ, (g_up M 29 (x1.toNatClampNeg) x8), N) _ _
          refine r_run J 2 (pc' := 212) (lv' := [(15, vI ((if x11 < (M 25 x8.toNatClampNeg) then (M 25 x8.toNatClampNeg) else x11) + (M 27 x8.toNatClampNeg))), (14, vI (if x11 < (M 25 x8.toNatClampNeg) then (M 25 x8.toNatClampNeg) else x11)), (13, vI sx0), (0, vR 24), (1, vI x1), (2, vI x2), (3, vI x3), (4, vI x4), (5, vI x5), (6, vI x6), (7, vI x7), (8, vI x8), (9, vI x9), (11, vI x11), (12, vI x12)]) (st' := [vI (if x11 < (M 25 x8.toNatClampNeg) then (M 25 x8.toNatClampNeg) else x11), vI x1, vR 30]) rfl ?_
          refine r_iast J rfl (ly_30 hL) (fun i212 => ?_)
          show g_H E 0 0 213 [(15, vI ((if x11 < (M 25 x8.toNatClampNeg) then (M 25 x8.toNatClampNeg) else x11) + (M 27 x8.toNatClampNeg))), (14, vI (if x11 < (M 25 x8.toNatClampNeg) then (M 25 x8.toNatClampNeg) else x11)), (13, vI sx0), (0, vR 24), (1, vI x1), (2, vI x2), (3, vI x3), (4, vI x4), (5, vI x5), (6, vI x6), (7, vI x7), (8, vI x8), (9, vI x9), (11, vI x11), (12, vI x12)] [] (σ, (g_up (g_up M 29 (x1.toNatClampNeg) x8) 30 (x1.toNatClampNeg) (if x11 < (M 25 x8.toNatClampNeg) then (M 25 x8.toNatClampNeg) else x11)), N) _ _
          refine r_run J 4 (pc' := 220) (lv' := [(15, vI ((if x11 < (M 25 x8.toNatClampNeg) then (M 25 x8.toNatClampNeg) else x11) + (M 27 x8.toNatClampNeg))), (14, vI (if x11 < (M 25 x8.toNatClampNeg) then (M 25 x8.toNatClampNeg) else x11)), (13, vI sx0), (0, vR 24), (1, vI x1), (2, vI x2), (3, vI x3), (4, vI x4), (5, vI x5), (6, vI x6), (7, vI x7), (8, vI x8), (9, vI x9), (11, vI x11), (12, vI x12)]) (st' := [vI 45, vI (((if x11 < (M 25 x8.toNatClampNeg) then (M 25 x8.toNatClampNeg) else x11) + (M 27 x8.toNatClampNeg)) - x11)]) rfl ?_
          refine r_icmp_lt J (tgt := 227) rfl (by decide) (fun c220 => ?_) (fun c220 => ?_)
          · refine r_run J 1 (pc' := 229) (lv' := [(15, vI ((if x11 < (M 25 x8.toNatClampNeg) then (M 25 x8.toNatClampNeg) else x11) + (M 27 x8.toNatClampNeg))), (14, vI (if x11 < (M 25 x8.toNatClampNeg) then (M 25 x8.toNatClampNeg) else x11)), (13, vI sx0), (0, vR 24), (1, vI x1), (2, vI x2), (3, vI x3), (4, vI x4), (5, vI x5), (6, vI x6), (7, vI x7), (8, vI x8), (9, vI x9), (11, vI x11), (12, vI x12)]) (st' := [vI x12]) rfl ?_
            refine r_sub [3, 4, 5, 6, 7, 8, 9, 10, 11, 12, 2, 0] (lv' := [(0, vR 24), (1, vI x1), (2, vI x2), (3, vI x3), (4, vI x4), (5, vI x5), (6, vI x6), (7, vI x7), (8, vI x8), (9, vI x9), (13, vI sx0), (15, vI ((if x11 < (M 25 x8.toNatClampNeg) then (M 25 x8.toNatClampNeg) else x11) + (M 27 x8.toNatClampNeg)))]) rfl ?_
            exact p_X1_goOn_229 J hrecX1_goOn H10 x1 x2 x3 x4 x5 x6 x7 x8 x9 sx0 ((if x11 < (M 25 x8.toNatClampNeg) then (M 25 x8.toNatClampNeg) else x11) + (M 27 x8.toNatClampNeg)) x12 σ (g_up (g_up M 29 (x1.toNatClampNeg) x8) 30 (x1.toNatClampNeg) (if x11 < (M 25 x8.toNatClampNeg) then (M 25 x8.toNatClampNeg) else x11)) N hL
          · refine r_run J 2 (pc' := 229) (lv' := [(15, vI ((if x11 < (M 25 x8.toNatClampNeg) then (M 25 x8.toNatClampNeg) else x11) + (M 27 x8.toNatClampNeg))), (14, vI (if x11 < (M 25 x8.toNatClampNeg) then (M 25 x8.toNatClampNeg) else x11)), (13, vI sx0), (0, vR 24), (1, vI x1), (2, vI x2), (3, vI x3), (4, vI x4), (5, vI x5), (6, vI x6), (7, vI x7), (8, vI x8), (9, vI x9), (11, vI x11), (12, vI x12)]) (st' := [vI 0]) rfl ?_
            refine r_sub [3, 4, 5, 6, 7, 8, 9, 10, 11, 12, 2, 0] (lv' := [(0, vR 24), (1, vI x1), (2, vI x2), (3, vI x3), (4, vI x4), (5, vI x5), (6, vI x6), (7, vI x7), (8, vI x8), (9, vI x9), (13, vI sx0), (15, vI ((if x11 < (M 25 x8.toNatClampNeg) then (M 25 x8.toNatClampNeg) else x11) + (M 27 x8.toNatClampNeg)))]) rfl ?_
            exact p_X1_goOn_229 J hrecX1_goOn H10 x1 x2 x3 x4 x5 x6 x7 x8 x9 sx0 ((if x11 < (M 25 x8.toNatClampNeg) then (M 25 x8.toNatClampNeg) else x11) + (M 27 x8.toNatClampNeg)) 0 σ (g_up (g_up M 29 (x1.toNatClampNeg) x8) 30 (x1.toNatClampNeg) (if x11 < (M 25 x8.toNatClampNeg) then (M 25 x8.toNatClampNeg) else x11)) N hL
        · refine r_sub [3, 4, 5, 6, 7, 8, 9, 10, 11] (lv' := [(0, vR 24), (1, vI x1), (2, vI x2), (3, vI x3), (4, vI x4), (5, vI x5), (6, vI x6), (7, vI x7), (8, vI x8)]) rfl ?_
          exact p_X1_goOn_258 J hrecX1_goOn H10 x1 x2 x3 x4 x5 x6 x7 x8 σ M N hL
    · refine r_sub [1, 2, 3, 4, 5, 6, 7, 8, 9] (lv' := [(0, vR 24), (1, vI x1), (2, vI x2), (3, vI x3), (4, vI x4), (5, vI x5), (6, vI x6), (7, vI x7), (8, vI x8)]) rfl ?_
      exact p_X1_goOn_258 J hrecX1_goOn H10 x1 x2 x3 x4 x5 x6 x7 x8 σ M N hL
set_option maxHeartbeats 4000000 in
set_option maxRecDepth 100000 in
theorem p_X1_goOn_103 {l : Launch} {E : gE} {d' : Nat}  {recX1_goOn : Int32 → Int32 → Int32 → Int32 → Int32 → Int32 → Int32 → gS → gM → Option (gM)}(J : J_X1_goOn (d' + 1) E l) (hrecX1_goOn : ∀ (x1 : Int32) (x2 : Int32) (x3 : Int32) (x4 : Int32) (x5 : Int32) (x6 : Int32) (x7 : Int32) (σ : gS) (M : gM) (N : gN) (_ : g_layC σ) r, recX1_goOn x1 x2 x3 x4 x5 x6 x7 σ M = some r → g_Ct l yX1_goOn cX1_goOn 17 none (3 + d') 0 0 [vR 24, vI x1, vI x2, vI x3, vI x4, vI x5, vI x6, vI x7] (σ, M, N) (eVM σ N r)) {k10 : Int32 → Int32 → Int32 → Int32 → Int32 → Int32 → Int32 → Int32 → gS → gM → Option (gM)} (H10 : ∀ (x1 : Int32) (x2 : Int32) (x3 : Int32) (x4 : Int32) (x5 : Int32) (x6 : Int32) (x7 : Int32) (x8 : Int32) (σ : gS) (M : gM) (N : gN) (_ : g_layC σ), g_H E 0 0 10 [(0, vR 24), (1, vI x1), (2, vI x2), (3, vI x3), (4, vI x4), (5, vI x5), (6, vI x6), (7, vI x7), (8, vI x8)] [] (σ, M, N) (k10 x1 x2 x3 x4 x5 x6 x7 x8 σ M) (eVM σ N)) (x1 : Int32) (x2 : Int32) (x3 : Int32) (x4 : Int32) (x5 : Int32) (x6 : Int32) (x7 : Int32) (x8 : Int32) (x9 : Int32) (x10 : Int32) (x11 : Int32) (sx0 : Int32) (σ : gS) (M : gM) (N : gN) (hL : g_layC σ) : g_H E 0 0 103 [(0, vR 24), (1, vI x1), (2, vI x2), (3, vI x3), (4, vI x4), (5, vI x5), (6, vI x6), (7, vI x7), (8, vI x8), (9, vI x9), (10, vI x10), (11, vI x11)] [vI sx0] (σ, M, N) (b_X1_goOn_103 recX1_goOn k10 x1 x2 x3 x4 x5 x6 x7 x8 x9 x10 x11 sx0 σ M) (eVM σ N) := by
  unfold b_X1_goOn_103
  refine r_run J 2 (pc' := 107) (lv' := [(12, vI sx0), (0, vR 24), (1, vI x1), (2, vI x2), (3, vI x3), (4, vI x4), (5, vI x5), (6, vI x6), (7, vI x7), (8, vI x8), (9, vI x9), (10, vI x10), (11, vI x11)]) (st' := [vI x10]) rfl ?_
  refine r_if_eq J (tgt := 117) rfl (by decide) (fun c107 => ?_) (fun c107 => ?_)
  · refine r_run J 1 (pc' := 119) (lv' := [(12, vI sx0), (0, vR 24), (1, vI x1), (2, vI x2), (3, vI x3), (4, vI x4), (5, vI x5), (6, vI x6), (7, vI x7), (8, vI x8), (9, vI x9), (10, vI x10), (11, vI x11)]) (st' := [vI x6]) rfl ?_
    refine r_sub [1, 2, 3, 4, 5, 6, 7, 8, 9, 10, 12, 0] (lv' := [(0, vR 24), (1, vI x1), (2, vI x2), (3, vI x3), (4, vI x4), (5, vI x5), (6, vI x6), (7, vI x7), (8, vI x8), (9, vI x9), (11, vI x11), (12, vI sx0)]) rfl ?_
    exact p_X1_goOn_119 J hrecX1_goOn H10 x1 x2 x3 x4 x5 x6 x7 x8 x9 x11 sx0 x6 σ M N hL
  · refine r_run J 4 (pc' := 119) (lv' := [(12, vI sx0), (0, vR 24), (1, vI x1), (2, vI x2), (3, vI x3), (4, vI x4), (5, vI x5), (6, vI x6), (7, vI x7), (8, vI x8), (9, vI x9), (10, vI x10), (11, vI x11)]) (st' := [vI (x6 + (1 : Int32))]) rfl ?_
    refine r_sub [1, 2, 3, 4, 5, 6, 7, 8, 9, 10, 12, 0] (lv' := [(0, vR 24), (1, vI x1), (2, vI x2), (3, vI x3), (4, vI x4), (5, vI x5), (6, vI x6), (7, vI x7), (8, vI x8), (9, vI x9), (11, vI x11), (12, vI sx0)]) rfl ?_
    exact p_X1_goOn_119 J hrecX1_goOn H10 x1 x2 x3 x4 x5 x6 x7 x8 x9 x11 sx0 (x6 + (1 : Int32)) σ M N hL
set_option maxHeartbeats 4000000 in
set_option maxRecDepth 100000 in
theorem p_X1_goOn_85 {l : Launch} {E : gE} {d' : Nat}  {recX1_goOn : Int32 → Int32 → Int32 → Int32 → Int32 → Int32 → Int32 → gS → gM → Option (gM)}(J : J_X1_goOn (d' + 1) E l) (hrecX1_goOn : ∀ (x1 : Int32) (x2 : Int32) (x3 : Int32) (x4 : Int32) (x5 : Int32) (x6 : Int32) (x7 : Int32) (σ : gS) (M : gM) (N : gN) (_ : g_layC σ) r, recX1_goOn x1 x2 x3 x4 x5 x6 x7 σ M = some r → g_Ct l yX1_goOn cX1_goOn 17 none (3 + d') 0 0 [vR 24, vI x1, vI x2, vI x3, vI x4, vI x5, vI x6, vI x7] (σ, M, N) (eVM σ N r)) {k10 : Int32 → Int32 → Int32 → Int32 → Int32 → Int32 → Int32 → Int32 → gS → gM → Option (gM)} (H10 : ∀ (x1 : Int32) (x2 : Int32) (x3 : Int32) (x4 : Int32) (x5 : Int32) (x6 : Int32) (x7 : Int32) (x8 : Int32) (σ : gS) (M : gM) (N : gN) (_ : g_layC σ), g_H E 0 0 10 [(0, vR 24), (1, vI x1), (2, vI x2), (3, vI x3), (4, vI x4), (5, vI x5), (6, vI x6), (7, vI x7), (8, vI x8)] [] (σ, M, N) (k10 x1 x2 x3 x4 x5 x6 x7 x8 σ M) (eVM σ N)) (x1 : Int32) (x2 : Int32) (x3 : Int32) (x4 : Int32) (x5 : Int32) (x6 : Int32) (x7 : Int32) (x8 : Int32) (x9 : Int32) (x10 : Int32) (sx0 : Int32) (sx1 : Int32) (σ : gS) (M : gM) (N : gN) (hL : g_layC σ) : g_H E 0 0 85 [(0, vR 24), (1, vI x1), (2, vI x2), (3, vI x3), (4, vI x4), (5, vI x5), (6, vI x6), (7, vI x7), (8, vI x8), (9, vI x9), (10, vI x10)] [vI sx0, vI sx1] (σ, M, N) (b_X1_goOn_85 recX1_goOn k10 x1 x2 x3 x4 x5 x6 x7 x8 x9 x10 sx0 sx1 σ M) (eVM σ N) := by
  unfold b_X1_goOn_85
  refine r_run J 3 (pc' := 90) (lv' := [(11, vI (sx1 + sx0)), (0, vR 24), (1, vI x1), (2, vI x2), (3, vI x3), (4, vI x4), (5, vI x5), (6, vI x6), (7, vI x7), (8, vI x8), (9, vI x9), (10, vI x10)]) (st' := [vI x10]) rfl ?_
  refine r_if_eq J (tgt := 98) rfl (by decide) (fun c90 => ?_) (fun c90 => ?_)
  · refine r_run J 3 (pc' := 103) (lv' := [(11, vI (sx1 + sx0)), (0, vR 24), (1, vI x1), (2, vI x2), (3, vI x3), (4, vI x4), (5, vI x5), (6, vI x6), (7, vI x7), (8, vI x8), (9, vI x9), (10, vI x10)]) (st' := [vI (x4 + x9)]) rfl ?_
    refine r_sub [1, 2, 3, 4, 5, 6, 7, 8, 9, 10, 11, 0] (lv' := [(0, vR 24), (1, vI x1), (2, vI x2), (3, vI x3), (4, vI x4), (5, vI x5), (6, vI x6), (7, vI x7), (8, vI x8), (9, vI x9), (10, vI x10), (11, vI (sx1 + sx0))]) rfl ?_
    exact p_X1_goOn_103 J hrecX1_goOn H10 x1 x2 x3 x4 x5 x6 x7 x8 x9 x10 (sx1 + sx0) (x4 + x9) σ M N hL
  · refine r_run J 2 (pc' := 103) (lv' := [(11, vI (sx1 + sx0)), (0, vR 24), (1, vI x1), (2, vI x2), (3, vI x3), (4, vI x4), (5, vI x5), (6, vI x6), (7, vI x7), (8, vI x8), (9, vI x9), (10, vI x10)]) (st' := [vI x9]) rfl ?_
    refine r_sub [1, 2, 3, 4, 5, 6, 7, 8, 9, 10, 11, 0] (lv' := [(0, vR 24), (1, vI x1), (2, vI x2), (3, vI x3), (4, vI x4), (5, vI x5), (6, vI x6), (7, vI x7), (8, vI x8), (9, vI x9), (10, vI x10), (11, vI (sx1 + sx0))]) rfl ?_
    exact p_X1_goOn_103 J hrecX1_goOn H10 x1 x2 x3 x4 x5 x6 x7 x8 x9 x10 (sx1 + sx0) x9 σ M N hL
set_option maxHeartbeats 4000000 in
set_option maxRecDepth 100000 in
theorem p_X1_goOn_68 {l : Launch} {E : gE} {d' : Nat}  {recX1_goOn : Int32 → Int32 → Int32 → Int32 → Int32 → Int32 → Int32 → gS → gM → Option (gM)}(J : J_X1_goOn (d' + 1) E l) (hrecX1_goOn : ∀ (x1 : Int32) (x2 : Int32) (x3 : Int32) (x4 : Int32) (x5 : Int32) (x6 : Int32) (x7 : Int32) (σ : gS) (M : gM) (N : gN) (_ : g_layC σ) r, recX1_goOn x1 x2 x3 x4 x5 x6 x7 σ M = some r → g_Ct l yX1_goOn cX1_goOn 17 none (3 + d') 0 0 [vR 24, vI x1, vI x2, vI x3, vI x4, vI x5, vI x6, vI x7] (σ, M, N) (eVM σ N r)) {k10 : Int32 → Int32 → Int32 → Int32 → Int32 → Int32 → Int32 → Int32 → gS → gM → Option (gM)} (H10 : ∀ (x1 : Int32) (x2 : Int32) (x3 : Int32) (x4 : Int32) (x5 : Int32) (x6 : Int32) (x7 : Int32) (x8 : Int32) (σ : gS) (M : gM) (N : gN) (_ : g_layC σ), g_H E 0 0 10 [(0, vR 24), (1, vI x1), (2, vI x2), (3, vI x3), (4, vI x4), (5, vI x5), (6, vI x6), (7, vI x7), (8, vI x8)] [] (σ, M, N) (k10 x1 x2 x3 x4 x5 x6 x7 x8 σ M) (eVM σ N)) (x1 : Int32) (x2 : Int32) (x3 : Int32) (x4 : Int32) (x5 : Int32) (x6 : Int32) (x7 : Int32) (x8 : Int32) (x9 : Int32) (sx0 : Int32) (σ : gS) (M : gM) (N : gN) (hL : g_layC σ) : g_H E 0 0 68 [(0, vR 24), (1, vI x1), (2, vI x2), (3, vI x3), (4, vI x4), (5, vI x5), (6, vI x6), (7, vI x7), (8, vI x8), (9, vI x9)] [vI sx0] (σ, M, N) (b_X1_goOn_68 recX1_goOn k10 x1 x2 x3 x4 x5 x6 x7 x8 x9 sx0 σ M) (eVM σ N) := by
  unfold b_X1_goOn_68
  refine r_run J 5 (pc' := 76) (lv' := [(10, vI sx0), (0, vR 24), (1, vI x1), (2, vI x2), (3, vI x3), (4, vI x4), (5, vI x5), (6, vI x6), (7, vI x7), (8, vI x8), (9, vI x9)]) (st' := [vI sx0, vI (x3 + x9)]) rfl ?_
  refine r_if_eq J (tgt := 84) rfl (by decide) (fun c76 => ?_) (fun c76 => ?_)
  · refine r_run J 1 (pc' := 85) (lv' := [(10, vI sx0), (0, vR 24), (1, vI x1), (2, vI x2), (3, vI x3), (4, vI x4), (5, vI x5), (6, vI x6), (7, vI x7), (8, vI x8), (9, vI x9)]) (st' := [vI 0, vI (x3 + x9)]) rfl ?_
    refine r_sub [1, 2, 3, 4, 5, 6, 7, 8, 9, 10, 0] (lv' := [(0, vR 24), (1, vI x1), (2, vI x2), (3, vI x3), (4, vI x4), (5, vI x5), (6, vI x6), (7, vI x7), (8, vI x8), (9, vI x9), (10, vI sx0)]) rfl ?_
    exact p_X1_goOn_85 J hrecX1_goOn H10 x1 x2 x3 x4 x5 x6 x7 x8 x9 sx0 0 (x3 + x9) σ M N hL
  · refine r_run J 2 (pc' := 85) (lv' := [(10, vI sx0), (0, vR 24), (1, vI x1), (2, vI x2), (3, vI x3), (4, vI x4), (5, vI x5), (6, vI x6), (7, vI x7), (8, vI x8), (9, vI x9)]) (st' := [vI 45, vI (x3 + x9)]) rfl ?_
    refine r_sub [1, 2, 3, 4, 5, 6, 7, 8, 9, 10, 0] (lv' := [(0, vR 24), (1, vI x1), (2, vI x2), (3, vI x3), (4, vI x4), (5, vI x5), (6, vI x6), (7, vI x7), (8, vI x8), (9, vI x9), (10, vI sx0)]) rfl ?_
    exact p_X1_goOn_85 J hrecX1_goOn H10 x1 x2 x3 x4 x5 x6 x7 x8 x9 sx0 45 (x3 + x9) σ M N hL
set_option maxHeartbeats 4000000 in
set_option maxRecDepth 100000 in
theorem p_X1_goOn_10 {l : Launch} {E : gE} {d' : Nat}  {recX1_goOn : Int32 → Int32 → Int32 → Int32 → Int32 → Int32 → Int32 → gS → gM → Option (gM)}(J : J_X1_goOn (d' + 1) E l) (hrecX1_goOn : ∀ (x1 : Int32) (x2 : Int32) (x3 : Int32) (x4 : Int32) (x5 : Int32) (x6 : Int32) (x7 : Int32) (σ : gS) (M : gM) (N : gN) (_ : g_layC σ) r, recX1_goOn x1 x2 x3 x4 x5 x6 x7 σ M = some r → g_Ct l yX1_goOn cX1_goOn 17 none (3 + d') 0 0 [vR 24, vI x1, vI x2, vI x3, vI x4, vI x5, vI x6, vI x7] (σ, M, N) (eVM σ N r)) : ∀ (n : Nat) (x1 : Int32) (x2 : Int32) (x3 : Int32) (x4 : Int32) (x5 : Int32) (x6 : Int32) (x7 : Int32) (x8 : Int32) (σ : gS) (M : gM) (N : gN) (hL : g_layC σ), g_H E 0 0 10 [(0, vR 24), (1, vI x1), (2, vI x2), (3, vI x3), (4, vI x4), (5, vI x5), (6, vI x6), (7, vI x7), (8, vI x8)] [] (σ, M, N) (l_X1_goOn_10 recX1_goOn n x1 x2 x3 x4 x5 x6 x7 x8 σ M) (eVM σ N) := by
  intro n
  induction n with
  | zero => intros; exact h_none
  | succ n ih =>
    intro x1 x2 x3 x4 x5 x6 x7 x8 σ M N hL
    rw [l_X1_goOn_10]
    refine r_run J 2 (pc' := 13) (lv' := [(0, vR 24), (1, vI x1), (2, vI x2), (3, vI x3), (4, vI x4), (5, vI x5), (6, vI x6), (7, vI x7), (8, vI x8)]) (st' := [vR 24, vI x8]) rfl ?_
    refine r_getI J cls1 rfl (k := 0) (by decide) wf_1_11 rfl (ly_24 hL) ?_
    show g_H E 0 0 16 [(0, vR 24), (1, vI x1), (2, vI x2), (3, vI x3), (4, vI x4), (5, vI x5), (6, vI x6), (7, vI x7), (8, vI x8)] [vI (M 24 0), vI x8] (σ, M, N) _ _
    refine r_icmp_gt J (tgt := 264) rfl (by decide) (fun c16 => ?_) (fun c16 => ?_)
    · exact r_vret J rfl rfl rfl (by decide) (by decide)
    · refine r_run J 1 (pc' := 20) (lv' := [(0, vR 24), (1, vI x1), (2, vI x2), (3, vI x3), (4, vI x4), (5, vI x5), (6, vI x6), (7, vI x7), (8, vI x8)]) (st' := [vR 24]) rfl ?_
      refine r_getR J cls1 rfl (k := 4) (t := 14) (by decide) wf_1_25 rfl rfl (ly_24 hL) (lr_24_4 hL) (fun _ => ?_)
      show g_H E 0 0 23 [(0, vR 24), (1, vI x1), (2, vI x2), (3, vI x3), (4, vI x4), (5, vI x5), (6, vI x6), (7, vI x7), (8, vI x8)] [vR 28] (σ, M, N) _ _
      refine r_run J 5 (pc' := 30) (lv' := [(0, vR 24), (1, vI x1), (2, vI x2), (3, vI x3), (4, vI x4), (5, vI x5), (6, vI x6), (7, vI x7), (8, vI x8)]) (st' := [vI ((x2 * (7 : Int32)) + x8), vR 28]) rfl ?_
      refine r_iald J rfl (ly_28 hL) (fun i30 => ?_)
      show g_H E 0 0 31 [(0, vR 24), (1, vI x1), (2, vI x2), (3, vI x3), (4, vI x4), (5, vI x5), (6, vI x6), (7, vI x7), (8, vI x8)] [vI (M 28 ((x2 * (7 : Int32)) + x8).toNatClampNeg)] (σ, M, N) _ _
      refine r_run J 2 (pc' := 35) (lv' := [(9, vI (M 28 ((x2 * (7 : Int32)) + x8).toNatClampNeg)), (0, vR 24), (1, vI x1), (2, vI x2), (3, vI x3), (4, vI x4), (5, vI x5), (6, vI x6), (7, vI x7), (8, vI x8)]) (st' := [vI (M 28 ((x2 * (7 : Int32)) + x8).toNatClampNeg)]) rfl ?_
      refine r_if_eq J (tgt := 258) rfl (by decide) (fun c35 => ?_) (fun c35 => ?_)
      · refine r_sub [1, 2, 3, 4, 5, 6, 7, 8, 9] (lv' := [(0, vR 24), (1, vI x1), (2, vI x2), (3, vI x3), (4, vI x4), (5, vI x5), (6, vI x6), (7, vI x7), (8, vI x8)]) rfl ?_
        exact p_X1_goOn_258 J hrecX1_goOn ih x1 x2 x3 x4 x5 x6 x7 x8 σ M N hL
      · refine r_run J 4 (pc' := 46) (lv' := [(9, vI (M 28 ((x2 * (7 : Int32)) + x8).toNatClampNeg)), (0, vR 24), (1, vI x1), (2, vI x2), (3, vI x3), (4, vI x4), (5, vI x5), (6, vI x6), (7, vI x7), (8, vI x8)]) (st' := [vI 540, vI (x5 + (M 28 ((x2 * (7 : Int32)) + x8).toNatClampNeg))]) rfl ?_
        refine r_icmp_le J (tgt := 52) rfl (by decide) (fun c46 => ?_) (fun c46 => ?_)
        · refine r_run J 1 (pc' := 258) (lv' := [(9, vI (M 28 ((x2 * (7 : Int32)) + x8).toNatClampNeg)), (0, vR 24), (1, vI x1), (2, vI x2), (3, vI x3), (4, vI x4), (5, vI x5), (6, vI x6), (7, vI x7), (8, vI x8)]) (st' := []) rfl ?_
          refine r_sub [1, 2, 3, 4, 5, 6, 7, 8, 9] (lv' := [(0, vR 24), (1, vI x1), (2, vI x2), (3, vI x3), (4, vI x4), (5, vI x5), (6, vI x6), (7, vI x7), (8, vI x8)]) rfl ?_
          exact p_X1_goOn_258 J hrecX1_goOn ih x1 x2 x3 x4 x5 x6 x7 x8 σ M N hL
        · refine r_run J 4 (pc' := 60) (lv' := [(9, vI (M 28 ((x2 * (7 : Int32)) + x8).toNatClampNeg)), (0, vR 24), (1, vI x1), (2, vI x2), (3, vI x3), (4, vI x4), (5, vI x5), (6, vI x6), (7, vI x7), (8, vI x8)]) (st' := [vI 270, vI (x4 + (M 28 ((x2 * (7 : Int32)) + x8).toNatClampNeg))]) rfl ?_
          refine r_icmp_le J (tgt := 67) rfl (by decide) (fun c60 => ?_) (fun c60 => ?_)
          · refine r_run J 2 (pc' := 68) (lv' := [(9, vI (M 28 ((x2 * (7 : Int32)) + x8).toNatClampNeg)), (0, vR 24), (1, vI x1), (2, vI x2), (3, vI x3), (4, vI x4), (5, vI x5), (6, vI x6), (7, vI x7), (8, vI x8)]) (st' := [vI 1]) rfl ?_
            refine r_sub [1, 2, 3, 4, 5, 6, 7, 8, 9, 0] (lv' := [(0, vR 24), (1, vI x1), (2, vI x2), (3, vI x3), (4, vI x4), (5, vI x5), (6, vI x6), (7, vI x7), (8, vI x8), (9, vI (M 28 ((x2 * (7 : Int32)) + x8).toNatClampNeg))]) rfl ?_
            exact p_X1_goOn_68 J hrecX1_goOn ih x1 x2 x3 x4 x5 x6 x7 x8 (M 28 ((x2 * (7 : Int32)) + x8).toNatClampNeg) 1 σ M N hL
          · refine r_run J 1 (pc' := 68) (lv' := [(9, vI (M 28 ((x2 * (7 : Int32)) + x8).toNatClampNeg)), (0, vR 24), (1, vI x1), (2, vI x2), (3, vI x3), (4, vI x4), (5, vI x5), (6, vI x6), (7, vI x7), (8, vI x8)]) (st' := [vI 0]) rfl ?_
            refine r_sub [1, 2, 3, 4, 5, 6, 7, 8, 9, 0] (lv' := [(0, vR 24), (1, vI x1), (2, vI x2), (3, vI x3), (4, vI x4), (5, vI x5), (6, vI x6), (7, vI x7), (8, vI x8), (9, vI (M 28 ((x2 * (7 : Int32)) + x8).toNatClampNeg))]) rfl ?_
            exact p_X1_goOn_68 J hrecX1_goOn ih x1 x2 x3 x4 x5 x6 x7 x8 (M 28 ((x2 * (7 : Int32)) + x8).toNatClampNeg) 0 σ M N hL
set_option maxHeartbeats 4000000 in
set_option maxRecDepth 100000 in
theorem p_X1_goOn_0 {l : Launch} {E : gE} {d' : Nat}  {recX1_goOn : Int32 → Int32 → Int32 → Int32 → Int32 → Int32 → Int32 → gS → gM → Option (gM)}(J : J_X1_goOn (d' + 1) E l) (hrecX1_goOn : ∀ (x1 : Int32) (x2 : Int32) (x3 : Int32) (x4 : Int32) (x5 : Int32) (x6 : Int32) (x7 : Int32) (σ : gS) (M : gM) (N : gN) (_ : g_layC σ) r, recX1_goOn x1 x2 x3 x4 x5 x6 x7 σ M = some r → g_Ct l yX1_goOn cX1_goOn 17 none (3 + d') 0 0 [vR 24, vI x1, vI x2, vI x3, vI x4, vI x5, vI x6, vI x7] (σ, M, N) (eVM σ N r)) (x1 : Int32) (x2 : Int32) (x3 : Int32) (x4 : Int32) (x5 : Int32) (x6 : Int32) (x7 : Int32) (σ : gS) (M : gM) (N : gN) (hL : g_layC σ) : g_H E 0 0 0 [(0, vR 24), (1, vI x1), (2, vI x2), (3, vI x3), (4, vI x4), (5, vI x5), (6, vI x6), (7, vI x7)] [] (σ, M, N) (b_X1_goOn_0 recX1_goOn x1 x2 x3 x4 x5 x6 x7 σ M) (eVM σ N) := by
  unfold b_X1_goOn_0
  refine r_run J 2 (pc' := 3) (lv' := [(0, vR 24), (1, vI x1), (2, vI x2), (3, vI x3), (4, vI x4), (5, vI x5), (6, vI x6), (7, vI x7)]) (st' := [vI 6, vI x1]) rfl ?_
  refine r_icmp_le J (tgt := 7) rfl (by decide) (fun c3 => ?_) (fun c3 => ?_)
  · exact r_vret J rfl rfl rfl (by decide) (by decide)
  · refine r_run J 2 (pc' := 10) (lv' := [(8, vI 0), (0, vR 24), (1, vI x1), (2, vI x2), (3, vI x3), (4, vI x4), (5, vI x5), (6, vI x6), (7, vI x7)]) (st' := []) rfl ?_
    refine r_sub [1, 2, 3, 4, 5, 6, 7, 8, 0] (lv' := [(0, vR 24), (1, vI x1), (2, vI x2), (3, vI x3), (4, vI x4), (5, vI x5), (6, vI x6), (7, vI x7), (8, vI 0)]) rfl ?_
    exact p_X1_goOn_10 J hrecX1_goOn g_FU x1 x2 x3 x4 x5 x6 x7 0 σ M N hL
set_option maxHeartbeats 4000000 in
theorem cg_X1_goOn {l : Launch} : ∀ d : Nat, (∀ (x1 : Int32) (x2 : Int32) (x3 : Int32) (x4 : Int32) (x5 : Int32) (x6 : Int32) (x7 : Int32) (σ : gS) (M : gM) (N : gN) (_ : g_layC σ) r, f_X1_goOn d x1 x2 x3 x4 x5 x6 x7 σ M = some r → g_Ct l yX1_goOn cX1_goOn 17 none (3 + d) 0 0 [vR 24, vI x1, vI x2, vI x3, vI x4, vI x5, vI x6, vI x7] (σ, M, N) (eVM σ N r)) := by
  intro d
  induction d with
  | zero =>
    exact (fun _ _ _ _ _ _ _ _ _ _ _ _ h => by cases h)
  | succ d ih =>
    exact fun x1 x2 x3 x4 x5 x6 x7 σ M N hL r h => g_Ct.of tb_X1_goOn (by decide +kernel) tk_X1_goOn (Nat.le_of_ble_eq_true rfl) (fun E J => p_X1_goOn_0 J ih x1 x2 x3 x4 x5 x6 x7 σ M N hL r h)
theorem c_X1_goOn {l : Launch} (d : Nat) : ∀ (x1 : Int32) (x2 : Int32) (x3 : Int32) (x4 : Int32) (x5 : Int32) (x6 : Int32) (x7 : Int32) (σ : gS) (M : gM) (N : gN) (_ : g_layC σ) r, f_X1_goOn d x1 x2 x3 x4 x5 x6 x7 σ M = some r → g_Ct l yX1_goOn cX1_goOn 17 none (3 + d) 0 0 [vR 24, vI x1, vI x2, vI x3, vI x4, vI x5, vI x6, vI x7] (σ, M, N) (eVM σ N r) := (cg_X1_goOn d)
def tb_X1_plan : gT := [(0, .iload_n 1, 1, 0), (1, .iconst 0, 1, 0), (2, .sipush 1440, 3, 1440), (5, .invokestatic 56, 3, 0), (8, .ifCond .ne 5, 3, 0), (11, .iconst (-1), 1, (-1)), (12, .ireturn, 1, 0), (13, .aload_n 0, 1, 0), (14, .iconst 1, 1, 1), (15, .putfield 40, 3, 0), (18, .aload_n 0, 1, 0), (19, .iconst 0, 1, 0), (20, .putfield 44, 3, 0), (23, .aload_n 0, 1, 0), (24, .iload_n 1, 1, 0), (25, .putfield 47, 3, 0), (28, .aload_n 0, 1, 0), (29, .iconst 0, 1, 0), (30, .putfield 50, 3, 0), (33, .aload_n 0, 1, 0), (34, .iconst 0, 1, 0), (35, .putfield 53, 3, 0), (38, .aload_n 0, 1, 0), (39, .iconst 0, 1, 0), (40, .iconst 0, 1, 0), (41, .iload_n 1, 1, 0), (42, .iconst 0, 1, 0), (43, .iconst 0, 1, 0), (44, .iconst 0, 1, 0), (45, .iconst 1, 1, 1), (46, .invokevirtual 60, 3, 0), (49, .aload_n 0, 1, 0), (50, .getfield 44, 3, 0), (53, .ireturn, 1, 0)]
set_option maxRecDepth 100000 in
theorem tk_X1_plan : g_okT cX1_plan tb_X1_plan = true := by decide +kernel
abbrev J_X1_plan (E : gE) (l : Launch) : Prop := g_J E cX1_plan RX1 "plan" (some .int) 2 tb_X1_plan 68 0 0 l
set_option maxHeartbeats 4000000 in
set_option maxRecDepth 100000 in
theorem p_X1_plan_28 {l : Launch} {E : gE} (J : J_X1_plan E l) (x1 : Int32) (σ : gS) (M : gM) (N : gN) (hL : g_layC σ) : g_H E 0 0 28 [(0, vR 24), (1, vI x1)] [] (σ, M, N) (b_X1_plan_28 x1 σ M) (eIM σ N) := by
  unfold b_X1_plan_28
  refine r_run J 2 (pc' := 30) (lv' := [(0, vR 24), (1, vI x1)]) (st' := [vI 0, vR 24]) rfl ?_
  refine r_putI J cls1 rfl (k := 12) (by decide) wf_1_50 rfl (Or.inl rfl) ⟨rfl, rfl⟩ (ly_24 hL) ?_
  show g_H E 0 0 33 [(0, vR 24), (1, vI x1)] [] (σ, (g_up M 24 12 0), N) _ _
  refine r_run J 2 (pc' := 35) (lv' := [(0, vR 24), (1, vI x1)]) (st' := [vI 0, vR 24]) rfl ?_
  refine r_putI J cls1 rfl (k := 13) (by decide) wf_1_53 rfl (Or.inl rfl) ⟨rfl, rfl⟩ (ly_24 hL) ?_
  show g_H E 0 0 38 [(0, vR 24), (1, vI x1)] [] (σ, (g_up (g_up M 24 12 0) 24 13 0), N) _ _
  refine r_run J 8 (pc' := 46) (lv' := [(0, vR 24), (1, vI x1)]) (st' := [vI 1, vI 0, vI 0, vI 0, vI x1, vI 0, vI 0, vR 24]) rfl ?_
  refine r_callV J (As := [vI 0, vI 0, vI x1, vI 0, vI 0, vI 0, vI 1]) (st := []) (fun r hr => c_X1_goOn 64 0 0 x1 0 0 0 1 σ (g_up (g_up M 24 12 0) 24 13 0) N hL r hr) cls1 (ly_24 hL) wm_1_60 wy_X1_goOn wd_X1_goOn ⟨by omega, by decide, by decide, by decide, Nat.le_of_ble_eq_true rfl⟩ rfl rfl (fun q46 hq46 => ?_)
  show g_H E 0 0 49 [(0, vR 24), (1, vI x1)] [] (σ, q46, N) _ _
  refine r_run J 1 (pc' := 50) (lv' := [(0, vR 24), (1, vI x1)]) (st' := [vR 24]) rfl ?_
  refine r_getI J cls1 rfl (k := 10) (by decide) wf_1_44 rfl (ly_24 hL) ?_
  show g_H E 0 0 53 [(0, vR 24), (1, vI x1)] [vI (q46 24 10)] (σ, q46, N) _ _
  exact r_iret J rfl rfl rfl rfl (by decide) (by decide)
set_option maxHeartbeats 4000000 in
set_option maxRecDepth 100000 in
theorem p_X1_plan_0 {l : Launch} {E : gE} (J : J_X1_plan E l) (x1 : Int32) (σ : gS) (M : gM) (N : gN) (hL : g_layC σ) : g_H E 0 0 0 [(0, vR 24), (1, vI x1)] [] (σ, M, N) (b_X1_plan_0 x1 σ M) (eIM σ N) := by
  unfold b_X1_plan_0
  refine r_run J 3 (pc' := 5) (lv' := [(0, vR 24), (1, vI x1)]) (st' := [vI 1440, vI 0, vI x1]) rfl ?_
  refine r_callSN J (As := [vI x1, vI 0, vI 1440]) (st := []) (fun r hr => c_X11_isWithin x1 0 1440 σ M N hL r hr) wn_1_56 wy_X11_isWithin wd_X11_isWithin ⟨by decide, by decide, by decide, by decide, Nat.le_of_ble_eq_true rfl⟩ rfl rfl (fun q5 hq5 => ?_)
  show g_H E 0 0 8 [(0, vR 24), (1, vI x1)] [vI q5] (σ, M, N) _ _
  refine r_if_ne J (tgt := 13) rfl (by decide) (fun c8 => ?_) (fun c8 => ?_)
  · refine r_run J 1 (pc' := 12) (lv' := [(0, vR 24), (1, vI x1)]) (st' := [vI (-1)]) rfl ?_
    exact r_iret J rfl rfl rfl rfl (by decide) (by decide)
  · refine r_run J 2 (pc' := 15) (lv' := [(0, vR 24), (1, vI x1)]) (st' := [vI 1, vR 24]) rfl ?_
    refine r_putI J cls1 rfl (k := 9) (by decide) wf_1_40 rfl (Or.inl rfl) ⟨rfl, rfl⟩ (ly_24 hL) ?_
    show g_H E 0 0 18 [(0, vR 24), (1, vI x1)] [] (σ, (g_up M 24 9 1), N) _ _
    refine r_run J 2 (pc' := 20) (lv' := [(0, vR 24), (1, vI x1)]) (st' := [vI 0, vR 24]) rfl ?_
    refine r_putI J cls1 rfl (k := 10) (by decide) wf_1_44 rfl (Or.inl rfl) ⟨rfl, rfl⟩ (ly_24 hL) ?_
    show g_H E 0 0 23 [(0, vR 24), (1, vI x1)] [] (σ, (g_up (g_up M 24 9 1) 24 10 0), N) _ _
    refine r_run J 2 (pc' := 25) (lv' := [(0, vR 24), (1, vI x1)]) (st' := [vI x1, vR 24]) rfl ?_
    refine r_putI J cls1 rfl (k := 11) (by decide) wf_1_47 rfl (Or.inl rfl) ⟨rfl, rfl⟩ (ly_24 hL) ?_
    show g_H E 0 0 28 [(0, vR 24), (1, vI x1)] [] (σ, (g_up (g_up (g_up M 24 9 1) 24 10 0) 24 11 x1), N) _ _
    exact p_X1_plan_28 J x1 σ (g_up (g_up (g_up M 24 9 1) 24 10 0) 24 11 x1) N hL
theorem c_X1_plan {l : Launch} (x1 : Int32) (σ : gS) (M : gM) (N : gN) (hL : g_layC σ) (r : Int32 × gM) (h : f_X1_plan x1 σ M = some r) : g_Ct l yX1_plan cX1_plan 2 (some .int) 68 0 0 [vR 24, vI x1] (σ, M, N) (eIM σ N r) :=
  g_Ct.of tb_X1_plan (by decide +kernel) tk_X1_plan (Nat.le_of_ble_eq_true rfl) (fun E J => p_X1_plan_0 J x1 σ M N hL r h)
def tb_X1_tell : gT := [(0, .aload_n 0, 1, 0), (1, .getfield 40, 3, 0), (4, .ifCond .ne 5, 3, 0), (7, .iconst (-1), 1, (-1)), (8, .ireturn, 1, 0), (9, .iload_n 1, 1, 0), (10, .bipush 10, 2, 10), (12, .bipush 9, 2, 9), (14, .aload_n 0, 1, 0), (15, .getfield 44, 3, 0), (18, .iadd, 1, 0), (19, .invokestatic 56, 3, 0), (22, .ifCond .eq 13, 3, 0), (25, .aload_n 0, 1, 0), (26, .getfield 34, 3, 0), (29, .iload_n 1, 1, 0), (30, .bipush 10, 2, 10), (32, .isub, 1, 0), (33, .iaload, 1, 0), (34, .ireturn, 1, 0), (35, .iload_n 1, 1, 0), (36, .bipush 20, 2, 20), (38, .bipush 19, 2, 19), (40, .aload_n 0, 1, 0), (41, .getfield 44, 3, 0), (44, .iadd, 1, 0), (45, .invokestatic 56, 3, 0), (48, .ifCond .eq 13, 3, 0), (51, .aload_n 0, 1, 0), (52, .getfield 37, 3, 0), (55, .iload_n 1, 1, 0), (56, .bipush 20, 2, 20), (58, .isub, 1, 0), (59, .iaload, 1, 0), (60, .ireturn, 1, 0), (61, .iload_n 1, 1, 0), (62, .tableswitch 41 0 2 #[26, 31, 36], 26, 0), (88, .aload_n 0, 1, 0), (89, .getfield 47, 3, 0), (92, .ireturn, 1, 0), (93, .aload_n 0, 1, 0), (94, .getfield 50, 3, 0), (97, .ireturn, 1, 0), (98, .aload_n 0, 1, 0), (99, .getfield 53, 3, 0), (102, .ireturn, 1, 0), (103, .iconst (-1), 1, (-1)), (104, .ireturn, 1, 0)]
set_option maxRecDepth 100000 in
theorem tk_X1_tell : g_okT cX1_tell tb_X1_tell = true := by decide +kernel
abbrev J_X1_tell (E : gE) (l : Launch) : Prop := g_J E cX1_tell RX1 "tell" (some .int) 2 tb_X1_tell 2 0 0 l
set_option maxHeartbeats 4000000 in
set_option maxRecDepth 100000 in
theorem p_X1_tell_0 {l : Launch} {E : gE} (J : J_X1_tell E l) (x1 : Int32) (σ : gS) (M : gM) (N : gN) (hL : g_layC σ) : g_H E 0 0 0 [(0, vR 24), (1, vI x1)] [] (σ, M, N) (b_X1_tell_0 x1 σ M) (eI σ M N) := by
  unfold b_X1_tell_0
  refine r_run J 1 (pc' := 1) (lv' := [(0, vR 24), (1, vI x1)]) (st' := [vR 24]) rfl ?_
  refine r_getI J cls1 rfl (k := 9) (by decide) wf_1_40 rfl (ly_24 hL) ?_
  show g_H E 0 0 4 [(0, vR 24), (1, vI x1)] [vI (M 24 9)] (σ, M, N) _ _
  refine r_if_ne J (tgt := 9) rfl (by decide) (fun c4 => ?_) (fun c4 => ?_)
  · refine r_run J 1 (pc' := 8) (lv' := [(0, vR 24), (1, vI x1)]) (st' := [vI (-1)]) rfl ?_
    exact r_iret J rfl rfl rfl rfl (by decide) (by decide)
  · refine r_run J 4 (pc' := 15) (lv' := [(0, vR 24), (1, vI x1)]) (st' := [vR 24, vI 9, vI 10, vI x1]) rfl ?_
    refine r_getI J cls1 rfl (k := 10) (by decide) wf_1_44 rfl (ly_24 hL) ?_
    show g_H E 0 0 18 [(0, vR 24), (1, vI x1)] [vI (M 24 10), vI 9, vI 10, vI x1] (σ, M, N) _ _
    refine r_run J 1 (pc' := 19) (lv' := [(0, vR 24), (1, vI x1)]) (st' := [vI ((9 : Int32) + (M 24 10)), vI 10, vI x1]) rfl ?_
    refine r_callSN J (As := [vI x1, vI 10, vI ((9 : Int32) + (M 24 10))]) (st := []) (fun r hr => c_X11_isWithin x1 10 ((9 : Int32) + (M 24 10)) σ M N hL r hr) wn_1_56 wy_X11_isWithin wd_X11_isWithin ⟨by decide, by decide, by decide, by decide, Nat.le_of_ble_eq_true rfl⟩ rfl rfl (fun q19 hq19 => ?_)
    show g_H E 0 0 22 [(0, vR 24), (1, vI x1)] [vI q19] (σ, M, N) _ _
    refine r_if_eq J (tgt := 35) rfl (by decide) (fun c22 => ?_) (fun c22 => ?_)
    · refine r_run J 4 (pc' := 41) (lv' := [(0, vR 24), (1, vI x1)]) (st' := [vR 24, vI 19, vI 20, vI x1]) rfl ?_
      refine r_getI J cls1 rfl (k := 10) (by decide) wf_1_44 rfl (ly_24 hL) ?_
      show g_H E 0 0 44 [(0, vR 24), (1, vI x1)] [vI (M 24 10), vI 19, vI 20, vI x1] (σ, M, N) _ _
      refine r_run J 1 (pc' := 45) (lv' := [(0, vR 24), (1, vI x1)]) (st' := [vI ((19 : Int32) + (M 24 10)), vI 20, vI x1]) rfl ?_
      refine r_callSN J (As := [vI x1, vI 20, vI ((19 : Int32) + (M 24 10))]) (st := []) (fun r hr => c_X11_isWithin x1 20 ((19 : Int32) + (M 24 10)) σ M N hL r hr) wn_1_56 wy_X11_isWithin wd_X11_isWithin ⟨by decide, by decide, by decide, by decide, Nat.le_of_ble_eq_true rfl⟩ rfl rfl (fun q45 hq45 => ?_)
      show g_H E 0 0 48 [(0, vR 24), (1, vI x1)] [vI q45] (σ, M, N) _ _
      refine r_if_eq J (tgt := 61) rfl (by decide) (fun c48 => ?_) (fun c48 => ?_)
      · refine r_run J 1 (pc' := 62) (lv' := [(0, vR 24), (1, vI x1)]) (st' := [vI x1]) rfl ?_
        refine r_table J [(0, 88), (1, 93), (2, 98)] (d := 103) rfl (by decide +kernel) (List.forall_mem_cons.mpr ⟨fun hc => ?_, List.forall_mem_cons.mpr ⟨fun hc => ?_, List.forall_mem_cons.mpr ⟨fun hc => ?_, fun _ h => absurd h List.not_mem_nil⟩⟩⟩) (fun hd => ?_)
        · rw [if_pos hc]
          refine r_run J 1 (pc' := 89) (lv' := [(0, vR 24), (1, vI x1)]) (st' := [vR 24]) rfl ?_
          refine r_getI J cls1 rfl (k := 11) (by decide) wf_1_47 rfl (ly_24 hL) ?_
          show g_H E 0 0 92 [(0, vR 24), (1, vI x1)] [vI (M 24 11)] (σ, M, N) _ _
          exact r_iret J rfl rfl rfl rfl (by decide) (by decide)
        · rw [if_neg (by rw [hc]; decide), if_pos hc]
          refine r_run J 1 (pc' := 94) (lv' := [(0, vR 24), (1, vI x1)]) (st' := [vR 24]) rfl ?_
          refine r_getI J cls1 rfl (k := 12) (by decide) wf_1_50 rfl (ly_24 hL) ?_
          show g_H E 0 0 97 [(0, vR 24), (1, vI x1)] [vI (M 24 12)] (σ, M, N) _ _
          exact r_iret J rfl rfl rfl rfl (by decide) (by decide)
        · rw [if_neg (by rw [hc]; decide), if_neg (by rw [hc]; decide), if_pos hc]
          refine r_run J 1 (pc' := 99) (lv' := [(0, vR 24), (1, vI x1)]) (st' := [vR 24]) rfl ?_
          refine r_getI J cls1 rfl (k := 13) (by decide) wf_1_53 rfl (ly_24 hL) ?_
          show g_H E 0 0 102 [(0, vR 24), (1, vI x1)] [vI (M 24 13)] (σ, M, N) _ _
          exact r_iret J rfl rfl rfl rfl (by decide) (by decide)
        · rw [if_neg (hd _ (List.mem_of_getElem? (i := 0) rfl)), if_neg (hd _ (List.mem_of_getElem? (i := 1) rfl)), if_neg (hd _ (List.mem_of_getElem? (i := 2) rfl))]
          refine r_run J 1 (pc' := 104) (lv' := [(0, vR 24), (1, vI x1)]) (st' := [vI (-1)]) rfl ?_
          exact r_iret J rfl rfl rfl rfl (by decide) (by decide)
      · refine r_run J 1 (pc' := 52) (lv' := [(0, vR 24), (1, vI x1)]) (st' := [vR 24]) rfl ?_
        refine r_getR J cls1 rfl (k := 8) (t := 14) (by decide) wf_1_37 rfl rfl (ly_24 hL) (lr_24_8 hL) (fun _ => ?_)
        show g_H E 0 0 55 [(0, vR 24), (1, vI x1)] [vR 32] (σ, M, N) _ _
        refine r_run J 3 (pc' := 59) (lv' := [(0, vR 24), (1, vI x1)]) (st' := [vI (x1 - (20 : Int32)), vR 32]) rfl ?_
        refine r_iald J rfl (ly_32 hL) (fun i59 => ?_)
        show g_H E 0 0 60 [(0, vR 24), (1, vI x1)] [vI (M 32 (x1 - (20 : Int32)).toNatClampNeg)] (σ, M, N) _ _
        exact r_iret J rfl rfl rfl rfl (by decide) (by decide)
    · refine r_run J 1 (pc' := 26) (lv' := [(0, vR 24), (1, vI x1)]) (st' := [vR 24]) rfl ?_
      refine r_getR J cls1 rfl (k := 7) (t := 14) (by decide) wf_1_34 rfl rfl (ly_24 hL) (lr_24_7 hL) (fun _ => ?_)
      show g_H E 0 0 29 [(0, vR 24), (1, vI x1)] [vR 31] (σ, M, N) _ _
      refine r_run J 3 (pc' := 33) (lv' := [(0, vR 24), (1, vI x1)]) (st' := [vI (x1 - (10 : Int32)), vR 31]) rfl ?_
      refine r_iald J rfl (ly_31 hL) (fun i33 => ?_)
      show g_H E 0 0 34 [(0, vR 24), (1, vI x1)] [vI (M 31 (x1 - (10 : Int32)).toNatClampNeg)] (σ, M, N) _ _
      exact r_iret J rfl rfl rfl rfl (by decide) (by decide)
theorem c_X1_tell {l : Launch} (x1 : Int32) (σ : gS) (M : gM) (N : gN) (hL : g_layC σ) (r : Int32) (h : f_X1_tell x1 σ M = some r) : g_Ct l yX1_tell cX1_tell 2 (some .int) 2 0 0 [vR 24, vI x1] (σ, M, N) (eI σ M N r) :=
  g_Ct.of tb_X1_tell (by decide +kernel) tk_X1_tell (Nat.le_of_ble_eq_true rfl) (fun E J => p_X1_tell_0 J x1 σ M N hL r h)
def tb_X2_init : gT := [(0, .aload_n 0, 1, 0), (1, .invokespecial 1, 3, 0), (4, .aload_n 0, 1, 0), (5, .bipush 12, 2, 12), (7, .newarray .int, 2, 0), (9, .putfield 9, 3, 0), (12, .aload_n 0, 1, 0), (13, .bipush 36, 2, 36), (15, .newarray .int, 2, 0), (17, .putfield 13, 3, 0), (20, .aload_n 0, 1, 0), (21, .iconst 5, 1, 5), (22, .newarray .int, 2, 0), (24, .putfield 16, 3, 0), (27, .aload_n 0, 1, 0), (28, .bipush 20, 2, 20), (30, .newarray .int, 2, 0), (32, .putfield 19, 3, 0), (35, .aload_n 0, 1, 0), (36, .iconst 0, 1, 0), (37, .newarray .int, 2, 0), (39, .putfield 22, 3, 0), (42, .aload_n 0, 1, 0), (43, .iconst 0, 1, 0), (44, .putfield 25, 3, 0), (47, .return_, 1, 0)]
set_option maxRecDepth 100000 in
theorem tk_X2_init : g_okT cX2_init tb_X2_init = true := by decide +kernel
abbrev J_X2_init (E : gE) (l : Launch) : Prop := g_J E cX2_init RX2 "<init>" none 1 tb_X2_init 1 5 73 l
set_option maxHeartbeats 4000000 in
set_option maxRecDepth 100000 in
theorem p_X2_init_42 {l : Launch} {E : gE} (J : J_X2_init E l) (r0 : Nat) (σ : gS) (M : gM) (N : gN) : g_H E 5 73 42 [(0, vR r0)] [] (σ, M, N) (b_X2_init_42 r0 σ M N) (eVSMN) := by
  unfold b_X2_init_42
  refine r_run J 2 (pc' := 44) (lv' := [(0, vR r0)]) (st' := [vI 0, vR r0]) rfl ?_
  refine r_chk (fun hs44 => ?_)
  refine r_putI J cls2 rfl (k := 5) (by decide) wf_2_25 rfl (Or.inl rfl) ⟨rfl, rfl⟩ (g_is_at hs44) ?_
  show g_H E 5 73 47 [(0, vR r0)] [] (σ, (g_up M r0 5 0), N) _ _
  exact r_vret J rfl rfl rfl (by decide) (by decide)
set_option maxHeartbeats 4000000 in
set_option maxRecDepth 100000 in
theorem p_X2_init_35 {l : Launch} {E : gE} (J : J_X2_init E l) (r0 : Nat) (σ : gS) (M : gM) (N : gN) : g_H E 4 73 35 [(0, vR r0)] [] (σ, M, N) (b_X2_init_35 r0 σ M N) (eVSMN) := by
  unfold b_X2_init_35
  refine r_run J 2 (pc' := 37) (lv' := [(0, vR r0)]) (st' := [vI 0, vR r0]) rfl ?_
  refine r_chk (fun hf37 => ?_)
  refine r_newI J (B := 0) rfl wa_int (by decide) rfl (Nat.le_refl _) (by decide) (g_fr_0 hf37) (g_fr_n hf37) (by decide) (by decide) ?_
  show g_H E 5 73 39 [(0, vR r0)] [vR (r0 + 50), vR r0] ((g_nS σ (r0 + 50) 14 0), (g_z M (r0 + 50) 0), (g_z N (r0 + 50) 0)) _ _
  refine r_chk (fun hs39 => ?_)
  refine r_putR J cls2 rfl (k := 4) (t := 14) (by decide) wf_2_22 rfl rfl (Or.inl rfl) (g_is_at hs39) (Or.inr ⟨_, (g_nS_at σ (r0 + 50) 14 0)⟩) ?_
  show g_H E 5 73 42 [(0, vR r0)] [] ((g_pS (g_nS σ (r0 + 50) 14 0) r0 4 (r0 + 50)), (g_z M (r0 + 50) 0), (g_z N (r0 + 50) 0)) _ _
  exact p_X2_init_42 J r0 (g_pS (g_nS σ (r0 + 50) 14 0) r0 4 (r0 + 50)) (g_z M (r0 + 50) 0) (g_z N (r0 + 50) 0)
set_option maxHeartbeats 4000000 in
set_option maxRecDepth 100000 in
theorem p_X2_init_27 {l : Launch} {E : gE} (J : J_X2_init E l) (r0 : Nat) (σ : gS) (M : gM) (N : gN) : g_H E 3 53 27 [(0, vR r0)] [] (σ, M, N) (b_X2_init_27 r0 σ M N) (eVSMN) := by
  unfold b_X2_init_27
  refine r_run J 2 (pc' := 30) (lv' := [(0, vR r0)]) (st' := [vI 20, vR r0]) rfl ?_
  refine r_chk (fun hf30 => ?_)
  refine r_newI J (B := 20) rfl wa_int (by decide) rfl (Nat.le_refl _) (by decide) (g_fr_0 hf30) (g_fr_n hf30) (by decide) (by decide) ?_
  show g_H E 4 73 32 [(0, vR r0)] [vR (r0 + 40), vR r0] ((g_nS σ (r0 + 40) 14 20), (g_z M (r0 + 40) 0), (g_z N (r0 + 40) 0)) _ _
  refine r_chk (fun hs32 => ?_)
  refine r_putR J cls2 rfl (k := 3) (t := 14) (by decide) wf_2_19 rfl rfl (Or.inr ⟨rfl, rfl, rfl⟩) (g_is_at hs32) (Or.inr ⟨_, (g_nS_at σ (r0 + 40) 14 20)⟩) ?_
  show g_H E 4 73 35 [(0, vR r0)] [] ((g_pS (g_nS σ (r0 + 40) 14 20) r0 3 (r0 + 40)), (g_z M (r0 + 40) 0), (g_z N (r0 + 40) 0)) _ _
  exact p_X2_init_35 J r0 (g_pS (g_nS σ (r0 + 40) 14 20) r0 3 (r0 + 40)) (g_z M (r0 + 40) 0) (g_z N (r0 + 40) 0)
set_option maxHeartbeats 4000000 in
set_option maxRecDepth 100000 in
theorem p_X2_init_20 {l : Launch} {E : gE} (J : J_X2_init E l) (r0 : Nat) (σ : gS) (M : gM) (N : gN) : g_H E 2 48 20 [(0, vR r0)] [] (σ, M, N) (b_X2_init_20 r0 σ M N) (eVSMN) := by
  unfold b_X2_init_20
  refine r_run J 2 (pc' := 22) (lv' := [(0, vR r0)]) (st' := [vI 5, vR r0]) rfl ?_
  refine r_chk (fun hf22 => ?_)
  refine r_newI J (B := 5) rfl wa_int (by decide) rfl (Nat.le_refl _) (by decide) (g_fr_0 hf22) (g_fr_n hf22) (by decide) (by decide) ?_
  show g_H E 3 53 24 [(0, vR r0)] [vR (r0 + 30), vR r0] ((g_nS σ (r0 + 30) 14 5), (g_z M (r0 + 30) 0), (g_z N (r0 + 30) 0)) _ _
  refine r_chk (fun hs24 => ?_)
  refine r_putR J cls2 rfl (k := 2) (t := 14) (by decide) wf_2_16 rfl rfl (Or.inr ⟨rfl, rfl, rfl⟩) (g_is_at hs24) (Or.inr ⟨_, (g_nS_at σ (r0 + 30) 14 5)⟩) ?_
  show g_H E 3 53 27 [(0, vR r0)] [] ((g_pS (g_nS σ (r0 + 30) 14 5) r0 2 (r0 + 30)), (g_z M (r0 + 30) 0), (g_z N (r0 + 30) 0)) _ _
  exact p_X2_init_27 J r0 (g_pS (g_nS σ (r0 + 30) 14 5) r0 2 (r0 + 30)) (g_z M (r0 + 30) 0) (g_z N (r0 + 30) 0)
set_option maxHeartbeats 4000000 in
set_option maxRecDepth 100000 in
theorem p_X2_init_12 {l : Launch} {E : gE} (J : J_X2_init E l) (r0 : Nat) (σ : gS) (M : gM) (N : gN) : g_H E 1 12 12 [(0, vR r0)] [] (σ, M, N) (b_X2_init_12 r0 σ M N) (eVSMN) := by
  unfold b_X2_init_12
  refine r_run J 2 (pc' := 15) (lv' := [(0, vR r0)]) (st' := [vI 36, vR r0]) rfl ?_
  refine r_chk (fun hf15 => ?_)
  refine r_newI J (B := 36) rfl wa_int (by decide) rfl (Nat.le_refl _) (by decide) (g_fr_0 hf15) (g_fr_n hf15) (by decide) (by decide) ?_
  show g_H E 2 48 17 [(0, vR r0)] [vR (r0 + 20), vR r0] ((g_nS σ (r0 + 20) 14 36), (g_z M (r0 + 20) 0), (g_z N (r0 + 20) 0)) _ _
  refine r_chk (fun hs17 => ?_)
  refine r_putR J cls2 rfl (k := 1) (t := 14) (by decide) wf_2_13 rfl rfl (Or.inr ⟨rfl, rfl, rfl⟩) (g_is_at hs17) (Or.inr ⟨_, (g_nS_at σ (r0 + 20) 14 36)⟩) ?_
  show g_H E 2 48 20 [(0, vR r0)] [] ((g_pS (g_nS σ (r0 + 20) 14 36) r0 1 (r0 + 20)), (g_z M (r0 + 20) 0), (g_z N (r0 + 20) 0)) _ _
  exact p_X2_init_20 J r0 (g_pS (g_nS σ (r0 + 20) 14 36) r0 1 (r0 + 20)) (g_z M (r0 + 20) 0) (g_z N (r0 + 20) 0)
set_option maxHeartbeats 4000000 in
set_option maxRecDepth 100000 in
theorem p_X2_init_0 {l : Launch} {E : gE} (J : J_X2_init E l) (r0 : Nat) (σ : gS) (M : gM) (N : gN) : g_H E 0 0 0 [(0, vR r0)] [] (σ, M, N) (b_X2_init_0 r0 σ M N) (eVSMN) := by
  unfold b_X2_init_0
  refine r_run J 1 (pc' := 1) (lv' := [(0, vR r0)]) (st' := [vR r0]) rfl ?_
  refine r_chk (fun hs1 => ?_)
  refine r_objI J (by rw [(g_is_at hs1)]; exact Option.some_ne_none _) wm_2_1 w_obj rfl ⟨by decide, Nat.le_of_ble_eq_true rfl⟩ ?_
  refine r_run J 2 (pc' := 7) (lv' := [(0, vR r0)]) (st' := [vI 12, vR r0]) rfl ?_
  refine r_chk (fun hf7 => ?_)
  refine r_newI J (B := 12) rfl wa_int (by decide) rfl (Nat.le_refl _) (by decide) (g_fr_0 hf7) (g_fr_n hf7) (by decide) (by decide) ?_
  show g_H E 1 12 9 [(0, vR r0)] [vR (r0 + 10), vR r0] ((g_nS σ (r0 + 10) 14 12), (g_z M (r0 + 10) 0), (g_z N (r0 + 10) 0)) _ _
  refine r_chk (fun hs9 => ?_)
  refine r_putR J cls2 rfl (k := 0) (t := 14) (by decide) wf_2_9 rfl rfl (Or.inr ⟨rfl, rfl, rfl⟩) (g_is_at hs9) (Or.inr ⟨_, (g_nS_at σ (r0 + 10) 14 12)⟩) ?_
  show g_H E 1 12 12 [(0, vR r0)] [] ((g_pS (g_nS σ (r0 + 10) 14 12) r0 0 (r0 + 10)), (g_z M (r0 + 10) 0), (g_z N (r0 + 10) 0)) _ _
  exact p_X2_init_12 J r0 (g_pS (g_nS σ (r0 + 10) 14 12) r0 0 (r0 + 10)) (g_z M (r0 + 10) 0) (g_z N (r0 + 10) 0)
theorem c_X2_init {l : Launch} (r0 : Nat) (σ : gS) (M : gM) (N : gN) (r : gS × gM × gN) (h : f_X2_init r0 σ M N = some r) : g_Ct l yX2_init cX2_init 1 none 1 5 73 [vR r0] (σ, M, N) (eVSMN r) :=
  g_Ct.of tb_X2_init (by decide +kernel) tk_X2_init (Nat.le_of_ble_eq_true rfl) (fun E J => p_X2_init_0 J r0 σ M N r h)
def tb_X2_take : gT := [(0, .aload_n 0, 1, 0), (1, .aload_n 1, 1, 0), (2, .getfield 29, 3, 0), (5, .putfield 25, 3, 0), (8, .aload_n 1, 1, 0), (9, .getfield 32, 3, 0), (12, .iconst 0, 1, 0), (13, .aload_n 0, 1, 0), (14, .getfield 9, 3, 0), (17, .iconst 0, 1, 0), (18, .bipush 12, 2, 12), (20, .invokestatic 33, 3, 0), (23, .aload_n 1, 1, 0), (24, .getfield 39, 3, 0), (27, .iconst 0, 1, 0), (28, .aload_n 0, 1, 0), (29, .getfield 13, 3, 0), (32, .iconst 0, 1, 0), (33, .bipush 36, 2, 36), (35, .invokestatic 33, 3, 0), (38, .aload_n 0, 1, 0), (39, .getfield 22, 3, 0), (42, .arraylength, 1, 0), (43, .aload_n 1, 1, 0), (44, .getfield 40, 3, 0), (47, .if_icmp .ge 13, 3, 0), (50, .aload_n 0, 1, 0), (51, .aload_n 1, 1, 0), (52, .getfield 40, 3, 0), (55, .newarray .int, 2, 0), (57, .putfield 22, 3, 0), (60, .aload_n 1, 1, 0), (61, .getfield 43, 3, 0), (64, .iconst 0, 1, 0), (65, .aload_n 0, 1, 0), (66, .getfield 22, 3, 0), (69, .iconst 0, 1, 0), (70, .aload_n 1, 1, 0), (71, .getfield 40, 3, 0), (74, .invokestatic 33, 3, 0), (77, .return_, 1, 0)]
set_option maxRecDepth 100000 in
theorem tk_X2_take : g_okT cX2_take tb_X2_take = true := by decide +kernel
abbrev J_X2_take (E : gE) (l : Launch) : Prop := g_J E cX2_take RX2 "take" none 2 tb_X2_take 1 1 400 l
set_option maxHeartbeats 4000000 in
set_option maxRecDepth 100000 in
theorem p_X2_take_60 {l : Launch} {E : gE} (J : J_X2_take E l) (r0 : Nat) (σ : gS) (M : gM) (N : gN) (hL : g_layC σ) : g_H E 1 400 60 [(0, vR r0), (1, vR 7)] [] (σ, M, N) (b_X2_take_60 r0 σ M N) (eVSMN) := by
  unfold b_X2_take_60
  refine r_run J 1 (pc' := 61) (lv' := [(0, vR r0), (1, vR 7)]) (st' := [vR 7]) rfl ?_
  refine r_getR J cls7 rfl (k := 2) (t := 14) (by decide) wf_2_43 rfl rfl (ly_7 hL) (lr_7_2 hL) (fun _ => ?_)
  show g_H E 1 400 64 [(0, vR r0), (1, vR 7)] [vR 10] (σ, M, N) _ _
  refine r_run J 2 (pc' := 66) (lv' := [(0, vR r0), (1, vR 7)]) (st' := [vR r0, vI 0, vR 10]) rfl ?_
  refine r_chk (fun hs66 => ?_)
  refine r_getR J cls2 rfl (k := 4) (t := 14) (by decide) wf_2_22 rfl rfl (g_is_at hs66) rfl (fun _ => ?_)
  show g_H E 1 400 69 [(0, vR r0), (1, vR 7)] [vR (σ.2 r0 4), vI 0, vR 10] (σ, M, N) _ _
  refine r_run J 2 (pc' := 71) (lv' := [(0, vR r0), (1, vR 7)]) (st' := [vR 7, vI 0, vR (σ.2 r0 4), vI 0, vR 10]) rfl ?_
  refine r_getI J cls7 rfl (k := 8) (by decide) wf_2_40 rfl (ly_7 hL) ?_
  show g_H E 1 400 74 [(0, vR r0), (1, vR 7)] [vI (M 7 8), vI 0, vR (σ.2 r0 4), vI 0, vR 10] (σ, M, N) _ _
  refine r_chk (fun hs74 => ?_)
  refine r_copy J rfl ⟨wm_2_33, w_copy⟩ (ly_10 hL) (g_is_at hs74) ⟨by decide, Nat.le_of_ble_eq_true rfl⟩ (fun i74 => ?_)
  show g_H E 1 400 77 [(0, vR r0), (1, vR 7)] [] (σ, (g_cpM M 10 (σ.2 r0 4) (0 : Int32).toNatClampNeg (0 : Int32).toNatClampNeg (M 7 8).toNatClampNeg), N) _ _
  exact r_vret J rfl rfl rfl (by decide) (by decide)
set_option maxHeartbeats 4000000 in
set_option maxRecDepth 100000 in
theorem p_X2_take_0 {l : Launch} {E : gE} (J : J_X2_take E l) (r0 : Nat) (σ : gS) (M : gM) (N : gN) (hL : g_layC σ) : g_H E 0 0 0 [(0, vR r0), (1, vR 7)] [] (σ, M, N) (b_X2_take_0 r0 σ M N) (eVSMN) := by
  unfold b_X2_take_0
  refine r_run J 2 (pc' := 2) (lv' := [(0, vR r0), (1, vR 7)]) (st' := [vR 7, vR r0]) rfl ?_
  refine r_getI J cls7 rfl (k := 7) (by decide) wf_2_29 rfl (ly_7 hL) ?_
  show g_H E 0 0 5 [(0, vR r0), (1, vR 7)] [vI (M 7 7), vR r0] (σ, M, N) _ _
  refine r_chk (fun hs5 => ?_)
  refine r_putI J cls2 rfl (k := 5) (by decide) wf_2_25 rfl (Or.inl rfl) ⟨rfl, rfl⟩ (g_is_at hs5) ?_
  show g_H E 0 0 8 [(0, vR r0), (1, vR 7)] [] (σ, (g_up M r0 5 (M 7 7)), N) _ _
  refine r_run J 1 (pc' := 9) (lv' := [(0, vR r0), (1, vR 7)]) (st' := [vR 7]) rfl ?_
  refine r_getR J cls7 rfl (k := 0) (t := 14) (by decide) wf_2_32 rfl rfl (ly_7 hL) (lr_7_0 hL) (fun _ => ?_)
  show g_H E 0 0 12 [(0, vR r0), (1, vR 7)] [vR 8] (σ, (g_up M r0 5 (M 7 7)), N) _ _
  refine r_run J 2 (pc' := 14) (lv' := [(0, vR r0), (1, vR 7)]) (st' := [vR r0, vI 0, vR 8]) rfl ?_
  refine r_getR J cls2 rfl (k := 0) (t := 14) (by decide) wf_2_9 rfl rfl (g_is_at hs5) rfl (fun _ => ?_)
  show g_H E 0 0 17 [(0, vR r0), (1, vR 7)] [vR (σ.2 r0 0), vI 0, vR 8] (σ, (g_up M r0 5 (M 7 7)), N) _ _
  refine r_run J 2 (pc' := 20) (lv' := [(0, vR r0), (1, vR 7)]) (st' := [vI 12, vI 0, vR (σ.2 r0 0), vI 0, vR 8]) rfl ?_
  refine r_chk (fun hs20 => ?_)
  refine r_copy J rfl ⟨wm_2_33, w_copy⟩ (ly_8 hL) (g_is_at hs20) ⟨by decide, Nat.le_of_ble_eq_true rfl⟩ (fun i20 => ?_)
  show g_H E 0 0 23 [(0, vR r0), (1, vR 7)] [] (σ, (g_cpM (g_up M r0 5 (M 7 7)) 8 (σ.2 r0 0) (0 : Int32).toNatClampNeg (0 : Int32).toNatClampNeg (12 : Int32).toNatClampNeg), N) _ _
  refine r_run J 1 (pc' := 24) (lv' := [(0, vR r0), (1, vR 7)]) (st' := [vR 7]) rfl ?_
  refine r_getR J cls7 rfl (k := 1) (t := 14) (by decide) wf_2_39 rfl rfl (ly_7 hL) (lr_7_1 hL) (fun _ => ?_)
  show g_H E 0 0 27 [(0, vR r0), (1, vR 7)] [vR 9] (σ, (g_cpM (g_up M r0 5 (M 7 7)) 8 (σ.2 r0 0) (0 : Int32).toNatClampNeg (0 : Int32).toNatClampNeg (12 : Int32).toNatClampNeg), N) _ _
  refine r_run J 2 (pc' := 29) (lv' := [(0, vR r0), (1, vR 7)]) (st' := [vR r0, vI 0, vR 9]) rfl ?_
  refine r_getR J cls2 rfl (k := 1) (t := 14) (by decide) wf_2_13 rfl rfl (g_is_at hs5) rfl (fun _ => ?_)
  show g_H E 0 0 32 [(0, vR r0), (1, vR 7)] [vR (σ.2 r0 1), vI 0, vR 9] (σ, (g_cpM (g_up M r0 5 (M 7 7)) 8 (σ.2 r0 0) (0 : Int32).toNatClampNeg (0 : Int32).toNatClampNeg (12 : Int32).toNatClampNeg), N) _ _
  refine r_run J 2 (pc' := 35) (lv' := [(0, vR r0), (1, vR 7)]) (st' := [vI 36, vI 0, vR (σ.2 r0 1), vI 0, vR 9]) rfl ?_
  refine r_chk (fun hs35 => ?_)
  refine r_copy J rfl ⟨wm_2_33, w_copy⟩ (ly_9 hL) (g_is_at hs35) ⟨by decide, Nat.le_of_ble_eq_true rfl⟩ (fun i35 => ?_)
  show g_H E 0 0 38 [(0, vR r0), (1, vR 7)] [] (σ, (g_cpM (g_cpM (g_up M r0 5 (M 7 7)) 8 (σ.2 r0 0) (0 : Int32).toNatClampNeg (0 : Int32).toNatClampNeg (12 : Int32).toNatClampNeg) 9 (σ.2 r0 1) (0 : Int32).toNatClampNeg (0 : Int32).toNatClampNeg (36 : Int32).toNatClampNeg), N) _ _
  refine r_run J 1 (pc' := 39) (lv' := [(0, vR r0), (1, vR 7)]) (st' := [vR r0]) rfl ?_
  refine r_getR J cls2 rfl (k := 4) (t := 14) (by decide) wf_2_22 rfl rfl (g_is_at hs5) rfl (fun _ => ?_)
  show g_H E 0 0 42 [(0, vR r0), (1, vR 7)] [vR (σ.2 r0 4)] (σ, (g_cpM (g_cpM (g_up M r0 5 (M 7 7)) 8 (σ.2 r0 0) (0 : Int32).toNatClampNeg (0 : Int32).toNatClampNeg (12 : Int32).toNatClampNeg) 9 (σ.2 r0 1) (0 : Int32).toNatClampNeg (0 : Int32).toNatClampNeg (36 : Int32).toNatClampNeg), N) _ _
  refine r_chk (fun hs42 => ?_)
  refine r_alen J rfl (by decide) (fun _ => rfl) (g_is_at hs42) ?_
  show g_H E 0 0 43 [(0, vR r0), (1, vR 7)] [vI (Int32.ofNat (g_ln σ (σ.2 r0 4)))] (σ, (g_cpM (g_cpM (g_up M r0 5 (M 7 7)) 8 (σ.2 r0 0) (0 : Int32).toNatClampNeg (0 : Int32).toNatClampNeg (12 : Int32).toNatClampNeg) 9 (σ.2 r0 1) (0 : Int32).toNatClampNeg (0 : Int32).toNatClampNeg (36 : Int32).toNatClampNeg), N) _ _
  refine r_run J 1 (pc' := 44) (lv' := [(0, vR r0), (1, vR 7)]) (st' := [vR 7, vI (Int32.ofNat (g_ln σ (σ.2 r0 4)))]) rfl ?_
  refine r_getI J cls7 rfl (k := 8) (by decide) wf_2_40 rfl (ly_7 hL) ?_
  show g_H E 0 0 47 [(0, vR r0), (1, vR 7)] [vI ((g_cpM (g_cpM (g_up M r0 5 (M 7 7)) 8 (σ.2 r0 0) (0 : Int32).toNatClampNeg (0 : Int32).toNatClampNeg (12 : Int32).toNatClampNeg) 9 (σ.2 r0 1) (0 : Int32).toNatClampNeg (0 : Int32).toNatClampNeg (36 : Int32).toNatClampNeg) 7 8), vI (Int32.ofNat (g_ln σ (σ.2 r0 4)))] (σ, (g_cpM (g_cpM (g_up M r0 5 (M 7 7)) 8 (σ.2 r0 0) (0 : Int32).toNatClampNeg (0 : Int32).toNatClampNeg (12 : Int32).toNatClampNeg) 9 (σ.2 r0 1) (0 : Int32).toNatClampNeg (0 : Int32).toNatClampNeg (36 : Int32).toNatClampNeg), N) _ _
  refine r_icmp_ge J (tgt := 60) rfl (by decide) (fun c47 => ?_) (fun c47 => ?_)
  · refine r_run J 2 (pc' := 52) (lv' := [(0, vR r0), (1, vR 7)]) (st' := [vR 7, vR r0]) rfl ?_
    refine r_getI J cls7 rfl (k := 8) (by decide) wf_2_40 rfl (ly_7 hL) ?_
    show g_H E 0 0 55 [(0, vR r0), (1, vR 7)] [vI ((g_cpM (g_cpM (g_up M r0 5 (M 7 7)) 8 (σ.2 r0 0) (0 : Int32).toNatClampNeg (0 : Int32).toNatClampNeg (12 : Int32).toNatClampNeg) 9 (σ.2 r0 1) (0 : Int32).toNatClampNeg (0 : Int32).toNatClampNeg (36 : Int32).toNatClampNeg) 7 8), vR r0] (σ, (g_cpM (g_cpM (g_up M r0 5 (M 7 7)) 8 (σ.2 r0 0) (0 : Int32).toNatClampNeg (0 : Int32).toNatClampNeg (12 : Int32).toNatClampNeg) 9 (σ.2 r0 1) (0 : Int32).toNatClampNeg (0 : Int32).toNatClampNeg (36 : Int32).toNatClampNeg), N) _ _
    refine r_chk (fun hf55 => ?_)
    refine r_chk (fun hn55 => ?_)
    refine r_newI J (B := 400) rfl wa_int (g_nn_0 hn55) rfl (g_nn_B hn55) (by decide) (g_fr_0 hf55) (g_fr_n hf55) (by decide) (by decide) ?_
    show g_H E 1 400 57 [(0, vR r0), (1, vR 7)] [vR (100000 + 1000 * (r0 - 140) + ((g_cpM (g_cpM (g_up M r0 5 (M 7 7)) 8 (σ.2 r0 0) (0 : Int32).toNatClampNeg (0 : Int32).toNatClampNeg (12 : Int32).toNatClampNeg) 9 (σ.2 r0 1) (0 : Int32).toNatClampNeg (0 : Int32).toNatClampNeg (36 : Int32).toNatClampNeg) 7 8).toNatClampNeg), vR r0] ((g_nS σ (100000 + 1000 * (r0 - 140) + ((g_cpM (g_cpM (g_up M r0 5 (M 7 7)) 8 (σ.2 r0 0) (0 : Int32).toNatClampNeg (0 : Int32).toNatClampNeg (12 : Int32).toNatClampNeg) 9 (σ.2 r0 1) (0 : Int32).toNatClampNeg (0 : Int32).toNatClampNeg (36 : Int32).toNatClampNeg) 7 8).toNatClampNeg) 14 (((g_cpM (g_cpM (g_up M r0 5 (M 7 7)) 8 (σ.2 r0 0) (0 : Int32).toNatClampNeg (0 : Int32).toNatClampNeg (12 : Int32).toNatClampNeg) 9 (σ.2 r0 1) (0 : Int32).toNatClampNeg (0 : Int32).toNatClampNeg (36 : Int32).toNatClampNeg) 7 8).toNatClampNeg)), (g_z (g_cpM (g_cpM (g_up M r0 5 (M 7 7)) 8 (σ.2 r0 0) (0 : Int32).toNatClampNeg (0 : Int32).toNatClampNeg (12 : Int32).toNatClampNeg) 9 (σ.2 r0 1) (0 : Int32).toNatClampNeg (0 : Int32).toNatClampNeg (36 : Int32).toNatClampNeg) (100000 + 1000 * (r0 - 140) + ((g_cpM (g_cpM (g_up M r0 5 (M 7 7)) 8 (σ.2 r0 0) (0 : Int32).toNatClampNeg (0 : Int32).toNatClampNeg (12 : Int32).toNatClampNeg) 9 (σ.2 r0 1) (0 : Int32).toNatClampNeg (0 : Int32).toNatClampNeg (36 : Int32).toNatClampNeg) 7 8).toNatClampNeg) 0), (g_z N (100000 + 1000 * (r0 - 140) + ((g_cpM (g_cpM (g_up M r0 5 (M 7 7)) 8 (σ.2 r0 0) (0 : Int32).toNatClampNeg (0 : Int32).toNatClampNeg (12 : Int32).toNatClampNeg) 9 (σ.2 r0 1) (0 : Int32).toNatClampNeg (0 : Int32).toNatClampNeg (36 : Int32).toNatClampNeg) 7 8).toNatClampNeg) 0)) _ _
    refine r_chk (fun hl57 => ?_)
    refine r_chk (fun hs57 => ?_)
    refine r_putR J cls2 rfl (k := 4) (t := 14) (by decide) wf_2_22 rfl rfl (Or.inl rfl) (g_is_at hs57) (Or.inr ⟨_, (g_nS_at σ (100000 + 1000 * (r0 - 140) + ((g_cpM (g_cpM (g_up M r0 5 (M 7 7)) 8 (σ.2 r0 0) (0 : Int32).toNatClampNeg (0 : Int32).toNatClampNeg (12 : Int32).toNatClampNeg) 9 (σ.2 r0 1) (0 : Int32).toNatClampNeg (0 : Int32).toNatClampNeg (36 : Int32).toNatClampNeg) 7 8).toNatClampNeg) 14 (((g_cpM (g_cpM (g_up M r0 5 (M 7 7)) 8 (σ.2 r0 0) (0 : Int32).toNatClampNeg (0 : Int32).toNatClampNeg (12 : Int32).toNatClampNeg) 9 (σ.2 r0 1) (0 : Int32).toNatClampNeg (0 : Int32).toNatClampNeg (36 : Int32).toNatClampNeg) 7 8).toNatClampNeg))⟩) ?_
    show g_H E 1 400 60 [(0, vR r0), (1, vR 7)] [] ((g_pS (g_nS σ (100000 + 1000 * (r0 - 140) + ((g_cpM (g_cpM (g_up M r0 5 (M 7 7)) 8 (σ.2 r0 0) (0 : Int32).toNatClampNeg (0 : Int32).toNatClampNeg (12 : Int32).toNatClampNeg) 9 (σ.2 r0 1) (0 : Int32).toNatClampNeg (0 : Int32).toNatClampNeg (36 : Int32).toNatClampNeg) 7 8).toNatClampNeg) 14 (((g_cpM (g_cpM (g_up M r0 5 (M 7 7)) 8 (σ.2 r0 0) (0 : Int32).toNatClampNeg (0 : Int32).toNatClampNeg (12 : Int32).toNatClampNeg) 9 (σ.2 r0 1) (0 : Int32).toNatClampNeg (0 : Int32).toNatClampNeg (36 : Int32).toNatClampNeg) 7 8).toNatClampNeg)) r0 4 (100000 + 1000 * (r0 - 140) + ((g_cpM (g_cpM (g_up M r0 5 (M 7 7)) 8 (σ.2 r0 0) (0 : Int32).toNatClampNeg (0 : Int32).toNatClampNeg (12 : Int32).toNatClampNeg) 9 (σ.2 r0 1) (0 : Int32).toNatClampNeg (0 : Int32).toNatClampNeg (36 : Int32).toNatClampNeg) 7 8).toNatClampNeg)), (g_z (g_cpM (g_cpM (g_up M r0 5 (M 7 7)) 8 (σ.2 r0 0) (0 : Int32).toNatClampNeg (0 : Int32).toNatClampNeg (12 : Int32).toNatClampNeg) 9 (σ.2 r0 1) (0 : Int32).toNatClampNeg (0 : Int32).toNatClampNeg (36 : Int32).toNatClampNeg) (100000 + 1000 * (r0 - 140) + ((g_cpM (g_cpM (g_up M r0 5 (M 7 7)) 8 (σ.2 r0 0) (0 : Int32).toNatClampNeg (0 : Int32).toNatClampNeg (12 : Int32).toNatClampNeg) 9 (σ.2 r0 1) (0 : Int32).toNatClampNeg (0 : Int32).toNatClampNeg (36 : Int32).toNatClampNeg) 7 8).toNatClampNeg) 0), (g_z N (100000 + 1000 * (r0 - 140) + ((g_cpM (g_cpM (g_up M r0 5 (M 7 7)) 8 (σ.2 r0 0) (0 : Int32).toNatClampNeg (0 : Int32).toNatClampNeg (12 : Int32).toNatClampNeg) 9 (σ.2 r0 1) (0 : Int32).toNatClampNeg (0 : Int32).toNatClampNeg (36 : Int32).toNatClampNeg) 7 8).toNatClampNeg) 0)) _ _
    refine r_chk (fun hl60 => ?_)
    exact p_X2_take_60 J r0 (g_pS (g_nS σ (100000 + 1000 * (r0 - 140) + ((g_cpM (g_cpM (g_up M r0 5 (M 7 7)) 8 (σ.2 r0 0) (0 : Int32).toNatClampNeg (0 : Int32).toNatClampNeg (12 : Int32).toNatClampNeg) 9 (σ.2 r0 1) (0 : Int32).toNatClampNeg (0 : Int32).toNatClampNeg (36 : Int32).toNatClampNeg) 7 8).toNatClampNeg) 14 (((g_cpM (g_cpM (g_up M r0 5 (M 7 7)) 8 (σ.2 r0 0) (0 : Int32).toNatClampNeg (0 : Int32).toNatClampNeg (12 : Int32).toNatClampNeg) 9 (σ.2 r0 1) (0 : Int32).toNatClampNeg (0 : Int32).toNatClampNeg (36 : Int32).toNatClampNeg) 7 8).toNatClampNeg)) r0 4 (100000 + 1000 * (r0 - 140) + ((g_cpM (g_cpM (g_up M r0 5 (M 7 7)) 8 (σ.2 r0 0) (0 : Int32).toNatClampNeg (0 : Int32).toNatClampNeg (12 : Int32).toNatClampNeg) 9 (σ.2 r0 1) (0 : Int32).toNatClampNeg (0 : Int32).toNatClampNeg (36 : Int32).toNatClampNeg) 7 8).toNatClampNeg)) (g_z (g_cpM (g_cpM (g_up M r0 5 (M 7 7)) 8 (σ.2 r0 0) (0 : Int32).toNatClampNeg (0 : Int32).toNatClampNeg (12 : Int32).toNatClampNeg) 9 (σ.2 r0 1) (0 : Int32).toNatClampNeg (0 : Int32).toNatClampNeg (36 : Int32).toNatClampNeg) (100000 + 1000 * (r0 - 140) + ((g_cpM (g_cpM (g_up M r0 5 (M 7 7)) 8 (σ.2 r0 0) (0 : Int32).toNatClampNeg (0 : Int32).toNatClampNeg (12 : Int32).toNatClampNeg) 9 (σ.2 r0 1) (0 : Int32).toNatClampNeg (0 : Int32).toNatClampNeg (36 : Int32).toNatClampNeg) 7 8).toNatClampNeg) 0) (g_z N (100000 + 1000 * (r0 - 140) + ((g_cpM (g_cpM (g_up M r0 5 (M 7 7)) 8 (σ.2 r0 0) (0 : Int32).toNatClampNeg (0 : Int32).toNatClampNeg (12 : Int32).toNatClampNeg) 9 (σ.2 r0 1) (0 : Int32).toNatClampNeg (0 : Int32).toNatClampNeg (36 : Int32).toNatClampNeg) 7 8).toNatClampNeg) 0) (g_layC.of hl60)
  · refine r_widen (ce' := 1) (sl' := 400) (by decide) (by decide) ?_
    exact p_X2_take_60 J r0 σ (g_cpM (g_cpM (g_up M r0 5 (M 7 7)) 8 (σ.2 r0 0) (0 : Int32).toNatClampNeg (0 : Int32).toNatClampNeg (12 : Int32).toNatClampNeg) 9 (σ.2 r0 1) (0 : Int32).toNatClampNeg (0 : Int32).toNatClampNeg (36 : Int32).toNatClampNeg) N hL
theorem c_X2_take {l : Launch} (r0 : Nat) (σ : gS) (M : gM) (N : gN) (hL : g_layC σ) (r : gS × gM × gN) (h : f_X2_take r0 σ M N = some r) : g_Ct l yX2_take cX2_take 2 none 1 1 400 [vR r0, vR 7] (σ, M, N) (eVSMN r) :=
  g_Ct.of tb_X2_take (by decide +kernel) tk_X2_take (Nat.le_of_ble_eq_true rfl) (fun E J => p_X2_take_0 J r0 σ M N hL r h)
def tb_X2_learn : gT := [(0, .aload_n 0, 1, 0), (1, .getfield 16, 3, 0), (4, .iconst 0, 1, 0), (5, .iload_n 1, 1, 0), (6, .iastore, 1, 0), (7, .aload_n 0, 1, 0), (8, .getfield 16, 3, 0), (11, .iconst 1, 1, 1), (12, .iload_n 2, 1, 0), (13, .iastore, 1, 0), (14, .aload_n 0, 1, 0), (15, .getfield 16, 3, 0), (18, .iconst 2, 1, 2), (19, .iload_n 3, 1, 0), (20, .iastore, 1, 0), (21, .aload_n 0, 1, 0), (22, .getfield 16, 3, 0), (25, .iconst 3, 1, 3), (26, .iload 4, 2, 0), (28, .iastore, 1, 0), (29, .aload_n 0, 1, 0), (30, .getfield 16, 3, 0), (33, .iconst 4, 1, 4), (34, .iload 5, 2, 0), (36, .iastore, 1, 0), (37, .return_, 1, 0)]
set_option maxRecDepth 100000 in
theorem tk_X2_learn : g_okT cX2_learn tb_X2_learn = true := by decide +kernel
abbrev J_X2_learn (E : gE) (l : Launch) : Prop := g_J E cX2_learn RX2 "learn" none 6 tb_X2_learn 1 0 0 l
set_option maxHeartbeats 4000000 in
set_option maxRecDepth 100000 in
theorem p_X2_learn_21 {l : Launch} {E : gE} (J : J_X2_learn E l) (r0 : Nat) (x4 : Int32) (x5 : Int32) (σ : gS) (M : gM) (N : gN) (hL : g_layC σ) : g_H E 0 0 21 [(0, vR r0), (4, vI x4), (5, vI x5)] [] (σ, M, N) (b_X2_learn_21 r0 x4 x5 σ M) (eVM σ N) := by
  unfold b_X2_learn_21
  refine r_run J 1 (pc' := 22) (lv' := [(0, vR r0), (4, vI x4), (5, vI x5)]) (st' := [vR r0]) rfl ?_
  refine r_chk (fun hs22 => ?_)
  refine r_getR J cls2 rfl (k := 2) (t := 14) (by decide) wf_2_16 rfl rfl (g_is_at hs22) rfl (fun _ => ?_)
  show g_H E 0 0 25 [(0, vR r0), (4, vI x4), (5, vI x5)] [vR (σ.2 r0 2)] (σ, M, N) _ _
  refine r_run J 2 (pc' := 28) (lv' := [(0, vR r0), (4, vI x4), (5, vI x5)]) (st' := [vI x4, vI 3, vR (σ.2 r0 2)]) rfl ?_
  refine r_chk (fun hs28 => ?_)
  refine r_iast J rfl (g_is_at hs28) (fun i28 => ?_)
  show g_H E 0 0 29 [(0, vR r0), (4, vI x4), (5, vI x5)] [] (σ, (g_up M (σ.2 r0 2) ((3 : Int32).toNatClampNeg) x4), N) _ _
  refine r_run J 1 (pc' := 30) (lv' := [(0, vR r0), (4, vI x4), (5, vI x5)]) (st' := [vR r0]) rfl ?_
  refine r_getR J cls2 rfl (k := 2) (t := 14) (by decide) wf_2_16 rfl rfl (g_is_at hs22) rfl (fun _ => ?_)
  show g_H E 0 0 33 [(0, vR r0), (4, vI x4), (5, vI x5)] [vR (σ.2 r0 2)] (σ, (g_up M (σ.2 r0 2) ((3 : Int32).toNatClampNeg) x4), N) _ _
  refine r_run J 2 (pc' := 36) (lv' := [(0, vR r0), (4, vI x4), (5, vI x5)]) (st' := [vI x5, vI 4, vR (σ.2 r0 2)]) rfl ?_
  refine r_iast J rfl (g_is_at hs28) (fun i36 => ?_)
  show g_H E 0 0 37 [(0, vR r0), (4, vI x4), (5, vI x5)] [] (σ, (g_up (g_up M (σ.2 r0 2) ((3 : Int32).toNatClampNeg) x4) (σ.2 r0 2) ((4 : Int32).toNatClampNeg) x5), N) _ _
  exact r_vret J rfl rfl rfl (by decide) (by decide)
set_option maxHeartbeats 4000000 in
set_option maxRecDepth 100000 in
theorem p_X2_learn_0 {l : Launch} {E : gE} (J : J_X2_learn E l) (r0 : Nat) (x1 : Int32) (x2 : Int32) (x3 : Int32) (x4 : Int32) (x5 : Int32) (σ : gS) (M : gM) (N : gN) (hL : g_layC σ) : g_H E 0 0 0 [(0, vR r0), (1, vI x1), (2, vI x2), (3, vI x3), (4, vI x4), (5, vI x5)] [] (σ, M, N) (b_X2_learn_0 r0 x1 x2 x3 x4 x5 σ M) (eVM σ N) := by
  unfold b_X2_learn_0
  refine r_run J 1 (pc' := 1) (lv' := [(0, vR r0), (1, vI x1), (2, vI x2), (3, vI x3), (4, vI x4), (5, vI x5)]) (st' := [vR r0]) rfl ?_
  refine r_chk (fun hs1 => ?_)
  refine r_getR J cls2 rfl (k := 2) (t := 14) (by decide) wf_2_16 rfl rfl (g_is_at hs1) rfl (fun _ => ?_)
  show g_H E 0 0 4 [(0, vR r0), (1, vI x1), (2, vI x2), (3, vI x3), (4, vI x4), (5, vI x5)] [vR (σ.2 r0 2)] (σ, M, N) _ _
  refine r_run J 2 (pc' := 6) (lv' := [(0, vR r0), (1, vI x1), (2, vI x2), (3, vI x3), (4, vI x4), (5, vI x5)]) (st' := [vI x1, vI 0, vR (σ.2 r0 2)]) rfl ?_
  refine r_chk (fun hs6 => ?_)
  refine r_iast J rfl (g_is_at hs6) (fun i6 => ?_)
  show g_H E 0 0 7 [(0, vR r0), (1, vI x1), (2, vI x2), (3, vI x3), (4, vI x4), (5, vI x5)] [] (σ, (g_up M (σ.2 r0 2) ((0 : Int32).toNatClampNeg) x1), N) _ _
  refine r_run J 1 (pc' := 8) (lv' := [(0, vR r0), (1, vI x1), (2, vI x2), (3, vI x3), (4, vI x4), (5, vI x5)]) (st' := [vR r0]) rfl ?_
  refine r_getR J cls2 rfl (k := 2) (t := 14) (by decide) wf_2_16 rfl rfl (g_is_at hs1) rfl (fun _ => ?_)
  show g_H E 0 0 11 [(0, vR r0), (1, vI x1), (2, vI x2), (3, vI x3), (4, vI x4), (5, vI x5)] [vR (σ.2 r0 2)] (σ, (g_up M (σ.2 r0 2) ((0 : Int32).toNatClampNeg) x1), N) _ _
  refine r_run J 2 (pc' := 13) (lv' := [(0, vR r0), (1, vI x1), (2, vI x2), (3, vI x3), (4, vI x4), (5, vI x5)]) (st' := [vI x2, vI 1, vR (σ.2 r0 2)]) rfl ?_
  refine r_iast J rfl (g_is_at hs6) (fun i13 => ?_)
  show g_H E 0 0 14 [(0, vR r0), (1, vI x1), (2, vI x2), (3, vI x3), (4, vI x4), (5, vI x5)] [] (σ, (g_up (g_up M (σ.2 r0 2) ((0 : Int32).toNatClampNeg) x1) (σ.2 r0 2) ((1 : Int32).toNatClampNeg) x2), N) _ _
  refine r_run J 1 (pc' := 15) (lv' := [(0, vR r0), (1, vI x1), (2, vI x2), (3, vI x3), (4, vI x4), (5, vI x5)]) (st' := [vR r0]) rfl ?_
  refine r_getR J cls2 rfl (k := 2) (t := 14) (by decide) wf_2_16 rfl rfl (g_is_at hs1) rfl (fun _ => ?_)
  show g_H E 0 0 18 [(0, vR r0), (1, vI x1), (2, vI x2), (3, vI x3), (4, vI x4), (5, vI x5)] [vR (σ.2 r0 2)] (σ, (g_up (g_up M (σ.2 r0 2) ((0 : Int32).toNatClampNeg) x1) (σ.2 r0 2) ((1 : Int32).toNatClampNeg) x2), N) _ _
  refine r_run J 2 (pc' := 20) (lv' := [(0, vR r0), (1, vI x1), (2, vI x2), (3, vI x3), (4, vI x4), (5, vI x5)]) (st' := [vI x3, vI 2, vR (σ.2 r0 2)]) rfl ?_
  refine r_iast J rfl (g_is_at hs6) (fun i20 => ?_)
  show g_H E 0 0 21 [(0, vR r0), (1, vI x1), (2, vI x2), (3, vI x3), (4, vI x4), (5, vI x5)] [] (σ, (g_up (g_up (g_up M (σ.2 r0 2) ((0 : Int32).toNatClampNeg) x1) (σ.2 r0 2) ((1 : Int32).toNatClampNeg) x2) (σ.2 r0 2) ((2 : Int32).toNatClampNeg) x3), N) _ _
  refine r_sub [0, 4, 5] (lv' := [(0, vR r0), (4, vI x4), (5, vI x5)]) rfl ?_
  exact p_X2_learn_21 J r0 x4 x5 σ (g_up (g_up (g_up M (σ.2 r0 2) ((0 : Int32).toNatClampNeg) x1) (σ.2 r0 2) ((1 : Int32).toNatClampNeg) x2) (σ.2 r0 2) ((2 : Int32).toNatClampNeg) x3) N hL
theorem c_X2_learn {l : Launch} (r0 : Nat) (x1 : Int32) (x2 : Int32) (x3 : Int32) (x4 : Int32) (x5 : Int32) (σ : gS) (M : gM) (N : gN) (hL : g_layC σ) (r : gM) (h : f_X2_learn r0 x1 x2 x3 x4 x5 σ M = some r) : g_Ct l yX2_learn cX2_learn 6 none 1 0 0 [vR r0, vI x1, vI x2, vI x3, vI x4, vI x5] (σ, M, N) (eVM σ N r) :=
  g_Ct.of tb_X2_learn (by decide +kernel) tk_X2_learn (Nat.le_of_ble_eq_true rfl) (fun E J => p_X2_learn_0 J r0 x1 x2 x3 x4 x5 σ M N hL r h)
def tb_X2_join : gT := [(0, .iload_n 0, 1, 0), (1, .tableswitch 71 (-9) (-6) #[67, 56, 45, 31], 31, 0), (32, .iload_n 1, 1, 0), (33, .ifCond .eq 11, 3, 0), (36, .iload_n 2, 1, 0), (37, .ifCond .eq 7, 3, 0), (40, .iconst 1, 1, 1), (41, .goto 4, 3, 0), (44, .iconst 0, 1, 0), (45, .ireturn, 1, 0), (46, .iload_n 1, 1, 0), (47, .iload_n 2, 1, 0), (48, .if_icmp .ge 7, 3, 0), (51, .iconst 1, 1, 1), (52, .goto 4, 3, 0), (55, .iconst 0, 1, 0), (56, .ireturn, 1, 0), (57, .iload_n 1, 1, 0), (58, .iload_n 2, 1, 0), (59, .if_icmp .ne 7, 3, 0), (62, .iconst 1, 1, 1), (63, .goto 4, 3, 0), (66, .iconst 0, 1, 0), (67, .ireturn, 1, 0), (68, .iload_n 1, 1, 0), (69, .iload_n 2, 1, 0), (70, .iadd, 1, 0), (71, .ireturn, 1, 0), (72, .iload_n 1, 1, 0), (73, .iload_n 2, 1, 0), (74, .isub, 1, 0), (75, .ireturn, 1, 0)]
set_option maxRecDepth 100000 in
theorem tk_X2_join : g_okT cX2_join tb_X2_join = true := by decide +kernel
abbrev J_X2_join (E : gE) (l : Launch) : Prop := g_J E cX2_join RX2 "join" (some .int) 3 tb_X2_join 1 0 0 l
set_option maxHeartbeats 4000000 in
set_option maxRecDepth 100000 in
theorem p_X2_join_0 {l : Launch} {E : gE} (J : J_X2_join E l) (x0 : Int32) (x1 : Int32) (x2 : Int32) (σ : gS) (M : gM) (N : gN) (hL : g_layC σ) : g_H E 0 0 0 [(0, vI x0), (1, vI x1), (2, vI x2)] [] (σ, M, N) (b_X2_join_0 x0 x1 x2) (eI σ M N) := by
  unfold b_X2_join_0
  refine r_run J 1 (pc' := 1) (lv' := [(0, vI x0), (1, vI x1), (2, vI x2)]) (st' := [vI x0]) rfl ?_
  refine r_table J [((-9), 68), ((-8), 57), ((-7), 46), ((-6), 32)] (d := 72) rfl (by decide +kernel) (List.forall_mem_cons.mpr ⟨fun hc => ?_, List.forall_mem_cons.mpr ⟨fun hc => ?_, List.forall_mem_cons.mpr ⟨fun hc => ?_, List.forall_mem_cons.mpr ⟨fun hc => ?_, fun _ h => absurd h List.not_mem_nil⟩⟩⟩⟩) (fun hd => ?_)
  · rw [if_pos hc]
    refine r_run J 3 (pc' := 71) (lv' := [(0, vI x0), (1, vI x1), (2, vI x2)]) (st' := [vI (x1 + x2)]) rfl ?_
    exact r_iret J rfl rfl rfl rfl (by decide) (by decide)
  · rw [if_neg (by rw [hc]; decide), if_pos hc]
    refine r_run J 2 (pc' := 59) (lv' := [(0, vI x0), (1, vI x1), (2, vI x2)]) (st' := [vI x2, vI x1]) rfl ?_
    refine r_icmp_ne J (tgt := 66) rfl (by decide) (fun c59 => ?_) (fun c59 => ?_)
    · refine r_run J 2 (pc' := 67) (lv' := [(0, vI x0), (1, vI x1), (2, vI x2)]) (st' := [vI 1]) rfl ?_
      exact r_iret J rfl rfl rfl rfl (by decide) (by decide)
    · refine r_run J 1 (pc' := 67) (lv' := [(0, vI x0), (1, vI x1), (2, vI x2)]) (st' := [vI 0]) rfl ?_
      exact r_iret J rfl rfl rfl rfl (by decide) (by decide)
  · rw [if_neg (by rw [hc]; decide), if_neg (by rw [hc]; decide), if_pos hc]
    refine r_run J 2 (pc' := 48) (lv' := [(0, vI x0), (1, vI x1), (2, vI x2)]) (st' := [vI x2, vI x1]) rfl ?_
    refine r_icmp_ge J (tgt := 55) rfl (by decide) (fun c48 => ?_) (fun c48 => ?_)
    · refine r_run J 2 (pc' := 56) (lv' := [(0, vI x0), (1, vI x1), (2, vI x2)]) (st' := [vI 1]) rfl ?_
      exact r_iret J rfl rfl rfl rfl (by decide) (by decide)
    · refine r_run J 1 (pc' := 56) (lv' := [(0, vI x0), (1, vI x1), (2, vI x2)]) (st' := [vI 0]) rfl ?_
      exact r_iret J rfl rfl rfl rfl (by decide) (by decide)
  · rw [if_neg (by rw [hc]; decide), if_neg (by rw [hc]; decide), if_neg (by rw [hc]; decide), if_pos hc]
    refine r_run J 1 (pc' := 33) (lv' := [(0, vI x0), (1, vI x1), (2, vI x2)]) (st' := [vI x1]) rfl ?_
    refine r_if_eq J (tgt := 44) rfl (by decide) (fun c33 => ?_) (fun c33 => ?_)
    · refine r_run J 1 (pc' := 45) (lv' := [(0, vI x0), (1, vI x1), (2, vI x2)]) (st' := [vI 0]) rfl ?_
      exact r_iret J rfl rfl rfl rfl (by decide) (by decide)
    · refine r_run J 1 (pc' := 37) (lv' := [(0, vI x0), (1, vI x1), (2, vI x2)]) (st' := [vI x2]) rfl ?_
      refine r_if_eq J (tgt := 44) rfl (by decide) (fun c37 => ?_) (fun c37 => ?_)
      · refine r_run J 1 (pc' := 45) (lv' := [(0, vI x0), (1, vI x1), (2, vI x2)]) (st' := [vI 0]) rfl ?_
        exact r_iret J rfl rfl rfl rfl (by decide) (by decide)
      · refine r_run J 2 (pc' := 45) (lv' := [(0, vI x0), (1, vI x1), (2, vI x2)]) (st' := [vI 1]) rfl ?_
        exact r_iret J rfl rfl rfl rfl (by decide) (by decide)
  · rw [if_neg (hd _ (List.mem_of_getElem? (i := 0) rfl)), if_neg (hd _ (List.mem_of_getElem? (i := 1) rfl)), if_neg (hd _ (List.mem_of_getElem? (i := 2) rfl)), if_neg (hd _ (List.mem_of_getElem? (i := 3) rfl))]
    refine r_run J 3 (pc' := 75) (lv' := [(0, vI x0), (1, vI x1), (2, vI x2)]) (st' := [vI (x1 - x2)]) rfl ?_
    exact r_iret J rfl rfl rfl rfl (by decide) (by decide)
theorem c_X2_join {l : Launch} (x0 : Int32) (x1 : Int32) (x2 : Int32) (σ : gS) (M : gM) (N : gN) (hL : g_layC σ) (r : Int32) (h : f_X2_join x0 x1 x2 = some r) : g_Ct l yX2_join cX2_join 3 (some .int) 1 0 0 [vI x0, vI x1, vI x2] (σ, M, N) (eI σ M N r) :=
  g_Ct.of tb_X2_join (by decide +kernel) tk_X2_join (Nat.le_of_ble_eq_true rfl) (fun E J => p_X2_join_0 J x0 x1 x2 σ M N hL r h)
def tb_X2_valueOf : gT := [(0, .iconst 0, 1, 0), (1, .istore_n 3, 1, 0), (2, .iload_n 1, 1, 0), (3, .istore 4, 2, 0), (5, .iload 4, 2, 0), (7, .iload_n 2, 1, 0), (8, .if_icmp .ge 111, 3, 0), (11, .iload 4, 2, 0), (13, .aload_n 0, 1, 0), (14, .getfield 22, 3, 0), (17, .arraylength, 1, 0), (18, .if_icmp .ge 101, 3, 0), (21, .aload_n 0, 1, 0), (22, .getfield 22, 3, 0), (25, .iload 4, 2, 0), (27, .iaload, 1, 0), (28, .istore 5, 2, 0), (30, .iload 5, 2, 0), (32, .bipush (-5), 2, (-5)), (34, .if_icmp .ge 43, 3, 0), (37, .iload_n 3, 1, 0), (38, .iconst 2, 1, 2), (39, .if_icmp .ge 5, 3, 0), (42, .iconst 0, 1, 0), (43, .ireturn, 1, 0), (44, .iinc 3 (-1), 3, (-1)), (47, .aload_n 0, 1, 0), (48, .getfield 19, 3, 0), (51, .iload_n 3, 1, 0), (52, .iconst 1, 1, 1), (53, .isub, 1, 0), (54, .iload 5, 2, 0), (56, .aload_n 0, 1, 0), (57, .getfield 19, 3, 0), (60, .iload_n 3, 1, 0), (61, .iconst 1, 1, 1), (62, .isub, 1, 0), (63, .iaload, 1, 0), (64, .aload_n 0, 1, 0), (65, .getfield 19, 3, 0), (68, .iload_n 3, 1, 0), (69, .iaload, 1, 0), (70, .invokestatic 56, 3, 0), (73, .iastore, 1, 0), (74, .goto 39, 3, 0), (77, .iload_n 3, 1, 0), (78, .bipush 20, 2, 20), (80, .if_icmp .lt 5, 3, 0), (83, .iconst 0, 1, 0), (84, .ireturn, 1, 0), (85, .aload_n 0, 1, 0), (86, .getfield 19, 3, 0), (89, .iload_n 3, 1, 0), (90, .iload 5, 2, 0), (92, .ifCond .lt 8, 3, 0), (95, .iload 5, 2, 0), (97, .goto 12, 3, 0), (100, .aload_n 0, 1, 0), (101, .getfield 16, 3, 0), (104, .iconst (-1), 1, (-1)), (105, .iload 5, 2, 0), (107, .isub, 1, 0), (108, .iaload, 1, 0), (109, .iastore, 1, 0), (110, .iinc 3 1, 3, 1), (113, .iinc 4 1, 3, 1), (116, .goto (-111), 3, 0), (119, .aload_n 0, 1, 0), (120, .getfield 19, 3, 0), (123, .iconst 0, 1, 0), (124, .iaload, 1, 0), (125, .ireturn, 1, 0)]
set_option maxRecDepth 100000 in
theorem tk_X2_valueOf : g_okT cX2_valueOf tb_X2_valueOf = true := by decide +kernel
abbrev J_X2_valueOf (E : gE) (l : Launch) : Prop := g_J E cX2_valueOf RX2 "valueOf" (some .int) 6 tb_X2_valueOf 2 0 0 l
set_option maxHeartbeats 4000000 in
set_option maxRecDepth 100000 in
theorem p_X2_valueOf_119 {l : Launch} {E : gE} (J : J_X2_valueOf E l) (r0 : Nat) (σ : gS) (M : gM) (N : gN) (hL : g_layC σ) : g_H E 0 0 119 [(0, vR r0)] [] (σ, M, N) (b_X2_valueOf_119 r0 σ M) (eIM σ N) := by
  unfold b_X2_valueOf_119
  refine r_run J 1 (pc' := 120) (lv' := [(0, vR r0)]) (st' := [vR r0]) rfl ?_
  refine r_chk (fun hs120 => ?_)
  refine r_getR J cls2 rfl (k := 3) (t := 14) (by decide) wf_2_19 rfl rfl (g_is_at hs120) rfl (fun _ => ?_)
  show g_H E 0 0 123 [(0, vR r0)] [vR (σ.2 r0 3)] (σ, M, N) _ _
  refine r_run J 1 (pc' := 124) (lv' := [(0, vR r0)]) (st' := [vI 0, vR (σ.2 r0 3)]) rfl ?_
  refine r_chk (fun hs124 => ?_)
  refine r_iald J rfl (g_is_at hs124) (fun i124 => ?_)
  show g_H E 0 0 125 [(0, vR r0)] [vI (M (σ.2 r0 3) (0 : Int32).toNatClampNeg)] (σ, M, N) _ _
  exact r_iret J rfl rfl rfl rfl (by decide) (by decide)
set_option maxHeartbeats 4000000 in
set_option maxRecDepth 100000 in
theorem p_X2_valueOf_113 {l : Launch} {E : gE} (J : J_X2_valueOf E l) {k5 : Nat → Int32 → Int32 → Int32 → gS → gM → Option (Int32 × gM)} (H5 : ∀ (r0 : Nat) (x2 : Int32) (x3 : Int32) (x4 : Int32) (σ : gS) (M : gM) (N : gN) (_ : g_layC σ), g_H E 0 0 5 [(0, vR r0), (2, vI x2), (3, vI x3), (4, vI x4)] [] (σ, M, N) (k5 r0 x2 x3 x4 σ M) (eIM σ N)) (r0 : Nat) (x2 : Int32) (x3 : Int32) (x4 : Int32) (σ : gS) (M : gM) (N : gN) (hL : g_layC σ) : g_H E 0 0 113 [(0, vR r0), (2, vI x2), (3, vI x3), (4, vI x4)] [] (σ, M, N) (b_X2_valueOf_113 k5 r0 x2 x3 x4 σ M) (eIM σ N) := by
  unfold b_X2_valueOf_113
  refine r_run J 2 (pc' := 5) (lv' := [(4, vI (x4 + 1)), (0, vR r0), (2, vI x2), (3, vI x3)]) (st' := []) rfl ?_
  refine r_sub [1, 2, 3, 0] (lv' := [(0, vR r0), (2, vI x2), (3, vI x3), (4, vI (x4 + 1))]) rfl ?_
  exact H5 r0 x2 x3 (x4 + 1) σ M N hL
set_option maxHeartbeats 4000000 in
set_option maxRecDepth 100000 in
theorem p_X2_valueOf_109 {l : Launch} {E : gE} (J : J_X2_valueOf E l) {k5 : Nat → Int32 → Int32 → Int32 → gS → gM → Option (Int32 × gM)} (H5 : ∀ (r0 : Nat) (x2 : Int32) (x3 : Int32) (x4 : Int32) (σ : gS) (M : gM) (N : gN) (_ : g_layC σ), g_H E 0 0 5 [(0, vR r0), (2, vI x2), (3, vI x3), (4, vI x4)] [] (σ, M, N) (k5 r0 x2 x3 x4 σ M) (eIM σ N)) (r0 : Nat) (x2 : Int32) (x3 : Int32) (x4 : Int32) (sx0 : Int32) (sx1 : Int32) (sr2 : Nat) (σ : gS) (M : gM) (N : gN) (hL : g_layC σ) : g_H E 0 0 109 [(0, vR r0), (2, vI x2), (3, vI x3), (4, vI x4)] [vI sx0, vI sx1, vR sr2] (σ, M, N) (b_X2_valueOf_109 k5 r0 x2 x3 x4 sx0 sx1 sr2 σ M) (eIM σ N) := by
  unfold b_X2_valueOf_109
  refine r_chk (fun hs109 => ?_)
  refine r_iast J rfl (g_is_at hs109) (fun i109 => ?_)
  show g_H E 0 0 110 [(0, vR r0), (2, vI x2), (3, vI x3), (4, vI x4)] [] (σ, (g_up M sr2 (sx1.toNatClampNeg) sx0), N) _ _
  refine r_run J 1 (pc' := 113) (lv' := [(3, vI (x3 + 1)), (0, vR r0), (2, vI x2), (4, vI x4)]) (st' := []) rfl ?_
  refine r_sub [1, 2, 0, 3] (lv' := [(0, vR r0), (2, vI x2), (3, vI (x3 + 1)), (4, vI x4)]) rfl ?_
  exact p_X2_valueOf_113 J H5 r0 x2 (x3 + 1) x4 σ (g_up M sr2 (sx1.toNatClampNeg) sx0) N hL
set_option maxHeartbeats 4000000 in
set_option maxRecDepth 100000 in
theorem p_X2_valueOf_5 {l : Launch} {E : gE} (J : J_X2_valueOf E l) : ∀ (n : Nat) (r0 : Nat) (x2 : Int32) (x3 : Int32) (x4 : Int32) (σ : gS) (M : gM) (N : gN) (hL : g_layC σ), g_H E 0 0 5 [(0, vR r0), (2, vI x2), (3, vI x3), (4, vI x4)] [] (σ, M, N) (l_X2_valueOf_5 n r0 x2 x3 x4 σ M) (eIM σ N) := by
  intro n
  induction n with
  | zero => intros; exact h_none
  | succ n ih =>
    intro r0 x2 x3 x4 σ M N hL
    rw [l_X2_valueOf_5]
    refine r_run J 2 (pc' := 8) (lv' := [(0, vR r0), (2, vI x2), (3, vI x3), (4, vI x4)]) (st' := [vI x2, vI x4]) rfl ?_
    refine r_icmp_ge J (tgt := 119) rfl (by decide) (fun c8 => ?_) (fun c8 => ?_)
    · refine r_run J 2 (pc' := 14) (lv' := [(0, vR r0), (2, vI x2), (3, vI x3), (4, vI x4)]) (st' := [vR r0, vI x4]) rfl ?_
      refine r_chk (fun hs14 => ?_)
      refine r_getR J cls2 rfl (k := 4) (t := 14) (by decide) wf_2_22 rfl rfl (g_is_at hs14) rfl (fun _ => ?_)
      show g_H E 0 0 17 [(0, vR r0), (2, vI x2), (3, vI x3), (4, vI x4)] [vR (σ.2 r0 4), vI x4] (σ, M, N) _ _
      refine r_chk (fun hs17 => ?_)
      refine r_alen J rfl (by decide) (fun _ => rfl) (g_is_at hs17) ?_
      show g_H E 0 0 18 [(0, vR r0), (2, vI x2), (3, vI x3), (4, vI x4)] [vI (Int32.ofNat (g_ln σ (σ.2 r0 4))), vI x4] (σ, M, N) _ _
      refine r_icmp_ge J (tgt := 119) rfl (by decide) (fun c18 => ?_) (fun c18 => ?_)
      · refine r_run J 1 (pc' := 22) (lv' := [(0, vR r0), (2, vI x2), (3, vI x3), (4, vI x4)]) (st' := [vR r0]) rfl ?_
        refine r_getR J cls2 rfl (k := 4) (t := 14) (by decide) wf_2_22 rfl rfl (g_is_at hs14) rfl (fun _ => ?_)
        show g_H E 0 0 25 [(0, vR r0), (2, vI x2), (3, vI x3), (4, vI x4)] [vR (σ.2 r0 4)] (σ, M, N) _ _
        refine r_run J 1 (pc' := 27) (lv' := [(0, vR r0), (2, vI x2), (3, vI x3), (4, vI x4)]) (st' := [vI x4, vR (σ.2 r0 4)]) rfl ?_
        refine r_iald J rfl (g_is_at hs17) (fun i27 => ?_)
        show g_H E 0 0 28 [(0, vR r0), (2, vI x2), (3, vI x3), (4, vI x4)] [vI (M (σ.2 r0 4) x4.toNatClampNeg)] (σ, M, N) _ _
        refine r_run J 3 (pc' := 34) (lv' := [(5, vI (M (σ.2 r0 4) x4.toNatClampNeg)), (0, vR r0), (2, vI x2), (3, vI x3), (4, vI x4)]) (st' := [vI (-5), vI (M (σ.2 r0 4) x4.toNatClampNeg)]) rfl ?_
        refine r_icmp_ge J (tgt := 77) rfl (by decide) (fun c34 => ?_) (fun c34 => ?_)
        · refine r_run J 2 (pc' := 39) (lv' := [(5, vI (M (σ.2 r0 4) x4.toNatClampNeg)), (0, vR r0), (2, vI x2), (3, vI x3), (4, vI x4)]) (st' := [vI 2, vI x3]) rfl ?_
          refine r_icmp_ge J (tgt := 44) rfl (by decide) (fun c39 => ?_) (fun c39 => ?_)
          · refine r_run J 1 (pc' := 43) (lv' := [(5, vI (M (σ.2 r0 4) x4.toNatClampNeg)), (0, vR r0), (2, vI x2), (3, vI x3), (4, vI x4)]) (st' := [vI 0]) rfl ?_
            exact r_iret J rfl rfl rfl rfl (by decide) (by decide)
          · refine r_run J 2 (pc' := 48) (lv' := [(3, vI (x3 + (-1))), (5, vI (M (σ.2 r0 4) x4.toNatClampNeg)), (0, vR r0), (2, vI x2), (4, vI x4)]) (st' := [vR r0]) rfl ?_
            refine r_getR J cls2 rfl (k := 3) (t := 14) (by decide) wf_2_19 rfl rfl (g_is_at hs14) rfl (fun _ => ?_)
            show g_H E 0 0 51 [(3, vI (x3 + (-1))), (5, vI (M (σ.2 r0 4) x4.toNatClampNeg)), (0, vR r0), (2, vI x2), (4, vI x4)] [vR (σ.2 r0 3)] (σ, M, N) _ _
            refine r_run J 5 (pc' := 57) (lv' := [(3, vI (x3 + (-1))), (5, vI (M (σ.2 r0 4) x4.toNatClampNeg)), (0, vR r0), (2, vI x2), (4, vI x4)]) (st' := [vR r0, vI (M (σ.2 r0 4) x4.toNatClampNeg), vI ((x3 + (-1)) - (1 : Int32)), vR (σ.2 r0 3)]) rfl ?_
            refine r_getR J cls2 rfl (k := 3) (t := 14) (by decide) wf_2_19 rfl rfl (g_is_at hs14) rfl (fun _ => ?_)
            show g_H E 0 0 60 [(3, vI (x3 + (-1))), (5, vI (M (σ.2 r0 4) x4.toNatClampNeg)), (0, vR r0), (2, vI x2), (4, vI x4)] [vR (σ.2 r0 3), vI (M (σ.2 r0 4) x4.toNatClampNeg), vI ((x3 + (-1)) - (1 : Int32)), vR (σ.2 r0 3)] (σ, M, N) _ _
            refine r_run J 3 (pc' := 63) (lv' := [(3, vI (x3 + (-1))), (5, vI (M (σ.2 r0 4) x4.toNatClampNeg)), (0, vR r0), (2, vI x2), (4, vI x4)]) (st' := [vI ((x3 + (-1)) - (1 : Int32)), vR (σ.2 r0 3), vI (M (σ.2 r0 4) x4.toNatClampNeg), vI ((x3 + (-1)) - (1 : Int32)), vR (σ.2 r0 3)]) rfl ?_
            refine r_chk (fun hs63 => ?_)
            refine r_iald J rfl (g_is_at hs63) (fun i63 => ?_)
            show g_H E 0 0 64 [(3, vI (x3 + (-1))), (5, vI (M (σ.2 r0 4) x4.toNatClampNeg)), (0, vR r0), (2, vI x2), (4, vI x4)] [vI (M (σ.2 r0 3) ((x3 + (-1)) - (1 : Int32)).toNatClampNeg), vI (M (σ.2 r0 4) x4.toNatClampNeg), vI ((x3 + (-1)) - (1 : Int32)), vR (σ.2 r0 3)] (σ, M, N) _ _
            refine r_run J 1 (pc' := 65) (lv' := [(3, vI (x3 + (-1))), (5, vI (M (σ.2 r0 4) x4.toNatClampNeg)), (0, vR r0), (2, vI x2), (4, vI x4)]) (st' := [vR r0, vI (M (σ.2 r0 3) ((x3 + (-1)) - (1 : Int32)).toNatClampNeg), vI (M (σ.2 r0 4) x4.toNatClampNeg), vI ((x3 + (-1)) - (1 : Int32)), vR (σ.2 r0 3)]) rfl ?_
            refine r_getR J cls2 rfl (k := 3) (t := 14) (by decide) wf_2_19 rfl rfl (g_is_at hs14) rfl (fun _ => ?_)
            show g_H E 0 0 68 [(3, vI (x3 + (-1))), (5, vI (M (σ.2 r0 4) x4.toNatClampNeg)), (0, vR r0), (2, vI x2), (4, vI x4)] [vR (σ.2 r0 3), vI (M (σ.2 r0 3) ((x3 + (-1)) - (1 : Int32)).toNatClampNeg), vI (M (σ.2 r0 4) x4.toNatClampNeg), vI ((x3 + (-1)) - (1 : Int32)), vR (σ.2 r0 3)] (σ, M, N) _ _
            refine r_run J 1 (pc' := 69) (lv' := [(3, vI (x3 + (-1))), (5, vI (M (σ.2 r0 4) x4.toNatClampNeg)), (0, vR r0), (2, vI x2), (4, vI x4)]) (st' := [vI (x3 + (-1)), vR (σ.2 r0 3), vI (M (σ.2 r0 3) ((x3 + (-1)) - (1 : Int32)).toNatClampNeg), vI (M (σ.2 r0 4) x4.toNatClampNeg), vI ((x3 + (-1)) - (1 : Int32)), vR (σ.2 r0 3)]) rfl ?_
            refine r_iald J rfl (g_is_at hs63) (fun i69 => ?_)
            show g_H E 0 0 70 [(3, vI (x3 + (-1))), (5, vI (M (σ.2 r0 4) x4.toNatClampNeg)), (0, vR r0), (2, vI x2), (4, vI x4)] [vI (M (σ.2 r0 3) (x3 + (-1)).toNatClampNeg), vI (M (σ.2 r0 3) ((x3 + (-1)) - (1 : Int32)).toNatClampNeg), vI (M (σ.2 r0 4) x4.toNatClampNeg), vI ((x3 + (-1)) - (1 : Int32)), vR (σ.2 r0 3)] (σ, M, N) _ _
            refine r_callS J (As := [vI (M (σ.2 r0 4) x4.toNatClampNeg), vI (M (σ.2 r0 3) ((x3 + (-1)) - (1 : Int32)).toNatClampNeg), vI (M (σ.2 r0 3) (x3 + (-1)).toNatClampNeg)]) (st := [vI ((x3 + (-1)) - (1 : Int32)), vR (σ.2 r0 3)]) (fun r hr => c_X2_join (M (σ.2 r0 4) x4.toNatClampNeg) (M (σ.2 r0 3) ((x3 + (-1)) - (1 : Int32)).toNatClampNeg) (M (σ.2 r0 3) (x3 + (-1)).toNatClampNeg) σ M N hL r hr) wm_2_56 wy_X2_join wd_X2_join ⟨by decide, by decide, by decide, by decide, Nat.le_of_ble_eq_true rfl⟩ rfl rfl (fun q70 hq70 => ?_)
            show g_H E 0 0 73 [(3, vI (x3 + (-1))), (5, vI (M (σ.2 r0 4) x4.toNatClampNeg)), (0, vR r0), (2, vI x2), (4, vI x4)] [vI q70, vI ((x3 + (-1)) - (1 : Int32)), vR (σ.2 r0 3)] (σ, M, N) _ _
            refine r_iast J rfl (g_is_at hs63) (fun i73 => ?_)
            show g_H E 0 0 74 [(3, vI (x3 + (-1))), (5, vI (M (σ.2 r0 4) x4.toNatClampNeg)), (0, vR r0), (2, vI x2), (4, vI x4)] [] (σ, (g_up M (σ.2 r0 3) (((x3 + (-1)) - (1 : Int32)).toNatClampNeg) q70), N) _ _
            refine r_run J 1 (pc' := 113) (lv' := [(3, vI (x3 + (-1))), (5, vI (M (σ.2 r0 4) x4.toNatClampNeg)), (0, vR r0), (2, vI x2), (4, vI x4)]) (st' := []) rfl ?_
            refine r_sub [2, 3, 0, 4] (lv' := [(0, vR r0), (2, vI x2), (3, vI (x3 + (-1))), (4, vI x4)]) rfl ?_
            exact p_X2_valueOf_113 J ih r0 x2 (x3 + (-1)) x4 σ (g_up M (σ.2 r0 3) (((x3 + (-1)) - (1 : Int32)).toNatClampNeg) q70) N hL
        · refine r_run J 2 (pc' := 80) (lv' := [(5, vI (M (σ.2 r0 4) x4.toNatClampNeg)), (0, vR r0), (2, vI x2), (3, vI x3), (4, vI x4)]) (st' := [vI 20, vI x3]) rfl ?_
          refine r_icmp_lt J (tgt := 85) rfl (by decide) (fun c80 => ?_) (fun c80 => ?_)
          · refine r_run J 1 (pc' := 86) (lv' := [(5, vI (M (σ.2 r0 4) x4.toNatClampNeg)), (0, vR r0), (2, vI x2), (3, vI x3), (4, vI x4)]) (st' := [vR r0]) rfl ?_
            refine r_getR J cls2 rfl (k := 3) (t := 14) (by decide) wf_2_19 rfl rfl (g_is_at hs14) rfl (fun _ => ?_)
            show g_H E 0 0 89 [(5, vI (M (σ.2 r0 4) x4.toNatClampNeg)), (0, vR r0), (2, vI x2), (3, vI x3), (4, vI x4)] [vR (σ.2 r0 3)] (σ, M, N) _ _
            refine r_run J 2 (pc' := 92) (lv' := [(5, vI (M (σ.2 r0 4) x4.toNatClampNeg)), (0, vR r0), (2, vI x2), (3, vI x3), (4, vI x4)]) (st' := [vI (M (σ.2 r0 4) x4.toNatClampNeg), vI x3, vR (σ.2 r0 3)]) rfl ?_
            refine r_if_lt J (tgt := 100) rfl (by decide) (fun c92 => ?_) (fun c92 => ?_)
            · refine r_run J 1 (pc' := 101) (lv' := [(5, vI (M (σ.2 r0 4) x4.toNatClampNeg)), (0, vR r0), (2, vI x2), (3, vI x3), (4, vI x4)]) (st' := [vR r0, vI x3, vR (σ.2 r0 3)]) rfl ?_
              refine r_getR J cls2 rfl (k := 2) (t := 14) (by decide) wf_2_16 rfl rfl (g_is_at hs14) rfl (fun _ => ?_)
              show g_H E 0 0 104 [(5, vI (M (σ.2 r0 4) x4.toNatClampNeg)), (0, vR r0), (2, vI x2), (3, vI x3), (4, vI x4)] [vR (σ.2 r0 2), vI x3, vR (σ.2 r0 3)] (σ, M, N) _ _
              refine r_run J 3 (pc' := 108) (lv' := [(5, vI (M (σ.2 r0 4) x4.toNatClampNeg)), (0, vR r0), (2, vI x2), (3, vI x3), (4, vI x4)]) (st' := [vI ((-1 : Int32) - (M (σ.2 r0 4) x4.toNatClampNeg)), vR (σ.2 r0 2), vI x3, vR (σ.2 r0 3)]) rfl ?_
              refine r_chk (fun hs108 => ?_)
              refine r_iald J rfl (g_is_at hs108) (fun i108 => ?_)
              show g_H E 0 0 109 [(5, vI (M (σ.2 r0 4) x4.toNatClampNeg)), (0, vR r0), (2, vI x2), (3, vI x3), (4, vI x4)] [vI (M (σ.2 r0 2) ((-1 : Int32) - (M (σ.2 r0 4) x4.toNatClampNeg)).toNatClampNeg), vI x3, vR (σ.2 r0 3)] (σ, M, N) _ _
              refine r_sub [1, 2, 3, 4] (lv' := [(0, vR r0), (2, vI x2), (3, vI x3), (4, vI x4)]) rfl ?_
              exact p_X2_valueOf_109 J ih r0 x2 x3 x4 (M (σ.2 r0 2) ((-1 : Int32) - (M (σ.2 r0 4) x4.toNatClampNeg)).toNatClampNeg) x3 (σ.2 r0 3) σ M N hL
            · refine r_run J 2 (pc' := 109) (lv' := [(5, vI (M (σ.2 r0 4) x4.toNatClampNeg)), (0, vR r0), (2, vI x2), (3, vI x3), (4, vI x4)]) (st' := [vI (M (σ.2 r0 4) x4.toNatClampNeg), vI x3, vR (σ.2 r0 3)]) rfl ?_
              refine r_sub [1, 2, 3, 4] (lv' := [(0, vR r0), (2, vI x2), (3, vI x3), (4, vI x4)]) rfl ?_
              exact p_X2_valueOf_109 J ih r0 x2 x3 x4 (M (σ.2 r0 4) x4.toNatClampNeg) x3 (σ.2 r0 3) σ M N hL
          · refine r_run J 1 (pc' := 84) (lv' := [(5, vI (M (σ.2 r0 4) x4.toNatClampNeg)), (0, vR r0), (2, vI x2), (3, vI x3), (4, vI x4)]) (st' := [vI 0]) rfl ?_
            exact r_iret J rfl rfl rfl rfl (by decide) (by decide)
      · refine r_sub [0] (lv' := [(0, vR r0)]) rfl ?_
        exact p_X2_valueOf_119 J r0 σ M N hL
    · refine r_sub [0] (lv' := [(0, vR r0)]) rfl ?_
      exact p_X2_valueOf_119 J r0 σ M N hL
set_option maxHeartbeats 4000000 in
set_option maxRecDepth 100000 in
theorem p_X2_valueOf_0 {l : Launch} {E : gE} (J : J_X2_valueOf E l) (r0 : Nat) (x1 : Int32) (x2 : Int32) (σ : gS) (M : gM) (N : gN) (hL : g_layC σ) : g_H E 0 0 0 [(0, vR r0), (1, vI x1), (2, vI x2)] [] (σ, M, N) (b_X2_valueOf_0 r0 x1 x2 σ M) (eIM σ N) := by
  unfold b_X2_valueOf_0
  refine r_run J 4 (pc' := 5) (lv' := [(4, vI x1), (3, vI 0), (0, vR r0), (1, vI x1), (2, vI x2)]) (st' := []) rfl ?_
  refine r_sub [2, 4, 1, 0] (lv' := [(0, vR r0), (2, vI x2), (3, vI 0), (4, vI x1)]) rfl ?_
  exact p_X2_valueOf_5 J g_FU r0 x2 0 x1 σ M N hL
theorem c_X2_valueOf {l : Launch} (r0 : Nat) (x1 : Int32) (x2 : Int32) (σ : gS) (M : gM) (N : gN) (hL : g_layC σ) (r : Int32 × gM) (h : f_X2_valueOf r0 x1 x2 σ M = some r) : g_Ct l yX2_valueOf cX2_valueOf 6 (some .int) 2 0 0 [vR r0, vI x1, vI x2] (σ, M, N) (eIM σ N r) :=
  g_Ct.of tb_X2_valueOf (by decide +kernel) tk_X2_valueOf (Nat.le_of_ble_eq_true rfl) (fun E J => p_X2_valueOf_0 J r0 x1 x2 σ M N hL r h)
def tb_X2_worthOf : gT := [(0, .iconst 0, 1, 0), (1, .istore_n 2, 1, 0), (2, .iload_n 2, 1, 0), (3, .aload_n 0, 1, 0), (4, .getfield 25, 3, 0), (7, .if_icmp .ge 99, 3, 0), (10, .aload_n 0, 1, 0), (11, .getfield 13, 3, 0), (14, .iload_n 2, 1, 0), (15, .iconst 3, 1, 3), (16, .imul, 1, 0), (17, .iaload, 1, 0), (18, .istore_n 3, 1, 0), (19, .aload_n 0, 1, 0), (20, .getfield 13, 3, 0), (23, .iload_n 2, 1, 0), (24, .iconst 3, 1, 3), (25, .imul, 1, 0), (26, .iconst 1, 1, 1), (27, .iadd, 1, 0), (28, .iaload, 1, 0), (29, .istore 4, 2, 0), (31, .aload_n 0, 1, 0), (32, .getfield 13, 3, 0), (35, .iload_n 2, 1, 0), (36, .iconst 3, 1, 3), (37, .imul, 1, 0), (38, .iconst 2, 1, 2), (39, .iadd, 1, 0), (40, .iaload, 1, 0), (41, .istore 5, 2, 0), (43, .aload_n 0, 1, 0), (44, .getfield 9, 3, 0), (47, .iload_n 2, 1, 0), (48, .iaload, 1, 0), (49, .iload_n 1, 1, 0), (50, .if_icmp .ne 7, 3, 0), (53, .iconst 1, 1, 1), (54, .goto 4, 3, 0), (57, .iconst 0, 1, 0), (58, .istore 6, 2, 0), (60, .iload 6, 2, 0), (62, .ifCond .eq 38, 3, 0), (65, .iload 4, 2, 0), (67, .iload 5, 2, 0), (69, .if_icmp .eq 14, 3, 0), (72, .aload_n 0, 1, 0), (73, .iload 4, 2, 0), (75, .iload 5, 2, 0), (77, .invokevirtual 44, 3, 0), (80, .ifCond .eq 20, 3, 0), (83, .iconst 0, 1, 0), (84, .bipush 100, 2, 100), (86, .aload_n 0, 1, 0), (87, .iload_n 3, 1, 0), (88, .iload 4, 2, 0), (90, .invokevirtual 44, 3, 0), (93, .invokestatic 48, 3, 0), (96, .invokestatic 53, 3, 0), (99, .ireturn, 1, 0), (100, .iinc 2 1, 3, 1), (103, .goto (-101), 3, 0), (106, .iconst 0, 1, 0), (107, .ireturn, 1, 0)]
set_option maxRecDepth 100000 in
theorem tk_X2_worthOf : g_okT cX2_worthOf tb_X2_worthOf = true := by decide +kernel
abbrev J_X2_worthOf (E : gE) (l : Launch) : Prop := g_J E cX2_worthOf RX2 "worthOf" (some .int) 7 tb_X2_worthOf 3 0 0 l
set_option maxHeartbeats 4000000 in
set_option maxRecDepth 100000 in
theorem p_X2_worthOf_100 {l : Launch} {E : gE} (J : J_X2_worthOf E l) {k2 : Nat → Int32 → Int32 → gS → gM → Option (Int32 × gM)} (H2 : ∀ (r0 : Nat) (x1 : Int32) (x2 : Int32) (σ : gS) (M : gM) (N : gN) (_ : g_layC σ), g_H E 0 0 2 [(0, vR r0), (1, vI x1), (2, vI x2)] [] (σ, M, N) (k2 r0 x1 x2 σ M) (eIM σ N)) (r0 : Nat) (x1 : Int32) (x2 : Int32) (σ : gS) (M : gM) (N : gN) (hL : g_layC σ) : g_H E 0 0 100 [(0, vR r0), (1, vI x1), (2, vI x2)] [] (σ, M, N) (b_X2_worthOf_100 k2 r0 x1 x2 σ M) (eIM σ N) := by
  unfold b_X2_worthOf_100
  refine r_run J 2 (pc' := 2) (lv' := [(2, vI (x2 + 1)), (0, vR r0), (1, vI x1)]) (st' := []) rfl ?_
  refine r_sub [1, 2, 0] (lv' := [(0, vR r0), (1, vI x1), (2, vI (x2 + 1))]) rfl ?_
  exact H2 r0 x1 (x2 + 1) σ M N hL
set_option maxHeartbeats 4000000 in
set_option maxRecDepth 100000 in
theorem p_X2_worthOf_83 {l : Launch} {E : gE} (J : J_X2_worthOf E l) (r0 : Nat) (x3 : Int32) (x4 : Int32) (σ : gS) (M : gM) (N : gN) (hL : g_layC σ) : g_H E 0 0 83 [(0, vR r0), (3, vI x3), (4, vI x4)] [] (σ, M, N) (b_X2_worthOf_83 r0 x3 x4 σ M) (eIM σ N) := by
  unfold b_X2_worthOf_83
  refine r_run J 5 (pc' := 90) (lv' := [(0, vR r0), (3, vI x3), (4, vI x4)]) (st' := [vI x4, vI x3, vR r0, vI 100, vI 0]) rfl ?_
  refine r_chk (fun hs90 => ?_)
  refine r_callV J (As := [vI x3, vI x4]) (st := [vI 100, vI 0]) (fun r hr => c_X2_valueOf r0 x3 x4 σ M N hL r hr) cls2 (g_is_at hs90) wm_2_44 wy_X2_valueOf wd_X2_valueOf ⟨by decide, by decide, by decide, by decide, Nat.le_of_ble_eq_true rfl⟩ rfl rfl (fun q90 hq90 => ?_)
  show g_H E 0 0 93 [(0, vR r0), (3, vI x3), (4, vI x4)] [vI q90.1, vI 100, vI 0] (σ, q90.2, N) _ _
  refine r_mmin J rfl wm_2_48 ⟨by omega, Nat.le_of_ble_eq_true rfl, by decide, by decide⟩ ?_
  show g_H E 0 0 96 [(0, vR r0), (3, vI x3), (4, vI x4)] [vI (if q90.1 < (100 : Int32) then q90.1 else (100 : Int32)), vI 0] (σ, q90.2, N) _ _
  refine r_mmax J rfl wm_2_53 ⟨by omega, Nat.le_of_ble_eq_true rfl, by decide, by decide⟩ ?_
  show g_H E 0 0 99 [(0, vR r0), (3, vI x3), (4, vI x4)] [vI (if (0 : Int32) < (if q90.1 < (100 : Int32) then q90.1 else (100 : Int32)) then (if q90.1 < (100 : Int32) then q90.1 else (100 : Int32)) else (0 : Int32))] (σ, q90.2, N) _ _
  exact r_iret J rfl rfl rfl rfl (by decide) (by decide)
set_option maxHeartbeats 4000000 in
set_option maxRecDepth 100000 in
theorem p_X2_worthOf_58 {l : Launch} {E : gE} (J : J_X2_worthOf E l) {k2 : Nat → Int32 → Int32 → gS → gM → Option (Int32 × gM)} (H2 : ∀ (r0 : Nat) (x1 : Int32) (x2 : Int32) (σ : gS) (M : gM) (N : gN) (_ : g_layC σ), g_H E 0 0 2 [(0, vR r0), (1, vI x1), (2, vI x2)] [] (σ, M, N) (k2 r0 x1 x2 σ M) (eIM σ N)) (r0 : Nat) (x1 : Int32) (x2 : Int32) (x3 : Int32) (x4 : Int32) (x5 : Int32) (sx0 : Int32) (σ : gS) (M : gM) (N : gN) (hL : g_layC σ) : g_H E 0 0 58 [(0, vR r0), (1, vI x1), (2, vI x2), (3, vI x3), (4, vI x4), (5, vI x5)] [vI sx0] (σ, M, N) (b_X2_worthOf_58 k2 r0 x1 x2 x3 x4 x5 sx0 σ M) (eIM σ N) := by
  unfold b_X2_worthOf_58
  refine r_run J 2 (pc' := 62) (lv' := [(6, vI sx0), (0, vR r0), (1, vI x1), (2, vI x2), (3, vI x3), (4, vI x4), (5, vI x5)]) (st' := [vI sx0]) rfl ?_
  refine r_if_eq J (tgt := 100) rfl (by decide) (fun c62 => ?_) (fun c62 => ?_)
  · refine r_sub [1, 2, 3] (lv' := [(0, vR r0), (1, vI x1), (2, vI x2)]) rfl ?_
    exact p_X2_worthOf_100 J H2 r0 x1 x2 σ M N hL
  · refine r_run J 2 (pc' := 69) (lv' := [(6, vI sx0), (0, vR r0), (1, vI x1), (2, vI x2), (3, vI x3), (4, vI x4), (5, vI x5)]) (st' := [vI x5, vI x4]) rfl ?_
    refine r_icmp_eq J (tgt := 83) rfl (by decide) (fun c69 => ?_) (fun c69 => ?_)
    · refine r_sub [1, 4, 5] (lv' := [(0, vR r0), (3, vI x3), (4, vI x4)]) rfl ?_
      exact p_X2_worthOf_83 J r0 x3 x4 σ M N hL
    · refine r_run J 3 (pc' := 77) (lv' := [(6, vI sx0), (0, vR r0), (1, vI x1), (2, vI x2), (3, vI x3), (4, vI x4), (5, vI x5)]) (st' := [vI x5, vI x4, vR r0]) rfl ?_
      refine r_chk (fun hs77 => ?_)
      refine r_callV J (As := [vI x4, vI x5]) (st := []) (fun r hr => c_X2_valueOf r0 x4 x5 σ M N hL r hr) cls2 (g_is_at hs77) wm_2_44 wy_X2_valueOf wd_X2_valueOf ⟨by decide, by decide, by decide, by decide, Nat.le_of_ble_eq_true rfl⟩ rfl rfl (fun q77 hq77 => ?_)
      show g_H E 0 0 80 [(6, vI sx0), (0, vR r0), (1, vI x1), (2, vI x2), (3, vI x3), (4, vI x4), (5, vI x5)] [vI q77.1] (σ, q77.2, N) _ _
      refine r_if_eq J (tgt := 100) rfl (by decide) (fun c80 => ?_) (fun c80 => ?_)
      · refine r_sub [1, 2, 3] (lv' := [(0, vR r0), (1, vI x1), (2, vI x2)]) rfl ?_
        exact p_X2_worthOf_100 J H2 r0 x1 x2 σ q77.2 N hL
      · refine r_sub [1, 4, 5] (lv' := [(0, vR r0), (3, vI x3), (4, vI x4)]) rfl ?_
        exact p_X2_worthOf_83 J r0 x3 x4 σ q77.2 N hL
set_option maxHeartbeats 4000000 in
set_option maxRecDepth 100000 in
theorem p_X2_worthOf_2 {l : Launch} {E : gE} (J : J_X2_worthOf E l) : ∀ (n : Nat) (r0 : Nat) (x1 : Int32) (x2 : Int32) (σ : gS) (M : gM) (N : gN) (hL : g_layC σ), g_H E 0 0 2 [(0, vR r0), (1, vI x1), (2, vI x2)] [] (σ, M, N) (l_X2_worthOf_2 n r0 x1 x2 σ M) (eIM σ N) := by
  intro n
  induction n with
  | zero => intros; exact h_none
  | succ n ih =>
    intro r0 x1 x2 σ M N hL
    rw [l_X2_worthOf_2]
    refine r_run J 2 (pc' := 4) (lv' := [(0, vR r0), (1, vI x1), (2, vI x2)]) (st' := [vR r0, vI x2]) rfl ?_
    refine r_chk (fun hs4 => ?_)
    refine r_getI J cls2 rfl (k := 5) (by decide) wf_2_25 rfl (g_is_at hs4) ?_
    show g_H E 0 0 7 [(0, vR r0), (1, vI x1), (2, vI x2)] [vI (M r0 5), vI x2] (σ, M, N) _ _
    refine r_icmp_ge J (tgt := 106) rfl (by decide) (fun c7 => ?_) (fun c7 => ?_)
    · refine r_run J 1 (pc' := 11) (lv' := [(0, vR r0), (1, vI x1), (2, vI x2)]) (st' := [vR r0]) rfl ?_
      refine r_getR J cls2 rfl (k := 1) (t := 14) (by decide) wf_2_13 rfl rfl (g_is_at hs4) rfl (fun _ => ?_)
      show g_H E 0 0 14 [(0, vR r0), (1, vI x1), (2, vI x2)] [vR (σ.2 r0 1)] (σ, M, N) _ _
      refine r_run J 3 (pc' := 17) (lv' := [(0, vR r0), (1, vI x1), (2, vI x2)]) (st' := [vI (x2 * (3 : Int32)), vR (σ.2 r0 1)]) rfl ?_
      refine r_chk (fun hs17 => ?_)
      refine r_iald J rfl (g_is_at hs17) (fun i17 => ?_)
      show g_H E 0 0 18 [(0, vR r0), (1, vI x1), (2, vI x2)] [vI (M (σ.2 r0 1) (x2 * (3 : Int32)).toNatClampNeg)] (σ, M, N) _ _
      refine r_run J 2 (pc' := 20) (lv' := [(3, vI (M (σ.2 r0 1) (x2 * (3 : Int32)).toNatClampNeg)), (0, vR r0), (1, vI x1), (2, vI x2)]) (st' := [vR r0]) rfl ?_
      refine r_getR J cls2 rfl (k := 1) (t := 14) (by decide) wf_2_13 rfl rfl (g_is_at hs4) rfl (fun _ => ?_)
      show g_H E 0 0 23 [(3, vI (M (σ.2 r0 1) (x2 * (3 : Int32)).toNatClampNeg)), (0, vR r0), (1, vI x1), (2, vI x2)] [vR (σ.2 r0 1)] (σ, M, N) _ _
      refine r_run J 5 (pc' := 28) (lv' := [(3, vI (M (σ.2 r0 1) (x2 * (3 : Int32)).toNatClampNeg)), (0, vR r0), (1, vI x1), (2, vI x2)]) (st' := [vI ((x2 * (3 : Int32)) + (1 : Int32)), vR (σ.2 r0 1)]) rfl ?_
      refine r_iald J rfl (g_is_at hs17) (fun i28 => ?_)
      show g_H E 0 0 29 [(3, vI (M (σ.2 r0 1) (x2 * (3 : Int32)).toNatClampNeg)), (0, vR r0), (1, vI x1), (2, vI x2)] [vI (M (σ.2 r0 1) ((x2 * (3 : Int32)) + (1 : Int32)).toNatClampNeg)] (σ, M, N) _ _
      refine r_run J 2 (pc' := 32) (lv' := [(4, vI (M (σ.2 r0 1) ((x2 * (3 : Int32)) + (1 : Int32)).toNatClampNeg)), (3, vI (M (σ.2 r0 1) (x2 * (3 : Int32)).toNatClampNeg)), (0, vR r0), (1, vI x1), (2, vI x2)]) (st' := [vR r0]) rfl ?_
      refine r_getR J cls2 rfl (k := 1) (t := 14) (by decide) wf_2_13 rfl rfl (g_is_at hs4) rfl (fun _ => ?_)
      show g_H E 0 0 35 [(4, vI (M (σ.2 r0 1) ((x2 * (3 : Int32)) + (1 : Int32)).toNatClampNeg)), (3, vI (M (σ.2 r0 1) (x2 * (3 : Int32)).toNatClampNeg)), (0, vR r0), (1, vI x1), (2, vI x2)] [vR (σ.2 r0 1)] (σ, M, N) _ _
      refine r_run J 5 (pc' := 40) (lv' := [(4, vI (M (σ.2 r0 1) ((x2 * (3 : Int32)) + (1 : Int32)).toNatClampNeg)), (3, vI (M (σ.2 r0 1) (x2 * (3 : Int32)).toNatClampNeg)), (0, vR r0), (1, vI x1), (2, vI x2)]) (st' := [vI ((x2 * (3 : Int32)) + (2 : Int32)), vR (σ.2 r0 1)]) rfl ?_
      refine r_iald J rfl (g_is_at hs17) (fun i40 => ?_)
      show g_H E 0 0 41 [(4, vI (M (σ.2 r0 1) ((x2 * (3 : Int32)) + (1 : Int32)).toNatClampNeg)), (3, vI (M (σ.2 r0 1) (x2 * (3 : Int32)).toNatClampNeg)), (0, vR r0), (1, vI x1), (2, vI x2)] [vI (M (σ.2 r0 1) ((x2 * (3 : Int32)) + (2 : Int32)).toNatClampNeg)] (σ, M, N) _ _
      refine r_run J 2 (pc' := 44) (lv' := [(5, vI (M (σ.2 r0 1) ((x2 * (3 : Int32)) + (2 : Int32)).toNatClampNeg)), (4, vI (M (σ.2 r0 1) ((x2 * (3 : Int32)) + (1 : Int32)).toNatClampNeg)), (3, vI (M (σ.2 r0 1) (x2 * (3 : Int32)).toNatClampNeg)), (0, vR r0), (1, vI x1), (2, vI x2)]) (st' := [vR r0]) rfl ?_
      refine r_getR J cls2 rfl (k := 0) (t := 14) (by decide) wf_2_9 rfl rfl (g_is_at hs4) rfl (fun _ => ?_)
      show g_H E 0 0 47 [(5, vI (M (σ.2 r0 1) ((x2 * (3 : Int32)) + (2 : Int32)).toNatClampNeg)), (4, vI (M (σ.2 r0 1) ((x2 * (3 : Int32)) + (1 : Int32)).toNatClampNeg)), (3, vI (M (σ.2 r0 1) (x2 * (3 : Int32)).toNatClampNeg)), (0, vR r0), (1, vI x1), (2, vI x2)] [vR (σ.2 r0 0)] (σ, M, N) _ _
      refine r_run J 1 (pc' := 48) (lv' := [(5, vI (M (σ.2 r0 1) ((x2 * (3 : Int32)) + (2 : Int32)).toNatClampNeg)), (4, vI (M (σ.2 r0 1) ((x2 * (3 : Int32)) + (1 : Int32)).toNatClampNeg)), (3, vI (M (σ.2 r0 1) (x2 * (3 : Int32)).toNatClampNeg)), (0, vR r0), (1, vI x1), (2, vI x2)]) (st' := [vI x2, vR (σ.2 r0 0)]) rfl ?_
      refine r_chk (fun hs48 => ?_)
      refine r_iald J rfl (g_is_at hs48) (fun i48 => ?_)
      show g_H E 0 0 49 [(5, vI (M (σ.2 r0 1) ((x2 * (3 : Int32)) + (2 : Int32)).toNatClampNeg)), (4, vI (M (σ.2 r0 1) ((x2 * (3 : Int32)) + (1 : Int32)).toNatClampNeg)), (3, vI (M (σ.2 r0 1) (x2 * (3 : Int32)).toNatClampNeg)), (0, vR r0), (1, vI x1), (2, vI x2)] [vI (M (σ.2 r0 0) x2.toNatClampNeg)] (σ, M, N) _ _
      refine r_run J 1 (pc' := 50) (lv' := [(5, vI (M (σ.2 r0 1) ((x2 * (3 : Int32)) + (2 : Int32)).toNatClampNeg)), (4, vI (M (σ.2 r0 1) ((x2 * (3 : Int32)) + (1 : Int32)).toNatClampNeg)), (3, vI (M (σ.2 r0 1) (x2 * (3 : Int32)).toNatClampNeg)), (0, vR r0), (1, vI x1), (2, vI x2)]) (st' := [vI x1, vI (M (σ.2 r0 0) x2.toNatClampNeg)]) rfl ?_
      refine r_icmp_ne J (tgt := 57) rfl (by decide) (fun c50 => ?_) (fun c50 => ?_)
      · refine r_run J 2 (pc' := 58) (lv' := [(5, vI (M (σ.2 r0 1) ((x2 * (3 : Int32)) + (2 : Int32)).toNatClampNeg)), (4, vI (M (σ.2 r0 1) ((x2 * (3 : Int32)) + (1 : Int32)).toNatClampNeg)), (3, vI (M (σ.2 r0 1) (x2 * (3 : Int32)).toNatClampNeg)), (0, vR r0), (1, vI x1), (2, vI x2)]) (st' := [vI 1]) rfl ?_
        refine r_sub [3, 4, 5, 2, 1, 0] (lv' := [(0, vR r0), (1, vI x1), (2, vI x2), (3, vI (M (σ.2 r0 1) (x2 * (3 : Int32)).toNatClampNeg)), (4, vI (M (σ.2 r0 1) ((x2 * (3 : Int32)) + (1 : Int32)).toNatClampNeg)), (5, vI (M (σ.2 r0 1) ((x2 * (3 : Int32)) + (2 : Int32)).toNatClampNeg))]) rfl ?_
        exact p_X2_worthOf_58 J ih r0 x1 x2 (M (σ.2 r0 1) (x2 * (3 : Int32)).toNatClampNeg) (M (σ.2 r0 1) ((x2 * (3 : Int32)) + (1 : Int32)).toNatClampNeg) (M (σ.2 r0 1) ((x2 * (3 : Int32)) + (2 : Int32)).toNatClampNeg) 1 σ M N hL
      · refine r_run J 1 (pc' := 58) (lv' := [(5, vI (M (σ.2 r0 1) ((x2 * (3 : Int32)) + (2 : Int32)).toNatClampNeg)), (4, vI (M (σ.2 r0 1) ((x2 * (3 : Int32)) + (1 : Int32)).toNatClampNeg)), (3, vI (M (σ.2 r0 1) (x2 * (3 : Int32)).toNatClampNeg)), (0, vR r0), (1, vI x1), (2, vI x2)]) (st' := [vI 0]) rfl ?_
        refine r_sub [3, 4, 5, 2, 1, 0] (lv' := [(0, vR r0), (1, vI x1), (2, vI x2), (3, vI (M (σ.2 r0 1) (x2 * (3 : Int32)).toNatClampNeg)), (4, vI (M (σ.2 r0 1) ((x2 * (3 : Int32)) + (1 : Int32)).toNatClampNeg)), (5, vI (M (σ.2 r0 1) ((x2 * (3 : Int32)) + (2 : Int32)).toNatClampNeg))]) rfl ?_
        exact p_X2_worthOf_58 J ih r0 x1 x2 (M (σ.2 r0 1) (x2 * (3 : Int32)).toNatClampNeg) (M (σ.2 r0 1) ((x2 * (3 : Int32)) + (1 : Int32)).toNatClampNeg) (M (σ.2 r0 1) ((x2 * (3 : Int32)) + (2 : Int32)).toNatClampNeg) 0 σ M N hL
    · refine r_run J 1 (pc' := 107) (lv' := [(0, vR r0), (1, vI x1), (2, vI x2)]) (st' := [vI 0]) rfl ?_
      exact r_iret J rfl rfl rfl rfl (by decide) (by decide)
set_option maxHeartbeats 4000000 in
set_option maxRecDepth 100000 in
theorem p_X2_worthOf_0 {l : Launch} {E : gE} (J : J_X2_worthOf E l) (r0 : Nat) (x1 : Int32) (σ : gS) (M : gM) (N : gN) (hL : g_layC σ) : g_H E 0 0 0 [(0, vR r0), (1, vI x1)] [] (σ, M, N) (b_X2_worthOf_0 r0 x1 σ M) (eIM σ N) := by
  unfold b_X2_worthOf_0
  refine r_run J 2 (pc' := 2) (lv' := [(2, vI 0), (0, vR r0), (1, vI x1)]) (st' := []) rfl ?_
  refine r_sub [1, 2, 0] (lv' := [(0, vR r0), (1, vI x1), (2, vI 0)]) rfl ?_
  exact p_X2_worthOf_2 J g_FU r0 x1 0 σ M N hL
theorem c_X2_worthOf {l : Launch} (r0 : Nat) (x1 : Int32) (σ : gS) (M : gM) (N : gN) (hL : g_layC σ) (r : Int32 × gM) (h : f_X2_worthOf r0 x1 σ M = some r) : g_Ct l yX2_worthOf cX2_worthOf 7 (some .int) 3 0 0 [vR r0, vI x1] (σ, M, N) (eIM σ N r) :=
  g_Ct.of tb_X2_worthOf (by decide +kernel) tk_X2_worthOf (Nat.le_of_ble_eq_true rfl) (fun E J => p_X2_worthOf_0 J r0 x1 σ M N hL r h)
