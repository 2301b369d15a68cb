def tb_X2_asksFor : gT := [(0, .iconst 0, 1, 0), (1, .istore_n 3, 1, 0), (2, .iload_n 3, 1, 0), (3, .aload_n 0, 1, 0), (4, .getfield 25, 3, 0), (7, .if_icmp .ge 77, 3, 0), (10, .aload_n 0, 1, 0), (11, .getfield 13, 3, 0), (14, .iload_n 3, 1, 0), (15, .iconst 3, 1, 3), (16, .imul, 1, 0), (17, .iconst 2, 1, 2), (18, .iadd, 1, 0), (19, .iaload, 1, 0), (20, .aload_n 0, 1, 0), (21, .getfield 22, 3, 0), (24, .arraylength, 1, 0), (25, .invokestatic 48, 3, 0), (28, .istore 4, 2, 0), (30, .aload_n 0, 1, 0), (31, .getfield 13, 3, 0), (34, .iload_n 3, 1, 0), (35, .iconst 3, 1, 3), (36, .imul, 1, 0), (37, .iaload, 1, 0), (38, .istore 5, 2, 0), (40, .aload_n 0, 1, 0), (41, .getfield 9, 3, 0), (44, .iload_n 3, 1, 0), (45, .iaload, 1, 0), (46, .iload_n 1, 1, 0), (47, .if_icmp .ne 31, 3, 0), (50, .iload 5, 2, 0), (52, .iload 4, 2, 0), (54, .if_icmp .ge 24, 3, 0), (57, .aload_n 0, 1, 0), (58, .getfield 22, 3, 0), (61, .iload 5, 2, 0), (63, .iaload, 1, 0), (64, .iconst (-1), 1, (-1)), (65, .iload_n 2, 1, 0), (66, .isub, 1, 0), (67, .if_icmp .ne 5, 3, 0), (70, .iconst 1, 1, 1), (71, .ireturn, 1, 0), (72, .iinc 5 1, 3, 1), (75, .goto (-35), 3, 0), (78, .iinc 3 1, 3, 1), (81, .goto (-79), 3, 0), (84, .iconst 0, 1, 0), (85, .ireturn, 1, 0)]
set_option maxRecDepth 100000 in
theorem tk_X2_asksFor : g_okT cX2_asksFor tb_X2_asksFor = true := by decide +kernel
abbrev J_X2_asksFor (E : gE) (l : Launch) : Prop := g_J E cX2_asksFor RX2 "asksFor" (some .boolean) 6 tb_X2_asksFor 1 0 0 l
set_option maxHeartbeats 4000000 in
set_option maxRecDepth 100000 in
theorem p_X2_asksFor_78 {l : Launch} {E : gE} (J : J_X2_asksFor E l) {k2 : Nat → Int32 → Int32 → Int32 → gS → gM → Option (Int32)} (H2 : ∀ (r0 : Nat) (x1 : Int32) (x2 : Int32) (x3 : Int32) (σ : gS) (M : gM) (N : gN) (_ : g_layC σ), g_H E 0 0 2 [(0, vR r0), (1, vI x1), (2, vI x2), (3, vI x3)] [] (σ, M, N) (k2 r0 x1 x2 x3 σ M) (eI σ M N)) (r0 : Nat) (x1 : Int32) (x2 : Int32) (x3 : Int32) (σ : gS) (M : gM) (N : gN) (hL : g_layC σ) : g_H E 0 0 78 [(0, vR r0), (1, vI x1), (2, vI x2), (3, vI x3)] [] (σ, M, N) (b_X2_asksFor_78 k2 r0 x1 x2 x3 σ M) (eI σ M N) := by
  unfold b_X2_asksFor_78
  refine r_run J 2 (pc' := 2) (lv' := [(3, vI (x3 + 1)), (0, vR r0), (1, vI x1), (2, vI x2)]) (st' := []) rfl ?_
  refine r_sub [1, 2, 3, 0] (lv' := [(0, vR r0), (1, vI x1), (2, vI x2), (3, vI (x3 + 1))]) rfl ?_
  exact H2 r0 x1 x2 (x3 + 1) σ M N hL
set_option maxHeartbeats 4000000 in
set_option maxRecDepth 100000 in
theorem p_X2_asksFor_40 {l : Launch} {E : gE} (J : J_X2_asksFor E l) {k2 : Nat → Int32 → Int32 → Int32 → gS → gM → Option (Int32)} (H2 : ∀ (r0 : Nat) (x1 : Int32) (x2 : Int32) (x3 : Int32) (σ : gS) (M : gM) (N : gN) (_ : g_layC σ), g_H E 0 0 2 [(0, vR r0), (1, vI x1), (2, vI x2), (3, vI x3)] [] (σ, M, N) (k2 r0 x1 x2 x3 σ M) (eI σ M N)) : ∀ (n : Nat) (r0 : Nat) (x1 : Int32) (x2 : Int32) (x3 : Int32) (x4 : Int32) (x5 : Int32) (σ : gS) (M : gM) (N : gN) (hL : g_layC σ), g_H E 0 0 40 [(0, vR r0), (1, vI x1), (2, vI x2), (3, vI x3), (4, vI x4), (5, vI x5)] [] (σ, M, N) (l_X2_asksFor_40 k2 n r0 x1 x2 x3 x4 x5 σ M) (eI σ M N) := by
  intro n
  induction n with
  | zero => intros; exact h_none
  | succ n ih =>
    intro r0 x1 x2 x3 x4 x5 σ M N hL
    rw [l_X2_asksFor_40]
    refine r_run J 1 (pc' := 41) (lv' := [(0, vR r0), (1, vI x1), (2, vI x2), (3, vI x3), (4, vI x4), (5, vI x5)]) (st' := [vR r0]) rfl ?_
    refine r_chk (fun hs41 => ?_)
    refine r_getR J cls2 rfl (k := 0) (t := 14) (by decide) wf_2_9 rfl rfl (g_is_at hs41) rfl (fun _ => ?_)
    show g_H E 0 0 44 [(0, vR r0), (1, vI x1), (2, vI x2), (3, vI x3), (4, vI x4), (5, vI x5)] [vR (σ.2 r0 0)] (σ, M, N) _ _
    refine r_run J 1 (pc' := 45) (lv' := [(0, vR r0), (1, vI x1), (2, vI x2), (3, vI x3), (4, vI x4), (5, vI x5)]) (st' := [vI x3, vR (σ.2 r0 0)]) rfl ?_
    refine r_chk (fun hs45 => ?_)
    refine r_iald J rfl (g_is_at hs45) (fun i45 => ?_)
    show g_H E 0 0 46 [(0, vR r0), (1, vI x1), (2, vI x2), (3, vI x3), (4, vI x4), (5, vI x5)] [vI (M (σ.2 r0 0) x3.toNatClampNeg)] (σ, M, N) _ _
    refine r_run J 1 (pc' := 47) (lv' := [(0, vR r0), (1, vI x1), (2, vI x2), (3, vI x3), (4, vI x4), (5, vI x5)]) (st' := [vI x1, vI (M (σ.2 r0 0) x3.toNatClampNeg)]) rfl ?_
    refine r_icmp_ne J (tgt := 78) rfl (by decide) (fun c47 => ?_) (fun c47 => ?_)
    · refine r_run J 2 (pc' := 54) (lv' := [(0, vR r0), (1, vI x1), (2, vI x2), (3, vI x3), (4, vI x4), (5, vI x5)]) (st' := [vI x4, vI x5]) rfl ?_
      refine r_icmp_ge J (tgt := 78) rfl (by decide) (fun c54 => ?_) (fun c54 => ?_)
      · refine r_run J 1 (pc' := 58) (lv' := [(0, vR r0), (1, vI x1), (2, vI x2), (3, vI x3), (4, vI x4), (5, vI x5)]) (st' := [vR r0]) rfl ?_
        refine r_getR J cls2 rfl (k := 4) (t := 14) (by decide) wf_2_22 rfl rfl (g_is_at hs41) rfl (fun _ => ?_)
        show g_H E 0 0 61 [(0, vR r0), (1, vI x1), (2, vI x2), (3, vI x3), (4, vI x4), (5, vI x5)] [vR (σ.2 r0 4)] (σ, M, N) _ _
        refine r_run J 1 (pc' := 63) (lv' := [(0, vR r0), (1, vI x1), (2, vI x2), (3, vI x3), (4, vI x4), (5, vI x5)]) (st' := [vI x5, vR (σ.2 r0 4)]) rfl ?_
        refine r_chk (fun hs63 => ?_)
        refine r_iald J rfl (g_is_at hs63) (fun i63 => ?_)
        show g_H E 0 0 64 [(0, vR r0), (1, vI x1), (2, vI x2), (3, vI x3), (4, vI x4), (5, vI x5)] [vI (M (σ.2 r0 4) x5.toNatClampNeg)] (σ, M, N) _ _
        refine r_run J 3 (pc' := 67) (lv' := [(0, vR r0), (1, vI x1), (2, vI x2), (3, vI x3), (4, vI x4), (5, vI x5)]) (st' := [vI ((-1 : Int32) - x2), vI (M (σ.2 r0 4) x5.toNatClampNeg)]) rfl ?_
        refine r_icmp_ne J (tgt := 72) rfl (by decide) (fun c67 => ?_) (fun c67 => ?_)
        · refine r_run J 1 (pc' := 71) (lv' := [(0, vR r0), (1, vI x1), (2, vI x2), (3, vI x3), (4, vI x4), (5, vI x5)]) (st' := [vI 1]) rfl ?_
          exact r_iret J rfl rfl rfl rfl (by decide) (by decide)
        · refine r_run J 2 (pc' := 40) (lv' := [(5, vI (x5 + 1)), (0, vR r0), (1, vI x1), (2, vI x2), (3, vI x3), (4, vI x4)]) (st' := []) rfl ?_
          refine r_sub [1, 2, 3, 4, 5, 0] (lv' := [(0, vR r0), (1, vI x1), (2, vI x2), (3, vI x3), (4, vI x4), (5, vI (x5 + 1))]) rfl ?_
          exact ih r0 x1 x2 x3 x4 (x5 + 1) σ M N hL
      · refine r_sub [0, 1, 2, 3] (lv' := [(0, vR r0), (1, vI x1), (2, vI x2), (3, vI x3)]) rfl ?_
        exact p_X2_asksFor_78 J H2 r0 x1 x2 x3 σ M N hL
    · refine r_sub [0, 1, 2, 3] (lv' := [(0, vR r0), (1, vI x1), (2, vI x2), (3, vI x3)]) rfl ?_
      exact p_X2_asksFor_78 J H2 r0 x1 x2 x3 σ M N hL
set_option maxHeartbeats 4000000 in
set_option maxRecDepth 100000 in
theorem p_X2_asksFor_2 {l : Launch} {E : gE} (J : J_X2_asksFor E l) : ∀ (n : Nat) (r0 : Nat) (x1 : Int32) (x2 : Int32) (x3 : Int32) (σ : gS) (M : gM) (N : gN) (hL : g_layC σ), g_H E 0 0 2 [(0, vR r0), (1, vI x1), (2, vI x2), (3, vI x3)] [] (σ, M, N) (l_X2_asksFor_2 n r0 x1 x2 x3 σ M) (eI σ M N) := by
  intro n
  induction n with
  | zero => intros; exact h_none
  | succ n ih =>
    intro r0 x1 x2 x3 σ M N hL
    rw [l_X2_asksFor_2]
    refine r_run J 2 (pc' := 4) (lv' := [(0, vR r0), (1, vI x1), (2, vI x2), (3, vI x3)]) (st' := [vR r0, vI x3]) rfl ?_
    refine r_chk (fun hs4 => ?_)
    refine r_getI J cls2 rfl (k := 5) (by decide) wf_2_25 rfl (g_is_at hs4) ?_
    show g_H E 0 0 7 [(0, vR r0), (1, vI x1), (2, vI x2), (3, vI x3)] [vI (M r0 5), vI x3] (σ, M, N) _ _
    refine r_icmp_ge J (tgt := 84) rfl (by decide) (fun c7 => ?_) (fun c7 => ?_)
    · refine r_run J 1 (pc' := 11) (lv' := [(0, vR r0), (1, vI x1), (2, vI x2), (3, vI x3)]) (st' := [vR r0]) rfl ?_
      refine r_getR J cls2 rfl (k := 1) (t := 14) (by decide) wf_2_13 rfl rfl (g_is_at hs4) rfl (fun _ => ?_)
      show g_H E 0 0 14 [(0, vR r0), (1, vI x1), (2, vI x2), (3, vI x3)] [vR (σ.2 r0 1)] (σ, M, N) _ _
      refine r_run J 5 (pc' := 19) (lv' := [(0, vR r0), (1, vI x1), (2, vI x2), (3, vI x3)]) (st' := [vI ((x3 * (3 : Int32)) + (2 : Int32)), vR (σ.2 r0 1)]) rfl ?_
      refine r_chk (fun hs19 => ?_)
      refine r_iald J rfl (g_is_at hs19) (fun i19 => ?_)
      show g_H E 0 0 20 [(0, vR r0), (1, vI x1), (2, vI x2), (3, vI x3)] [vI (M (σ.2 r0 1) ((x3 * (3 : Int32)) + (2 : Int32)).toNatClampNeg)] (σ, M, N) _ _
      refine r_run J 1 (pc' := 21) (lv' := [(0, vR r0), (1, vI x1), (2, vI x2), (3, vI x3)]) (st' := [vR r0, vI (M (σ.2 r0 1) ((x3 * (3 : Int32)) + (2 : Int32)).toNatClampNeg)]) rfl ?_
      refine r_getR J cls2 rfl (k := 4) (t := 14) (by decide) wf_2_22 rfl rfl (g_is_at hs4) rfl (fun _ => ?_)
      show g_H E 0 0 24 [(0, vR r0), (1, vI x1), (2, vI x2), (3, vI x3)] [vR (σ.2 r0 4), vI (M (σ.2 r0 1) ((x3 * (3 : Int32)) + (2 : Int32)).toNatClampNeg)] (σ, M, N) _ _
      refine r_chk (fun hs24 => ?_)
      refine r_alen J rfl (by decide) (fun _ => rfl) (g_is_at hs24) ?_
      show g_H E 0 0 25 [(0, vR r0), (1, vI x1), (2, vI x2), (3, vI x3)] [vI (Int32.ofNat (g_ln σ (σ.2 r0 4))), vI (M (σ.2 r0 1) ((x3 * (3 : Int32)) + (2 : Int32)).toNatClampNeg)] (σ, M, N) _ _
      refine r_mmin J rfl wm_2_48 ⟨by omega, Nat.le_of_ble_eq_true rfl, by decide, by decide⟩ ?_
      show g_H E 0 0 28 [(0, vR r0), (1, vI x1), (2, vI x2), (3, vI x3)] [vI (if (Int32.ofNat (g_ln σ (σ.2 r0 4))) < (M (σ.2 r0 1) ((x3 * (3 : Int32)) + (2 : Int32)).toNatClampNeg) then (Int32.ofNat (g_ln σ (σ.2 r0 4))) else (M (σ.2 r0 1) ((x3 * (3 : Int32)) + (2 : Int32)).toNatClampNeg))] (σ, M, N) _ _
      refine r_run J 2 (pc' := 31) (lv' := [(4, vI (if (Int32.ofNat (g_ln σ (σ.2 r0 4))) < (M (σ.2 r0 1) ((x3 * (3 : Int32)) + (2 : Int32)).toNatClampNeg) then (Int32.ofNat (g_ln σ (σ.2 r0 4))) else (M (σ.2 r0 1) ((x3 * (3 : Int32)) + (2 : Int32)).toNatClampNeg))), (0, vR r0), (1, vI x1), (2, vI x2), (3, vI x3)]) (st' := [vR r0]) rfl ?_
      refine r_getR J cls2 rfl (k := 1) (t := 14) (by decide) wf_2_13 rfl rfl (g_is_at hs4) rfl (fun _ => ?_)
      show g_H E 0 0 34 [(4, vI (if (Int32.ofNat (g_ln σ (σ.2 r0 4))) < (M (σ.2 r0 1) ((x3 * (3 : Int32)) + (2 : Int32)).toNatClampNeg) then (Int32.ofNat (g_ln σ (σ.2 r0 4))) else (M (σ.2 r0 1) ((x3 * (3 : Int32)) + (2 : Int32)).toNatClampNeg))), (0, vR r0), (1, vI x1), (2, vI x2), (3, vI x3)] [vR (σ.2 r0 1)] (σ, M, N) _ _
      refine r_run J 3 (pc' := 37) (lv' := [(4, vI (if (Int32.ofNat (g_ln σ (σ.2 r0 4))) < (M (σ.2 r0 1) ((x3 * (3 : Int32)) + (2 : Int32)).toNatClampNeg) then (Int32.ofNat (g_ln σ (σ.2 r0 4))) else (M (σ.2 r0 1) ((x3 * (3 : Int32)) + (2 : Int32)).toNatClampNeg))), (0, vR r0), (1, vI x1), (2, vI x2), (3, vI x3)]) (st' := [vI (x3 * (3 : Int32)), vR (σ.2 r0 1)]) rfl ?_
      refine r_iald J rfl (g_is_at hs19) (fun i37 => ?_)
      show g_H E 0 0 38 [(4, vI (if (Int32.ofNat (g_ln σ (σ.2 r0 4))) < (M (σ.2 r0 1) ((x3 * (3 : Int32)) + (2 : Int32)).toNatClampNeg) then (Int32.ofNat (g_ln σ (σ.2 r0 4))) else (M (σ.2 r0 1) ((x3 * (3 : Int32)) + (2 : Int32)).toNatClampNeg))), (0, vR r0), (1, vI x1), (2, vI x2), (3, vI x3)] [vI (M (σ.2 r0 1) (x3 * (3 : Int32)).toNatClampNeg)] (σ, M, N) _ _
      refine r_run J 1 (pc' := 40) (lv' := [(5, vI (M (σ.2 r0 1) (x3 * (3 : Int32)).toNatClampNeg)), (4, vI (if (Int32.ofNat (g_ln σ (σ.2 r0 4))) < (M (σ.2 r0 1) ((x3 * (3 : Int32)) + (2 : Int32)).toNatClampNeg) then (Int32.ofNat (g_ln σ (σ.2 r0 4))) else (M (σ.2 r0 1) ((x3 * (3 : Int32)) + (2 : Int32)).toNatClampNeg))), (0, vR r0), (1, vI x1), (2, vI x2), (3, vI x3)]) (st' := []) rfl ?_
      refine r_sub [2, 3, 4, 5, 1, 0] (lv' := [(0, vR r0), (1, vI x1), (2, vI x2), (3, vI x3), (4, vI (if (Int32.ofNat (g_ln σ (σ.2 r0 4))) < (M (σ.2 r0 1) ((x3 * (3 : Int32)) + (2 : Int32)).toNatClampNeg) then (Int32.ofNat (g_ln σ (σ.2 r0 4))) else (M (σ.2 r0 1) ((x3 * (3 : Int32)) + (2 : Int32)).toNatClampNeg))), (5, vI (M (σ.2 r0 1) (x3 * (3 : Int32)).toNatClampNeg))]) rfl ?_
      exact p_X2_asksFor_40 J ih g_FU r0 x1 x2 x3 (if (Int32.ofNat (g_ln σ (σ.2 r0 4))) < (M (σ.2 r0 1) ((x3 * (3 : Int32)) + (2 : Int32)).toNatClampNeg) then (Int32.ofNat (g_ln σ (σ.2 r0 4))) else (M (σ.2 r0 1) ((x3 * (3 : Int32)) + (2 : Int32)).toNatClampNeg)) (M (σ.2 r0 1) (x3 * (3 : Int32)).toNatClampNeg) σ M N hL
    · refine r_run J 1 (pc' := 85) (lv' := [(0, vR r0), (1, vI x1), (2, vI x2), (3, vI x3)]) (st' := [vI 0]) rfl ?_
      exact r_iret J rfl rfl rfl rfl (by decide) (by decide)
set_option maxHeartbeats 4000000 in
set_option maxRecDepth 100000 in
theorem p_X2_asksFor_0 {l : Launch} {E : gE} (J : J_X2_asksFor E l) (r0 : Nat) (x1 : Int32) (x2 : Int32) (σ : gS) (M : gM) (N : gN) (hL : g_layC σ) : g_H E 0 0 0 [(0, vR r0), (1, vI x1), (2, vI x2)] [] (σ, M, N) (b_X2_asksFor_0 r0 x1 x2 σ M) (eI σ M N) := by
  unfold b_X2_asksFor_0
  refine r_run J 2 (pc' := 2) (lv' := [(3, vI 0), (0, vR r0), (1, vI x1), (2, vI x2)]) (st' := []) rfl ?_
  refine r_sub [1, 2, 3, 0] (lv' := [(0, vR r0), (1, vI x1), (2, vI x2), (3, vI 0)]) rfl ?_
  exact p_X2_asksFor_2 J g_FU r0 x1 x2 0 σ M N hL
theorem c_X2_asksFor {l : Launch} (r0 : Nat) (x1 : Int32) (x2 : Int32) (σ : gS) (M : gM) (N : gN) (hL : g_layC σ) (r : Int32) (h : f_X2_asksFor r0 x1 x2 σ M = some r) : g_Ct l yX2_asksFor cX2_asksFor 6 (some .boolean) 1 0 0 [vR r0, vI x1, vI x2] (σ, M, N) (eI σ M N r) :=
  g_Ct.of tb_X2_asksFor (by decide +kernel) tk_X2_asksFor (Nat.le_of_ble_eq_true rfl) (fun E J => p_X2_asksFor_0 J r0 x1 x2 σ M N hL r h)
def tb_X3_init : gT := [(0, .aload_n 0, 1, 0), (1, .invokespecial 5, 3, 0), (4, .aload_n 0, 1, 0), (5, .iconst 0, 1, 0), (6, .putfield 11, 3, 0), (9, .aload_n 0, 1, 0), (10, .iconst 0, 1, 0), (11, .putfield 15, 3, 0), (14, .aload_n 0, 1, 0), (15, .bipush 121, 2, 121), (17, .newarray .int, 2, 0), (19, .putfield 18, 3, 0), (22, .aload_n 0, 1, 0), (23, .bipush 121, 2, 121), (25, .newarray .int, 2, 0), (27, .putfield 22, 3, 0), (30, .aload_n 0, 1, 0), (31, .bipush 121, 2, 121), (33, .newarray .int, 2, 0), (35, .putfield 25, 3, 0), (38, .aload_n 0, 1, 0), (39, .iconst 0, 1, 0), (40, .putfield 28, 3, 0), (43, .aload_n 0, 1, 0), (44, .iconst 0, 1, 0), (45, .putfield 31, 3, 0), (48, .aload_n 0, 1, 0), (49, .iconst 0, 1, 0), (50, .putfield 34, 3, 0), (53, .aload_n 0, 1, 0), (54, .iconst 0, 1, 0), (55, .putfield 37, 3, 0), (58, .aload_n 0, 1, 0), (59, .iconst 0, 1, 0), (60, .putfield 40, 3, 0), (63, .return_, 1, 0)]
set_option maxRecDepth 100000 in
theorem tk_X3_init : g_okT cX3_init tb_X3_init = true := by decide +kernel
abbrev J_X3_init (E : gE) (l : Launch) : Prop := g_J E cX3_init RX3 "<init>" none 1 tb_X3_init 1 3 363 l
set_option maxHeartbeats 4000000 in
set_option maxRecDepth 100000 in
theorem p_X3_init_58 {l : Launch} {E : gE} (J : J_X3_init E l) (σ : gS) (M : gM) (N : gN) : g_H E 3 363 58 [(0, vR 20)] [] (σ, M, N) (b_X3_init_58 σ M N) (eVSMN) := by
  unfold b_X3_init_58
  refine r_run J 2 (pc' := 60) (lv' := [(0, vR 20)]) (st' := [vI 0, vR 20]) rfl ?_
  refine r_chk (fun hs60 => ?_)
  refine r_putI J cls3 rfl (k := 9) (by decide) wf_3_40 rfl (Or.inl rfl) ⟨rfl, rfl⟩ (g_is_at hs60) ?_
  show g_H E 3 363 63 [(0, vR 20)] [] (σ, (g_up M 20 9 0), N) _ _
  exact r_vret J rfl rfl rfl (by decide) (by decide)
set_option maxHeartbeats 4000000 in
set_option maxRecDepth 100000 in
theorem p_X3_init_53 {l : Launch} {E : gE} (J : J_X3_init E l) (σ : gS) (M : gM) (N : gN) : g_H E 3 363 53 [(0, vR 20)] [] (σ, M, N) (b_X3_init_53 σ M N) (eVSMN) := by
  unfold b_X3_init_53
  refine r_run J 2 (pc' := 55) (lv' := [(0, vR 20)]) (st' := [vI 0, vR 20]) rfl ?_
  refine r_chk (fun hs55 => ?_)
  refine r_putI J cls3 rfl (k := 8) (by decide) wf_3_37 rfl (Or.inl rfl) ⟨rfl, rfl⟩ (g_is_at hs55) ?_
  show g_H E 3 363 58 [(0, vR 20)] [] (σ, (g_up M 20 8 0), N) _ _
  exact p_X3_init_58 J σ (g_up M 20 8 0) N
set_option maxHeartbeats 4000000 in
set_option maxRecDepth 100000 in
theorem p_X3_init_48 {l : Launch} {E : gE} (J : J_X3_init E l) (σ : gS) (M : gM) (N : gN) : g_H E 3 363 48 [(0, vR 20)] [] (σ, M, N) (b_X3_init_48 σ M N) (eVSMN) := by
  unfold b_X3_init_48
  refine r_run J 2 (pc' := 50) (lv' := [(0, vR 20)]) (st' := [vI 0, vR 20]) rfl ?_
  refine r_chk (fun hs50 => ?_)
  refine r_putI J cls3 rfl (k := 7) (by decide) wf_3_34 rfl (Or.inl rfl) ⟨rfl, rfl⟩ (g_is_at hs50) ?_
  show g_H E 3 363 53 [(0, vR 20)] [] (σ, (g_up M 20 7 0), N) _ _
  exact p_X3_init_53 J σ (g_up M 20 7 0) N
set_option maxHeartbeats 4000000 in
set_option maxRecDepth 100000 in
theorem p_X3_init_43 {l : Launch} {E : gE} (J : J_X3_init E l) (σ : gS) (M : gM) (N : gN) : g_H E 3 363 43 [(0, vR 20)] [] (σ, M, N) (b_X3_init_43 σ M N) (eVSMN) := by
  unfold b_X3_init_43
  refine r_run J 2 (pc' := 45) (lv' := [(0, vR 20)]) (st' := [vI 0, vR 20]) rfl ?_
  refine r_chk (fun hs45 => ?_)
  refine r_putI J cls3 rfl (k := 6) (by decide) wf_3_31 rfl (Or.inl rfl) ⟨rfl, rfl⟩ (g_is_at hs45) ?_
  show g_H E 3 363 48 [(0, vR 20)] [] (σ, (g_up M 20 6 0), N) _ _
  exact p_X3_init_48 J σ (g_up M 20 6 0) N
set_option maxHeartbeats 4000000 in
set_option maxRecDepth 100000 in
theorem p_X3_init_38 {l : Launch} {E : gE} (J : J_X3_init E l) (σ : gS) (M : gM) (N : gN) : g_H E 3 363 38 [(0, vR 20)] [] (σ, M, N) (b_X3_init_38 σ M N) (eVSMN) := by
  unfold b_X3_init_38
  refine r_run J 2 (pc' := 40) (lv' := [(0, vR 20)]) (st' := [vI 0, vR 20]) rfl ?_
  refine r_chk (fun hs40 => ?_)
  refine r_putI J cls3 rfl (k := 5) (by decide) wf_3_28 rfl (Or.inl rfl) ⟨rfl, rfl⟩ (g_is_at hs40) ?_
  show g_H E 3 363 43 [(0, vR 20)] [] (σ, (g_up M 20 5 0), N) _ _
  exact p_X3_init_43 J σ (g_up M 20 5 0) N
set_option maxHeartbeats 4000000 in
set_option maxRecDepth 100000 in
theorem p_X3_init_30 {l : Launch} {E : gE} (J : J_X3_init E l) (σ : gS) (M : gM) (N : gN) : g_H E 2 242 30 [(0, vR 20)] [] (σ, M, N) (b_X3_init_30 σ M N) (eVSMN) := by
  unfold b_X3_init_30
  refine r_run J 2 (pc' := 33) (lv' := [(0, vR 20)]) (st' := [vI 121, vR 20]) rfl ?_
  refine r_chk (fun hf33 => ?_)
  refine r_newI J (B := 121) rfl wa_int (by decide) rfl (Nat.le_refl _) (by decide) (g_fr_0 hf33) (g_fr_n hf33) (by decide) (by decide) ?_
  show g_H E 3 363 35 [(0, vR 20)] [vR 23, vR 20] ((g_nS σ 23 14 121), (g_z M 23 0), (g_z N 23 0)) _ _
  refine r_chk (fun hs35 => ?_)
  refine r_putR J cls3 rfl (k := 4) (t := 14) (by decide) wf_3_25 rfl rfl (Or.inr ⟨rfl, rfl, rfl⟩) (g_is_at hs35) (Or.inr ⟨_, (g_nS_at σ 23 14 121)⟩) ?_
  show g_H E 3 363 38 [(0, vR 20)] [] ((g_pS (g_nS σ 23 14 121) 20 4 23), (g_z M 23 0), (g_z N 23 0)) _ _
  exact p_X3_init_38 J (g_pS (g_nS σ 23 14 121) 20 4 23) (g_z M 23 0) (g_z N 23 0)
set_option maxHeartbeats 4000000 in
set_option maxRecDepth 100000 in
theorem p_X3_init_22 {l : Launch} {E : gE} (J : J_X3_init E l) (σ : gS) (M : gM) (N : gN) : g_H E 1 121 22 [(0, vR 20)] [] (σ, M, N) (b_X3_init_22 σ M N) (eVSMN) := by
  unfold b_X3_init_22
  refine r_run J 2 (pc' := 25) (lv' := [(0, vR 20)]) (st' := [vI 121, vR 20]) rfl ?_
  refine r_chk (fun hf25 => ?_)
  refine r_newI J (B := 121) rfl wa_int (by decide) rfl (Nat.le_refl _) (by decide) (g_fr_0 hf25) (g_fr_n hf25) (by decide) (by decide) ?_
  show g_H E 2 242 27 [(0, vR 20)] [vR 22, vR 20] ((g_nS σ 22 14 121), (g_z M 22 0), (g_z N 22 0)) _ _
  refine r_chk (fun hs27 => ?_)
  refine r_putR J cls3 rfl (k := 3) (t := 14) (by decide) wf_3_22 rfl rfl (Or.inr ⟨rfl, rfl, rfl⟩) (g_is_at hs27) (Or.inr ⟨_, (g_nS_at σ 22 14 121)⟩) ?_
  show g_H E 2 242 30 [(0, vR 20)] [] ((g_pS (g_nS σ 22 14 121) 20 3 22), (g_z M 22 0), (g_z N 22 0)) _ _
  exact p_X3_init_30 J (g_pS (g_nS σ 22 14 121) 20 3 22) (g_z M 22 0) (g_z N 22 0)
set_option maxHeartbeats 4000000 in
set_option maxRecDepth 100000 in
theorem p_X3_init_14 {l : Launch} {E : gE} (J : J_X3_init E l) (σ : gS) (M : gM) (N : gN) : g_H E 0 0 14 [(0, vR 20)] [] (σ, M, N) (b_X3_init_14 σ M N) (eVSMN) := by
  unfold b_X3_init_14
  refine r_run J 2 (pc' := 17) (lv' := [(0, vR 20)]) (st' := [vI 121, vR 20]) rfl ?_
  refine r_chk (fun hf17 => ?_)
  refine r_newI J (B := 121) rfl wa_int (by decide) rfl (Nat.le_refl _) (by decide) (g_fr_0 hf17) (g_fr_n hf17) (by decide) (by decide) ?_
  show g_H E 1 121 19 [(0, vR 20)] [vR 21, vR 20] ((g_nS σ 21 14 121), (g_z M 21 0), (g_z N 21 0)) _ _
  refine r_chk (fun hs19 => ?_)
  refine r_putR J cls3 rfl (k := 2) (t := 14) (by decide) wf_3_18 rfl rfl (Or.inr ⟨rfl, rfl, rfl⟩) (g_is_at hs19) (Or.inr ⟨_, (g_nS_at σ 21 14 121)⟩) ?_
  show g_H E 1 121 22 [(0, vR 20)] [] ((g_pS (g_nS σ 21 14 121) 20 2 21), (g_z M 21 0), (g_z N 21 0)) _ _
  exact p_X3_init_22 J (g_pS (g_nS σ 21 14 121) 20 2 21) (g_z M 21 0) (g_z N 21 0)
set_option maxHeartbeats 4000000 in
set_option maxRecDepth 100000 in
theorem p_X3_init_9 {l : Launch} {E : gE} (J : J_X3_init E l) (σ : gS) (M : gM) (N : gN) : g_H E 0 0 9 [(0, vR 20)] [] (σ, M, N) (b_X3_init_9 σ M N) (eVSMN) := by
  unfold b_X3_init_9
  refine r_run J 2 (pc' := 11) (lv' := [(0, vR 20)]) (st' := [vI 0, vR 20]) rfl ?_
  refine r_chk (fun hs11 => ?_)
  refine r_putI J cls3 rfl (k := 1) (by decide) wf_3_15 rfl (Or.inl rfl) ⟨rfl, rfl⟩ (g_is_at hs11) ?_
  show g_H E 0 0 14 [(0, vR 20)] [] (σ, (g_up M 20 1 0), N) _ _
  exact p_X3_init_14 J σ (g_up M 20 1 0) N
set_option maxHeartbeats 4000000 in
set_option maxRecDepth 100000 in
theorem p_X3_init_0 {l : Launch} {E : gE} (J : J_X3_init E l) (σ : gS) (M : gM) (N : gN) : g_H E 0 0 0 [(0, vR 20)] [] (σ, M, N) (b_X3_init_0 σ M N) (eVSMN) := by
  unfold b_X3_init_0
  refine r_run J 1 (pc' := 1) (lv' := [(0, vR 20)]) (st' := [vR 20]) rfl ?_
  refine r_chk (fun hs1 => ?_)
  refine r_objI J (by rw [(g_is_at hs1)]; exact Option.some_ne_none _) wm_3_5 w_obj rfl ⟨by decide, Nat.le_of_ble_eq_true rfl⟩ ?_
  refine r_run J 2 (pc' := 6) (lv' := [(0, vR 20)]) (st' := [vI 0, vR 20]) rfl ?_
  refine r_putI J cls3 rfl (k := 0) (by decide) wf_3_11 rfl (Or.inl rfl) ⟨rfl, rfl⟩ (g_is_at hs1) ?_
  show g_H E 0 0 9 [(0, vR 20)] [] (σ, (g_up M 20 0 0), N) _ _
  exact p_X3_init_9 J σ (g_up M 20 0 0) N
theorem c_X3_init {l : Launch} (σ : gS) (M : gM) (N : gN) (r : gS × gM × gN) (h : f_X3_init σ M N = some r) : g_Ct l yX3_init cX3_init 1 none 1 3 363 [vR 20] (σ, M, N) (eVSMN r) :=
  g_Ct.of tb_X3_init (by decide +kernel) tk_X3_init (Nat.le_of_ble_eq_true rfl) (fun E J => p_X3_init_0 J σ M N r h)
def tb_X3_spread : gT := [(0, .aload_n 0, 1, 0), (1, .iconst 0, 1, 0), (2, .iload_n 1, 1, 0), (3, .iload_n 2, 1, 0), (4, .aload_n 0, 1, 0), (5, .getfield 31, 3, 0), (8, .imul, 1, 0), (9, .isub, 1, 0), (10, .invokestatic 70, 3, 0), (13, .putfield 37, 3, 0), (16, .aload_n 0, 1, 0), (17, .bipush 10, 2, 10), (19, .iload_n 1, 1, 0), (20, .iload_n 2, 1, 0), (21, .aload_n 0, 1, 0), (22, .getfield 28, 3, 0), (25, .imul, 1, 0), (26, .iadd, 1, 0), (27, .invokestatic 76, 3, 0), (30, .putfield 40, 3, 0), (33, .return_, 1, 0)]
set_option maxRecDepth 100000 in
theorem tk_X3_spread : g_okT cX3_spread tb_X3_spread = true := by decide +kernel
abbrev J_X3_spread (E : gE) (l : Launch) : Prop := g_J E cX3_spread RX3 "spread" none 3 tb_X3_spread 1 0 0 l
set_option maxHeartbeats 4000000 in
set_option maxRecDepth 100000 in
theorem p_X3_spread_0 {l : Launch} {E : gE} (J : J_X3_spread E l) (x1 : Int32) (x2 : Int32) (σ : gS) (M : gM) (N : gN) (hL : g_layC σ) : g_H E 0 0 0 [(0, vR 20), (1, vI x1), (2, vI x2)] [] (σ, M, N) (b_X3_spread_0 x1 x2 σ M) (eVM σ N) := by
  unfold b_X3_spread_0
  refine r_run J 5 (pc' := 5) (lv' := [(0, vR 20), (1, vI x1), (2, vI x2)]) (st' := [vR 20, vI x2, vI x1, vI 0, vR 20]) rfl ?_
  refine r_getI J cls3 rfl (k := 6) (by decide) wf_3_31 rfl (ly_20 hL) ?_
  show g_H E 0 0 8 [(0, vR 20), (1, vI x1), (2, vI x2)] [vI (M 20 6), vI x2, vI x1, vI 0, vR 20] (σ, M, N) _ _
  refine r_run J 2 (pc' := 10) (lv' := [(0, vR 20), (1, vI x1), (2, vI x2)]) (st' := [vI (x1 - (x2 * (M 20 6))), vI 0, vR 20]) rfl ?_
  refine r_mmax J rfl wm_3_70 ⟨by omega, Nat.le_of_ble_eq_true rfl, by decide, by decide⟩ ?_
  show g_H E 0 0 13 [(0, vR 20), (1, vI x1), (2, vI x2)] [vI (if (0 : Int32) < (x1 - (x2 * (M 20 6))) then (x1 - (x2 * (M 20 6))) else (0 : Int32)), vR 20] (σ, M, N) _ _
  refine r_putI J cls3 rfl (k := 8) (by decide) wf_3_37 rfl (Or.inl rfl) ⟨rfl, rfl⟩ (ly_20 hL) ?_
  show g_H E 0 0 16 [(0, vR 20), (1, vI x1), (2, vI x2)] [] (σ, (g_up M 20 8 (if (0 : Int32) < (x1 - (x2 * (M 20 6))) then (x1 - (x2 * (M 20 6))) else (0 : Int32))), N) _ _
  refine r_run J 5 (pc' := 22) (lv' := [(0, vR 20), (1, vI x1), (2, vI x2)]) (st' := [vR 20, vI x2, vI x1, vI 10, vR 20]) rfl ?_
  refine r_getI J cls3 rfl (k := 5) (by decide) wf_3_28 rfl (ly_20 hL) ?_
  show g_H E 0 0 25 [(0, vR 20), (1, vI x1), (2, vI x2)] [vI ((g_up M 20 8 (if (0 : Int32) < (x1 - (x2 * (M 20 6))) then (x1 - (x2 * (M 20 6))) else (0 : Int32))) 20 5), vI x2, vI x1, vI 10, vR 20] (σ, (g_up M 20 8 (if (0 : Int32) < (x1 - (x2 * (M 20 6))) then (x1 - (x2 * (M 20 6))) else (0 : Int32))), N) _ _
  refine r_run J 2 (pc' := 27) (lv' := [(0, vR 20), (1, vI x1), (2, vI x2)]) (st' := [vI (x1 + (x2 * ((g_up M 20 8 (if (0 : Int32) < (x1 - (x2 * (M 20 6))) then (x1 - (x2 * (M 20 6))) else (0 : Int32))) 20 5))), vI 10, vR 20]) rfl ?_
  refine r_mmin J rfl wm_3_76 ⟨by omega, Nat.le_of_ble_eq_true rfl, by decide, by decide⟩ ?_
  show g_H E 0 0 30 [(0, vR 20), (1, vI x1), (2, vI x2)] [vI (if (x1 + (x2 * ((g_up M 20 8 (if (0 : Int32) < (x1 - (x2 * (M 20 6))) then (x1 - (x2 * (M 20 6))) else (0 : Int32))) 20 5))) < (10 : Int32) then (x1 + (x2 * ((g_up M 20 8 (if (0 : Int32) < (x1 - (x2 * (M 20 6))) then (x1 - (x2 * (M 20 6))) else (0 : Int32))) 20 5))) else (10 : Int32)), vR 20] (σ, (g_up M 20 8 (if (0 : Int32) < (x1 - (x2 * (M 20 6))) then (x1 - (x2 * (M 20 6))) else (0 : Int32))), N) _ _
  refine r_putI J cls3 rfl (k := 9) (by decide) wf_3_40 rfl (Or.inl rfl) ⟨rfl, rfl⟩ (ly_20 hL) ?_
  show g_H E 0 0 33 [(0, vR 20), (1, vI x1), (2, vI x2)] [] (σ, (g_up (g_up M 20 8 (if (0 : Int32) < (x1 - (x2 * (M 20 6))) then (x1 - (x2 * (M 20 6))) else (0 : Int32))) 20 9 (if (x1 + (x2 * ((g_up M 20 8 (if (0 : Int32) < (x1 - (x2 * (M 20 6))) then (x1 - (x2 * (M 20 6))) else (0 : Int32))) 20 5))) < (10 : Int32) then (x1 + (x2 * ((g_up M 20 8 (if (0 : Int32) < (x1 - (x2 * (M 20 6))) then (x1 - (x2 * (M 20 6))) else (0 : Int32))) 20 5))) else (10 : Int32))), N) _ _
  exact r_vret J rfl rfl rfl (by decide) (by decide)
theorem c_X3_spread {l : Launch} (x1 : Int32) (x2 : Int32) (σ : gS) (M : gM) (N : gN) (hL : g_layC σ) (r : gM) (h : f_X3_spread x1 x2 σ M = some r) : g_Ct l yX3_spread cX3_spread 3 none 1 0 0 [vR 20, vI x1, vI x2] (σ, M, N) (eVM σ N r) :=
  g_Ct.of tb_X3_spread (by decide +kernel) tk_X3_spread (Nat.le_of_ble_eq_true rfl) (fun E J => p_X3_spread_0 J x1 x2 σ M N hL r h)
def tb_X3_fillLastDay : gT := [(0, .iconst 0, 1, 0), (1, .istore_n 2, 1, 0), (2, .iload_n 2, 1, 0), (3, .aload_n 0, 1, 0), (4, .getfield 34, 3, 0), (7, .if_icmp .gt 62, 3, 0), (10, .aload_n 0, 1, 0), (11, .getfield 37, 3, 0), (14, .istore_n 3, 1, 0), (15, .iload_n 3, 1, 0), (16, .aload_n 0, 1, 0), (17, .getfield 40, 3, 0), (20, .if_icmp .gt 43, 3, 0), (23, .iload_n 2, 1, 0), (24, .iload_n 3, 1, 0), (25, .isub, 1, 0), (26, .istore 4, 2, 0), (28, .aload_n 0, 1, 0), (29, .getfield 18, 3, 0), (32, .iload_n 2, 1, 0), (33, .bipush 11, 2, 11), (35, .imul, 1, 0), (36, .iload_n 3, 1, 0), (37, .iadd, 1, 0), (38, .iload 4, 2, 0), (40, .ifCond .lt 11, 3, 0), (43, .bipush 100, 2, 100), (45, .iload 4, 2, 0), (47, .imul, 1, 0), (48, .goto 8, 3, 0), (51, .iload 4, 2, 0), (53, .ineg, 1, 0), (54, .iload_n 1, 1, 0), (55, .imul, 1, 0), (56, .iastore, 1, 0), (57, .iinc 3 1, 3, 1), (60, .goto (-45), 3, 0), (63, .iinc 2 1, 3, 1), (66, .goto (-64), 3, 0), (69, .return_, 1, 0)]
set_option maxRecDepth 100000 in
theorem tk_X3_fillLastDay : g_okT cX3_fillLastDay tb_X3_fillLastDay = true := by decide +kernel
abbrev J_X3_fillLastDay (E : gE) (l : Launch) : Prop := g_J E cX3_fillLastDay RX3 "fillLastDay" none 5 tb_X3_fillLastDay 1 0 0 l
set_option maxHeartbeats 4000000 in
set_option maxRecDepth 100000 in
theorem p_X3_fillLastDay_56 {l : Launch} {E : gE} (J : J_X3_fillLastDay E l) {k2 : Int32 → Int32 → gS → gM → Option (gM)} (H2 : ∀ (x1 : Int32) (x2 : Int32) (σ : gS) (M : gM) (N : gN) (_ : g_layC σ), g_H E 0 0 2 [(0, vR 20), (1, vI x1), (2, vI x2)] [] (σ, M, N) (k2 x1 x2 σ M) (eVM σ N)) {k15 : Int32 → Int32 → Int32 → gS → gM → Option (gM)} (H15 : ∀ (x1 : Int32) (x2 : Int32) (x3 : Int32) (σ : gS) (M : gM) (N : gN) (_ : g_layC σ), g_H E 0 0 15 [(0, vR 20), (1, vI x1), (2, vI x2), (3, vI x3)] [] (σ, M, N) (k15 x1 x2 x3 σ M) (eVM σ N)) (x1 : Int32) (x2 : Int32) (x3 : Int32) (sx0 : Int32) (sx1 : Int32) (σ : gS) (M : gM) (N : gN) (hL : g_layC σ) : g_H E 0 0 56 [(0, vR 20), (1, vI x1), (2, vI x2), (3, vI x3)] [vI sx0, vI sx1, vR 21] (σ, M, N) (b_X3_fillLastDay_56 k2 k15 x1 x2 x3 sx0 sx1 σ M) (eVM σ N) := by
  unfold b_X3_fillLastDay_56
  refine r_iast J rfl (ly_21 hL) (fun i56 => ?_)
  show g_H E 0 0 57 [(0, vR 20), (1, vI x1), (2, vI x2), (3, vI x3)] [] (σ, (g_up M 21 (sx1.toNatClampNeg) sx0), N) _ _
  refine r_run J 2 (pc' := 15) (lv' := [(3, vI (x3 + 1)), (0, vR 20), (1, vI x1), (2, vI x2)]) (st' := []) rfl ?_
  refine r_sub [1, 2, 3, 0] (lv' := [(0, vR 20), (1, vI x1), (2, vI x2), (3, vI (x3 + 1))]) rfl ?_
  exact H15 x1 x2 (x3 + 1) σ (g_up M 21 (sx1.toNatClampNeg) sx0) N hL
set_option maxHeartbeats 4000000 in
set_option maxRecDepth 100000 in
theorem p_X3_fillLastDay_15 {l : Launch} {E : gE} (J : J_X3_fillLastDay E l) {k2 : Int32 → Int32 → gS → gM → Option (gM)} (H2 : ∀ (x1 : Int32) (x2 : Int32) (σ : gS) (M : gM) (N : gN) (_ : g_layC σ), g_H E 0 0 2 [(0, vR 20), (1, vI x1), (2, vI x2)] [] (σ, M, N) (k2 x1 x2 σ M) (eVM σ N)) : ∀ (n : Nat) (x1 : Int32) (x2 : Int32) (x3 : Int32) (σ : gS) (M : gM) (N : gN) (hL : g_layC σ), g_H E 0 0 15 [(0, vR 20), (1, vI x1), (2, vI x2), (3, vI x3)] [] (σ, M, N) (l_X3_fillLastDay_15 k2 n x1 x2 x3 σ M) (eVM σ N) := by
  intro n
  induction n with
  | zero => intros; exact h_none
  | succ n ih =>
    intro x1 x2 x3 σ M N hL
    rw [l_X3_fillLastDay_15]
    refine r_run J 2 (pc' := 17) (lv' := [(0, vR 20), (1, vI x1), (2, vI x2), (3, vI x3)]) (st' := [vR 20, vI x3]) rfl ?_
    refine r_getI J cls3 rfl (k := 9) (by decide) wf_3_40 rfl (ly_20 hL) ?_
    show g_H E 0 0 20 [(0, vR 20), (1, vI x1), (2, vI x2), (3, vI x3)] [vI (M 20 9), vI x3] (σ, M, N) _ _
    refine r_icmp_gt J (tgt := 63) rfl (by decide) (fun c20 => ?_) (fun c20 => ?_)
    · refine r_run J 2 (pc' := 2) (lv' := [(2, vI (x2 + 1)), (0, vR 20), (1, vI x1), (3, vI x3)]) (st' := []) rfl ?_
      refine r_sub [1, 2, 0] (lv' := [(0, vR 20), (1, vI x1), (2, vI (x2 + 1))]) rfl ?_
      exact H2 x1 (x2 + 1) σ M N hL
    · refine r_run J 5 (pc' := 29) (lv' := [(4, vI (x2 - x3)), (0, vR 20), (1, vI x1), (2, vI x2), (3, vI x3)]) (st' := [vR 20]) rfl ?_
      refine r_getR J cls3 rfl (k := 2) (t := 14) (by decide) wf_3_18 rfl rfl (ly_20 hL) (lr_20_2 hL) (fun _ => ?_)
      show g_H E 0 0 32 [(4, vI (x2 - x3)), (0, vR 20), (1, vI x1), (2, vI x2), (3, vI x3)] [vR 21] (σ, M, N) _ _
      refine r_run J 6 (pc' := 40) (lv' := [(4, vI (x2 - x3)), (0, vR 20), (1, vI x1), (2, vI x2), (3, vI x3)]) (st' := [vI (x2 - x3), vI ((x2 * (11 : Int32)) + x3), vR 21]) rfl ?_
      refine r_if_lt J (tgt := 51) rfl (by decide) (fun c40 => ?_) (fun c40 => ?_)
      · refine r_run J 4 (pc' := 56) (lv' := [(4, vI (x2 - x3)), (0, vR 20), (1, vI x1), (2, vI x2), (3, vI x3)]) (st' := [vI ((-(x2 - x3)) * x1), vI ((x2 * (11 : Int32)) + x3), vR 21]) rfl ?_
        refine r_sub [1, 2, 3, 4] (lv' := [(0, vR 20), (1, vI x1), (2, vI x2), (3, vI x3)]) rfl ?_
        exact p_X3_fillLastDay_56 J H2 ih x1 x2 x3 ((-(x2 - x3)) * x1) ((x2 * (11 : Int32)) + x3) σ M N hL
      · refine r_run J 4 (pc' := 56) (lv' := [(4, vI (x2 - x3)), (0, vR 20), (1, vI x1), (2, vI x2), (3, vI x3)]) (st' := [vI ((100 : Int32) * (x2 - x3)), vI ((x2 * (11 : Int32)) + x3), vR 21]) rfl ?_
        refine r_sub [1, 2, 3, 4] (lv' := [(0, vR 20), (1, vI x1), (2, vI x2), (3, vI x3)]) rfl ?_
        exact p_X3_fillLastDay_56 J H2 ih x1 x2 x3 ((100 : Int32) * (x2 - x3)) ((x2 * (11 : Int32)) + x3) σ M N hL
set_option maxHeartbeats 4000000 in
set_option maxRecDepth 100000 in
theorem p_X3_fillLastDay_2 {l : Launch} {E : gE} (J : J_X3_fillLastDay E l) : ∀ (n : Nat) (x1 : Int32) (x2 : Int32) (σ : gS) (M : gM) (N : gN) (hL : g_layC σ), g_H E 0 0 2 [(0, vR 20), (1, vI x1), (2, vI x2)] [] (σ, M, N) (l_X3_fillLastDay_2 n x1 x2 σ M) (eVM σ N) := by
  intro n
  induction n with
  | zero => intros; exact h_none
  | succ n ih =>
    intro x1 x2 σ M N hL
    rw [l_X3_fillLastDay_2]
    refine r_run J 2 (pc' := 4) (lv' := [(0, vR 20), (1, vI x1), (2, vI x2)]) (st' := [vR 20, vI x2]) rfl ?_
    refine r_getI J cls3 rfl (k := 7) (by decide) wf_3_34 rfl (ly_20 hL) ?_
    show g_H E 0 0 7 [(0, vR 20), (1, vI x1), (2, vI x2)] [vI (M 20 7), vI x2] (σ, M, N) _ _
    refine r_icmp_gt J (tgt := 69) rfl (by decide) (fun c7 => ?_) (fun c7 => ?_)
    · exact r_vret J rfl rfl rfl (by decide) (by decide)
    · refine r_run J 1 (pc' := 11) (lv' := [(0, vR 20), (1, vI x1), (2, vI x2)]) (st' := [vR 20]) rfl ?_
      refine r_getI J cls3 rfl (k := 8) (by decide) wf_3_37 rfl (ly_20 hL) ?_
      show g_H E 0 0 14 [(0, vR 20), (1, vI x1), (2, vI x2)] [vI (M 20 8)] (σ, M, N) _ _
      refine r_run J 1 (pc' := 15) (lv' := [(3, vI (M 20 8)), (0, vR 20), (1, vI x1), (2, vI x2)]) (st' := []) rfl ?_
      refine r_sub [1, 2, 3, 0] (lv' := [(0, vR 20), (1, vI x1), (2, vI x2), (3, vI (M 20 8))]) rfl ?_
      exact p_X3_fillLastDay_15 J ih g_FU x1 x2 (M 20 8) σ M N hL
set_option maxHeartbeats 4000000 in
set_option maxRecDepth 100000 in
theorem p_X3_fillLastDay_0 {l : Launch} {E : gE} (J : J_X3_fillLastDay E l) (x1 : Int32) (σ : gS) (M : gM) (N : gN) (hL : g_layC σ) : g_H E 0 0 0 [(0, vR 20), (1, vI x1)] [] (σ, M, N) (b_X3_fillLastDay_0 x1 σ M) (eVM σ N) := by
  unfold b_X3_fillLastDay_0
  refine r_run J 2 (pc' := 2) (lv' := [(2, vI 0), (0, vR 20), (1, vI x1)]) (st' := []) rfl ?_
  refine r_sub [1, 2, 0] (lv' := [(0, vR 20), (1, vI x1), (2, vI 0)]) rfl ?_
  exact p_X3_fillLastDay_2 J g_FU x1 0 σ M N hL
theorem c_X3_fillLastDay {l : Launch} (x1 : Int32) (σ : gS) (M : gM) (N : gN) (hL : g_layC σ) (r : gM) (h : f_X3_fillLastDay x1 σ M = some r) : g_Ct l yX3_fillLastDay cX3_fillLastDay 5 none 1 0 0 [vR 20, vI x1] (σ, M, N) (eVM σ N r) :=
  g_Ct.of tb_X3_fillLastDay (by decide +kernel) tk_X3_fillLastDay (Nat.le_of_ble_eq_true rfl) (fun E J => p_X3_fillLastDay_0 J x1 σ M N hL r h)
def tb_X3_fillFees : gT := [(0, .aload_n 1, 1, 0), (1, .iconst 0, 1, 0), (2, .iconst 1, 1, 1), (3, .invokevirtual 56, 3, 0), (6, .istore_n 3, 1, 0), (7, .aload_n 1, 1, 0), (8, .iconst 0, 1, 0), (9, .iconst 2, 1, 2), (10, .invokevirtual 56, 3, 0), (13, .istore 4, 2, 0), (15, .aload_n 1, 1, 0), (16, .getfield 43, 3, 0), (19, .iconst 0, 1, 0), (20, .iload_n 2, 1, 0), (21, .iastore, 1, 0), (22, .iconst 1, 1, 1), (23, .istore 5, 2, 0), (25, .iload 5, 2, 0), (27, .aload_n 0, 1, 0), (28, .getfield 34, 3, 0), (31, .if_icmp .gt 131, 3, 0), (34, .aload_n 1, 1, 0), (35, .getfield 43, 3, 0), (38, .iconst 1, 1, 1), (39, .iload 5, 2, 0), (41, .iastore, 1, 0), (42, .aload_n 0, 1, 0), (43, .getfield 37, 3, 0), (46, .istore 6, 2, 0), (48, .iload 6, 2, 0), (50, .aload_n 0, 1, 0), (51, .getfield 40, 3, 0), (54, .if_icmp .gt 102, 3, 0), (57, .iload 5, 2, 0), (59, .bipush 11, 2, 11), (61, .imul, 1, 0), (62, .iload 6, 2, 0), (64, .iadd, 1, 0), (65, .istore 7, 2, 0), (67, .aload_n 1, 1, 0), (68, .getfield 43, 3, 0), (71, .iconst 2, 1, 2), (72, .iload 6, 2, 0), (74, .iastore, 1, 0), (75, .iload 5, 2, 0), (77, .iconst 1, 1, 1), (78, .if_icmp .le 27, 3, 0), (81, .iload_n 3, 1, 0), (82, .ifCond .ne 23, 3, 0), (85, .aload_n 0, 1, 0), (86, .getfield 25, 3, 0), (89, .iload 7, 2, 0), (91, .aload_n 0, 1, 0), (92, .getfield 25, 3, 0), (95, .iload 7, 2, 0), (97, .bipush 11, 2, 11), (99, .isub, 1, 0), (100, .iaload, 1, 0), (101, .iastore, 1, 0), (102, .goto 48, 3, 0), (105, .iload 6, 2, 0), (107, .aload_n 0, 1, 0), (108, .getfield 37, 3, 0), (111, .if_icmp .le 27, 3, 0), (114, .iload 4, 2, 0), (116, .ifCond .ne 22, 3, 0), (119, .aload_n 0, 1, 0), (120, .getfield 25, 3, 0), (123, .iload 7, 2, 0), (125, .aload_n 0, 1, 0), (126, .getfield 25, 3, 0), (129, .iload 7, 2, 0), (131, .iconst 1, 1, 1), (132, .isub, 1, 0), (133, .iaload, 1, 0), (134, .iastore, 1, 0), (135, .goto 15, 3, 0), (138, .aload_n 0, 1, 0), (139, .getfield 25, 3, 0), (142, .iload 7, 2, 0), (144, .aload_n 1, 1, 0), (145, .iconst 0, 1, 0), (146, .invokevirtual 79, 3, 0), (149, .iastore, 1, 0), (150, .iinc 6 1, 3, 1), (153, .goto (-105), 3, 0), (156, .iinc 5 1, 3, 1), (159, .goto (-134), 3, 0), (162, .return_, 1, 0)]
set_option maxRecDepth 100000 in
theorem tk_X3_fillFees : g_okT cX3_fillFees tb_X3_fillFees = true := by decide +kernel
abbrev J_X3_fillFees (E : gE) (l : Launch) : Prop := g_J E cX3_fillFees RX3 "fillFees" none 8 tb_X3_fillFees 4 0 0 l
set_option maxHeartbeats 4000000 in
set_option maxRecDepth 100000 in
theorem p_X3_fillFees_150 {l : Launch} {E : gE} (J : J_X3_fillFees E l) {k25 : Nat → Int32 → Int32 → Int32 → gS → gM → Option (gM)} (H25 : ∀ (r1 : Nat) (x3 : Int32) (x4 : Int32) (x5 : Int32) (σ : gS) (M : gM) (N : gN) (_ : g_layC σ), g_H E 0 0 25 [(0, vR 20), (1, vR r1), (3, vI x3), (4, vI x4), (5, vI x5)] [] (σ, M, N) (k25 r1 x3 x4 x5 σ M) (eVM σ N)) {k48 : Nat → Int32 → Int32 → Int32 → Int32 → gS → gM → Option (gM)} (H48 : ∀ (r1 : Nat) (x3 : Int32) (x4 : Int32) (x5 : Int32) (x6 : Int32) (σ : gS) (M : gM) (N : gN) (_ : g_layC σ), g_H E 0 0 48 [(0, vR 20), (1, vR r1), (3, vI x3), (4, vI x4), (5, vI x5), (6, vI x6)] [] (σ, M, N) (k48 r1 x3 x4 x5 x6 σ M) (eVM σ N)) (r1 : Nat) (x3 : Int32) (x4 : Int32) (x5 : Int32) (x6 : Int32) (σ : gS) (M : gM) (N : gN) (hL : g_layC σ) : g_H E 0 0 150 [(0, vR 20), (1, vR r1), (3, vI x3), (4, vI x4), (5, vI x5), (6, vI x6)] [] (σ, M, N) (b_X3_fillFees_150 k25 k48 r1 x3 x4 x5 x6 σ M) (eVM σ N) := by
  unfold b_X3_fillFees_150
  refine r_run J 2 (pc' := 48) (lv' := [(6, vI (x6 + 1)), (0, vR 20), (1, vR r1), (3, vI x3), (4, vI x4), (5, vI x5)]) (st' := []) rfl ?_
  refine r_sub [1, 2, 3, 4, 5, 0] (lv' := [(0, vR 20), (1, vR r1), (3, vI x3), (4, vI x4), (5, vI x5), (6, vI (x6 + 1))]) rfl ?_
  exact H48 r1 x3 x4 x5 (x6 + 1) σ M N hL
set_option maxHeartbeats 4000000 in
set_option maxRecDepth 100000 in
theorem p_X3_fillFees_138 {l : Launch} {E : gE} (J : J_X3_fillFees E l) {k25 : Nat → Int32 → Int32 → Int32 → gS → gM → Option (gM)} (H25 : ∀ (r1 : Nat) (x3 : Int32) (x4 : Int32) (x5 : Int32) (σ : gS) (M : gM) (N : gN) (_ : g_layC σ), g_H E 0 0 25 [(0, vR 20), (1, vR r1), (3, vI x3), (4, vI x4), (5, vI x5)] [] (σ, M, N) (k25 r1 x3 x4 x5 σ M) (eVM σ N)) {k48 : Nat → Int32 → Int32 → Int32 → Int32 → gS → gM → Option (gM)} (H48 : ∀ (r1 : Nat) (x3 : Int32) (x4 : Int32) (x5 : Int32) (x6 : Int32) (σ : gS) (M : gM) (N : gN) (_ : g_layC σ), g_H E 0 0 48 [(0, vR 20), (1, vR r1), (3, vI x3), (4, vI x4), (5, vI x5), (6, vI x6)] [] (σ, M, N) (k48 r1 x3 x4 x5 x6 σ M) (eVM σ N)) (r1 : Nat) (x3 : Int32) (x4 : Int32) (x5 : Int32) (x6 : Int32) (x7 : Int32) (σ : gS) (M : gM) (N : gN) (hL : g_layC σ) : g_H E 0 0 138 [(0, vR 20), (1, vR r1), (3, vI x3), (4, vI x4), (5, vI x5), (6, vI x6), (7, vI x7)] [] (σ, M, N) (b_X3_fillFees_138 k25 k48 r1 x3 x4 x5 x6 x7 σ M) (eVM σ N) := by
  unfold b_X3_fillFees_138
  refine r_run J 1 (pc' := 139) (lv' := [(0, vR 20), (1, vR r1), (3, vI x3), (4, vI x4), (5, vI x5), (6, vI x6), (7, vI x7)]) (st' := [vR 20]) rfl ?_
  refine r_getR J cls3 rfl (k := 4) (t := 14) (by decide) wf_3_25 rfl rfl (ly_20 hL) (lr_20_4 hL) (fun _ => ?_)
  show g_H E 0 0 142 [(0, vR 20), (1, vR r1), (3, vI x3), (4, vI x4), (5, vI x5), (6, vI x6), (7, vI x7)] [vR 23] (σ, M, N) _ _
  refine r_run J 3 (pc' := 146) (lv' := [(0, vR 20), (1, vR r1), (3, vI x3), (4, vI x4), (5, vI x5), (6, vI x6), (7, vI x7)]) (st' := [vI 0, vR r1, vI x7, vR 23]) rfl ?_
  refine r_chk (fun hs146 => ?_)
  refine r_callV J (As := [vI 0]) (st := [vI x7, vR 23]) (fun r hr => c_X2_worthOf r1 0 σ M N hL r hr) cls2 (g_is_at hs146) wm_3_79 wy_X2_worthOf wd_X2_worthOf ⟨by decide, by decide, by decide, by decide, Nat.le_of_ble_eq_true rfl⟩ rfl rfl (fun q146 hq146 => ?_)
  show g_H E 0 0 149 [(0, vR 20), (1, vR r1), (3, vI x3), (4, vI x4), (5, vI x5), (6, vI x6), (7, vI x7)] [vI q146.1, vI x7, vR 23] (σ, q146.2, N) _ _
  refine r_iast J rfl (ly_23 hL) (fun i149 => ?_)
  show g_H E 0 0 150 [(0, vR 20), (1, vR r1), (3, vI x3), (4, vI x4), (5, vI x5), (6, vI x6), (7, vI x7)] [] (σ, (g_up q146.2 23 (x7.toNatClampNeg) q146.1), N) _ _
  refine r_sub [0, 1, 2, 3, 4, 5] (lv' := [(0, vR 20), (1, vR r1), (3, vI x3), (4, vI x4), (5, vI x5), (6, vI x6)]) rfl ?_
  exact p_X3_fillFees_150 J H25 H48 r1 x3 x4 x5 x6 σ (g_up q146.2 23 (x7.toNatClampNeg) q146.1) N hL
set_option maxHeartbeats 4000000 in
set_option maxRecDepth 100000 in
theorem p_X3_fillFees_105 {l : Launch} {E : gE} (J : J_X3_fillFees E l) {k25 : Nat → Int32 → Int32 → Int32 → gS → gM → Option (gM)} (H25 : ∀ (r1 : Nat) (x3 : Int32) (x4 : Int32) (x5 : Int32) (σ : gS) (M : gM) (N : gN) (_ : g_layC σ), g_H E 0 0 25 [(0, vR 20), (1, vR r1), (3, vI x3), (4, vI x4), (5, vI x5)] [] (σ, M, N) (k25 r1 x3 x4 x5 σ M) (eVM σ N)) {k48 : Nat → Int32 → Int32 → Int32 → Int32 → gS → gM → Option (gM)} (H48 : ∀ (r1 : Nat) (x3 : Int32) (x4 : Int32) (x5 : Int32) (x6 : Int32) (σ : gS) (M : gM) (N : gN) (_ : g_layC σ), g_H E 0 0 48 [(0, vR 20), (1, vR r1), (3, vI x3), (4, vI x4), (5, vI x5), (6, vI x6)] [] (σ, M, N) (k48 r1 x3 x4 x5 x6 σ M) (eVM σ N)) (r1 : Nat) (x3 : Int32) (x4 : Int32) (x5 : Int32) (x6 : Int32) (x7 : Int32) (σ : gS) (M : gM) (N : gN) (hL : g_layC σ) : g_H E 0 0 105 [(0, vR 20), (1, vR r1), (3, vI x3), (4, vI x4), (5, vI x5), (6, vI x6), (7, vI x7)] [] (σ, M, N) (b_X3_fillFees_105 k25 k48 r1 x3 x4 x5 x6 x7 σ M) (eVM σ N) := by
  unfold b_X3_fillFees_105
  refine r_run J 2 (pc' := 108) (lv' := [(0, vR 20), (1, vR r1), (3, vI x3), (4, vI x4), (5, vI x5), (6, vI x6), (7, vI x7)]) (st' := [vR 20, vI x6]) rfl ?_
  refine r_getI J cls3 rfl (k := 8) (by decide) wf_3_37 rfl (ly_20 hL) ?_
  show g_H E 0 0 111 [(0, vR 20), (1, vR r1), (3, vI x3), (4, vI x4), (5, vI x5), (6, vI x6), (7, vI x7)] [vI (M 20 8), vI x6] (σ, M, N) _ _
  refine r_icmp_le J (tgt := 138) rfl (by decide) (fun c111 => ?_) (fun c111 => ?_)
  · refine r_run J 1 (pc' := 116) (lv' := [(0, vR 20), (1, vR r1), (3, vI x3), (4, vI x4), (5, vI x5), (6, vI x6), (7, vI x7)]) (st' := [vI x4]) rfl ?_
    refine r_if_ne J (tgt := 138) rfl (by decide) (fun c116 => ?_) (fun c116 => ?_)
    · refine r_run J 1 (pc' := 120) (lv' := [(0, vR 20), (1, vR r1), (3, vI x3), (4, vI x4), (5, vI x5), (6, vI x6), (7, vI x7)]) (st' := [vR 20]) rfl ?_
      refine r_getR J cls3 rfl (k := 4) (t := 14) (by decide) wf_3_25 rfl rfl (ly_20 hL) (lr_20_4 hL) (fun _ => ?_)
      show g_H E 0 0 123 [(0, vR 20), (1, vR r1), (3, vI x3), (4, vI x4), (5, vI x5), (6, vI x6), (7, vI x7)] [vR 23] (σ, M, N) _ _
      refine r_run J 2 (pc' := 126) (lv' := [(0, vR 20), (1, vR r1), (3, vI x3), (4, vI x4), (5, vI x5), (6, vI x6), (7, vI x7)]) (st' := [vR 20, vI x7, vR 23]) rfl ?_
      refine r_getR J cls3 rfl (k := 4) (t := 14) (by decide) wf_3_25 rfl rfl (ly_20 hL) (lr_20_4 hL) (fun _ => ?_)
      show g_H E 0 0 129 [(0, vR 20), (1, vR r1), (3, vI x3), (4, vI x4), (5, vI x5), (6, vI x6), (7, vI x7)] [vR 23, vI x7, vR 23] (σ, M, N) _ _
      refine r_run J 3 (pc' := 133) (lv' := [(0, vR 20), (1, vR r1), (3, vI x3), (4, vI x4), (5, vI x5), (6, vI x6), (7, vI x7)]) (st' := [vI (x7 - (1 : Int32)), vR 23, vI x7, vR 23]) rfl ?_
      refine r_iald J rfl (ly_23 hL) (fun i133 => ?_)
      show g_H E 0 0 134 [(0, vR 20), (1, vR r1), (3, vI x3), (4, vI x4), (5, vI x5), (6, vI x6), (7, vI x7)] [vI (M 23 (x7 - (1 : Int32)).toNatClampNeg), vI x7, vR 23] (σ, M, N) _ _
      refine r_iast J rfl (ly_23 hL) (fun i134 => ?_)
      show g_H E 0 0 135 [(0, vR 20), (1, vR r1), (3, vI x3), (4, vI x4), (5, vI x5), (6, vI x6), (7, vI x7)] [] (σ, (g_up M 23 (x7.toNatClampNeg) (M 23 (x7 - (1 : Int32)).toNatClampNeg)), N) _ _
      refine r_run J 1 (pc' := 150) (lv' := [(0, vR 20), (1, vR r1), (3, vI x3), (4, vI x4), (5, vI x5), (6, vI x6), (7, vI x7)]) (st' := []) rfl ?_
      refine r_sub [0, 1, 2, 3, 4, 5] (lv' := [(0, vR 20), (1, vR r1), (3, vI x3), (4, vI x4), (5, vI x5), (6, vI x6)]) rfl ?_
      exact p_X3_fillFees_150 J H25 H48 r1 x3 x4 x5 x6 σ (g_up M 23 (x7.toNatClampNeg) (M 23 (x7 - (1 : Int32)).toNatClampNeg)) N hL
    · exact p_X3_fillFees_138 J H25 H48 r1 x3 x4 x5 x6 x7 σ M N hL
  · exact p_X3_fillFees_138 J H25 H48 r1 x3 x4 x5 x6 x7 σ M N hL
set_option maxHeartbeats 4000000 in
set_option maxRecDepth 100000 in
theorem p_X3_fillFees_48 {l : Launch} {E : gE} (J : J_X3_fillFees E l) {k25 : Nat → Int32 → Int32 → Int32 → gS → gM → Option (gM)} (H25 : ∀ (r1 : Nat) (x3 : Int32) (x4 : Int32) (x5 : Int32) (σ : gS) (M : gM) (N : gN) (_ : g_layC σ), g_H E 0 0 25 [(0, vR 20), (1, vR r1), (3, vI x3), (4, vI x4), (5, vI x5)] [] (σ, M, N) (k25 r1 x3 x4 x5 σ M) (eVM σ N)) : ∀ (n : Nat) (r1 : Nat) (x3 : Int32) (x4 : Int32) (x5 : Int32) (x6 : Int32) (σ : gS) (M : gM) (N : gN) (hL : g_layC σ), g_H E 0 0 48 [(0, vR 20), (1, vR r1), (3, vI x3), (4, vI x4), (5, vI x5), (6, vI x6)] [] (σ, M, N) (l_X3_fillFees_48 k25 n r1 x3 x4 x5 x6 σ M) (eVM σ N) := by
  intro n
  induction n with
  | zero => intros; exact h_none
  | succ n ih =>
    intro r1 x3 x4 x5 x6 σ M N hL
    rw [l_X3_fillFees_48]
    refine r_run J 2 (pc' := 51) (lv' := [(0, vR 20), (1, vR r1), (3, vI x3), (4, vI x4), (5, vI x5), (6, vI x6)]) (st' := [vR 20, vI x6]) rfl ?_
    refine r_getI J cls3 rfl (k := 9) (by decide) wf_3_40 rfl (ly_20 hL) ?_
    show g_H E 0 0 54 [(0, vR 20), (1, vR r1), (3, vI x3), (4, vI x4), (5, vI x5), (6, vI x6)] [vI (M 20 9), vI x6] (σ, M, N) _ _
    refine r_icmp_gt J (tgt := 156) rfl (by decide) (fun c54 => ?_) (fun c54 => ?_)
    · refine r_run J 2 (pc' := 25) (lv' := [(5, vI (x5 + 1)), (0, vR 20), (1, vR r1), (3, vI x3), (4, vI x4), (6, vI x6)]) (st' := []) rfl ?_
      refine r_sub [1, 2, 3, 4, 0] (lv' := [(0, vR 20), (1, vR r1), (3, vI x3), (4, vI x4), (5, vI (x5 + 1))]) rfl ?_
      exact H25 r1 x3 x4 (x5 + 1) σ M N hL
    · refine r_run J 7 (pc' := 68) (lv' := [(7, vI ((x5 * (11 : Int32)) + x6)), (0, vR 20), (1, vR r1), (3, vI x3), (4, vI x4), (5, vI x5), (6, vI x6)]) (st' := [vR r1]) rfl ?_
      refine r_chk (fun hs68 => ?_)
      refine r_getR J cls2 rfl (k := 2) (t := 14) (by decide) wf_3_43 rfl rfl (g_is_at hs68) rfl (fun _ => ?_)
      show g_H E 0 0 71 [(7, vI ((x5 * (11 : Int32)) + x6)), (0, vR 20), (1, vR r1), (3, vI x3), (4, vI x4), (5, vI x5), (6, vI x6)] [vR (σ.2 r1 2)] (σ, M, N) _ _
      refine r_run J 2 (pc' := 74) (lv' := [(7, vI ((x5 * (11 : Int32)) + x6)), (0, vR 20), (1, vR r1), (3, vI x3), (4, vI x4), (5, vI x5), (6, vI x6)]) (st' := [vI x6, vI 2, vR (σ.2 r1 2)]) rfl ?_
      refine r_chk (fun hs74 => ?_)
      refine r_iast J rfl (g_is_at hs74) (fun i74 => ?_)
      show g_H E 0 0 75 [(7, vI ((x5 * (11 : Int32)) + x6)), (0, vR 20), (1, vR r1), (3, vI x3), (4, vI x4), (5, vI x5), (6, vI x6)] [] (σ, (g_up M (σ.2 r1 2) ((2 : Int32).toNatClampNeg) x6), N) _ _
      refine r_run J 2 (pc' := 78) (lv' := [(7, vI ((x5 * (11 : Int32)) + x6)), (0, vR 20), (1, vR r1), (3, vI x3), (4, vI x4), (5, vI x5), (6, vI x6)]) (st' := [vI 1, vI x5]) rfl ?_
      refine r_icmp_le J (tgt := 105) rfl (by decide) (fun c78 => ?_) (fun c78 => ?_)
      · refine r_run J 1 (pc' := 82) (lv' := [(7, vI ((x5 * (11 : Int32)) + x6)), (0, vR 20), (1, vR r1), (3, vI x3), (4, vI x4), (5, vI x5), (6, vI x6)]) (st' := [vI x3]) rfl ?_
        refine r_if_ne J (tgt := 105) rfl (by decide) (fun c82 => ?_) (fun c82 => ?_)
        · refine r_run J 1 (pc' := 86) (lv' := [(7, vI ((x5 * (11 : Int32)) + x6)), (0, vR 20), (1, vR r1), (3, vI x3), (4, vI x4), (5, vI x5), (6, vI x6)]) (st' := [vR 20]) rfl ?_
          refine r_getR J cls3 rfl (k := 4) (t := 14) (by decide) wf_3_25 rfl rfl (ly_20 hL) (lr_20_4 hL) (fun _ => ?_)
          show g_H E 0 0 89 [(7, vI ((x5 * (11 : Int32)) + x6)), (0, vR 20), (1, vR r1), (3, vI x3), (4, vI x4), (5, vI x5), (6, vI x6)] [vR 23] (σ, (g_up M (σ.2 r1 2) ((2 : Int32).toNatClampNeg) x6), N) _ _
          refine r_run J 2 (pc' := 92) (lv' := [(7, vI ((x5 * (11 : Int32)) + x6)), (0, vR 20), (1, vR r1), (3, vI x3), (4, vI x4), (5, vI x5), (6, vI x6)]) (st' := [vR 20, vI ((x5 * (11 : Int32)) + x6), vR 23]) rfl ?_
          refine r_getR J cls3 rfl (k := 4) (t := 14) (by decide) wf_3_25 rfl rfl (ly_20 hL) (lr_20_4 hL) (fun _ => ?_)
          show g_H E 0 0 95 [(7, vI ((x5 * (11 : Int32)) + x6)), (0, vR 20), (1, vR r1), (3, vI x3), (4, vI x4), (5, vI x5), (6, vI x6)] [vR 23, vI ((x5 * (11 : Int32)) + x6), vR 23] (σ, (g_up M (σ.2 r1 2) ((2 : Int32).toNatClampNeg) x6), N) _ _
          refine r_run J 3 (pc' := 100) (lv' := [(7, vI ((x5 * (11 : Int32)) + x6)), (0, vR 20), (1, vR r1), (3, vI x3), (4, vI x4), (5, vI x5), (6, vI x6)]) (st' := [vI (((x5 * (11 : Int32)) + x6) - (11 : Int32)), vR 23, vI ((x5 * (11 : Int32)) + x6), vR 23]) rfl ?_
          refine r_iald J rfl (ly_23 hL) (fun i100 => ?_)
          show g_H E 0 0 101 [(7, vI ((x5 * (11 : Int32)) + x6)), (0, vR 20), (1, vR r1), (3, vI x3), (4, vI x4), (5, vI x5), (6, vI x6)] [vI ((g_up M (σ.2 r1 2) ((2 : Int32).toNatClampNeg) x6) 23 (((x5 * (11 : Int32)) + x6) - (11 : Int32)).toNatClampNeg), vI ((x5 * (11 : Int32)) + x6), vR 23] (σ, (g_up M (σ.2 r1 2) ((2 : Int32).toNatClampNeg) x6), N) _ _
          refine r_iast J rfl (ly_23 hL) (fun i101 => ?_)
          show g_H E 0 0 102 [(7, vI ((x5 * (11 : Int32)) + x6)), (0, vR 20), (1, vR r1), (3, vI x3), (4, vI x4), (5, vI x5), (6, vI x6)] [] (σ, (g_up (g_up M (σ.2 r1 2) ((2 : Int32).toNatClampNeg) x6) 23 (((x5 * (11 : Int32)) + x6).toNatClampNeg) ((g_up M (σ.2 r1 2) ((2 : Int32).toNatClampNeg) x6) 23 (((x5 * (11 : Int32)) + x6) - (11 : Int32)).toNatClampNeg)), N) _ _
          refine r_run J 1 (pc' := 150) (lv' := [(7, vI ((x5 * (11 : Int32)) + x6)), (0, vR 20), (1, vR r1), (3, vI x3), (4, vI x4), (5, vI x5), (6, vI x6)]) (st' := []) rfl ?_
          refine r_sub [1, 2, 3, 4, 5, 6] (lv' := [(0, vR 20), (1, vR r1), (3, vI x3), (4, vI x4), (5, vI x5), (6, vI x6)]) rfl ?_
          exact p_X3_fillFees_150 J H25 ih r1 x3 x4 x5 x6 σ (g_up (g_up M (σ.2 r1 2) ((2 : Int32).toNatClampNeg) x6) 23 (((x5 * (11 : Int32)) + x6).toNatClampNeg) ((g_up M (σ.2 r1 2) ((2 : Int32).toNatClampNeg) x6) 23 (((x5 * (11 : Int32)) + x6) - (11 : Int32)).toNatClampNeg)) N hL
        · refine r_sub [1, 2, 3, 4, 5, 6, 0] (lv' := [(0, vR 20), (1, vR r1), (3, vI x3), (4, vI x4), (5, vI x5), (6, vI x6), (7, vI ((x5 * (11 : Int32)) + x6))]) rfl ?_
          exact p_X3_fillFees_105 J H25 ih r1 x3 x4 x5 x6 ((x5 * (11 : Int32)) + x6) σ (g_up M (σ.2 r1 2) ((2 : Int32).toNatClampNeg) x6) N hL
      · refine r_sub [1, 2, 3, 4, 5, 6, 0] (lv' := [(0, vR 20), (1, vR r1), (3, vI x3), (4, vI x4), (5, vI x5), (6, vI x6), (7, vI ((x5 * (11 : Int32)) + x6))]) rfl ?_
        exact p_X3_fillFees_105 J H25 ih r1 x3 x4 x5 x6 ((x5 * (11 : Int32)) + x6) σ (g_up M (σ.2 r1 2) ((2 : Int32).toNatClampNeg) x6) N hL
set_option maxHeartbeats 4000000 in
set_option maxRecDepth 100000 in
theorem p_X3_fillFees_25 {l : Launch} {E : gE} (J : J_X3_fillFees E l) : ∀ (n : Nat) (r1 : Nat) (x3 : Int32) (x4 : Int32) (x5 : Int32) (σ : gS) (M : gM) (N : gN) (hL : g_layC σ), g_H E 0 0 25 [(0, vR 20), (1, vR r1), (3, vI x3), (4, vI x4), (5, vI x5)] [] (σ, M, N) (l_X3_fillFees_25 n r1 x3 x4 x5 σ M) (eVM σ N) := by
  intro n
  induction n with
  | zero => intros; exact h_none
  | succ n ih =>
    intro r1 x3 x4 x5 σ M N hL
    rw [l_X3_fillFees_25]
    refine r_run J 2 (pc' := 28) (lv' := [(0, vR 20), (1, vR r1), (3, vI x3), (4, vI x4), (5, vI x5)]) (st' := [vR 20, vI x5]) rfl ?_
    refine r_getI J cls3 rfl (k := 7) (by decide) wf_3_34 rfl (ly_20 hL) ?_
    show g_H E 0 0 31 [(0, vR 20), (1, vR r1), (3, vI x3), (4, vI x4), (5, vI x5)] [vI (M 20 7), vI x5] (σ, M, N) _ _
    refine r_icmp_gt J (tgt := 162) rfl (by decide) (fun c31 => ?_) (fun c31 => ?_)
    · exact r_vret J rfl rfl rfl (by decide) (by decide)
    · refine r_run J 1 (pc' := 35) (lv' := [(0, vR 20), (1, vR r1), (3, vI x3), (4, vI x4), (5, vI x5)]) (st' := [vR r1]) rfl ?_
      refine r_chk (fun hs35 => ?_)
      refine r_getR J cls2 rfl (k := 2) (t := 14) (by decide) wf_3_43 rfl rfl (g_is_at hs35) rfl (fun _ => ?_)
      show g_H E 0 0 38 [(0, vR 20), (1, vR r1), (3, vI x3), (4, vI x4), (5, vI x5)] [vR (σ.2 r1 2)] (σ, M, N) _ _
      refine r_run J 2 (pc' := 41) (lv' := [(0, vR 20), (1, vR r1), (3, vI x3), (4, vI x4), (5, vI x5)]) (st' := [vI x5, vI 1, vR (σ.2 r1 2)]) rfl ?_
      refine r_chk (fun hs41 => ?_)
      refine r_iast J rfl (g_is_at hs41) (fun i41 => ?_)
      show g_H E 0 0 42 [(0, vR 20), (1, vR r1), (3, vI x3), (4, vI x4), (5, vI x5)] [] (σ, (g_up M (σ.2 r1 2) ((1 : Int32).toNatClampNeg) x5), N) _ _
      refine r_run J 1 (pc' := 43) (lv' := [(0, vR 20), (1, vR r1), (3, vI x3), (4, vI x4), (5, vI x5)]) (st' := [vR 20]) rfl ?_
      refine r_getI J cls3 rfl (k := 8) (by decide) wf_3_37 rfl (ly_20 hL) ?_
      show g_H E 0 0 46 [(0, vR 20), (1, vR r1), (3, vI x3), (4, vI x4), (5, vI x5)] [vI ((g_up M (σ.2 r1 2) ((1 : Int32).toNatClampNeg) x5) 20 8)] (σ, (g_up M (σ.2 r1 2) ((1 : Int32).toNatClampNeg) x5), N) _ _
      refine r_run J 1 (pc' := 48) (lv' := [(6, vI ((g_up M (σ.2 r1 2) ((1 : Int32).toNatClampNeg) x5) 20 8)), (0, vR 20), (1, vR r1), (3, vI x3), (4, vI x4), (5, vI x5)]) (st' := []) rfl ?_
      refine r_sub [1, 2, 3, 4, 5, 0] (lv' := [(0, vR 20), (1, vR r1), (3, vI x3), (4, vI x4), (5, vI x5), (6, vI ((g_up M (σ.2 r1 2) ((1 : Int32).toNatClampNeg) x5) 20 8))]) rfl ?_
      exact p_X3_fillFees_48 J ih g_FU r1 x3 x4 x5 ((g_up M (σ.2 r1 2) ((1 : Int32).toNatClampNeg) x5) 20 8) σ (g_up M (σ.2 r1 2) ((1 : Int32).toNatClampNeg) x5) N hL
set_option maxHeartbeats 4000000 in
set_option maxRecDepth 100000 in
theorem p_X3_fillFees_0 {l : Launch} {E : gE} (J : J_X3_fillFees E l) (r1 : Nat) (x2 : Int32) (σ : gS) (M : gM) (N : gN) (hL : g_layC σ) : g_H E 0 0 0 [(0, vR 20), (1, vR r1), (2, vI x2)] [] (σ, M, N) (b_X3_fillFees_0 r1 x2 σ M) (eVM σ N) := by
  unfold b_X3_fillFees_0
  refine r_run J 3 (pc' := 3) (lv' := [(0, vR 20), (1, vR r1), (2, vI x2)]) (st' := [vI 1, vI 0, vR r1]) rfl ?_
  refine r_chk (fun hs3 => ?_)
  refine r_callV J (As := [vI 0, vI 1]) (st := []) (fun r hr => c_X2_asksFor r1 0 1 σ M N hL r hr) cls2 (g_is_at hs3) wm_3_56 wy_X2_asksFor wd_X2_asksFor ⟨by decide, by decide, by decide, by decide, Nat.le_of_ble_eq_true rfl⟩ rfl rfl (fun q3 hq3 => ?_)
  show g_H E 0 0 6 [(0, vR 20), (1, vR r1), (2, vI x2)] [vI q3] (σ, M, N) _ _
  refine r_run J 4 (pc' := 10) (lv' := [(3, vI q3), (0, vR 20), (1, vR r1), (2, vI x2)]) (st' := [vI 2, vI 0, vR r1]) rfl ?_
  refine r_callV J (As := [vI 0, vI 2]) (st := []) (fun r hr => c_X2_asksFor r1 0 2 σ M N hL r hr) cls2 (g_is_at hs3) wm_3_56 wy_X2_asksFor wd_X2_asksFor ⟨by decide, by decide, by decide, by decide, Nat.le_of_ble_eq_true rfl⟩ rfl rfl (fun q10 hq10 => ?_)
  show g_H E 0 0 13 [(3, vI q3), (0, vR 20), (1, vR r1), (2, vI x2)] [vI q10] (σ, M, N) _ _
  refine r_run J 2 (pc' := 16) (lv' := [(4, vI q10), (3, vI q3), (0, vR 20), (1, vR r1), (2, vI x2)]) (st' := [vR r1]) rfl ?_
  refine r_getR J cls2 rfl (k := 2) (t := 14) (by decide) wf_3_43 rfl rfl (g_is_at hs3) rfl (fun _ => ?_)
  show g_H E 0 0 19 [(4, vI q10), (3, vI q3), (0, vR 20), (1, vR r1), (2, vI x2)] [vR (σ.2 r1 2)] (σ, M, N) _ _
  refine r_run J 2 (pc' := 21) (lv' := [(4, vI q10), (3, vI q3), (0, vR 20), (1, vR r1), (2, vI x2)]) (st' := [vI x2, vI 0, vR (σ.2 r1 2)]) rfl ?_
  refine r_chk (fun hs21 => ?_)
  refine r_iast J rfl (g_is_at hs21) (fun i21 => ?_)
  show g_H E 0 0 22 [(4, vI q10), (3, vI q3), (0, vR 20), (1, vR r1), (2, vI x2)] [] (σ, (g_up M (σ.2 r1 2) ((0 : Int32).toNatClampNeg) x2), N) _ _
  refine r_run J 2 (pc' := 25) (lv' := [(5, vI 1), (4, vI q10), (3, vI q3), (0, vR 20), (1, vR r1), (2, vI x2)]) (st' := []) rfl ?_
  refine r_sub [3, 4, 2, 1, 0] (lv' := [(0, vR 20), (1, vR r1), (3, vI q3), (4, vI q10), (5, vI 1)]) rfl ?_
  exact p_X3_fillFees_25 J g_FU r1 q3 q10 1 σ (g_up M (σ.2 r1 2) ((0 : Int32).toNatClampNeg) x2) N hL
theorem c_X3_fillFees {l : Launch} (r1 : Nat) (x2 : Int32) (σ : gS) (M : gM) (N : gN) (hL : g_layC σ) (r : gM) (h : f_X3_fillFees r1 x2 σ M = some r) : g_Ct l yX3_fillFees cX3_fillFees 8 none 4 0 0 [vR 20, vR r1, vI x2] (σ, M, N) (eVM σ N r) :=
  g_Ct.of tb_X3_fillFees (by decide +kernel) tk_X3_fillFees (Nat.le_of_ble_eq_true rfl) (fun E J => p_X3_fillFees_0 J r1 x2 σ M N hL r h)
def tb_X3_fillWorst : gT := [(0, .iconst 0, 1, 0), (1, .istore_n 1, 1, 0), (2, .iload_n 1, 1, 0), (3, .aload_n 0, 1, 0), (4, .getfield 34, 3, 0), (7, .if_icmp .gt 99, 3, 0), (10, .aload_n 0, 1, 0), (11, .getfield 37, 3, 0), (14, .istore_n 2, 1, 0), (15, .iload_n 2, 1, 0), (16, .aload_n 0, 1, 0), (17, .getfield 40, 3, 0), (20, .if_icmp .gt 80, 3, 0), (23, .bipush 10, 2, 10), (25, .iload_n 2, 1, 0), (26, .aload_n 0, 1, 0), (27, .getfield 28, 3, 0), (30, .iadd, 1, 0), (31, .invokestatic 76, 3, 0), (34, .istore_n 3, 1, 0), (35, .iconst 0, 1, 0), (36, .istore 4, 2, 0), (38, .iconst 0, 1, 0), (39, .iload_n 2, 1, 0), (40, .aload_n 0, 1, 0), (41, .getfield 31, 3, 0), (44, .isub, 1, 0), (45, .invokestatic 70, 3, 0), (48, .istore 5, 2, 0), (50, .iload 5, 2, 0), (52, .iload_n 3, 1, 0), (53, .if_icmp .gt 28, 3, 0), (56, .iload 4, 2, 0), (58, .aload_n 0, 1, 0), (59, .getfield 18, 3, 0), (62, .iload_n 1, 1, 0), (63, .bipush 11, 2, 11), (65, .imul, 1, 0), (66, .iload 5, 2, 0), (68, .iadd, 1, 0), (69, .iaload, 1, 0), (70, .invokestatic 70, 3, 0), (73, .istore 4, 2, 0), (75, .iinc 5 1, 3, 1), (78, .goto (-28), 3, 0), (81, .aload_n 0, 1, 0), (82, .getfield 22, 3, 0), (85, .iload_n 1, 1, 0), (86, .bipush 11, 2, 11), (88, .imul, 1, 0), (89, .iload_n 2, 1, 0), (90, .iadd, 1, 0), (91, .iload 4, 2, 0), (93, .iastore, 1, 0), (94, .iinc 2 1, 3, 1), (97, .goto (-82), 3, 0), (100, .iinc 1 1, 3, 1), (103, .goto (-101), 3, 0), (106, .return_, 1, 0)]
set_option maxRecDepth 100000 in
theorem tk_X3_fillWorst : g_okT cX3_fillWorst tb_X3_fillWorst = true := by decide +kernel
abbrev J_X3_fillWorst (E : gE) (l : Launch) : Prop := g_J E cX3_fillWorst RX3 "fillWorst" none 6 tb_X3_fillWorst 1 0 0 l
set_option maxHeartbeats 4000000 in
set_option maxRecDepth 100000 in
theorem p_X3_fillWorst_50 {l : Launch} {E : gE} (J : J_X3_fillWorst E l) {k2 : Int32 → gS → gM → Option (gM)} (H2 : ∀ (x1 : Int32) (σ : gS) (M : gM) (N : gN) (_ : g_layC σ), g_H E 0 0 2 [(0, vR 20), (1, vI x1)] [] (σ, M, N) (k2 x1 σ M) (eVM σ N)) {k15 : Int32 → Int32 → gS → gM → Option (gM)} (H15 : ∀ (x1 : Int32) (x2 : Int32) (σ : gS) (M : gM) (N : gN) (_ : g_layC σ), g_H E 0 0 15 [(0, vR 20), (1, vI x1), (2, vI x2)] [] (σ, M, N) (k15 x1 x2 σ M) (eVM σ N)) : ∀ (n : Nat) (x1 : Int32) (x2 : Int32) (x3 : Int32) (x4 : Int32) (x5 : Int32) (σ : gS) (M : gM) (N : gN) (hL : g_layC σ), g_H E 0 0 50 [(0, vR 20), (1, vI x1), (2, vI x2), (3, vI x3), (4, vI x4), (5, vI x5)] [] (σ, M, N) (l_X3_fillWorst_50 k2 k15 n x1 x2 x3 x4 x5 σ M) (eVM σ N) := by
  intro n
  induction n with
  | zero => intros; exact h_none
  | succ n ih =>
    intro x1 x2 x3 x4 x5 σ M N hL
    rw [l_X3_fillWorst_50]
    refine r_run J 2 (pc' := 53) (lv' := [(0, vR 20), (1, vI x1), (2, vI x2), (3, vI x3), (4, vI x4), (5, vI x5)]) (st' := [vI x3, vI x5]) rfl ?_
    refine r_icmp_gt J (tgt := 81) rfl (by decide) (fun c53 => ?_) (fun c53 => ?_)
    · refine r_run J 1 (pc' := 82) (lv' := [(0, vR 20), (1, vI x1), (2, vI x2), (3, vI x3), (4, vI x4), (5, vI x5)]) (st' := [vR 20]) rfl ?_
      refine r_getR J cls3 rfl (k := 3) (t := 14) (by decide) wf_3_22 rfl rfl (ly_20 hL) (lr_20_3 hL) (fun _ => ?_)
      show g_H E 0 0 85 [(0, vR 20), (1, vI x1), (2, vI x2), (3, vI x3), (4, vI x4), (5, vI x5)] [vR 22] (σ, M, N) _ _
      refine r_run J 6 (pc' := 93) (lv' := [(0, vR 20), (1, vI x1), (2, vI x2), (3, vI x3), (4, vI x4), (5, vI x5)]) (st' := [vI x4, vI ((x1 * (11 : Int32)) + x2), vR 22]) rfl ?_
      refine r_iast J rfl (ly_22 hL) (fun i93 => ?_)
      show g_H E 0 0 94 [(0, vR 20), (1, vI x1), (2, vI x2), (3, vI x3), (4, vI x4), (5, vI x5)] [] (σ, (g_up M 22 (((x1 * (11 : Int32)) + x2).toNatClampNeg) x4), N) _ _
      refine r_run J 2 (pc' := 15) (lv' := [(2, vI (x2 + 1)), (0, vR 20), (1, vI x1), (3, vI x3), (4, vI x4), (5, vI x5)]) (st' := []) rfl ?_
      refine r_sub [1, 2, 0] (lv' := [(0, vR 20), (1, vI x1), (2, vI (x2 + 1))]) rfl ?_
      exact H15 x1 (x2 + 1) σ (g_up M 22 (((x1 * (11 : Int32)) + x2).toNatClampNeg) x4) N hL
    · refine r_run J 2 (pc' := 59) (lv' := [(0, vR 20), (1, vI x1), (2, vI x2), (3, vI x3), (4, vI x4), (5, vI x5)]) (st' := [vR 20, vI x4]) rfl ?_
      refine r_getR J cls3 rfl (k := 2) (t := 14) (by decide) wf_3_18 rfl rfl (ly_20 hL) (lr_20_2 hL) (fun _ => ?_)
      show g_H E 0 0 62 [(0, vR 20), (1, vI x1), (2, vI x2), (3, vI x3), (4, vI x4), (5, vI x5)] [vR 21, vI x4] (σ, M, N) _ _
      refine r_run J 5 (pc' := 69) (lv' := [(0, vR 20), (1, vI x1), (2, vI x2), (3, vI x3), (4, vI x4), (5, vI x5)]) (st' := [vI ((x1 * (11 : Int32)) + x5), vR 21, vI x4]) rfl ?_
      refine r_iald J rfl (ly_21 hL) (fun i69 => ?_)
      show g_H E 0 0 70 [(0, vR 20), (1, vI x1), (2, vI x2), (3, vI x3), (4, vI x4), (5, vI x5)] [vI (M 21 ((x1 * (11 : Int32)) + x5).toNatClampNeg), vI x4] (σ, M, N) _ _
      refine r_mmax J rfl wm_3_70 ⟨by omega, Nat.le_of_ble_eq_true rfl, by decide, by decide⟩ ?_
      show g_H E 0 0 73 [(0, vR 20), (1, vI x1), (2, vI x2), (3, vI x3), (4, vI x4), (5, vI x5)] [vI (if x4 < (M 21 ((x1 * (11 : Int32)) + x5).toNatClampNeg) then (M 21 ((x1 * (11 : Int32)) + x5).toNatClampNeg) else x4)] (σ, M, N) _ _
      refine r_run J 3 (pc' := 50) (lv' := [(5, vI (x5 + 1)), (4, vI (if x4 < (M 21 ((x1 * (11 : Int32)) + x5).toNatClampNeg) then (M 21 ((x1 * (11 : Int32)) + x5).toNatClampNeg) else x4)), (0, vR 20), (1, vI x1), (2, vI x2), (3, vI x3)]) (st' := []) rfl ?_
      refine r_sub [2, 3, 4, 5, 1, 0] (lv' := [(0, vR 20), (1, vI x1), (2, vI x2), (3, vI x3), (4, vI (if x4 < (M 21 ((x1 * (11 : Int32)) + x5).toNatClampNeg) then (M 21 ((x1 * (11 : Int32)) + x5).toNatClampNeg) else x4)), (5, vI (x5 + 1))]) rfl ?_
      exact ih x1 x2 x3 (if x4 < (M 21 ((x1 * (11 : Int32)) + x5).toNatClampNeg) then (M 21 ((x1 * (11 : Int32)) + x5).toNatClampNeg) else x4) (x5 + 1) σ M N hL
set_option maxHeartbeats 4000000 in
set_option maxRecDepth 100000 in
theorem p_X3_fillWorst_15 {l : Launch} {E : gE} (J : J_X3_fillWorst E l) {k2 : Int32 → gS → gM → Option (gM)} (H2 : ∀ (x1 : Int32) (σ : gS) (M : gM) (N : gN) (_ : g_layC σ), g_H E 0 0 2 [(0, vR 20), (1, vI x1)] [] (σ, M, N) (k2 x1 σ M) (eVM σ N)) : ∀ (n : Nat) (x1 : Int32) (x2 : Int32) (σ : gS) (M : gM) (N : gN) (hL : g_layC σ), g_H E 0 0 15 [(0, vR 20), (1, vI x1), (2, vI x2)] [] (σ, M, N) (l_X3_fillWorst_15 k2 n x1 x2 σ M) (eVM σ N) := by
  intro n
  induction n with
  | zero => intros; exact h_none
  | succ n ih =>
    intro x1 x2 σ M N hL
    rw [l_X3_fillWorst_15]
    refine r_run J 2 (pc' := 17) (lv' := [(0, vR 20), (1, vI x1), (2, vI x2)]) (st' := [vR 20, vI x2]) rfl ?_
    refine r_getI J cls3 rfl (k := 9) (by decide) wf_3_40 rfl (ly_20 hL) ?_
    show g_H E 0 0 20 [(0, vR 20), (1, vI x1), (2, vI x2)] [vI (M 20 9), vI x2] (σ, M, N) _ _
    refine r_icmp_gt J (tgt := 100) rfl (by decide) (fun c20 => ?_) (fun c20 => ?_)
    · refine r_run J 2 (pc' := 2) (lv' := [(1, vI (x1 + 1)), (0, vR 20), (2, vI x2)]) (st' := []) rfl ?_
      refine r_sub [1, 0] (lv' := [(0, vR 20), (1, vI (x1 + 1))]) rfl ?_
      exact H2 (x1 + 1) σ M N hL
    · refine r_run J 3 (pc' := 27) (lv' := [(0, vR 20), (1, vI x1), (2, vI x2)]) (st' := [vR 20, vI x2, vI 10]) rfl ?_
      refine r_getI J cls3 rfl (k := 5) (by decide) wf_3_28 rfl (ly_20 hL) ?_
      show g_H E 0 0 30 [(0, vR 20), (1, vI x1), (2, vI x2)] [vI (M 20 5), vI x2, vI 10] (σ, M, N) _ _
      refine r_run J 1 (pc' := 31) (lv' := [(0, vR 20), (1, vI x1), (2, vI x2)]) (st' := [vI (x2 + (M 20 5)), vI 10]) rfl ?_
      refine r_mmin J rfl wm_3_76 ⟨by omega, Nat.le_of_ble_eq_true rfl, by decide, by decide⟩ ?_
      show g_H E 0 0 34 [(0, vR 20), (1, vI x1), (2, vI x2)] [vI (if (x2 + (M 20 5)) < (10 : Int32) then (x2 + (M 20 5)) else (10 : Int32))] (σ, M, N) _ _
      refine r_run J 6 (pc' := 41) (lv' := [(4, vI 0), (3, vI (if (x2 + (M 20 5)) < (10 : Int32) then (x2 + (M 20 5)) else (10 : Int32))), (0, vR 20), (1, vI x1), (2, vI x2)]) (st' := [vR 20, vI x2, vI 0]) rfl ?_
      refine r_getI J cls3 rfl (k := 6) (by decide) wf_3_31 rfl (ly_20 hL) ?_
      show g_H E 0 0 44 [(4, vI 0), (3, vI (if (x2 + (M 20 5)) < (10 : Int32) then (x2 + (M 20 5)) else (10 : Int32))), (0, vR 20), (1, vI x1), (2, vI x2)] [vI (M 20 6), vI x2, vI 0] (σ, M, N) _ _
      refine r_run J 1 (pc' := 45) (lv' := [(4, vI 0), (3, vI (if (x2 + (M 20 5)) < (10 : Int32) then (x2 + (M 20 5)) else (10 : Int32))), (0, vR 20), (1, vI x1), (2, vI x2)]) (st' := [vI (x2 - (M 20 6)), vI 0]) rfl ?_
      refine r_mmax J rfl wm_3_70 ⟨by omega, Nat.le_of_ble_eq_true rfl, by decide, by decide⟩ ?_
      show g_H E 0 0 48 [(4, vI 0), (3, vI (if (x2 + (M 20 5)) < (10 : Int32) then (x2 + (M 20 5)) else (10 : Int32))), (0, vR 20), (1, vI x1), (2, vI x2)] [vI (if (0 : Int32) < (x2 - (M 20 6)) then (x2 - (M 20 6)) else (0 : Int32))] (σ, M, N) _ _
      refine r_run J 1 (pc' := 50) (lv' := [(5, vI (if (0 : Int32) < (x2 - (M 20 6)) then (x2 - (M 20 6)) else (0 : Int32))), (4, vI 0), (3, vI (if (x2 + (M 20 5)) < (10 : Int32) then (x2 + (M 20 5)) else (10 : Int32))), (0, vR 20), (1, vI x1), (2, vI x2)]) (st' := []) rfl ?_
      refine r_sub [3, 4, 5, 2, 1, 0] (lv' := [(0, vR 20), (1, vI x1), (2, vI x2), (3, vI (if (x2 + (M 20 5)) < (10 : Int32) then (x2 + (M 20 5)) else (10 : Int32))), (4, vI 0), (5, vI (if (0 : Int32) < (x2 - (M 20 6)) then (x2 - (M 20 6)) else (0 : Int32)))]) rfl ?_
      exact p_X3_fillWorst_50 J H2 ih g_FU x1 x2 (if (x2 + (M 20 5)) < (10 : Int32) then (x2 + (M 20 5)) else (10 : Int32)) 0 (if (0 : Int32) < (x2 - (M 20 6)) then (x2 - (M 20 6)) else (0 : Int32)) σ M N hL
set_option maxHeartbeats 4000000 in
set_option maxRecDepth 100000 in
theorem p_X3_fillWorst_2 {l : Launch} {E : gE} (J : J_X3_fillWorst E l) : ∀ (n : Nat) (x1 : Int32) (σ : gS) (M : gM) (N : gN) (hL : g_layC σ), g_H E 0 0 2 [(0, vR 20), (1, vI x1)] [] (σ, M, N) (l_X3_fillWorst_2 n x1 σ M) (eVM σ N) := by
  intro n
  induction n with
  | zero => intros; exact h_none
  | succ n ih =>
    intro x1 σ M N hL
    rw [l_X3_fillWorst_2]
    refine r_run J 2 (pc' := 4) (lv' := [(0, vR 20), (1, vI x1)]) (st' := [vR 20, vI x1]) rfl ?_
    refine r_getI J cls3 rfl (k := 7) (by decide) wf_3_34 rfl (ly_20 hL) ?_
    show g_H E 0 0 7 [(0, vR 20), (1, vI x1)] [vI (M 20 7), vI x1] (σ, M, N) _ _
    refine r_icmp_gt J (tgt := 106) rfl (by decide) (fun c7 => ?_) (fun c7 => ?_)
    · exact r_vret J rfl rfl rfl (by decide) (by decide)
    · refine r_run J 1 (pc' := 11) (lv' := [(0, vR 20), (1, vI x1)]) (st' := [vR 20]) rfl ?_
      refine r_getI J cls3 rfl (k := 8) (by decide) wf_3_37 rfl (ly_20 hL) ?_
      show g_H E 0 0 14 [(0, vR 20), (1, vI x1)] [vI (M 20 8)] (σ, M, N) _ _
      refine r_run J 1 (pc' := 15) (lv' := [(2, vI (M 20 8)), (0, vR 20), (1, vI x1)]) (st' := []) rfl ?_
      refine r_sub [1, 2, 0] (lv' := [(0, vR 20), (1, vI x1), (2, vI (M 20 8))]) rfl ?_
      exact p_X3_fillWorst_15 J ih g_FU x1 (M 20 8) σ M N hL
set_option maxHeartbeats 4000000 in
set_option maxRecDepth 100000 in
theorem p_X3_fillWorst_0 {l : Launch} {E : gE} (J : J_X3_fillWorst E l) (σ : gS) (M : gM) (N : gN) (hL : g_layC σ) : g_H E 0 0 0 [(0, vR 20)] [] (σ, M, N) (b_X3_fillWorst_0 σ M) (eVM σ N) := by
  unfold b_X3_fillWorst_0
  refine r_run J 2 (pc' := 2) (lv' := [(1, vI 0), (0, vR 20)]) (st' := []) rfl ?_
  refine r_sub [1, 0] (lv' := [(0, vR 20), (1, vI 0)]) rfl ?_
  exact p_X3_fillWorst_2 J g_FU 0 σ M N hL
theorem c_X3_fillWorst {l : Launch} (σ : gS) (M : gM) (N : gN) (hL : g_layC σ) (r : gM) (h : f_X3_fillWorst σ M = some r) : g_Ct l yX3_fillWorst cX3_fillWorst 6 none 1 0 0 [vR 20] (σ, M, N) (eVM σ N r) :=
  g_Ct.of tb_X3_fillWorst (by decide +kernel) tk_X3_fillWorst (Nat.le_of_ble_eq_true rfl) (fun E J => p_X3_fillWorst_0 J σ M N hL r h)
def tb_X3_leastOf : gT := [(0, .aload_n 0, 1, 0), (1, .getfield 25, 3, 0), (4, .iload_n 1, 1, 0), (5, .bipush 11, 2, 11), (7, .imul, 1, 0), (8, .iload_n 2, 1, 0), (9, .iadd, 1, 0), (10, .iaload, 1, 0), (11, .istore_n 3, 1, 0), (12, .aload_n 0, 1, 0), (13, .getfield 22, 3, 0), (16, .iload_n 1, 1, 0), (17, .bipush 11, 2, 11), (19, .imul, 1, 0), (20, .iload_n 2, 1, 0), (21, .iadd, 1, 0), (22, .iaload, 1, 0), (23, .istore 4, 2, 0), (25, .aload_n 0, 1, 0), (26, .iconst 0, 1, 0), (27, .putfield 15, 3, 0), (30, .iconst 1, 1, 1), (31, .istore 5, 2, 0), (33, .iload 5, 2, 0), (35, .iload_n 1, 1, 0), (36, .if_icmp .gt 47, 3, 0), (39, .iload 5, 2, 0), (41, .iload_n 3, 1, 0), (42, .imul, 1, 0), (43, .aload_n 0, 1, 0), (44, .getfield 22, 3, 0), (47, .iload_n 1, 1, 0), (48, .iload 5, 2, 0), (50, .isub, 1, 0), (51, .bipush 11, 2, 11), (53, .imul, 1, 0), (54, .iload_n 2, 1, 0), (55, .iadd, 1, 0), (56, .iaload, 1, 0), (57, .iadd, 1, 0), (58, .istore 6, 2, 0), (60, .iload 6, 2, 0), (62, .iload 4, 2, 0), (64, .if_icmp .ge 13, 3, 0), (67, .iload 6, 2, 0), (69, .istore 4, 2, 0), (71, .aload_n 0, 1, 0), (72, .iload 5, 2, 0), (74, .putfield 15, 3, 0), (77, .iinc 5 1, 3, 1), (80, .goto (-47), 3, 0), (83, .iload 4, 2, 0), (85, .ireturn, 1, 0)]
set_option maxRecDepth 100000 in
theorem tk_X3_leastOf : g_okT cX3_leastOf tb_X3_leastOf = true := by decide +kernel
abbrev J_X3_leastOf (E : gE) (l : Launch) : Prop := g_J E cX3_leastOf RX3 "leastOf" (some .int) 7 tb_X3_leastOf 1 0 0 l
set_option maxHeartbeats 4000000 in
set_option maxRecDepth 100000 in
theorem p_X3_leastOf_77 {l : Launch} {E : gE} (J : J_X3_leastOf E l) {k33 : Int32 → Int32 → Int32 → Int32 → Int32 → gS → gM → Option (Int32 × gM)} (H33 : ∀ (x1 : Int32) (x2 : Int32) (x3 : Int32) (x4 : Int32) (x5 : Int32) (σ : gS) (M : gM) (N : gN) (_ : g_layC σ), g_H E 0 0 33 [(0, vR 20), (1, vI x1), (2, vI x2), (3, vI x3), (4, vI x4), (5, vI x5)] [] (σ, M, N) (k33 x1 x2 x3 x4 x5 σ M) (eIM σ N)) (x1 : Int32) (x2 : Int32) (x3 : Int32) (x4 : Int32) (x5 : Int32) (σ : gS) (M : gM) (N : gN) (hL : g_layC σ) : g_H E 0 0 77 [(0, vR 20), (1, vI x1), (2, vI x2), (3, vI x3), (4, vI x4), (5, vI x5)] [] (σ, M, N) (b_X3_leastOf_77 k33 x1 x2 x3 x4 x5 σ M) (eIM σ N) := by
  unfold b_X3_leastOf_77
  refine r_run J 2 (pc' := 33) (lv' := [(5, vI (x5 + 1)), (0, vR 20), (1, vI x1), (2, vI x2), (3, vI x3), (4, vI x4)]) (st' := []) rfl ?_
  refine r_sub [1, 2, 3, 4, 5, 0] (lv' := [(0, vR 20), (1, vI x1), (2, vI x2), (3, vI x3), (4, vI x4), (5, vI (x5 + 1))]) rfl ?_
  exact H33 x1 x2 x3 x4 (x5 + 1) σ M N hL
set_option maxHeartbeats 4000000 in
set_option maxRecDepth 100000 in
theorem p_X3_leastOf_33 {l : Launch} {E : gE} (J : J_X3_leastOf E l) : ∀ (n : Nat) (x1 : Int32) (x2 : Int32) (x3 : Int32) (x4 : Int32) (x5 : Int32) (σ : gS) (M : gM) (N : gN) (hL : g_layC σ), g_H E 0 0 33 [(0, vR 20), (1, vI x1), (2, vI x2), (3, vI x3), (4, vI x4), (5, vI x5)] [] (σ, M, N) (l_X3_leastOf_33 n x1 x2 x3 x4 x5 σ M) (eIM σ N) := by
  intro n
  induction n with
  | zero => intros; exact h_none
  | succ n ih =>
    intro x1 x2 x3 x4 x5 σ M N hL
    rw [l_X3_leastOf_33]
    refine r_run J 2 (pc' := 36) (lv' := [(0, vR 20), (1, vI x1), (2, vI x2), (3, vI x3), (4, vI x4), (5, vI x5)]) (st' := [vI x1, vI x5]) rfl ?_
    refine r_icmp_gt J (tgt := 83) rfl (by decide) (fun c36 => ?_) (fun c36 => ?_)
    · refine r_run J 1 (pc' := 85) (lv' := [(0, vR 20), (1, vI x1), (2, vI x2), (3, vI x3), (4, vI x4), (5, vI x5)]) (st' := [vI x4]) rfl ?_
      exact r_iret J rfl rfl rfl rfl (by decide) (by decide)
    · refine r_run J 4 (pc' := 44) (lv' := [(0, vR 20), (1, vI x1), (2, vI x2), (3, vI x3), (4, vI x4), (5, vI x5)]) (st' := [vR 20, vI (x5 * x3)]) rfl ?_
      refine r_getR J cls3 rfl (k := 3) (t := 14) (by decide) wf_3_22 rfl rfl (ly_20 hL) (lr_20_3 hL) (fun _ => ?_)
      show g_H E 0 0 47 [(0, vR 20), (1, vI x1), (2, vI x2), (3, vI x3), (4, vI x4), (5, vI x5)] [vR 22, vI (x5 * x3)] (σ, M, N) _ _
      refine r_run J 7 (pc' := 56) (lv' := [(0, vR 20), (1, vI x1), (2, vI x2), (3, vI x3), (4, vI x4), (5, vI x5)]) (st' := [vI (((x1 - x5) * (11 : Int32)) + x2), vR 22, vI (x5 * x3)]) rfl ?_
      refine r_iald J rfl (ly_22 hL) (fun i56 => ?_)
      show g_H E 0 0 57 [(0, vR 20), (1, vI x1), (2, vI x2), (3, vI x3), (4, vI x4), (5, vI x5)] [vI (M 22 (((x1 - x5) * (11 : Int32)) + x2).toNatClampNeg), vI (x5 * x3)] (σ, M, N) _ _
      refine r_run J 4 (pc' := 64) (lv' := [(6, vI ((x5 * x3) + (M 22 (((x1 - x5) * (11 : Int32)) + x2).toNatClampNeg))), (0, vR 20), (1, vI x1), (2, vI x2), (3, vI x3), (4, vI x4), (5, vI x5)]) (st' := [vI x4, vI ((x5 * x3) + (M 22 (((x1 - x5) * (11 : Int32)) + x2).toNatClampNeg))]) rfl ?_
      refine r_icmp_ge J (tgt := 77) rfl (by decide) (fun c64 => ?_) (fun c64 => ?_)
      · refine r_run J 4 (pc' := 74) (lv' := [(4, vI ((x5 * x3) + (M 22 (((x1 - x5) * (11 : Int32)) + x2).toNatClampNeg))), (6, vI ((x5 * x3) + (M 22 (((x1 - x5) * (11 : Int32)) + x2).toNatClampNeg))), (0, vR 20), (1, vI x1), (2, vI x2), (3, vI x3), (5, vI x5)]) (st' := [vI x5, vR 20]) rfl ?_
        refine r_putI J cls3 rfl (k := 1) (by decide) wf_3_15 rfl (Or.inl rfl) ⟨rfl, rfl⟩ (ly_20 hL) ?_
        show g_H E 0 0 77 [(4, vI ((x5 * x3) + (M 22 (((x1 - x5) * (11 : Int32)) + x2).toNatClampNeg))), (6, vI ((x5 * x3) + (M 22 (((x1 - x5) * (11 : Int32)) + x2).toNatClampNeg))), (0, vR 20), (1, vI x1), (2, vI x2), (3, vI x3), (5, vI x5)] [] (σ, (g_up M 20 1 x5), N) _ _
        refine r_sub [2, 3, 4, 5, 0, 6] (lv' := [(0, vR 20), (1, vI x1), (2, vI x2), (3, vI x3), (4, vI ((x5 * x3) + (M 22 (((x1 - x5) * (11 : Int32)) + x2).toNatClampNeg))), (5, vI x5)]) rfl ?_
        exact p_X3_leastOf_77 J ih x1 x2 x3 ((x5 * x3) + (M 22 (((x1 - x5) * (11 : Int32)) + x2).toNatClampNeg)) x5 σ (g_up M 20 1 x5) N hL
      · refine r_sub [1, 2, 3, 4, 5, 6] (lv' := [(0, vR 20), (1, vI x1), (2, vI x2), (3, vI x3), (4, vI x4), (5, vI x5)]) rfl ?_
        exact p_X3_leastOf_77 J ih x1 x2 x3 x4 x5 σ M N hL
set_option maxHeartbeats 4000000 in
set_option maxRecDepth 100000 in
theorem p_X3_leastOf_0 {l : Launch} {E : gE} (J : J_X3_leastOf E l) (x1 : Int32) (x2 : Int32) (σ : gS) (M : gM) (N : gN) (hL : g_layC σ) : g_H E 0 0 0 [(0, vR 20), (1, vI x1), (2, vI x2)] [] (σ, M, N) (b_X3_leastOf_0 x1 x2 σ M) (eIM σ N) := by
  unfold b_X3_leastOf_0
  refine r_run J 1 (pc' := 1) (lv' := [(0, vR 20), (1, vI x1), (2, vI x2)]) (st' := [vR 20]) rfl ?_
  refine r_getR J cls3 rfl (k := 4) (t := 14) (by decide) wf_3_25 rfl rfl (ly_20 hL) (lr_20_4 hL) (fun _ => ?_)
  show g_H E 0 0 4 [(0, vR 20), (1, vI x1), (2, vI x2)] [vR 23] (σ, M, N) _ _
  refine r_run J 5 (pc' := 10) (lv' := [(0, vR 20), (1, vI x1), (2, vI x2)]) (st' := [vI ((x1 * (11 : Int32)) + x2), vR 23]) rfl ?_
  refine r_iald J rfl (ly_23 hL) (fun i10 => ?_)
  show g_H E 0 0 11 [(0, vR 20), (1, vI x1), (2, vI x2)] [vI (M 23 ((x1 * (11 : Int32)) + x2).toNatClampNeg)] (σ, M, N) _ _
  refine r_run J 2 (pc' := 13) (lv' := [(3, vI (M 23 ((x1 * (11 : Int32)) + x2).toNatClampNeg)), (0, vR 20), (1, vI x1), (2, vI x2)]) (st' := [vR 20]) rfl ?_
  refine r_getR J cls3 rfl (k := 3) (t := 14) (by decide) wf_3_22 rfl rfl (ly_20 hL) (lr_20_3 hL) (fun _ => ?_)
  show g_H E 0 0 16 [(3, vI (M 23 ((x1 * (11 : Int32)) + x2).toNatClampNeg)), (0, vR 20), (1, vI x1), (2, vI x2)] [vR 22] (σ, M, N) _ _
  refine r_run J 5 (pc' := 22) (lv' := [(3, vI (M 23 ((x1 * (11 : Int32)) + x2).toNatClampNeg)), (0, vR 20), (1, vI x1), (2, vI x2)]) (st' := [vI ((x1 * (11 : Int32)) + x2), vR 22]) rfl ?_
  refine r_iald J rfl (ly_22 hL) (fun i22 => ?_)
  show g_H E 0 0 23 [(3, vI (M 23 ((x1 * (11 : Int32)) + x2).toNatClampNeg)), (0, vR 20), (1, vI x1), (2, vI x2)] [vI (M 22 ((x1 * (11 : Int32)) + x2).toNatClampNeg)] (σ, M, N) _ _
  refine r_run J 3 (pc' := 27) (lv' := [(4, vI (M 22 ((x1 * (11 : Int32)) + x2).toNatClampNeg)), (3, vI (M 23 ((x1 * (11 : Int32)) + x2).toNatClampNeg)), (0, vR 20), (1, vI x1), (2, vI x2)]) (st' := [vI 0, vR 20]) rfl ?_
  refine r_putI J cls3 rfl (k := 1) (by decide) wf_3_15 rfl (Or.inl rfl) ⟨rfl, rfl⟩ (ly_20 hL) ?_
  show g_H E 0 0 30 [(4, vI (M 22 ((x1 * (11 : Int32)) + x2).toNatClampNeg)), (3, vI (M 23 ((x1 * (11 : Int32)) + x2).toNatClampNeg)), (0, vR 20), (1, vI x1), (2, vI x2)] [] (σ, (g_up M 20 1 0), N) _ _
  refine r_run J 2 (pc' := 33) (lv' := [(5, vI 1), (4, vI (M 22 ((x1 * (11 : Int32)) + x2).toNatClampNeg)), (3, vI (M 23 ((x1 * (11 : Int32)) + x2).toNatClampNeg)), (0, vR 20), (1, vI x1), (2, vI x2)]) (st' := []) rfl ?_
  refine r_sub [3, 4, 5, 2, 1, 0] (lv' := [(0, vR 20), (1, vI x1), (2, vI x2), (3, vI (M 23 ((x1 * (11 : Int32)) + x2).toNatClampNeg)), (4, vI (M 22 ((x1 * (11 : Int32)) + x2).toNatClampNeg)), (5, vI 1)]) rfl ?_
  exact p_X3_leastOf_33 J g_FU x1 x2 (M 23 ((x1 * (11 : Int32)) + x2).toNatClampNeg) (M 22 ((x1 * (11 : Int32)) + x2).toNatClampNeg) 1 σ (g_up M 20 1 0) N hL
theorem c_X3_leastOf {l : Launch} (x1 : Int32) (x2 : Int32) (σ : gS) (M : gM) (N : gN) (hL : g_layC σ) (r : Int32 × gM) (h : f_X3_leastOf x1 x2 σ M = some r) : g_Ct l yX3_leastOf cX3_leastOf 7 (some .int) 1 0 0 [vR 20, vI x1, vI x2] (σ, M, N) (eIM σ N r) :=
  g_Ct.of tb_X3_leastOf (by decide +kernel) tk_X3_leastOf (Nat.le_of_ble_eq_true rfl) (fun E J => p_X3_leastOf_0 J x1 x2 σ M N hL r h)
def tb_X3_fillDay : gT := [(0, .iconst 0, 1, 0), (1, .istore_n 1, 1, 0), (2, .iload_n 1, 1, 0), (3, .aload_n 0, 1, 0), (4, .getfield 34, 3, 0), (7, .if_icmp .gt 45, 3, 0), (10, .aload_n 0, 1, 0), (11, .getfield 37, 3, 0), (14, .istore_n 2, 1, 0), (15, .iload_n 2, 1, 0), (16, .aload_n 0, 1, 0), (17, .getfield 40, 3, 0), (20, .if_icmp .gt 26, 3, 0), (23, .aload_n 0, 1, 0), (24, .getfield 18, 3, 0), (27, .iload_n 1, 1, 0), (28, .bipush 11, 2, 11), (30, .imul, 1, 0), (31, .iload_n 2, 1, 0), (32, .iadd, 1, 0), (33, .aload_n 0, 1, 0), (34, .iload_n 1, 1, 0), (35, .iload_n 2, 1, 0), (36, .invokevirtual 83, 3, 0), (39, .iastore, 1, 0), (40, .iinc 2 1, 3, 1), (43, .goto (-28), 3, 0), (46, .iinc 1 1, 3, 1), (49, .goto (-47), 3, 0), (52, .return_, 1, 0)]
set_option maxRecDepth 100000 in
theorem tk_X3_fillDay : g_okT cX3_fillDay tb_X3_fillDay = true := by decide +kernel
abbrev J_X3_fillDay (E : gE) (l : Launch) : Prop := g_J E cX3_fillDay RX3 "fillDay" none 3 tb_X3_fillDay 2 0 0 l
set_option maxHeartbeats 4000000 in
set_option maxRecDepth 100000 in
theorem p_X3_fillDay_15 {l : Launch} {E : gE} (J : J_X3_fillDay E l) {k2 : Int32 → gS → gM → Option (gM)} (H2 : ∀ (x1 : Int32) (σ : gS) (M : gM) (N : gN) (_ : g_layC σ), g_H E 0 0 2 [(0, vR 20), (1, vI x1)] [] (σ, M, N) (k2 x1 σ M) (eVM σ N)) : ∀ (n : Nat) (x1 : Int32) (x2 : Int32) (σ : gS) (M : gM) (N : gN) (hL : g_layC σ), g_H E 0 0 15 [(0, vR 20), (1, vI x1), (2, vI x2)] [] (σ, M, N) (l_X3_fillDay_15 k2 n x1 x2 σ M) (eVM σ N) := by
  intro n
  induction n with
  | zero => intros; exact h_none
  | succ n ih =>
    intro x1 x2 σ M N hL
    rw [l_X3_fillDay_15]
    refine r_run J 2 (pc' := 17) (lv' := [(0, vR 20), (1, vI x1), (2, vI x2)]) (st' := [vR 20, vI x2]) rfl ?_
    refine r_getI J cls3 rfl (k := 9) (by decide) wf_3_40 rfl (ly_20 hL) ?_
    show g_H E 0 0 20 [(0, vR 20), (1, vI x1), (2, vI x2)] [vI (M 20 9), vI x2] (σ, M, N) _ _
    refine r_icmp_gt J (tgt := 46) rfl (by decide) (fun c20 => ?_) (fun c20 => ?_)
    · refine r_run J 2 (pc' := 2) (lv' := [(1, vI (x1 + 1)), (0, vR 20), (2, vI x2)]) (st' := []) rfl ?_
      refine r_sub [1, 0] (lv' := [(0, vR 20), (1, vI (x1 + 1))]) rfl ?_
      exact H2 (x1 + 1) σ M N hL
    · refine r_run J 1 (pc' := 24) (lv' := [(0, vR 20), (1, vI x1), (2, vI x2)]) (st' := [vR 20]) rfl ?_
      refine r_getR J cls3 rfl (k := 2) (t := 14) (by decide) wf_3_18 rfl rfl (ly_20 hL) (lr_20_2 hL) (fun _ => ?_)
      show g_H E 0 0 27 [(0, vR 20), (1, vI x1), (2, vI x2)] [vR 21] (σ, M, N) _ _
      refine r_run J 8 (pc' := 36) (lv' := [(0, vR 20), (1, vI x1), (2, vI x2)]) (st' := [vI x2, vI x1, vR 20, vI ((x1 * (11 : Int32)) + x2), vR 21]) rfl ?_
      refine r_callV J (As := [vI x1, vI x2]) (st := [vI ((x1 * (11 : Int32)) + x2), vR 21]) (fun r hr => c_X3_leastOf x1 x2 σ M N hL r hr) cls3 (ly_20 hL) wm_3_83 wy_X3_leastOf wd_X3_leastOf ⟨by decide, by decide, by decide, by decide, Nat.le_of_ble_eq_true rfl⟩ rfl rfl (fun q36 hq36 => ?_)
      show g_H E 0 0 39 [(0, vR 20), (1, vI x1), (2, vI x2)] [vI q36.1, vI ((x1 * (11 : Int32)) + x2), vR 21] (σ, q36.2, N) _ _
      refine r_iast J rfl (ly_21 hL) (fun i39 => ?_)
      show g_H E 0 0 40 [(0, vR 20), (1, vI x1), (2, vI x2)] [] (σ, (g_up q36.2 21 (((x1 * (11 : Int32)) + x2).toNatClampNeg) q36.1), N) _ _
      refine r_run J 2 (pc' := 15) (lv' := [(2, vI (x2 + 1)), (0, vR 20), (1, vI x1)]) (st' := []) rfl ?_
      refine r_sub [1, 2, 0] (lv' := [(0, vR 20), (1, vI x1), (2, vI (x2 + 1))]) rfl ?_
      exact ih x1 (x2 + 1) σ (g_up q36.2 21 (((x1 * (11 : Int32)) + x2).toNatClampNeg) q36.1) N hL
set_option maxHeartbeats 4000000 in
set_option maxRecDepth 100000 in
theorem p_X3_fillDay_2 {l : Launch} {E : gE} (J : J_X3_fillDay E l) : ∀ (n : Nat) (x1 : Int32) (σ : gS) (M : gM) (N : gN) (hL : g_layC σ), g_H E 0 0 2 [(0, vR 20), (1, vI x1)] [] (σ, M, N) (l_X3_fillDay_2 n x1 σ M) (eVM σ N) := by
  intro n
  induction n with
  | zero => intros; exact h_none
  | succ n ih =>
    intro x1 σ M N hL
    rw [l_X3_fillDay_2]
    refine r_run J 2 (pc' := 4) (lv' := [(0, vR 20), (1, vI x1)]) (st' := [vR 20, vI x1]) rfl ?_
    refine r_getI J cls3 rfl (k := 7) (by decide) wf_3_34 rfl (ly_20 hL) ?_
    show g_H E 0 0 7 [(0, vR 20), (1, vI x1)] [vI (M 20 7), vI x1] (σ, M, N) _ _
    refine r_icmp_gt J (tgt := 52) rfl (by decide) (fun c7 => ?_) (fun c7 => ?_)
    · exact r_vret J rfl rfl rfl (by decide) (by decide)
    · refine r_run J 1 (pc' := 11) (lv' := [(0, vR 20), (1, vI x1)]) (st' := [vR 20]) rfl ?_
      refine r_getI J cls3 rfl (k := 8) (by decide) wf_3_37 rfl (ly_20 hL) ?_
      show g_H E 0 0 14 [(0, vR 20), (1, vI x1)] [vI (M 20 8)] (σ, M, N) _ _
      refine r_run J 1 (pc' := 15) (lv' := [(2, vI (M 20 8)), (0, vR 20), (1, vI x1)]) (st' := []) rfl ?_
      refine r_sub [1, 2, 0] (lv' := [(0, vR 20), (1, vI x1), (2, vI (M 20 8))]) rfl ?_
      exact p_X3_fillDay_15 J ih g_FU x1 (M 20 8) σ M N hL
set_option maxHeartbeats 4000000 in
set_option maxRecDepth 100000 in
theorem p_X3_fillDay_0 {l : Launch} {E : gE} (J : J_X3_fillDay E l) (σ : gS) (M : gM) (N : gN) (hL : g_layC σ) : g_H E 0 0 0 [(0, vR 20)] [] (σ, M, N) (b_X3_fillDay_0 σ M) (eVM σ N) := by
  unfold b_X3_fillDay_0
  refine r_run J 2 (pc' := 2) (lv' := [(1, vI 0), (0, vR 20)]) (st' := []) rfl ?_
  refine r_sub [1, 0] (lv' := [(0, vR 20), (1, vI 0)]) rfl ?_
  exact p_X3_fillDay_2 J g_FU 0 σ M N hL
theorem c_X3_fillDay {l : Launch} (σ : gS) (M : gM) (N : gN) (hL : g_layC σ) (r : gM) (h : f_X3_fillDay σ M = some r) : g_Ct l yX3_fillDay cX3_fillDay 3 none 2 0 0 [vR 20] (σ, M, N) (eVM σ N r) :=
  g_Ct.of tb_X3_fillDay (by decide +kernel) tk_X3_fillDay (Nat.le_of_ble_eq_true rfl) (fun E J => p_X3_fillDay_0 J σ M N hL r h)
def tb_X3_foresee : gT := [(0, .aload_n 1, 1, 0), (1, .getfield 43, 3, 0), (4, .iconst 2, 1, 2), (5, .iaload, 1, 0), (6, .istore 6, 2, 0), (8, .aload_n 0, 1, 0), (9, .aload_n 1, 1, 0), (10, .getfield 43, 3, 0), (13, .iconst 1, 1, 1), (14, .iaload, 1, 0), (15, .putfield 34, 3, 0), (18, .aload_n 0, 1, 0), (19, .iload_n 3, 1, 0), (20, .putfield 28, 3, 0), (23, .aload_n 0, 1, 0), (24, .iload 4, 2, 0), (26, .putfield 31, 3, 0), (29, .aload_n 0, 1, 0), (30, .iload 6, 2, 0), (32, .iload_n 2, 1, 0), (33, .invokevirtual 48, 3, 0), (36, .aload_n 0, 1, 0), (37, .iload 5, 2, 0), (39, .invokevirtual 52, 3, 0), (42, .aload_n 0, 1, 0), (43, .iconst 0, 1, 0), (44, .putfield 15, 3, 0), (47, .aload_n 1, 1, 0), (48, .iconst 0, 1, 0), (49, .iconst 0, 1, 0), (50, .invokevirtual 56, 3, 0), (53, .istore 7, 2, 0), (55, .iconst 1, 1, 1), (56, .istore 8, 2, 0), (58, .iload 8, 2, 0), (60, .iload_n 2, 1, 0), (61, .if_icmp .gt 45, 3, 0), (64, .aload_n 0, 1, 0), (65, .iload 6, 2, 0), (67, .iload_n 2, 1, 0), (68, .iload 8, 2, 0), (70, .isub, 1, 0), (71, .invokevirtual 48, 3, 0), (74, .iload 8, 2, 0), (76, .iconst 1, 1, 1), (77, .if_icmp .eq 8, 3, 0), (80, .iload 7, 2, 0), (82, .ifCond .eq 10, 3, 0), (85, .aload_n 0, 1, 0), (86, .aload_n 1, 1, 0), (87, .iload 8, 2, 0), (89, .invokevirtual 60, 3, 0), (92, .aload_n 0, 1, 0), (93, .invokevirtual 64, 3, 0), (96, .aload_n 0, 1, 0), (97, .invokevirtual 67, 3, 0), (100, .iinc 8 1, 3, 1), (103, .goto (-45), 3, 0), (106, .aload_n 0, 1, 0), (107, .aload_n 0, 1, 0), (108, .getfield 18, 3, 0), (111, .aload_n 0, 1, 0), (112, .getfield 34, 3, 0), (115, .bipush 11, 2, 11), (117, .imul, 1, 0), (118, .iload 6, 2, 0), (120, .iadd, 1, 0), (121, .iaload, 1, 0), (122, .putfield 11, 3, 0), (125, .return_, 1, 0)]
set_option maxRecDepth 100000 in
theorem tk_X3_foresee : g_okT cX3_foresee tb_X3_foresee = true := by decide +kernel
abbrev J_X3_foresee (E : gE) (l : Launch) : Prop := g_J E cX3_foresee RX3 "foresee" none 9 tb_X3_foresee 5 0 0 l
set_option maxHeartbeats 4000000 in
set_option maxRecDepth 100000 in
theorem p_X3_foresee_92 {l : Launch} {E : gE} (J : J_X3_foresee E l) {k58 : Nat → Int32 → Int32 → Int32 → Int32 → gS → gM → Option (gM)} (H58 : ∀ (r1 : Nat) (x2 : Int32) (x6 : Int32) (x7 : Int32) (x8 : Int32) (σ : gS) (M : gM) (N : gN) (_ : g_layC σ), g_H E 0 0 58 [(0, vR 20), (1, vR r1), (2, vI x2), (6, vI x6), (7, vI x7), (8, vI x8)] [] (σ, M, N) (k58 r1 x2 x6 x7 x8 σ M) (eVM σ N)) (r1 : Nat) (x2 : Int32) (x6 : Int32) (x7 : Int32) (x8 : Int32) (σ : gS) (M : gM) (N : gN) (hL : g_layC σ) : g_H E 0 0 92 [(0, vR 20), (1, vR r1), (2, vI x2), (6, vI x6), (7, vI x7), (8, vI x8)] [] (σ, M, N) (b_X3_foresee_92 k58 r1 x2 x6 x7 x8 σ M) (eVM σ N) := by
  unfold b_X3_foresee_92
  refine r_run J 1 (pc' := 93) (lv' := [(0, vR 20), (1, vR r1), (2, vI x2), (6, vI x6), (7, vI x7), (8, vI x8)]) (st' := [vR 20]) rfl ?_
  refine r_callV J (As := []) (st := []) (fun r hr => c_X3_fillWorst σ M N hL r hr) cls3 (ly_20 hL) wm_3_64 wy_X3_fillWorst wd_X3_fillWorst ⟨by decide, by decide, by decide, by decide, Nat.le_of_ble_eq_true rfl⟩ rfl rfl (fun q93 hq93 => ?_)
  show g_H E 0 0 96 [(0, vR 20), (1, vR r1), (2, vI x2), (6, vI x6), (7, vI x7), (8, vI x8)] [] (σ, q93, N) _ _
  refine r_run J 1 (pc' := 97) (lv' := [(0, vR 20), (1, vR r1), (2, vI x2), (6, vI x6), (7, vI x7), (8, vI x8)]) (st' := [vR 20]) rfl ?_
  refine r_callV J (As := []) (st := []) (fun r hr => c_X3_fillDay σ q93 N hL r hr) cls3 (ly_20 hL) wm_3_67 wy_X3_fillDay wd_X3_fillDay ⟨by decide, by decide, by decide, by decide, Nat.le_of_ble_eq_true rfl⟩ rfl rfl (fun q97 hq97 => ?_)
  show g_H E 0 0 100 [(0, vR 20), (1, vR r1), (2, vI x2), (6, vI x6), (7, vI x7), (8, vI x8)] [] (σ, q97, N) _ _
  refine r_run J 2 (pc' := 58) (lv' := [(8, vI (x8 + 1)), (0, vR 20), (1, vR r1), (2, vI x2), (6, vI x6), (7, vI x7)]) (st' := []) rfl ?_
  refine r_sub [1, 2, 3, 4, 5, 0] (lv' := [(0, vR 20), (1, vR r1), (2, vI x2), (6, vI x6), (7, vI x7), (8, vI (x8 + 1))]) rfl ?_
  exact H58 r1 x2 x6 x7 (x8 + 1) σ q97 N hL
set_option maxHeartbeats 4000000 in
set_option maxRecDepth 100000 in
theorem p_X3_foresee_85 {l : Launch} {E : gE} (J : J_X3_foresee E l) {k58 : Nat → Int32 → Int32 → Int32 → Int32 → gS → gM → Option (gM)} (H58 : ∀ (r1 : Nat) (x2 : Int32) (x6 : Int32) (x7 : Int32) (x8 : Int32) (σ : gS) (M : gM) (N : gN) (_ : g_layC σ), g_H E 0 0 58 [(0, vR 20), (1, vR r1), (2, vI x2), (6, vI x6), (7, vI x7), (8, vI x8)] [] (σ, M, N) (k58 r1 x2 x6 x7 x8 σ M) (eVM σ N)) (r1 : Nat) (x2 : Int32) (x6 : Int32) (x7 : Int32) (x8 : Int32) (σ : gS) (M : gM) (N : gN) (hL : g_layC σ) : g_H E 0 0 85 [(0, vR 20), (1, vR r1), (2, vI x2), (6, vI x6), (7, vI x7), (8, vI x8)] [] (σ, M, N) (b_X3_foresee_85 k58 r1 x2 x6 x7 x8 σ M) (eVM σ N) := by
  unfold b_X3_foresee_85
  refine r_run J 3 (pc' := 89) (lv' := [(0, vR 20), (1, vR r1), (2, vI x2), (6, vI x6), (7, vI x7), (8, vI x8)]) (st' := [vI x8, vR r1, vR 20]) rfl ?_
  refine r_callV J (As := [vR r1, vI x8]) (st := []) (fun r hr => c_X3_fillFees r1 x8 σ M N hL r hr) cls3 (ly_20 hL) wm_3_60 wy_X3_fillFees wd_X3_fillFees ⟨by decide, by decide, by decide, by decide, Nat.le_of_ble_eq_true rfl⟩ rfl rfl (fun q89 hq89 => ?_)
  show g_H E 0 0 92 [(0, vR 20), (1, vR r1), (2, vI x2), (6, vI x6), (7, vI x7), (8, vI x8)] [] (σ, q89, N) _ _
  exact p_X3_foresee_92 J H58 r1 x2 x6 x7 x8 σ q89 N hL
set_option maxHeartbeats 4000000 in
set_option maxRecDepth 100000 in
theorem p_X3_foresee_58 {l : Launch} {E : gE} (J : J_X3_foresee E l) : ∀ (n : Nat) (r1 : Nat) (x2 : Int32) (x6 : Int32) (x7 : Int32) (x8 : Int32) (σ : gS) (M : gM) (N : gN) (hL : g_layC σ), g_H E 0 0 58 [(0, vR 20), (1, vR r1), (2, vI x2), (6, vI x6), (7, vI x7), (8, vI x8)] [] (σ, M, N) (l_X3_foresee_58 n r1 x2 x6 x7 x8 σ M) (eVM σ N) := by
  intro n
  induction n with
  | zero => intros; exact h_none
  | succ n ih =>
    intro r1 x2 x6 x7 x8 σ M N hL
    rw [l_X3_foresee_58]
    refine r_run J 2 (pc' := 61) (lv' := [(0, vR 20), (1, vR r1), (2, vI x2), (6, vI x6), (7, vI x7), (8, vI x8)]) (st' := [vI x2, vI x8]) rfl ?_
    refine r_icmp_gt J (tgt := 106) rfl (by decide) (fun c61 => ?_) (fun c61 => ?_)
    · refine r_run J 2 (pc' := 108) (lv' := [(0, vR 20), (1, vR r1), (2, vI x2), (6, vI x6), (7, vI x7), (8, vI x8)]) (st' := [vR 20, vR 20]) rfl ?_
      refine r_getR J cls3 rfl (k := 2) (t := 14) (by decide) wf_3_18 rfl rfl (ly_20 hL) (lr_20_2 hL) (fun _ => ?_)
      show g_H E 0 0 111 [(0, vR 20), (1, vR r1), (2, vI x2), (6, vI x6), (7, vI x7), (8, vI x8)] [vR 21, vR 20] (σ, M, N) _ _
      refine r_run J 1 (pc' := 112) (lv' := [(0, vR 20), (1, vR r1), (2, vI x2), (6, vI x6), (7, vI x7), (8, vI x8)]) (st' := [vR 20, vR 21, vR 20]) rfl ?_
      refine r_getI J cls3 rfl (k := 7) (by decide) wf_3_34 rfl (ly_20 hL) ?_
      show g_H E 0 0 115 [(0, vR 20), (1, vR r1), (2, vI x2), (6, vI x6), (7, vI x7), (8, vI x8)] [vI (M 20 7), vR 21, vR 20] (σ, M, N) _ _
      refine r_run J 4 (pc' := 121) (lv' := [(0, vR 20), (1, vR r1), (2, vI x2), (6, vI x6), (7, vI x7), (8, vI x8)]) (st' := [vI (((M 20 7) * (11 : Int32)) + x6), vR 21, vR 20]) rfl ?_
      refine r_iald J rfl (ly_21 hL) (fun i121 => ?_)
      show g_H E 0 0 122 [(0, vR 20), (1, vR r1), (2, vI x2), (6, vI x6), (7, vI x7), (8, vI x8)] [vI (M 21 (((M 20 7) * (11 : Int32)) + x6).toNatClampNeg), vR 20] (σ, M, N) _ _
      refine r_putI J cls3 rfl (k := 0) (by decide) wf_3_11 rfl (Or.inl rfl) ⟨rfl, rfl⟩ (ly_20 hL) ?_
      show g_H E 0 0 125 [(0, vR 20), (1, vR r1), (2, vI x2), (6, vI x6), (7, vI x7), (8, vI x8)] [] (σ, (g_up M 20 0 (M 21 (((M 20 7) * (11 : Int32)) + x6).toNatClampNeg)), N) _ _
      exact r_vret J rfl rfl rfl (by decide) (by decide)
    · refine r_run J 5 (pc' := 71) (lv' := [(0, vR 20), (1, vR r1), (2, vI x2), (6, vI x6), (7, vI x7), (8, vI x8)]) (st' := [vI (x2 - x8), vI x6, vR 20]) rfl ?_
      refine r_callV J (As := [vI x6, vI (x2 - x8)]) (st := []) (fun r hr => c_X3_spread x6 (x2 - x8) σ M N hL r hr) cls3 (ly_20 hL) wm_3_48 wy_X3_spread wd_X3_spread ⟨by decide, by decide, by decide, by decide, Nat.le_of_ble_eq_true rfl⟩ rfl rfl (fun q71 hq71 => ?_)
      show g_H E 0 0 74 [(0, vR 20), (1, vR r1), (2, vI x2), (6, vI x6), (7, vI x7), (8, vI x8)] [] (σ, q71, N) _ _
      refine r_run J 2 (pc' := 77) (lv' := [(0, vR 20), (1, vR r1), (2, vI x2), (6, vI x6), (7, vI x7), (8, vI x8)]) (st' := [vI 1, vI x8]) rfl ?_
      refine r_icmp_eq J (tgt := 85) rfl (by decide) (fun c77 => ?_) (fun c77 => ?_)
      · exact p_X3_foresee_85 J ih r1 x2 x6 x7 x8 σ q71 N hL
      · refine r_run J 1 (pc' := 82) (lv' := [(0, vR 20), (1, vR r1), (2, vI x2), (6, vI x6), (7, vI x7), (8, vI x8)]) (st' := [vI x7]) rfl ?_
        refine r_if_eq J (tgt := 92) rfl (by decide) (fun c82 => ?_) (fun c82 => ?_)
        · exact p_X3_foresee_92 J ih r1 x2 x6 x7 x8 σ q71 N hL
        · exact p_X3_foresee_85 J ih r1 x2 x6 x7 x8 σ q71 N hL
set_option maxHeartbeats 4000000 in
set_option maxRecDepth 100000 in
theorem p_X3_foresee_29 {l : Launch} {E : gE} (J : J_X3_foresee E l) (r1 : Nat) (x2 : Int32) (x5 : Int32) (x6 : Int32) (σ : gS) (M : gM) (N : gN) (hL : g_layC σ) : g_H E 0 0 29 [(0, vR 20), (1, vR r1), (2, vI x2), (5, vI x5), (6, vI x6)] [] (σ, M, N) (b_X3_foresee_29 r1 x2 x5 x6 σ M) (eVM σ N) := by
  unfold b_X3_foresee_29
  refine r_run J 3 (pc' := 33) (lv' := [(0, vR 20), (1, vR r1), (2, vI x2), (5, vI x5), (6, vI x6)]) (st' := [vI x2, vI x6, vR 20]) rfl ?_
  refine r_callV J (As := [vI x6, vI x2]) (st := []) (fun r hr => c_X3_spread x6 x2 σ M N hL r hr) cls3 (ly_20 hL) wm_3_48 wy_X3_spread wd_X3_spread ⟨by decide, by decide, by decide, by decide, Nat.le_of_ble_eq_true rfl⟩ rfl rfl (fun q33 hq33 => ?_)
  show g_H E 0 0 36 [(0, vR 20), (1, vR r1), (2, vI x2), (5, vI x5), (6, vI x6)] [] (σ, q33, N) _ _
  refine r_run J 2 (pc' := 39) (lv' := [(0, vR 20), (1, vR r1), (2, vI x2), (5, vI x5), (6, vI x6)]) (st' := [vI x5, vR 20]) rfl ?_
  refine r_callV J (As := [vI x5]) (st := []) (fun r hr => c_X3_fillLastDay x5 σ q33 N hL r hr) cls3 (ly_20 hL) wm_3_52 wy_X3_fillLastDay wd_X3_fillLastDay ⟨by decide, by decide, by decide, by decide, Nat.le_of_ble_eq_true rfl⟩ rfl rfl (fun q39 hq39 => ?_)
  show g_H E 0 0 42 [(0, vR 20), (1, vR r1), (2, vI x2), (5, vI x5), (6, vI x6)] [] (σ, q39, N) _ _
  refine r_run J 2 (pc' := 44) (lv' := [(0, vR 20), (1, vR r1), (2, vI x2), (5, vI x5), (6, vI x6)]) (st' := [vI 0, vR 20]) rfl ?_
  refine r_putI J cls3 rfl (k := 1) (by decide) wf_3_15 rfl (Or.inl rfl) ⟨rfl, rfl⟩ (ly_20 hL) ?_
  show g_H E 0 0 47 [(0, vR 20), (1, vR r1), (2, vI x2), (5, vI x5), (6, vI x6)] [] (σ, (g_up q39 20 1 0), N) _ _
  refine r_run J 3 (pc' := 50) (lv' := [(0, vR 20), (1, vR r1), (2, vI x2), (5, vI x5), (6, vI x6)]) (st' := [vI 0, vI 0, vR r1]) rfl ?_
  refine r_chk (fun hs50 => ?_)
  refine r_callV J (As := [vI 0, vI 0]) (st := []) (fun r hr => c_X2_asksFor r1 0 0 σ (g_up q39 20 1 0) N hL r hr) cls2 (g_is_at hs50) wm_3_56 wy_X2_asksFor wd_X2_asksFor ⟨by decide, by decide, by decide, by decide, Nat.le_of_ble_eq_true rfl⟩ rfl rfl (fun q50 hq50 => ?_)
  show g_H E 0 0 53 [(0, vR 20), (1, vR r1), (2, vI x2), (5, vI x5), (6, vI x6)] [vI q50] (σ, (g_up q39 20 1 0), N) _ _
  refine r_run J 3 (pc' := 58) (lv' := [(8, vI 1), (7, vI q50), (0, vR 20), (1, vR r1), (2, vI x2), (5, vI x5), (6, vI x6)]) (st' := []) rfl ?_
  refine r_sub [2, 3, 4, 6, 1, 0] (lv' := [(0, vR 20), (1, vR r1), (2, vI x2), (6, vI x6), (7, vI q50), (8, vI 1)]) rfl ?_
  exact p_X3_foresee_58 J g_FU r1 x2 x6 q50 1 σ (g_up q39 20 1 0) N hL
set_option maxHeartbeats 4000000 in
set_option maxRecDepth 100000 in
theorem p_X3_foresee_0 {l : Launch} {E : gE} (J : J_X3_foresee E l) (r1 : Nat) (x2 : Int32) (x3 : Int32) (x4 : Int32) (x5 : Int32) (σ : gS) (M : gM) (N : gN) (hL : g_layC σ) : g_H E 0 0 0 [(0, vR 20), (1, vR r1), (2, vI x2), (3, vI x3), (4, vI x4), (5, vI x5)] [] (σ, M, N) (b_X3_foresee_0 r1 x2 x3 x4 x5 σ M) (eVM σ N) := by
  unfold b_X3_foresee_0
  refine r_run J 1 (pc' := 1) (lv' := [(0, vR 20), (1, vR r1), (2, vI x2), (3, vI x3), (4, vI x4), (5, vI x5)]) (st' := [vR r1]) rfl ?_
  refine r_chk (fun hs1 => ?_)
  refine r_getR J cls2 rfl (k := 2) (t := 14) (by decide) wf_3_43 rfl rfl (g_is_at hs1) rfl (fun _ => ?_)
  show g_H E 0 0 4 [(0, vR 20), (1, vR r1), (2, vI x2), (3, vI x3), (4, vI x4), (5, vI x5)] [vR (σ.2 r1 2)] (σ, M, N) _ _
  refine r_run J 1 (pc' := 5) (lv' := [(0, vR 20), (1, vR r1), (2, vI x2), (3, vI x3), (4, vI x4), (5, vI x5)]) (st' := [vI 2, vR (σ.2 r1 2)]) rfl ?_
  refine r_chk (fun hs5 => ?_)
  refine r_iald J rfl (g_is_at hs5) (fun i5 => ?_)
  show g_H E 0 0 6 [(0, vR 20), (1, vR r1), (2, vI x2), (3, vI x3), (4, vI x4), (5, vI x5)] [vI (M (σ.2 r1 2) (2 : Int32).toNatClampNeg)] (σ, M, N) _ _
  refine r_run J 3 (pc' := 10) (lv' := [(6, vI (M (σ.2 r1 2) (2 : Int32).toNatClampNeg)), (0, vR 20), (1, vR r1), (2, vI x2), (3, vI x3), (4, vI x4), (5, vI x5)]) (st' := [vR r1, vR 20]) rfl ?_
  refine r_getR J cls2 rfl (k := 2) (t := 14) (by decide) wf_3_43 rfl rfl (g_is_at hs1) rfl (fun _ => ?_)
  show g_H E 0 0 13 [(6, vI (M (σ.2 r1 2) (2 : Int32).toNatClampNeg)), (0, vR 20), (1, vR r1), (2, vI x2), (3, vI x3), (4, vI x4), (5, vI x5)] [vR (σ.2 r1 2), vR 20] (σ, M, N) _ _
  refine r_run J 1 (pc' := 14) (lv' := [(6, vI (M (σ.2 r1 2) (2 : Int32).toNatClampNeg)), (0, vR 20), (1, vR r1), (2, vI x2), (3, vI x3), (4, vI x4), (5, vI x5)]) (st' := [vI 1, vR (σ.2 r1 2), vR 20]) rfl ?_
  refine r_iald J rfl (g_is_at hs5) (fun i14 => ?_)
  show g_H E 0 0 15 [(6, vI (M (σ.2 r1 2) (2 : Int32).toNatClampNeg)), (0, vR 20), (1, vR r1), (2, vI x2), (3, vI x3), (4, vI x4), (5, vI x5)] [vI (M (σ.2 r1 2) (1 : Int32).toNatClampNeg), vR 20] (σ, M, N) _ _
  refine r_putI J cls3 rfl (k := 7) (by decide) wf_3_34 rfl (Or.inl rfl) ⟨rfl, rfl⟩ (ly_20 hL) ?_
  show g_H E 0 0 18 [(6, vI (M (σ.2 r1 2) (2 : Int32).toNatClampNeg)), (0, vR 20), (1, vR r1), (2, vI x2), (3, vI x3), (4, vI x4), (5, vI x5)] [] (σ, (g_up M 20 7 (M (σ.2 r1 2) (1 : Int32).toNatClampNeg)), N) _ _
  refine r_run J 2 (pc' := 20) (lv' := [(6, vI (M (σ.2 r1 2) (2 : Int32).toNatClampNeg)), (0, vR 20), (1, vR r1), (2, vI x2), (3, vI x3), (4, vI x4), (5, vI x5)]) (st' := [vI x3, vR 20]) rfl ?_
  refine r_putI J cls3 rfl (k := 5) (by decide) wf_3_28 rfl (Or.inl rfl) ⟨rfl, rfl⟩ (ly_20 hL) ?_
  show g_H E 0 0 23 [(6, vI (M (σ.2 r1 2) (2 : Int32).toNatClampNeg)), (0, vR 20), (1, vR r1), (2, vI x2), (3, vI x3), (4, vI x4), (5, vI x5)] [] (σ, (g_up (g_up M 20 7 (M (σ.2 r1 2) (1 : Int32).toNatClampNeg)) 20 5 x3), N) _ _
  refine r_run J 2 (pc' := 26) (lv' := [(6, vI (M (σ.2 r1 2) (2 : Int32).toNatClampNeg)), (0, vR 20), (1, vR r1), (2, vI x2), (3, vI x3), (4, vI x4), (5, vI x5)]) (st' := [vI x4, vR 20]) rfl ?_
  refine r_putI J cls3 rfl (k := 6) (by decide) wf_3_31 rfl (Or.inl rfl) ⟨rfl, rfl⟩ (ly_20 hL) ?_
  show g_H E 0 0 29 [(6, vI (M (σ.2 r1 2) (2 : Int32).toNatClampNeg)), (0, vR 20), (1, vR r1), (2, vI x2), (3, vI x3), (4, vI x4), (5, vI x5)] [] (σ, (g_up (g_up (g_up M 20 7 (M (σ.2 r1 2) (1 : Int32).toNatClampNeg)) 20 5 x3) 20 6 x4), N) _ _
  refine r_sub [1, 2, 3, 6, 0] (lv' := [(0, vR 20), (1, vR r1), (2, vI x2), (5, vI x5), (6, vI (M (σ.2 r1 2) (2 : Int32).toNatClampNeg))]) rfl ?_
  exact p_X3_foresee_29 J r1 x2 x5 (M (σ.2 r1 2) (2 : Int32).toNatClampNeg) σ (g_up (g_up (g_up M 20 7 (M (σ.2 r1 2) (1 : Int32).toNatClampNeg)) 20 5 x3) 20 6 x4) N hL
theorem c_X3_foresee {l : Launch} (r1 : Nat) (x2 : Int32) (x3 : Int32) (x4 : Int32) (x5 : Int32) (σ : gS) (M : gM) (N : gN) (hL : g_layC σ) (r : gM) (h : f_X3_foresee r1 x2 x3 x4 x5 σ M = some r) : g_Ct l yX3_foresee cX3_foresee 9 none 5 0 0 [vR 20, vR r1, vI x2, vI x3, vI x4, vI x5] (σ, M, N) (eVM σ N r) :=
  g_Ct.of tb_X3_foresee (by decide +kernel) tk_X3_foresee (Nat.le_of_ble_eq_true rfl) (fun E J => p_X3_foresee_0 J r1 x2 x3 x4 x5 σ M N hL r h)
def tb_X4_init : gT := [(0, .aload_n 0, 1, 0), (1, .invokespecial 3, 3, 0), (4, .aload_n 0, 1, 0), (5, .sipush 500, 3, 500), (8, .newarray .int, 2, 0), (10, .putfield 11, 3, 0), (13, .aload_n 0, 1, 0), (14, .iconst 0, 1, 0), (15, .putfield 15, 3, 0), (18, .return_, 1, 0)]
set_option maxRecDepth 100000 in
theorem tk_X4_init : g_okT cX4_init tb_X4_init = true := by decide +kernel
abbrev J_X4_init (E : gE) (l : Launch) : Prop := g_J E cX4_init RX4 "<init>" none 1 tb_X4_init 1 1 500 l
set_option maxHeartbeats 4000000 in
set_option maxRecDepth 100000 in
theorem p_X4_init_13 {l : Launch} {E : gE} (J : J_X4_init E l) (σ : gS) (M : gM) (N : gN) : g_H E 1 500 13 [(0, vR 5)] [] (σ, M, N) (b_X4_init_13 σ M N) (eVSMN) := by
  unfold b_X4_init_13
  refine r_run J 2 (pc' := 15) (lv' := [(0, vR 5)]) (st' := [vI 0, vR 5]) rfl ?_
  refine r_chk (fun hs15 => ?_)
  refine r_putI J cls4 rfl (k := 1) (by decide) wf_4_15 rfl (Or.inl rfl) ⟨rfl, rfl⟩ (g_is_at hs15) ?_
  show g_H E 1 500 18 [(0, vR 5)] [] (σ, (g_up M 5 1 0), N) _ _
  exact r_vret J rfl rfl rfl (by decide) (by decide)
set_option maxHeartbeats 4000000 in
set_option maxRecDepth 100000 in
theorem p_X4_init_0 {l : Launch} {E : gE} (J : J_X4_init E l) (σ : gS) (M : gM) (N : gN) : g_H E 0 0 0 [(0, vR 5)] [] (σ, M, N) (b_X4_init_0 σ M N) (eVSMN) := by
  unfold b_X4_init_0
  refine r_run J 1 (pc' := 1) (lv' := [(0, vR 5)]) (st' := [vR 5]) rfl ?_
  refine r_chk (fun hs1 => ?_)
  refine r_objI J (by rw [(g_is_at hs1)]; exact Option.some_ne_none _) wm_4_3 w_obj rfl ⟨by decide, Nat.le_of_ble_eq_true rfl⟩ ?_
  refine r_run J 2 (pc' := 8) (lv' := [(0, vR 5)]) (st' := [vI 500, vR 5]) rfl ?_
  refine r_chk (fun hf8 => ?_)
  refine r_newI J (B := 500) rfl wa_int (by decide) rfl (Nat.le_refl _) (by decide) (g_fr_0 hf8) (g_fr_n hf8) (by decide) (by decide) ?_
  show g_H E 1 500 10 [(0, vR 5)] [vR 6, vR 5] ((g_nS σ 6 14 500), (g_z M 6 0), (g_z N 6 0)) _ _
  refine r_chk (fun hs10 => ?_)
  refine r_putR J cls4 rfl (k := 0) (t := 14) (by decide) wf_4_11 rfl rfl (Or.inr ⟨rfl, rfl, rfl⟩) (g_is_at hs10) (Or.inr ⟨_, (g_nS_at σ 6 14 500)⟩) ?_
  show g_H E 1 500 13 [(0, vR 5)] [] ((g_pS (g_nS σ 6 14 500) 5 0 6), (g_z M 6 0), (g_z N 6 0)) _ _
  exact p_X4_init_13 J (g_pS (g_nS σ 6 14 500) 5 0 6) (g_z M 6 0) (g_z N 6 0)
theorem c_X4_init {l : Launch} (σ : gS) (M : gM) (N : gN) (r : gS × gM × gN) (h : f_X4_init σ M N = some r) : g_Ct l yX4_init cX4_init 1 none 1 1 500 [vR 5] (σ, M, N) (eVSMN r) :=
  g_Ct.of tb_X4_init (by decide +kernel) tk_X4_init (Nat.le_of_ble_eq_true rfl) (fun E J => p_X4_init_0 J σ M N r h)
def tb_X4_haveSpace : gT := [(0, .aload_n 0, 1, 0), (1, .getfield 15, 3, 0), (4, .iload_n 1, 1, 0), (5, .iadd, 1, 0), (6, .sipush 500, 3, 500), (9, .if_icmp .gt 7, 3, 0), (12, .iconst 1, 1, 1), (13, .goto 4, 3, 0), (16, .iconst 0, 1, 0), (17, .ireturn, 1, 0)]
set_option maxRecDepth 100000 in
theorem tk_X4_haveSpace : g_okT cX4_haveSpace tb_X4_haveSpace = true := by decide +kernel
abbrev J_X4_haveSpace (E : gE) (l : Launch) : Prop := g_J E cX4_haveSpace RX4 "haveSpace" (some .boolean) 2 tb_X4_haveSpace 1 0 0 l
set_option maxHeartbeats 4000000 in
set_option maxRecDepth 100000 in
theorem p_X4_haveSpace_0 {l : Launch} {E : gE} (J : J_X4_haveSpace E l) (x1 : Int32) (σ : gS) (M : gM) (N : gN) (hL : g_layC σ) : g_H E 0 0 0 [(0, vR 5), (1, vI x1)] [] (σ, M, N) (b_X4_haveSpace_0 x1 σ M) (eI σ M N) := by
  unfold b_X4_haveSpace_0
  refine r_run J 1 (pc' := 1) (lv' := [(0, vR 5), (1, vI x1)]) (st' := [vR 5]) rfl ?_
  refine r_getI J cls4 rfl (k := 1) (by decide) wf_4_15 rfl (ly_5 hL) ?_
  show g_H E 0 0 4 [(0, vR 5), (1, vI x1)] [vI (M 5 1)] (σ, M, N) _ _
  refine r_run J 3 (pc' := 9) (lv' := [(0, vR 5), (1, vI x1)]) (st' := [vI 500, vI ((M 5 1) + x1)]) rfl ?_
  refine r_icmp_gt J (tgt := 16) rfl (by decide) (fun c9 => ?_) (fun c9 => ?_)
  · refine r_run J 1 (pc' := 17) (lv' := [(0, vR 5), (1, vI x1)]) (st' := [vI 0]) rfl ?_
    exact r_iret J rfl rfl rfl rfl (by decide) (by decide)
  · refine r_run J 2 (pc' := 17) (lv' := [(0, vR 5), (1, vI x1)]) (st' := [vI 1]) rfl ?_
    exact r_iret J rfl rfl rfl rfl (by decide) (by decide)
theorem c_X4_haveSpace {l : Launch} (x1 : Int32) (σ : gS) (M : gM) (N : gN) (hL : g_layC σ) (r : Int32) (h : f_X4_haveSpace x1 σ M = some r) : g_Ct l yX4_haveSpace cX4_haveSpace 2 (some .boolean) 1 0 0 [vR 5, vI x1] (σ, M, N) (eI σ M N r) :=
  g_Ct.of tb_X4_haveSpace (by decide +kernel) tk_X4_haveSpace (Nat.le_of_ble_eq_true rfl) (fun E J => p_X4_haveSpace_0 J x1 σ M N hL r h)
def tb_X4_add : gT := [(0, .aload_n 0, 1, 0), (1, .getfield 15, 3, 0), (4, .sipush 500, 3, 500), (7, .if_icmp .ge 40, 3, 0), (10, .aload_n 0, 1, 0), (11, .getfield 11, 3, 0), (14, .aload_n 0, 1, 0), (15, .getfield 15, 3, 0), (18, .iload 4, 2, 0), (20, .bipush 11, 2, 11), (22, .ishl, 1, 0), (23, .iload_n 1, 1, 0), (24, .bipush 8, 2, 8), (26, .ishl, 1, 0), (27, .ior, 1, 0), (28, .iload_n 2, 1, 0), (29, .iconst 4, 1, 4), (30, .ishl, 1, 0), (31, .ior, 1, 0), (32, .iload_n 3, 1, 0), (33, .iconst 1, 1, 1), (34, .iadd, 1, 0), (35, .ior, 1, 0), (36, .iastore, 1, 0), (37, .aload_n 0, 1, 0), (38, .dup, 1, 0), (39, .getfield 15, 3, 0), (42, .iconst 1, 1, 1), (43, .iadd, 1, 0), (44, .putfield 15, 3, 0), (47, .return_, 1, 0)]
set_option maxRecDepth 100000 in
theorem tk_X4_add : g_okT cX4_add tb_X4_add = true := by decide +kernel
abbrev J_X4_add (E : gE) (l : Launch) : Prop := g_J E cX4_add RX4 "add" none 5 tb_X4_add 1 0 0 l
set_option maxHeartbeats 4000000 in
set_option maxRecDepth 100000 in
theorem p_X4_add_0 {l : Launch} {E : gE} (J : J_X4_add E l) (x1 : Int32) (x2 : Int32) (x3 : Int32) (x4 : Int32) (σ : gS) (M : gM) (N : gN) (hL : g_layC σ) : g_H E 0 0 0 [(0, vR 5), (1, vI x1), (2, vI x2), (3, vI x3), (4, vI x4)] [] (σ, M, N) (b_X4_add_0 x1 x2 x3 x4 σ M) (eVM σ N) := by
  unfold b_X4_add_0
  refine r_run J 1 (pc' := 1) (lv' := [(0, vR 5), (1, vI x1), (2, vI x2), (3, vI x3), (4, vI x4)]) (st' := [vR 5]) rfl ?_
  refine r_getI J cls4 rfl (k := 1) (by decide) wf_4_15 rfl (ly_5 hL) ?_
  show g_H E 0 0 4 [(0, vR 5), (1, vI x1), (2, vI x2), (3, vI x3), (4, vI x4)] [vI (M 5 1)] (σ, M, N) _ _
  refine r_run J 1 (pc' := 7) (lv' := [(0, vR 5), (1, vI x1), (2, vI x2), (3, vI x3), (4, vI x4)]) (st' := [vI 500, vI (M 5 1)]) rfl ?_
  refine r_icmp_ge J (tgt := 47) rfl (by decide) (fun c7 => ?_) (fun c7 => ?_)
  · refine r_run J 1 (pc' := 11) (lv' := [(0, vR 5), (1, vI x1), (2, vI x2), (3, vI x3), (4, vI x4)]) (st' := [vR 5]) rfl ?_
    refine r_getR J cls4 rfl (k := 0) (t := 14) (by decide) wf_4_11 rfl rfl (ly_5 hL) (lr_5_0 hL) (fun _ => ?_)
    show g_H E 0 0 14 [(0, vR 5), (1, vI x1), (2, vI x2), (3, vI x3), (4, vI x4)] [vR 6] (σ, M, N) _ _
    refine r_run J 1 (pc' := 15) (lv' := [(0, vR 5), (1, vI x1), (2, vI x2), (3, vI x3), (4, vI x4)]) (st' := [vR 5, vR 6]) rfl ?_
    refine r_getI J cls4 rfl (k := 1) (by decide) wf_4_15 rfl (ly_5 hL) ?_
    show g_H E 0 0 18 [(0, vR 5), (1, vI x1), (2, vI x2), (3, vI x3), (4, vI x4)] [vI (M 5 1), vR 6] (σ, M, N) _ _
    refine r_run J 15 (pc' := 36) (lv' := [(0, vR 5), (1, vI x1), (2, vI x2), (3, vI x3), (4, vI x4)]) (st' := [vI ((((x4 <<< ((11 : Int32) &&& 31)) ||| (x1 <<< ((8 : Int32) &&& 31))) ||| (x2 <<< ((4 : Int32) &&& 31))) ||| (x3 + (1 : Int32))), vI (M 5 1), vR 6]) rfl ?_
    refine r_iast J rfl (ly_6 hL) (fun i36 => ?_)
    show g_H E 0 0 37 [(0, vR 5), (1, vI x1), (2, vI x2), (3, vI x3), (4, vI x4)] [] (σ, (g_up M 6 ((M 5 1).toNatClampNeg) ((((x4 <<< ((11 : Int32) &&& 31)) ||| (x1 <<< ((8 : Int32) &&& 31))) ||| (x2 <<< ((4 : Int32) &&& 31))) ||| (x3 + (1 : Int32)))), N) _ _
    refine r_run J 2 (pc' := 39) (lv' := [(0, vR 5), (1, vI x1), (2, vI x2), (3, vI x3), (4, vI x4)]) (st' := [vR 5, vR 5]) rfl ?_
    refine r_getI J cls4 rfl (k := 1) (by decide) wf_4_15 rfl (ly_5 hL) ?_
    show g_H E 0 0 42 [(0, vR 5), (1, vI x1), (2, vI x2), (3, vI x3), (4, vI x4)] [vI ((g_up M 6 ((M 5 1).toNatClampNeg) ((((x4 <<< ((11 : Int32) &&& 31)) ||| (x1 <<< ((8 : Int32) &&& 31))) ||| (x2 <<< ((4 : Int32) &&& 31))) ||| (x3 + (1 : Int32)))) 5 1), vR 5] (σ, (g_up M 6 ((M 5 1).toNatClampNeg) ((((x4 <<< ((11 : Int32) &&& 31)) ||| (x1 <<< ((8 : Int32) &&& 31))) ||| (x2 <<< ((4 : Int32) &&& 31))) ||| (x3 + (1 : Int32)))), N) _ _
    refine r_run J 2 (pc' := 44) (lv' := [(0, vR 5), (1, vI x1), (2, vI x2), (3, vI x3), (4, vI x4)]) (st' := [vI (((g_up M 6 ((M 5 1).toNatClampNeg) ((((x4 <<< ((11 : Int32) &&& 31)) ||| (x1 <<< ((8 : Int32) &&& 31))) ||| (x2 <<< ((4 : Int32) &&& 31))) ||| (x3 + (1 : Int32)))) 5 1) + (1 : Int32)), vR 5]) rfl ?_
    refine r_putI J cls4 rfl (k := 1) (by decide) wf_4_15 rfl (Or.inl rfl) ⟨rfl, rfl⟩ (ly_5 hL) ?_
    show g_H E 0 0 47 [(0, vR 5), (1, vI x1), (2, vI x2), (3, vI x3), (4, vI x4)] [] (σ, (g_up (g_up M 6 ((M 5 1).toNatClampNeg) ((((x4 <<< ((11 : Int32) &&& 31)) ||| (x1 <<< ((8 : Int32) &&& 31))) ||| (x2 <<< ((4 : Int32) &&& 31))) ||| (x3 + (1 : Int32)))) 5 1 (((g_up M 6 ((M 5 1).toNatClampNeg) ((((x4 <<< ((11 : Int32) &&& 31)) ||| (x1 <<< ((8 : Int32) &&& 31))) ||| (x2 <<< ((4 : Int32) &&& 31))) ||| (x3 + (1 : Int32)))) 5 1) + (1 : Int32))), N) _ _
    exact r_vret J rfl rfl rfl (by decide) (by decide)
  · exact r_vret J rfl rfl rfl (by decide) (by decide)
theorem c_X4_add {l : Launch} (x1 : Int32) (x2 : Int32) (x3 : Int32) (x4 : Int32) (σ : gS) (M : gM) (N : gN) (hL : g_layC σ) (r : gM) (h : f_X4_add x1 x2 x3 x4 σ M = some r) : g_Ct l yX4_add cX4_add 5 none 1 0 0 [vR 5, vI x1, vI x2, vI x3, vI x4] (σ, M, N) (eVM σ N r) :=
  g_Ct.of tb_X4_add (by decide +kernel) tk_X4_add (Nat.le_of_ble_eq_true rfl) (fun E J => p_X4_add_0 J x1 x2 x3 x4 σ M N hL r h)
def tb_X4_latest : gT := [(0, .aload_n 0, 1, 0), (1, .getfield 15, 3, 0), (4, .iconst 1, 1, 1), (5, .isub, 1, 0), (6, .istore 4, 2, 0), (8, .iload 4, 2, 0), (10, .ifCond .lt 70, 3, 0), (13, .aload_n 0, 1, 0), (14, .getfield 11, 3, 0), (17, .iload 4, 2, 0), (19, .iaload, 1, 0), (20, .istore 5, 2, 0), (22, .iload 5, 2, 0), (24, .bipush 8, 2, 8), (26, .ishr, 1, 0), (27, .bipush 7, 2, 7), (29, .iand, 1, 0), (30, .iload_n 1, 1, 0), (31, .if_icmp .ne 18, 3, 0), (34, .iload 5, 2, 0), (36, .iconst 4, 1, 4), (37, .ishr, 1, 0), (38, .bipush 15, 2, 15), (40, .iand, 1, 0), (41, .iload_n 2, 1, 0), (42, .if_icmp .ne 7, 3, 0), (45, .iconst 1, 1, 1), (46, .goto 4, 3, 0), (49, .iconst 0, 1, 0), (50, .istore 6, 2, 0), (52, .iload 6, 2, 0), (54, .ifCond .eq 20, 3, 0), (57, .iload 5, 2, 0), (59, .bipush 11, 2, 11), (61, .ishr, 1, 0), (62, .iload_n 3, 1, 0), (63, .if_icmp .gt 11, 3, 0), (66, .iload 5, 2, 0), (68, .bipush 15, 2, 15), (70, .iand, 1, 0), (71, .iconst 1, 1, 1), (72, .isub, 1, 0), (73, .ireturn, 1, 0), (74, .iinc 4 (-1), 3, (-1)), (77, .goto (-69), 3, 0), (80, .iconst (-1), 1, (-1)), (81, .ireturn, 1, 0)]
set_option maxRecDepth 100000 in
theorem tk_X4_latest : g_okT cX4_latest tb_X4_latest = true := by decide +kernel
abbrev J_X4_latest (E : gE) (l : Launch) : Prop := g_J E cX4_latest RX4 "latest" (some .int) 7 tb_X4_latest 1 0 0 l
set_option maxHeartbeats 4000000 in
set_option maxRecDepth 100000 in
theorem p_X4_latest_74 {l : Launch} {E : gE} (J : J_X4_latest E l) {k8 : Int32 → Int32 → Int32 → Int32 → gS → gM → Option (Int32)} (H8 : ∀ (x1 : Int32) (x2 : Int32) (x3 : Int32) (x4 : Int32) (σ : gS) (M : gM) (N : gN) (_ : g_layC σ), g_H E 0 0 8 [(0, vR 5), (1, vI x1), (2, vI x2), (3, vI x3), (4, vI x4)] [] (σ, M, N) (k8 x1 x2 x3 x4 σ M) (eI σ M N)) (x1 : Int32) (x2 : Int32) (x3 : Int32) (x4 : Int32) (σ : gS) (M : gM) (N : gN) (hL : g_layC σ) : g_H E 0 0 74 [(0, vR 5), (1, vI x1), (2, vI x2), (3, vI x3), (4, vI x4)] [] (σ, M, N) (b_X4_latest_74 k8 x1 x2 x3 x4 σ M) (eI σ M N) := by
  unfold b_X4_latest_74
  refine r_run J 2 (pc' := 8) (lv' := [(4, vI (x4 + (-1))), (0, vR 5), (1, vI x1), (2, vI x2), (3, vI x3)]) (st' := []) rfl ?_
  refine r_sub [1, 2, 3, 4, 0] (lv' := [(0, vR 5), (1, vI x1), (2, vI x2), (3, vI x3), (4, vI (x4 + (-1)))]) rfl ?_
  exact H8 x1 x2 x3 (x4 + (-1)) σ M N hL
set_option maxHeartbeats 4000000 in
set_option maxRecDepth 100000 in
theorem p_X4_latest_50 {l : Launch} {E : gE} (J : J_X4_latest E l) {k8 : Int32 → Int32 → Int32 → Int32 → gS → gM → Option (Int32)} (H8 : ∀ (x1 : Int32) (x2 : Int32) (x3 : Int32) (x4 : Int32) (σ : gS) (M : gM) (N : gN) (_ : g_layC σ), g_H E 0 0 8 [(0, vR 5), (1, vI x1), (2, vI x2), (3, vI x3), (4, vI x4)] [] (σ, M, N) (k8 x1 x2 x3 x4 σ M) (eI σ M N)) (x1 : Int32) (x2 : Int32) (x3 : Int32) (x4 : Int32) (x5 : Int32) (sx0 : Int32) (σ : gS) (M : gM) (N : gN) (hL : g_layC σ) : g_H E 0 0 50 [(0, vR 5), (1, vI x1), (2, vI x2), (3, vI x3), (4, vI x4), (5, vI x5)] [vI sx0] (σ, M, N) (b_X4_latest_50 k8 x1 x2 x3 x4 x5 sx0 σ M) (eI σ M N) := by
  unfold b_X4_latest_50
  refine r_run J 2 (pc' := 54) (lv' := [(6, vI sx0), (0, vR 5), (1, vI x1), (2, vI x2), (3, vI x3), (4, vI x4), (5, vI x5)]) (st' := [vI sx0]) rfl ?_
  refine r_if_eq J (tgt := 74) rfl (by decide) (fun c54 => ?_) (fun c54 => ?_)
  · refine r_sub [1, 2, 3, 4, 5] (lv' := [(0, vR 5), (1, vI x1), (2, vI x2), (3, vI x3), (4, vI x4)]) rfl ?_
    exact p_X4_latest_74 J H8 x1 x2 x3 x4 σ M N hL
  · refine r_run J 4 (pc' := 63) (lv' := [(6, vI sx0), (0, vR 5), (1, vI x1), (2, vI x2), (3, vI x3), (4, vI x4), (5, vI x5)]) (st' := [vI x3, vI (x5 >>> ((11 : Int32) &&& 31))]) rfl ?_
    refine r_icmp_gt J (tgt := 74) rfl (by decide) (fun c63 => ?_) (fun c63 => ?_)
    · refine r_sub [1, 2, 3, 4, 5] (lv' := [(0, vR 5), (1, vI x1), (2, vI x2), (3, vI x3), (4, vI x4)]) rfl ?_
      exact p_X4_latest_74 J H8 x1 x2 x3 x4 σ M N hL
    · refine r_run J 5 (pc' := 73) (lv' := [(6, vI sx0), (0, vR 5), (1, vI x1), (2, vI x2), (3, vI x3), (4, vI x4), (5, vI x5)]) (st' := [vI ((x5 &&& (15 : Int32)) - (1 : Int32))]) rfl ?_
      exact r_iret J rfl rfl rfl rfl (by decide) (by decide)
set_option maxHeartbeats 4000000 in
set_option maxRecDepth 100000 in
theorem p_X4_latest_49 {l : Launch} {E : gE} (J : J_X4_latest E l) {k8 : Int32 → Int32 → Int32 → Int32 → gS → gM → Option (Int32)} (H8 : ∀ (x1 : Int32) (x2 : Int32) (x3 : Int32) (x4 : Int32) (σ : gS) (M : gM) (N : gN) (_ : g_layC σ), g_H E 0 0 8 [(0, vR 5), (1, vI x1), (2, vI x2), (3, vI x3), (4, vI x4)] [] (σ, M, N) (k8 x1 x2 x3 x4 σ M) (eI σ M N)) (x1 : Int32) (x2 : Int32) (x3 : Int32) (x4 : Int32) (x5 : Int32) (σ : gS) (M : gM) (N : gN) (hL : g_layC σ) : g_H E 0 0 49 [(0, vR 5), (1, vI x1), (2, vI x2), (3, vI x3), (4, vI x4), (5, vI x5)] [] (σ, M, N) (b_X4_latest_49 k8 x1 x2 x3 x4 x5 σ M) (eI σ M N) := by
  unfold b_X4_latest_49
  refine r_run J 1 (pc' := 50) (lv' := [(0, vR 5), (1, vI x1), (2, vI x2), (3, vI x3), (4, vI x4), (5, vI x5)]) (st' := [vI 0]) rfl ?_
  exact p_X4_latest_50 J H8 x1 x2 x3 x4 x5 0 σ M N hL
set_option maxHeartbeats 4000000 in
set_option maxRecDepth 100000 in
theorem p_X4_latest_8 {l : Launch} {E : gE} (J : J_X4_latest E l) : ∀ (n : Nat) (x1 : Int32) (x2 : Int32) (x3 : Int32) (x4 : Int32) (σ : gS) (M : gM) (N : gN) (hL : g_layC σ), g_H E 0 0 8 [(0, vR 5), (1, vI x1), (2, vI x2), (3, vI x3), (4, vI x4)] [] (σ, M, N) (l_X4_latest_8 n x1 x2 x3 x4 σ M) (eI σ M N) := by
  intro n
  induction n with
  | zero => intros; exact h_none
  | succ n ih =>
    intro x1 x2 x3 x4 σ M N hL
    rw [l_X4_latest_8]
    refine r_run J 1 (pc' := 10) (lv' := [(0, vR 5), (1, vI x1), (2, vI x2), (3, vI x3), (4, vI x4)]) (st' := [vI x4]) rfl ?_
    refine r_if_lt J (tgt := 80) rfl (by decide) (fun c10 => ?_) (fun c10 => ?_)
    · refine r_run J 1 (pc' := 81) (lv' := [(0, vR 5), (1, vI x1), (2, vI x2), (3, vI x3), (4, vI x4)]) (st' := [vI (-1)]) rfl ?_
      exact r_iret J rfl rfl rfl rfl (by decide) (by decide)
    · refine r_run J 1 (pc' := 14) (lv' := [(0, vR 5), (1, vI x1), (2, vI x2), (3, vI x3), (4, vI x4)]) (st' := [vR 5]) rfl ?_
      refine r_getR J cls4 rfl (k := 0) (t := 14) (by decide) wf_4_11 rfl rfl (ly_5 hL) (lr_5_0 hL) (fun _ => ?_)
      show g_H E 0 0 17 [(0, vR 5), (1, vI x1), (2, vI x2), (3, vI x3), (4, vI x4)] [vR 6] (σ, M, N) _ _
      refine r_run J 1 (pc' := 19) (lv' := [(0, vR 5), (1, vI x1), (2, vI x2), (3, vI x3), (4, vI x4)]) (st' := [vI x4, vR 6]) rfl ?_
      refine r_iald J rfl (ly_6 hL) (fun i19 => ?_)
      show g_H E 0 0 20 [(0, vR 5), (1, vI x1), (2, vI x2), (3, vI x3), (4, vI x4)] [vI (M 6 x4.toNatClampNeg)] (σ, M, N) _ _
      refine r_run J 7 (pc' := 31) (lv' := [(5, vI (M 6 x4.toNatClampNeg)), (0, vR 5), (1, vI x1), (2, vI x2), (3, vI x3), (4, vI x4)]) (st' := [vI x1, vI (((M 6 x4.toNatClampNeg) >>> ((8 : Int32) &&& 31)) &&& (7 : Int32))]) rfl ?_
      refine r_icmp_ne J (tgt := 49) rfl (by decide) (fun c31 => ?_) (fun c31 => ?_)
      · refine r_run J 6 (pc' := 42) (lv' := [(5, vI (M 6 x4.toNatClampNeg)), (0, vR 5), (1, vI x1), (2, vI x2), (3, vI x3), (4, vI x4)]) (st' := [vI x2, vI (((M 6 x4.toNatClampNeg) >>> ((4 : Int32) &&& 31)) &&& (15 : Int32))]) rfl ?_
        refine r_icmp_ne J (tgt := 49) rfl (by decide) (fun c42 => ?_) (fun c42 => ?_)
        · refine r_run J 2 (pc' := 50) (lv' := [(5, vI (M 6 x4.toNatClampNeg)), (0, vR 5), (1, vI x1), (2, vI x2), (3, vI x3), (4, vI x4)]) (st' := [vI 1]) rfl ?_
          refine r_sub [1, 2, 3, 4, 5, 0] (lv' := [(0, vR 5), (1, vI x1), (2, vI x2), (3, vI x3), (4, vI x4), (5, vI (M 6 x4.toNatClampNeg))]) rfl ?_
          exact p_X4_latest_50 J ih x1 x2 x3 x4 (M 6 x4.toNatClampNeg) 1 σ M N hL
        · refine r_sub [1, 2, 3, 4, 5, 0] (lv' := [(0, vR 5), (1, vI x1), (2, vI x2), (3, vI x3), (4, vI x4), (5, vI (M 6 x4.toNatClampNeg))]) rfl ?_
          exact p_X4_latest_49 J ih x1 x2 x3 x4 (M 6 x4.toNatClampNeg) σ M N hL
      · refine r_sub [1, 2, 3, 4, 5, 0] (lv' := [(0, vR 5), (1, vI x1), (2, vI x2), (3, vI x3), (4, vI x4), (5, vI (M 6 x4.toNatClampNeg))]) rfl ?_
        exact p_X4_latest_49 J ih x1 x2 x3 x4 (M 6 x4.toNatClampNeg) σ M N hL
set_option maxHeartbeats 4000000 in
set_option maxRecDepth 100000 in
theorem p_X4_latest_0 {l : Launch} {E : gE} (J : J_X4_latest E l) (x1 : Int32) (x2 : Int32) (x3 : Int32) (σ : gS) (M : gM) (N : gN) (hL : g_layC σ) : g_H E 0 0 0 [(0, vR 5), (1, vI x1), (2, vI x2), (3, vI x3)] [] (σ, M, N) (b_X4_latest_0 x1 x2 x3 σ M) (eI σ M N) := by
  unfold b_X4_latest_0
  refine r_run J 1 (pc' := 1) (lv' := [(0, vR 5), (1, vI x1), (2, vI x2), (3, vI x3)]) (st' := [vR 5]) rfl ?_
  refine r_getI J cls4 rfl (k := 1) (by decide) wf_4_15 rfl (ly_5 hL) ?_
  show g_H E 0 0 4 [(0, vR 5), (1, vI x1), (2, vI x2), (3, vI x3)] [vI (M 5 1)] (σ, M, N) _ _
  refine r_run J 3 (pc' := 8) (lv' := [(4, vI ((M 5 1) - (1 : Int32))), (0, vR 5), (1, vI x1), (2, vI x2), (3, vI x3)]) (st' := []) rfl ?_
  refine r_sub [1, 2, 3, 4, 0] (lv' := [(0, vR 5), (1, vI x1), (2, vI x2), (3, vI x3), (4, vI ((M 5 1) - (1 : Int32)))]) rfl ?_
  exact p_X4_latest_8 J g_FU x1 x2 x3 ((M 5 1) - (1 : Int32)) σ M N hL
theorem c_X4_latest {l : Launch} (x1 : Int32) (x2 : Int32) (x3 : Int32) (σ : gS) (M : gM) (N : gN) (hL : g_layC σ) (r : Int32) (h : f_X4_latest x1 x2 x3 σ M = some r) : g_Ct l yX4_latest cX4_latest 7 (some .int) 1 0 0 [vR 5, vI x1, vI x2, vI x3] (σ, M, N) (eI σ M N r) :=
  g_Ct.of tb_X4_latest (by decide +kernel) tk_X4_latest (Nat.le_of_ble_eq_true rfl) (fun E J => p_X4_latest_0 J x1 x2 x3 σ M N hL r h)
def tb_X5_init : gT := [(0, .aload_n 0, 1, 0), (1, .invokespecial 3, 3, 0), (4, .aload_n 0, 1, 0), (5, .bipush 10, 2, 10), (7, .anewarray 9, 3, 0), (10, .putfield 11, 3, 0), (13, .aload_n 0, 1, 0), (14, .iconst 0, 1, 0), (15, .putfield 17, 3, 0), (18, .return_, 1, 0)]
set_option maxRecDepth 100000 in
theorem tk_X5_init : g_okT cX5_init tb_X5_init = true := by decide +kernel
abbrev J_X5_init (E : gE) (l : Launch) : Prop := g_J E cX5_init RX5 "<init>" none 1 tb_X5_init 1 1 10 l
set_option maxHeartbeats 4000000 in
set_option maxRecDepth 100000 in
theorem p_X5_init_13 {l : Launch} {E : gE} (J : J_X5_init E l) (σ : gS) (M : gM) (N : gN) : g_H E 1 10 13 [(0, vR 2)] [] (σ, M, N) (b_X5_init_13 σ M N) (eVSMN) := by
  unfold b_X5_init_13
  refine r_run J 2 (pc' := 15) (lv' := [(0, vR 2)]) (st' := [vI 0, vR 2]) rfl ?_
  refine r_chk (fun hs15 => ?_)
  refine r_putI J cls5 rfl (k := 1) (by decide) wf_5_17 rfl (Or.inl rfl) ⟨rfl, rfl⟩ (g_is_at hs15) ?_
  show g_H E 1 10 18 [(0, vR 2)] [] (σ, (g_up M 2 1 0), N) _ _
  exact r_vret J rfl rfl rfl (by decide) (by decide)
set_option maxHeartbeats 4000000 in
set_option maxRecDepth 100000 in
theorem p_X5_init_0 {l : Launch} {E : gE} (J : J_X5_init E l) (σ : gS) (M : gM) (N : gN) : g_H E 0 0 0 [(0, vR 2)] [] (σ, M, N) (b_X5_init_0 σ M N) (eVSMN) := by
  unfold b_X5_init_0
  refine r_run J 1 (pc' := 1) (lv' := [(0, vR 2)]) (st' := [vR 2]) rfl ?_
  refine r_chk (fun hs1 => ?_)
  refine r_objI J (by rw [(g_is_at hs1)]; exact Option.some_ne_none _) wm_5_3 w_obj rfl ⟨by decide, Nat.le_of_ble_eq_true rfl⟩ ?_
  refine r_run J 2 (pc' := 7) (lv' := [(0, vR 2)]) (st' := [vI 10, vR 2]) rfl ?_
  refine r_chk (fun hf7 => ?_)
  refine r_anew J (B := 10) (Or.inl ⟨rfl, rfl⟩) rfl wk_5_9 (by decide) rfl (Nat.le_refl _) (by decide) (g_fr_0 hf7) (g_fr_n hf7) (by decide) (by decide) ?_
  show g_H E 1 10 10 [(0, vR 2)] [vR 3, vR 2] ((g_nS σ 3 17 10), (g_z M 3 0), (g_z N 3 0)) _ _
  refine r_chk (fun hs10 => ?_)
  refine r_putR J cls5 rfl (k := 0) (t := 17) (by decide) wf_5_11 rfl rfl (Or.inr ⟨rfl, rfl, rfl⟩) (g_is_at hs10) (Or.inr ⟨_, (g_nS_at σ 3 17 10)⟩) ?_
  show g_H E 1 10 13 [(0, vR 2)] [] ((g_pS (g_nS σ 3 17 10) 2 0 3), (g_z M 3 0), (g_z N 3 0)) _ _
  exact p_X5_init_13 J (g_pS (g_nS σ 3 17 10) 2 0 3) (g_z M 3 0) (g_z N 3 0)
theorem c_X5_init {l : Launch} (σ : gS) (M : gM) (N : gN) (r : gS × gM × gN) (h : f_X5_init σ M N = some r) : g_Ct l yX5_init cX5_init 1 none 1 1 10 [vR 2] (σ, M, N) (eVSMN r) :=
  g_Ct.of tb_X5_init (by decide +kernel) tk_X5_init (Nat.le_of_ble_eq_true rfl) (fun E J => p_X5_init_0 J σ M N r h)
def tb_X5_add : gT := [(0, .aload_n 0, 1, 0), (1, .getfield 17, 3, 0), (4, .bipush 10, 2, 10), (6, .if_icmp .lt 5, 3, 0), (9, .iconst (-1), 1, (-1)), (10, .ireturn, 1, 0), (11, .aload_n 0, 1, 0), (12, .getfield 11, 3, 0), (15, .aload_n 0, 1, 0), (16, .getfield 17, 3, 0), (19, .aload_n 1, 1, 0), (20, .aastore, 1, 0), (21, .aload_n 0, 1, 0), (22, .dup, 1, 0), (23, .getfield 17, 3, 0), (26, .iconst 1, 1, 1), (27, .iadd, 1, 0), (28, .putfield 17, 3, 0), (31, .aload_n 0, 1, 0), (32, .getfield 17, 3, 0), (35, .iconst 1, 1, 1), (36, .isub, 1, 0), (37, .ireturn, 1, 0)]
set_option maxRecDepth 100000 in
theorem tk_X5_add : g_okT cX5_add tb_X5_add = true := by decide +kernel
abbrev J_X5_add (E : gE) (l : Launch) : Prop := g_J E cX5_add RX5 "add" (some .int) 2 tb_X5_add 1 0 0 l
set_option maxHeartbeats 4000000 in
set_option maxRecDepth 100000 in
theorem p_X5_add_0 {l : Launch} {E : gE} (J : J_X5_add E l) (r1 : Nat) (σ : gS) (M : gM) (N : gN) (hL : g_layC σ) : g_H E 0 0 0 [(0, vR 2), (1, vR r1)] [] (σ, M, N) (b_X5_add_0 r1 σ M) (eISM N) := by
  unfold b_X5_add_0
  refine r_run J 1 (pc' := 1) (lv' := [(0, vR 2), (1, vR r1)]) (st' := [vR 2]) rfl ?_
  refine r_getI J cls5 rfl (k := 1) (by decide) wf_5_17 rfl (ly_2 hL) ?_
  show g_H E 0 0 4 [(0, vR 2), (1, vR r1)] [vI (M 2 1)] (σ, M, N) _ _
  refine r_run J 1 (pc' := 6) (lv' := [(0, vR 2), (1, vR r1)]) (st' := [vI 10, vI (M 2 1)]) rfl ?_
  refine r_icmp_lt J (tgt := 11) rfl (by decide) (fun c6 => ?_) (fun c6 => ?_)
  · refine r_run J 1 (pc' := 12) (lv' := [(0, vR 2), (1, vR r1)]) (st' := [vR 2]) rfl ?_
    refine r_getR J cls5 rfl (k := 0) (t := 17) (by decide) wf_5_11 rfl rfl (ly_2 hL) (lr_2_0 hL) (fun _ => ?_)
    show g_H E 0 0 15 [(0, vR 2), (1, vR r1)] [vR 3] (σ, M, N) _ _
    refine r_run J 1 (pc' := 16) (lv' := [(0, vR 2), (1, vR r1)]) (st' := [vR 2, vR 3]) rfl ?_
    refine r_getI J cls5 rfl (k := 1) (by decide) wf_5_17 rfl (ly_2 hL) ?_
    show g_H E 0 0 19 [(0, vR 2), (1, vR r1)] [vI (M 2 1), vR 3] (σ, M, N) _ _
    refine r_run J 1 (pc' := 20) (lv' := [(0, vR 2), (1, vR r1)]) (st' := [vR r1, vI (M 2 1), vR 3]) rfl ?_
    refine r_chk (fun hs20 => ?_)
    refine r_aast J rfl (Or.inl ⟨rfl, rfl⟩) (ly_3 hL) (g_is_at hs20) cls6 (fun i20 => ?_)
    show g_H E 0 0 21 [(0, vR 2), (1, vR r1)] [] ((g_pS σ 3 ((M 2 1).toNatClampNeg) r1), M, N) _ _
    refine r_chk (fun hl21 => ?_)
    refine r_run J 2 (pc' := 23) (lv' := [(0, vR 2), (1, vR r1)]) (st' := [vR 2, vR 2]) rfl ?_
    refine r_getI J cls5 rfl (k := 1) (by decide) wf_5_17 rfl (ly_2 (g_layC.of hl21)) ?_
    show g_H E 0 0 26 [(0, vR 2), (1, vR r1)] [vI (M 2 1), vR 2] ((g_pS σ 3 ((M 2 1).toNatClampNeg) r1), M, N) _ _
    refine r_run J 2 (pc' := 28) (lv' := [(0, vR 2), (1, vR r1)]) (st' := [vI ((M 2 1) + (1 : Int32)), vR 2]) rfl ?_
    refine r_putI J cls5 rfl (k := 1) (by decide) wf_5_17 rfl (Or.inl rfl) ⟨rfl, rfl⟩ (ly_2 (g_layC.of hl21)) ?_
    show g_H E 0 0 31 [(0, vR 2), (1, vR r1)] [] ((g_pS σ 3 ((M 2 1).toNatClampNeg) r1), (g_up M 2 1 ((M 2 1) + (1 : Int32))), N) _ _
    refine r_run J 1 (pc' := 32) (lv' := [(0, vR 2), (1, vR r1)]) (st' := [vR 2]) rfl ?_
    refine r_getI J cls5 rfl (k := 1) (by decide) wf_5_17 rfl (ly_2 (g_layC.of hl21)) ?_
    show g_H E 0 0 35 [(0, vR 2), (1, vR r1)] [vI ((g_up M 2 1 ((M 2 1) + (1 : Int32))) 2 1)] ((g_pS σ 3 ((M 2 1).toNatClampNeg) r1), (g_up M 2 1 ((M 2 1) + (1 : Int32))), N) _ _
    refine r_run J 2 (pc' := 37) (lv' := [(0, vR 2), (1, vR r1)]) (st' := [vI (((g_up M 2 1 ((M 2 1) + (1 : Int32))) 2 1) - (1 : Int32))]) rfl ?_
    exact r_iret J rfl rfl rfl rfl (by decide) (by decide)
  · refine r_run J 1 (pc' := 10) (lv' := [(0, vR 2), (1, vR r1)]) (st' := [vI (-1)]) rfl ?_
    exact r_iret J rfl rfl rfl rfl (by decide) (by decide)
theorem c_X5_add {l : Launch} (r1 : Nat) (σ : gS) (M : gM) (N : gN) (hL : g_layC σ) (r : Int32 × gS × gM) (h : f_X5_add r1 σ M = some r) : g_Ct l yX5_add cX5_add 2 (some .int) 1 0 0 [vR 2, vR r1] (σ, M, N) (eISM N r) :=
  g_Ct.of tb_X5_add (by decide +kernel) tk_X5_add (Nat.le_of_ble_eq_true rfl) (fun E J => p_X5_add_0 J r1 σ M N hL r h)
def tb_X5_at : gT := [(0, .iload_n 1, 1, 0), (1, .ifCond .lt 20, 3, 0), (4, .iload_n 1, 1, 0), (5, .aload_n 0, 1, 0), (6, .getfield 17, 3, 0), (9, .if_icmp .ge 12, 3, 0), (12, .aload_n 0, 1, 0), (13, .getfield 11, 3, 0), (16, .iload_n 1, 1, 0), (17, .aaload, 1, 0), (18, .goto 4, 3, 0), (21, .aconst_null, 1, 0), (22, .areturn, 1, 0)]
set_option maxRecDepth 100000 in
theorem tk_X5_at : g_okT cX5_at tb_X5_at = true := by decide +kernel
abbrev J_X5_at (E : gE) (l : Launch) : Prop := g_J E cX5_at RX5 "at" (some (.object RX6)) 2 tb_X5_at 1 0 0 l
set_option maxHeartbeats 4000000 in
set_option maxRecDepth 100000 in
theorem p_X5_at_0 {l : Launch} {E : gE} (J : J_X5_at E l) (x1 : Int32) (σ : gS) (M : gM) (N : gN) (hL : g_layC σ) : g_H E 0 0 0 [(0, vR 2), (1, vI x1)] [] (σ, M, N) (b_X5_at_0 x1 σ M) (eR σ M N) := by
  unfold b_X5_at_0
  refine r_run J 1 (pc' := 1) (lv' := [(0, vR 2), (1, vI x1)]) (st' := [vI x1]) rfl ?_
  refine r_if_lt J (tgt := 21) rfl (by decide) (fun c1 => ?_) (fun c1 => ?_)
  · refine r_run J 1 (pc' := 22) (lv' := [(0, vR 2), (1, vI x1)]) (st' := [vR 0]) rfl ?_
    exact r_aret J rfl rfl (Or.inl ⟨_, rfl⟩) rfl (by decide) (by decide)
  · refine r_run J 2 (pc' := 6) (lv' := [(0, vR 2), (1, vI x1)]) (st' := [vR 2, vI x1]) rfl ?_
    refine r_getI J cls5 rfl (k := 1) (by decide) wf_5_17 rfl (ly_2 hL) ?_
    show g_H E 0 0 9 [(0, vR 2), (1, vI x1)] [vI (M 2 1), vI x1] (σ, M, N) _ _
    refine r_icmp_ge J (tgt := 21) rfl (by decide) (fun c9 => ?_) (fun c9 => ?_)
    · refine r_run J 1 (pc' := 13) (lv' := [(0, vR 2), (1, vI x1)]) (st' := [vR 2]) rfl ?_
      refine r_getR J cls5 rfl (k := 0) (t := 17) (by decide) wf_5_11 rfl rfl (ly_2 hL) (lr_2_0 hL) (fun _ => ?_)
      show g_H E 0 0 16 [(0, vR 2), (1, vI x1)] [vR 3] (σ, M, N) _ _
      refine r_run J 1 (pc' := 17) (lv' := [(0, vR 2), (1, vI x1)]) (st' := [vI x1, vR 3]) rfl ?_
      refine r_aald J rfl (Or.inl ⟨rfl, rfl⟩) (ly_3 hL) (fun i17 _ => ?_)
      show g_H E 0 0 18 [(0, vR 2), (1, vI x1)] [vR (σ.2 3 x1.toNatClampNeg)] (σ, M, N) _ _
      refine r_run J 1 (pc' := 22) (lv' := [(0, vR 2), (1, vI x1)]) (st' := [vR (σ.2 3 x1.toNatClampNeg)]) rfl ?_
      exact r_aret J rfl rfl (Or.inl ⟨_, rfl⟩) rfl (by decide) (by decide)
    · refine r_run J 1 (pc' := 22) (lv' := [(0, vR 2), (1, vI x1)]) (st' := [vR 0]) rfl ?_
      exact r_aret J rfl rfl (Or.inl ⟨_, rfl⟩) rfl (by decide) (by decide)
theorem c_X5_at {l : Launch} (x1 : Int32) (σ : gS) (M : gM) (N : gN) (hL : g_layC σ) (r : Nat) (h : f_X5_at x1 σ M = some r) : g_Ct l yX5_at cX5_at 2 (some (.object RX6)) 1 0 0 [vR 2, vI x1] (σ, M, N) (eR σ M N r) :=
  g_Ct.of tb_X5_at (by decide +kernel) tk_X5_at (Nat.le_of_ble_eq_true rfl) (fun E J => p_X5_at_0 J x1 σ M N hL r h)
def tb_X6_isThereIn : gT := [(0, .aload_n 0, 1, 0), (1, .getfield 9, 3, 0), (4, .ifCond .ne 23, 3, 0), (7, .aload_n 0, 1, 0), (8, .getfield 40, 3, 0), (11, .iload_n 1, 1, 0), (12, .if_icmp .gt 15, 3, 0), (15, .aload_n 0, 1, 0), (16, .getfield 43, 3, 0), (19, .iload_n 1, 1, 0), (20, .if_icmp .lt 7, 3, 0), (23, .iconst 1, 1, 1), (24, .goto 4, 3, 0), (27, .iconst 0, 1, 0), (28, .ireturn, 1, 0)]
set_option maxRecDepth 100000 in
theorem tk_X6_isThereIn : g_okT cX6_isThereIn tb_X6_isThereIn = true := by decide +kernel
abbrev J_X6_isThereIn (E : gE) (l : Launch) : Prop := g_J E cX6_isThereIn RX6 "isThereIn" (some .boolean) 2 tb_X6_isThereIn 1 0 0 l
set_option maxHeartbeats 4000000 in
set_option maxRecDepth 100000 in
theorem p_X6_isThereIn_0 {l : Launch} {E : gE} (J : J_X6_isThereIn E l) (r0 : Nat) (x1 : Int32) (σ : gS) (M : gM) (N : gN) (hL : g_layC σ) : g_H E 0 0 0 [(0, vR r0), (1, vI x1)] [] (σ, M, N) (b_X6_isThereIn_0 r0 x1 σ M) (eI σ M N) := by
  unfold b_X6_isThereIn_0
  refine r_run J 1 (pc' := 1) (lv' := [(0, vR r0), (1, vI x1)]) (st' := [vR r0]) rfl ?_
  refine r_chk (fun hs1 => ?_)
  refine r_getI J cls6 rfl (k := 6) (by decide) wf_6_9 rfl (g_is_at hs1) ?_
  show g_H E 0 0 4 [(0, vR r0), (1, vI x1)] [vI (M r0 6)] (σ, M, N) _ _
  refine r_if_ne J (tgt := 27) rfl (by decide) (fun c4 => ?_) (fun c4 => ?_)
  · refine r_run J 1 (pc' := 8) (lv' := [(0, vR r0), (1, vI x1)]) (st' := [vR r0]) rfl ?_
    refine r_getI J cls6 rfl (k := 4) (by decide) wf_6_40 rfl (g_is_at hs1) ?_
    show g_H E 0 0 11 [(0, vR r0), (1, vI x1)] [vI (M r0 4)] (σ, M, N) _ _
    refine r_run J 1 (pc' := 12) (lv' := [(0, vR r0), (1, vI x1)]) (st' := [vI x1, vI (M r0 4)]) rfl ?_
    refine r_icmp_gt J (tgt := 27) rfl (by decide) (fun c12 => ?_) (fun c12 => ?_)
    · refine r_run J 1 (pc' := 28) (lv' := [(0, vR r0), (1, vI x1)]) (st' := [vI 0]) rfl ?_
      exact r_iret J rfl rfl rfl rfl (by decide) (by decide)
    · refine r_run J 1 (pc' := 16) (lv' := [(0, vR r0), (1, vI x1)]) (st' := [vR r0]) rfl ?_
      refine r_getI J cls6 rfl (k := 5) (by decide) wf_6_43 rfl (g_is_at hs1) ?_
      show g_H E 0 0 19 [(0, vR r0), (1, vI x1)] [vI (M r0 5)] (σ, M, N) _ _
      refine r_run J 1 (pc' := 20) (lv' := [(0, vR r0), (1, vI x1)]) (st' := [vI x1, vI (M r0 5)]) rfl ?_
      refine r_icmp_lt J (tgt := 27) rfl (by decide) (fun c20 => ?_) (fun c20 => ?_)
      · refine r_run J 1 (pc' := 28) (lv' := [(0, vR r0), (1, vI x1)]) (st' := [vI 0]) rfl ?_
        exact r_iret J rfl rfl rfl rfl (by decide) (by decide)
      · refine r_run J 2 (pc' := 28) (lv' := [(0, vR r0), (1, vI x1)]) (st' := [vI 1]) rfl ?_
        exact r_iret J rfl rfl rfl rfl (by decide) (by decide)
  · refine r_run J 1 (pc' := 28) (lv' := [(0, vR r0), (1, vI x1)]) (st' := [vI 0]) rfl ?_
    exact r_iret J rfl rfl rfl rfl (by decide) (by decide)
theorem c_X6_isThereIn {l : Launch} (r0 : Nat) (x1 : Int32) (σ : gS) (M : gM) (N : gN) (hL : g_layC σ) (r : Int32) (h : f_X6_isThereIn r0 x1 σ M = some r) : g_Ct l yX6_isThereIn cX6_isThereIn 2 (some .boolean) 1 0 0 [vR r0, vI x1] (σ, M, N) (eI σ M N r) :=
  g_Ct.of tb_X6_isThereIn (by decide +kernel) tk_X6_isThereIn (Nat.le_of_ble_eq_true rfl) (fun E J => p_X6_isThereIn_0 J r0 x1 σ M N hL r h)
def tb_X5_isThere : gT := [(0, .aload_n 0, 1, 0), (1, .iload_n 1, 1, 0), (2, .invokevirtual 21, 3, 0), (5, .astore_n 3, 1, 0), (6, .aload_n 3, 1, 0), (7, .ifnull 15, 3, 0), (10, .aload_n 3, 1, 0), (11, .iload_n 2, 1, 0), (12, .invokevirtual 25, 3, 0), (15, .ifCond .eq 7, 3, 0), (18, .iconst 1, 1, 1), (19, .goto 4, 3, 0), (22, .iconst 0, 1, 0), (23, .ireturn, 1, 0)]
set_option maxRecDepth 100000 in
theorem tk_X5_isThere : g_okT cX5_isThere tb_X5_isThere = true := by decide +kernel
abbrev J_X5_isThere (E : gE) (l : Launch) : Prop := g_J E cX5_isThere RX5 "isThere" (some .boolean) 4 tb_X5_isThere 2 0 0 l
set_option maxHeartbeats 4000000 in
set_option maxRecDepth 100000 in
theorem p_X5_isThere_0 {l : Launch} {E : gE} (J : J_X5_isThere E l) (x1 : Int32) (x2 : Int32) (σ : gS) (M : gM) (N : gN) (hL : g_layC σ) : g_H E 0 0 0 [(0, vR 2), (1, vI x1), (2, vI x2)] [] (σ, M, N) (b_X5_isThere_0 x1 x2 σ M) (eI σ M N) := by
  unfold b_X5_isThere_0
  refine r_run J 2 (pc' := 2) (lv' := [(0, vR 2), (1, vI x1), (2, vI x2)]) (st' := [vI x1, vR 2]) rfl ?_
  refine r_callV J (As := [vI x1]) (st := []) (fun r hr => c_X5_at x1 σ M N hL r hr) cls5 (ly_2 hL) wm_5_21 wy_X5_at wd_X5_at ⟨by decide, by decide, by decide, by decide, Nat.le_of_ble_eq_true rfl⟩ rfl rfl (fun q2 hq2 => ?_)
  show g_H E 0 0 5 [(0, vR 2), (1, vI x1), (2, vI x2)] [vR q2] (σ, M, N) _ _
  refine r_run J 2 (pc' := 7) (lv' := [(3, vR q2), (0, vR 2), (1, vI x1), (2, vI x2)]) (st' := [vR q2]) rfl ?_
  refine r_ifnull J (tgt := 22) rfl (by decide) (fun c7 => ?_) (fun c7 => ?_)
  · refine r_run J 1 (pc' := 23) (lv' := [(3, vR q2), (0, vR 2), (1, vI x1), (2, vI x2)]) (st' := [vI 0]) rfl ?_
    exact r_iret J rfl rfl rfl rfl (by decide) (by decide)
  · refine r_run J 2 (pc' := 12) (lv' := [(3, vR q2), (0, vR 2), (1, vI x1), (2, vI x2)]) (st' := [vI x2, vR q2]) rfl ?_
    refine r_chk (fun hs12 => ?_)
    refine r_callV J (As := [vI x2]) (st := []) (fun r hr => c_X6_isThereIn q2 x2 σ M N hL r hr) cls6 (g_is_at hs12) wm_5_25 wy_X6_isThereIn wd_X6_isThereIn ⟨by decide, by decide, by decide, by decide, Nat.le_of_ble_eq_true rfl⟩ rfl rfl (fun q12 hq12 => ?_)
    show g_H E 0 0 15 [(3, vR q2), (0, vR 2), (1, vI x1), (2, vI x2)] [vI q12] (σ, M, N) _ _
    refine r_if_eq J (tgt := 22) rfl (by decide) (fun c15 => ?_) (fun c15 => ?_)
    · refine r_run J 1 (pc' := 23) (lv' := [(3, vR q2), (0, vR 2), (1, vI x1), (2, vI x2)]) (st' := [vI 0]) rfl ?_
      exact r_iret J rfl rfl rfl rfl (by decide) (by decide)
    · refine r_run J 2 (pc' := 23) (lv' := [(3, vR q2), (0, vR 2), (1, vI x1), (2, vI x2)]) (st' := [vI 1]) rfl ?_
      exact r_iret J rfl rfl rfl rfl (by decide) (by decide)
theorem c_X5_isThere {l : Launch} (x1 : Int32) (x2 : Int32) (σ : gS) (M : gM) (N : gN) (hL : g_layC σ) (r : Int32) (h : f_X5_isThere x1 x2 σ M = some r) : g_Ct l yX5_isThere cX5_isThere 4 (some .boolean) 2 0 0 [vR 2, vI x1, vI x2] (σ, M, N) (eI σ M N r) :=
  g_Ct.of tb_X5_isThere (by decide +kernel) tk_X5_isThere (Nat.le_of_ble_eq_true rfl) (fun E J => p_X5_isThere_0 J x1 x2 σ M N hL r h)
def tb_X6_isBarred : gT := [(0, .aload_n 0, 1, 0), (1, .getfield 19, 3, 0), (4, .iload_n 1, 1, 0), (5, .ishr, 1, 0), (6, .iconst 1, 1, 1), (7, .iand, 1, 0), (8, .ifCond .eq 7, 3, 0), (11, .iconst 1, 1, 1), (12, .goto 4, 3, 0), (15, .iconst 0, 1, 0), (16, .ireturn, 1, 0)]
set_option maxRecDepth 100000 in
theorem tk_X6_isBarred : g_okT cX6_isBarred tb_X6_isBarred = true := by decide +kernel
abbrev J_X6_isBarred (E : gE) (l : Launch) : Prop := g_J E cX6_isBarred RX6 "isBarred" (some .boolean) 2 tb_X6_isBarred 1 0 0 l
set_option maxHeartbeats 4000000 in
set_option maxRecDepth 100000 in
theorem p_X6_isBarred_0 {l : Launch} {E : gE} (J : J_X6_isBarred E l) (r0 : Nat) (x1 : Int32) (σ : gS) (M : gM) (N : gN) (hL : g_layC σ) : g_H E 0 0 0 [(0, vR r0), (1, vI x1)] [] (σ, M, N) (b_X6_isBarred_0 r0 x1 σ M) (eI σ M N) := by
  unfold b_X6_isBarred_0
  refine r_run J 1 (pc' := 1) (lv' := [(0, vR r0), (1, vI x1)]) (st' := [vR r0]) rfl ?_
  refine r_chk (fun hs1 => ?_)
  refine r_getI J cls6 rfl (k := 8) (by decide) wf_6_19 rfl (g_is_at hs1) ?_
  show g_H E 0 0 4 [(0, vR r0), (1, vI x1)] [vI (M r0 8)] (σ, M, N) _ _
  refine r_run J 4 (pc' := 8) (lv' := [(0, vR r0), (1, vI x1)]) (st' := [vI (((M r0 8) >>> (x1 &&& 31)) &&& (1 : Int32))]) rfl ?_
  refine r_if_eq J (tgt := 15) rfl (by decide) (fun c8 => ?_) (fun c8 => ?_)
  · refine r_run J 1 (pc' := 16) (lv' := [(0, vR r0), (1, vI x1)]) (st' := [vI 0]) rfl ?_
    exact r_iret J rfl rfl rfl rfl (by decide) (by decide)
  · refine r_run J 2 (pc' := 16) (lv' := [(0, vR r0), (1, vI x1)]) (st' := [vI 1]) rfl ?_
    exact r_iret J rfl rfl rfl rfl (by decide) (by decide)
theorem c_X6_isBarred {l : Launch} (r0 : Nat) (x1 : Int32) (σ : gS) (M : gM) (N : gN) (hL : g_layC σ) (r : Int32) (h : f_X6_isBarred r0 x1 σ M = some r) : g_Ct l yX6_isBarred cX6_isBarred 2 (some .boolean) 1 0 0 [vR r0, vI x1] (σ, M, N) (eI σ M N r) :=
  g_Ct.of tb_X6_isBarred (by decide +kernel) tk_X6_isBarred (Nat.le_of_ble_eq_true rfl) (fun E J => p_X6_isBarred_0 J r0 x1 σ M N hL r h)
def tb_X5_mayShare : gT := [(0, .aload_n 0, 1, 0), (1, .iload_n 1, 1, 0), (2, .invokevirtual 21, 3, 0), (5, .astore_n 3, 1, 0), (6, .aload_n 0, 1, 0), (7, .iload_n 2, 1, 0), (8, .invokevirtual 21, 3, 0), (11, .astore 4, 2, 0), (13, .aload_n 3, 1, 0), (14, .ifnull 13, 3, 0), (17, .aload 4, 2, 0), (19, .ifnull 8, 3, 0), (22, .iload_n 1, 1, 0), (23, .iload_n 2, 1, 0), (24, .if_icmp .ne 5, 3, 0), (27, .iconst 0, 1, 0), (28, .ireturn, 1, 0), (29, .aload_n 3, 1, 0), (30, .getfield 29, 3, 0), (33, .iload_n 2, 1, 0), (34, .if_icmp .ne 5, 3, 0), (37, .iconst 1, 1, 1), (38, .ireturn, 1, 0), (39, .aload_n 3, 1, 0), (40, .getfield 29, 3, 0), (43, .iconst (-1), 1, (-1)), (44, .if_icmp .ne 24, 3, 0), (47, .aload 4, 2, 0), (49, .getfield 29, 3, 0), (52, .iconst (-1), 1, (-1)), (53, .if_icmp .ne 15, 3, 0), (56, .aload_n 3, 1, 0), (57, .iload_n 2, 1, 0), (58, .invokevirtual 32, 3, 0), (61, .ifCond .ne 7, 3, 0), (64, .iconst 1, 1, 1), (65, .goto 4, 3, 0), (68, .iconst 0, 1, 0), (69, .istore 5, 2, 0), (71, .iload 5, 2, 0), (73, .ifCond .eq 34, 3, 0), (76, .aload_n 3, 1, 0), (77, .getfield 35, 3, 0), (80, .ifCond .eq 27, 3, 0), (83, .aload 4, 2, 0), (85, .getfield 35, 3, 0), (88, .ifCond .eq 19, 3, 0), (91, .aload_n 3, 1, 0), (92, .getfield 39, 3, 0), (95, .aload 4, 2, 0), (97, .getfield 39, 3, 0), (100, .if_icmp .ne 7, 3, 0), (103, .iconst 1, 1, 1), (104, .goto 4, 3, 0), (107, .iconst 0, 1, 0), (108, .ireturn, 1, 0)]
set_option maxRecDepth 100000 in
theorem tk_X5_mayShare : g_okT cX5_mayShare tb_X5_mayShare = true := by decide +kernel
abbrev J_X5_mayShare (E : gE) (l : Launch) : Prop := g_J E cX5_mayShare RX5 "mayShare" (some .boolean) 6 tb_X5_mayShare 2 0 0 l
set_option maxHeartbeats 4000000 in
set_option maxRecDepth 100000 in
theorem p_X5_mayShare_69 {l : Launch} {E : gE} (J : J_X5_mayShare E l) (r3 : Nat) (r4 : Nat) (sx0 : Int32) (σ : gS) (M : gM) (N : gN) (hL : g_layC σ) : g_H E 0 0 69 [(3, vR r3), (4, vR r4)] [vI sx0] (σ, M, N) (b_X5_mayShare_69 r3 r4 sx0 σ M) (eI σ M N) := by
  unfold b_X5_mayShare_69
  refine r_run J 2 (pc' := 73) (lv' := [(5, vI sx0), (3, vR r3), (4, vR r4)]) (st' := [vI sx0]) rfl ?_
  refine r_if_eq J (tgt := 107) rfl (by decide) (fun c73 => ?_) (fun c73 => ?_)
  · refine r_run J 1 (pc' := 108) (lv' := [(5, vI sx0), (3, vR r3), (4, vR r4)]) (st' := [vI 0]) rfl ?_
    exact r_iret J rfl rfl rfl rfl (by decide) (by decide)
  · refine r_run J 1 (pc' := 77) (lv' := [(5, vI sx0), (3, vR r3), (4, vR r4)]) (st' := [vR r3]) rfl ?_
    refine r_chk (fun hs77 => ?_)
    refine r_getI J cls6 rfl (k := 0) (by decide) wf_5_35 rfl (g_is_at hs77) ?_
    show g_H E 0 0 80 [(5, vI sx0), (3, vR r3), (4, vR r4)] [vI (M r3 0)] (σ, M, N) _ _
    refine r_if_eq J (tgt := 107) rfl (by decide) (fun c80 => ?_) (fun c80 => ?_)
    · refine r_run J 1 (pc' := 108) (lv' := [(5, vI sx0), (3, vR r3), (4, vR r4)]) (st' := [vI 0]) rfl ?_
      exact r_iret J rfl rfl rfl rfl (by decide) (by decide)
    · refine r_run J 1 (pc' := 85) (lv' := [(5, vI sx0), (3, vR r3), (4, vR r4)]) (st' := [vR r4]) rfl ?_
      refine r_chk (fun hs85 => ?_)
      refine r_getI J cls6 rfl (k := 0) (by decide) wf_5_35 rfl (g_is_at hs85) ?_
      show g_H E 0 0 88 [(5, vI sx0), (3, vR r3), (4, vR r4)] [vI (M r4 0)] (σ, M, N) _ _
      refine r_if_eq J (tgt := 107) rfl (by decide) (fun c88 => ?_) (fun c88 => ?_)
      · refine r_run J 1 (pc' := 108) (lv' := [(5, vI sx0), (3, vR r3), (4, vR r4)]) (st' := [vI 0]) rfl ?_
        exact r_iret J rfl rfl rfl rfl (by decide) (by decide)
      · refine r_run J 1 (pc' := 92) (lv' := [(5, vI sx0), (3, vR r3), (4, vR r4)]) (st' := [vR r3]) rfl ?_
        refine r_getI J cls6 rfl (k := 1) (by decide) wf_5_39 rfl (g_is_at hs77) ?_
        show g_H E 0 0 95 [(5, vI sx0), (3, vR r3), (4, vR r4)] [vI (M r3 1)] (σ, M, N) _ _
        refine r_run J 1 (pc' := 97) (lv' := [(5, vI sx0), (3, vR r3), (4, vR r4)]) (st' := [vR r4, vI (M r3 1)]) rfl ?_
        refine r_getI J cls6 rfl (k := 1) (by decide) wf_5_39 rfl (g_is_at hs85) ?_
        show g_H E 0 0 100 [(5, vI sx0), (3, vR r3), (4, vR r4)] [vI (M r4 1), vI (M r3 1)] (σ, M, N) _ _
        refine r_icmp_ne J (tgt := 107) rfl (by decide) (fun c100 => ?_) (fun c100 => ?_)
        · refine r_run J 2 (pc' := 108) (lv' := [(5, vI sx0), (3, vR r3), (4, vR r4)]) (st' := [vI 1]) rfl ?_
          exact r_iret J rfl rfl rfl rfl (by decide) (by decide)
        · refine r_run J 1 (pc' := 108) (lv' := [(5, vI sx0), (3, vR r3), (4, vR r4)]) (st' := [vI 0]) rfl ?_
          exact r_iret J rfl rfl rfl rfl (by decide) (by decide)
set_option maxHeartbeats 4000000 in
set_option maxRecDepth 100000 in
theorem p_X5_mayShare_68 {l : Launch} {E : gE} (J : J_X5_mayShare E l) (r3 : Nat) (r4 : Nat) (σ : gS) (M : gM) (N : gN) (hL : g_layC σ) : g_H E 0 0 68 [(3, vR r3), (4, vR r4)] [] (σ, M, N) (b_X5_mayShare_68 r3 r4 σ M) (eI σ M N) := by
  unfold b_X5_mayShare_68
  refine r_run J 1 (pc' := 69) (lv' := [(3, vR r3), (4, vR r4)]) (st' := [vI 0]) rfl ?_
  exact p_X5_mayShare_69 J r3 r4 0 σ M N hL
set_option maxHeartbeats 4000000 in
set_option maxRecDepth 100000 in
theorem p_X5_mayShare_0 {l : Launch} {E : gE} (J : J_X5_mayShare E l) (x1 : Int32) (x2 : Int32) (σ : gS) (M : gM) (N : gN) (hL : g_layC σ) : g_H E 0 0 0 [(0, vR 2), (1, vI x1), (2, vI x2)] [] (σ, M, N) (b_X5_mayShare_0 x1 x2 σ M) (eI σ M N) := by
  unfold b_X5_mayShare_0
  refine r_run J 2 (pc' := 2) (lv' := [(0, vR 2), (1, vI x1), (2, vI x2)]) (st' := [vI x1, vR 2]) rfl ?_
  refine r_callV J (As := [vI x1]) (st := []) (fun r hr => c_X5_at x1 σ M N hL r hr) cls5 (ly_2 hL) wm_5_21 wy_X5_at wd_X5_at ⟨by decide, by decide, by decide, by decide, Nat.le_of_ble_eq_true rfl⟩ rfl rfl (fun q2 hq2 => ?_)
  show g_H E 0 0 5 [(0, vR 2), (1, vI x1), (2, vI x2)] [vR q2] (σ, M, N) _ _
  refine r_run J 3 (pc' := 8) (lv' := [(3, vR q2), (0, vR 2), (1, vI x1), (2, vI x2)]) (st' := [vI x2, vR 2]) rfl ?_
  refine r_callV J (As := [vI x2]) (st := []) (fun r hr => c_X5_at x2 σ M N hL r hr) cls5 (ly_2 hL) wm_5_21 wy_X5_at wd_X5_at ⟨by decide, by decide, by decide, by decide, Nat.le_of_ble_eq_true rfl⟩ rfl rfl (fun q8 hq8 => ?_)
  show g_H E 0 0 11 [(3, vR q2), (0, vR 2), (1, vI x1), (2, vI x2)] [vR q8] (σ, M, N) _ _
  refine r_run J 2 (pc' := 14) (lv' := [(4, vR q8), (3, vR q2), (0, vR 2), (1, vI x1), (2, vI x2)]) (st' := [vR q2]) rfl ?_
  refine r_ifnull J (tgt := 27) rfl (by decide) (fun c14 => ?_) (fun c14 => ?_)
  · refine r_run J 1 (pc' := 28) (lv' := [(4, vR q8), (3, vR q2), (0, vR 2), (1, vI x1), (2, vI x2)]) (st' := [vI 0]) rfl ?_
    exact r_iret J rfl rfl rfl rfl (by decide) (by decide)
  · refine r_run J 1 (pc' := 19) (lv' := [(4, vR q8), (3, vR q2), (0, vR 2), (1, vI x1), (2, vI x2)]) (st' := [vR q8]) rfl ?_
    refine r_ifnull J (tgt := 27) rfl (by decide) (fun c19 => ?_) (fun c19 => ?_)
    · refine r_run J 1 (pc' := 28) (lv' := [(4, vR q8), (3, vR q2), (0, vR 2), (1, vI x1), (2, vI x2)]) (st' := [vI 0]) rfl ?_
      exact r_iret J rfl rfl rfl rfl (by decide) (by decide)
    · refine r_run J 2 (pc' := 24) (lv' := [(4, vR q8), (3, vR q2), (0, vR 2), (1, vI x1), (2, vI x2)]) (st' := [vI x2, vI x1]) rfl ?_
      refine r_icmp_ne J (tgt := 29) rfl (by decide) (fun c24 => ?_) (fun c24 => ?_)
      · refine r_run J 1 (pc' := 28) (lv' := [(4, vR q8), (3, vR q2), (0, vR 2), (1, vI x1), (2, vI x2)]) (st' := [vI 0]) rfl ?_
        exact r_iret J rfl rfl rfl rfl (by decide) (by decide)
      · refine r_run J 1 (pc' := 30) (lv' := [(4, vR q8), (3, vR q2), (0, vR 2), (1, vI x1), (2, vI x2)]) (st' := [vR q2]) rfl ?_
        refine r_chk (fun hs30 => ?_)
        refine r_getI J cls6 rfl (k := 7) (by decide) wf_5_29 rfl (g_is_at hs30) ?_
        show g_H E 0 0 33 [(4, vR q8), (3, vR q2), (0, vR 2), (1, vI x1), (2, vI x2)] [vI (M q2 7)] (σ, M, N) _ _
        refine r_run J 1 (pc' := 34) (lv' := [(4, vR q8), (3, vR q2), (0, vR 2), (1, vI x1), (2, vI x2)]) (st' := [vI x2, vI (M q2 7)]) rfl ?_
        refine r_icmp_ne J (tgt := 39) rfl (by decide) (fun c34 => ?_) (fun c34 => ?_)
        · refine r_run J 1 (pc' := 38) (lv' := [(4, vR q8), (3, vR q2), (0, vR 2), (1, vI x1), (2, vI x2)]) (st' := [vI 1]) rfl ?_
          exact r_iret J rfl rfl rfl rfl (by decide) (by decide)
        · refine r_run J 1 (pc' := 40) (lv' := [(4, vR q8), (3, vR q2), (0, vR 2), (1, vI x1), (2, vI x2)]) (st' := [vR q2]) rfl ?_
          refine r_getI J cls6 rfl (k := 7) (by decide) wf_5_29 rfl (g_is_at hs30) ?_
          show g_H E 0 0 43 [(4, vR q8), (3, vR q2), (0, vR 2), (1, vI x1), (2, vI x2)] [vI (M q2 7)] (σ, M, N) _ _
          refine r_run J 1 (pc' := 44) (lv' := [(4, vR q8), (3, vR q2), (0, vR 2), (1, vI x1), (2, vI x2)]) (st' := [vI (-1), vI (M q2 7)]) rfl ?_
          refine r_icmp_ne J (tgt := 68) rfl (by decide) (fun c44 => ?_) (fun c44 => ?_)
          · refine r_run J 1 (pc' := 49) (lv' := [(4, vR q8), (3, vR q2), (0, vR 2), (1, vI x1), (2, vI x2)]) (st' := [vR q8]) rfl ?_
            refine r_chk (fun hs49 => ?_)
            refine r_getI J cls6 rfl (k := 7) (by decide) wf_5_29 rfl (g_is_at hs49) ?_
            show g_H E 0 0 52 [(4, vR q8), (3, vR q2), (0, vR 2), (1, vI x1), (2, vI x2)] [vI (M q8 7)] (σ, M, N) _ _
            refine r_run J 1 (pc' := 53) (lv' := [(4, vR q8), (3, vR q2), (0, vR 2), (1, vI x1), (2, vI x2)]) (st' := [vI (-1), vI (M q8 7)]) rfl ?_
            refine r_icmp_ne J (tgt := 68) rfl (by decide) (fun c53 => ?_) (fun c53 => ?_)
            · refine r_run J 2 (pc' := 58) (lv' := [(4, vR q8), (3, vR q2), (0, vR 2), (1, vI x1), (2, vI x2)]) (st' := [vI x2, vR q2]) rfl ?_
              refine r_callV J (As := [vI x2]) (st := []) (fun r hr => c_X6_isBarred q2 x2 σ M N hL r hr) cls6 (g_is_at hs30) wm_5_32 wy_X6_isBarred wd_X6_isBarred ⟨by decide, by decide, by decide, by decide, Nat.le_of_ble_eq_true rfl⟩ rfl rfl (fun q58 hq58 => ?_)
              show g_H E 0 0 61 [(4, vR q8), (3, vR q2), (0, vR 2), (1, vI x1), (2, vI x2)] [vI q58] (σ, M, N) _ _
              refine r_if_ne J (tgt := 68) rfl (by decide) (fun c61 => ?_) (fun c61 => ?_)
              · refine r_run J 2 (pc' := 69) (lv' := [(4, vR q8), (3, vR q2), (0, vR 2), (1, vI x1), (2, vI x2)]) (st' := [vI 1]) rfl ?_
                refine r_sub [1, 0] (lv' := [(3, vR q2), (4, vR q8)]) rfl ?_
                exact p_X5_mayShare_69 J q2 q8 1 σ M N hL
              · refine r_sub [1, 0] (lv' := [(3, vR q2), (4, vR q8)]) rfl ?_
                exact p_X5_mayShare_68 J q2 q8 σ M N hL
            · refine r_sub [1, 0] (lv' := [(3, vR q2), (4, vR q8)]) rfl ?_
              exact p_X5_mayShare_68 J q2 q8 σ M N hL
          · refine r_sub [1, 0] (lv' := [(3, vR q2), (4, vR q8)]) rfl ?_
            exact p_X5_mayShare_68 J q2 q8 σ M N hL
theorem c_X5_mayShare {l : Launch} (x1 : Int32) (x2 : Int32) (σ : gS) (M : gM) (N : gN) (hL : g_layC σ) (r : Int32) (h : f_X5_mayShare x1 x2 σ M = some r) : g_Ct l yX5_mayShare cX5_mayShare 6 (some .boolean) 2 0 0 [vR 2, vI x1, vI x2] (σ, M, N) (eI σ M N r) :=
  g_Ct.of tb_X5_mayShare (by decide +kernel) tk_X5_mayShare (Nat.le_of_ble_eq_true rfl) (fun E J => p_X5_mayShare_0 J x1 x2 σ M N hL r h)
def tb_X5_sharersFor : gT := [(0, .iconst 0, 1, 0), (1, .istore_n 2, 1, 0), (2, .iconst 0, 1, 0), (3, .istore_n 3, 1, 0), (4, .iload_n 3, 1, 0), (5, .aload_n 0, 1, 0), (6, .getfield 17, 3, 0), (9, .if_icmp .ge 33, 3, 0), (12, .aload_n 0, 1, 0), (13, .getfield 11, 3, 0), (16, .iload_n 3, 1, 0), (17, .aaload, 1, 0), (18, .getfield 42, 3, 0), (21, .ifCond .ne 15, 3, 0), (24, .aload_n 0, 1, 0), (25, .iload_n 1, 1, 0), (26, .iload_n 3, 1, 0), (27, .invokevirtual 45, 3, 0), (30, .ifCond .eq 6, 3, 0), (33, .iinc 2 1, 3, 1), (36, .iinc 3 1, 3, 1), (39, .goto (-35), 3, 0), (42, .iload_n 2, 1, 0), (43, .ireturn, 1, 0)]
set_option maxRecDepth 100000 in
theorem tk_X5_sharersFor : g_okT cX5_sharersFor tb_X5_sharersFor = true := by decide +kernel
abbrev J_X5_sharersFor (E : gE) (l : Launch) : Prop := g_J E cX5_sharersFor RX5 "sharersFor" (some .int) 4 tb_X5_sharersFor 3 0 0 l
set_option maxHeartbeats 4000000 in
set_option maxRecDepth 100000 in
theorem p_X5_sharersFor_36 {l : Launch} {E : gE} (J : J_X5_sharersFor E l) {k4 : Int32 → Int32 → Int32 → gS → gM → Option (Int32)} (H4 : ∀ (x1 : Int32) (x2 : Int32) (x3 : Int32) (σ : gS) (M : gM) (N : gN) (_ : g_layC σ), g_H E 0 0 4 [(0, vR 2), (1, vI x1), (2, vI x2), (3, vI x3)] [] (σ, M, N) (k4 x1 x2 x3 σ M) (eI σ M N)) (x1 : Int32) (x2 : Int32) (x3 : Int32) (σ : gS) (M : gM) (N : gN) (hL : g_layC σ) : g_H E 0 0 36 [(0, vR 2), (1, vI x1), (2, vI x2), (3, vI x3)] [] (σ, M, N) (b_X5_sharersFor_36 k4 x1 x2 x3 σ M) (eI σ M N) := by
  unfold b_X5_sharersFor_36
  refine r_run J 2 (pc' := 4) (lv' := [(3, vI (x3 + 1)), (0, vR 2), (1, vI x1), (2, vI x2)]) (st' := []) rfl ?_
  refine r_sub [1, 2, 3, 0] (lv' := [(0, vR 2), (1, vI x1), (2, vI x2), (3, vI (x3 + 1))]) rfl ?_
  exact H4 x1 x2 (x3 + 1) σ M N hL
set_option maxHeartbeats 4000000 in
set_option maxRecDepth 100000 in
theorem p_X5_sharersFor_4 {l : Launch} {E : gE} (J : J_X5_sharersFor E l) : ∀ (n : Nat) (x1 : Int32) (x2 : Int32) (x3 : Int32) (σ : gS) (M : gM) (N : gN) (hL : g_layC σ), g_H E 0 0 4 [(0, vR 2), (1, vI x1), (2, vI x2), (3, vI x3)] [] (σ, M, N) (l_X5_sharersFor_4 n x1 x2 x3 σ M) (eI σ M N) := by
  intro n
  induction n with
  | zero => intros; exact h_none
  | succ n ih =>
    intro x1 x2 x3 σ M N hL
    rw [l_X5_sharersFor_4]
    refine r_run J 2 (pc' := 6) (lv' := [(0, vR 2), (1, vI x1), (2, vI x2), (3, vI x3)]) (st' := [vR 2, vI x3]) rfl ?_
    refine r_getI J cls5 rfl (k := 1) (by decide) wf_5_17 rfl (ly_2 hL) ?_
    show g_H E 0 0 9 [(0, vR 2), (1, vI x1), (2, vI x2), (3, vI x3)] [vI (M 2 1), vI x3] (σ, M, N) _ _
    refine r_icmp_ge J (tgt := 42) rfl (by decide) (fun c9 => ?_) (fun c9 => ?_)
    · refine r_run J 1 (pc' := 13) (lv' := [(0, vR 2), (1, vI x1), (2, vI x2), (3, vI x3)]) (st' := [vR 2]) rfl ?_
      refine r_getR J cls5 rfl (k := 0) (t := 17) (by decide) wf_5_11 rfl rfl (ly_2 hL) (lr_2_0 hL) (fun _ => ?_)
      show g_H E 0 0 16 [(0, vR 2), (1, vI x1), (2, vI x2), (3, vI x3)] [vR 3] (σ, M, N) _ _
      refine r_run J 1 (pc' := 17) (lv' := [(0, vR 2), (1, vI x1), (2, vI x2), (3, vI x3)]) (st' := [vI x3, vR 3]) rfl ?_
      refine r_aald J rfl (Or.inl ⟨rfl, rfl⟩) (ly_3 hL) (fun i17 _ => ?_)
      show g_H E 0 0 18 [(0, vR 2), (1, vI x1), (2, vI x2), (3, vI x3)] [vR (σ.2 3 x3.toNatClampNeg)] (σ, M, N) _ _
      refine r_chk (fun hs18 => ?_)
      refine r_getI J cls6 rfl (k := 6) (by decide) wf_5_42 rfl (g_is_at hs18) ?_
      show g_H E 0 0 21 [(0, vR 2), (1, vI x1), (2, vI x2), (3, vI x3)] [vI (M (σ.2 3 x3.toNatClampNeg) 6)] (σ, M, N) _ _
      refine r_if_ne J (tgt := 36) rfl (by decide) (fun c21 => ?_) (fun c21 => ?_)
      · refine r_run J 3 (pc' := 27) (lv' := [(0, vR 2), (1, vI x1), (2, vI x2), (3, vI x3)]) (st' := [vI x3, vI x1, vR 2]) rfl ?_
        refine r_callV J (As := [vI x1, vI x3]) (st := []) (fun r hr => c_X5_mayShare x1 x3 σ M N hL r hr) cls5 (ly_2 hL) wm_5_45 wy_X5_mayShare wd_X5_mayShare ⟨by decide, by decide, by decide, by decide, Nat.le_of_ble_eq_true rfl⟩ rfl rfl (fun q27 hq27 => ?_)
        show g_H E 0 0 30 [(0, vR 2), (1, vI x1), (2, vI x2), (3, vI x3)] [vI q27] (σ, M, N) _ _
        refine r_if_eq J (tgt := 36) rfl (by decide) (fun c30 => ?_) (fun c30 => ?_)
        · exact p_X5_sharersFor_36 J ih x1 x2 x3 σ M N hL
        · refine r_run J 1 (pc' := 36) (lv' := [(2, vI (x2 + 1)), (0, vR 2), (1, vI x1), (3, vI x3)]) (st' := []) rfl ?_
          refine r_sub [1, 2, 0, 3] (lv' := [(0, vR 2), (1, vI x1), (2, vI (x2 + 1)), (3, vI x3)]) rfl ?_
          exact p_X5_sharersFor_36 J ih x1 (x2 + 1) x3 σ M N hL
      · exact p_X5_sharersFor_36 J ih x1 x2 x3 σ M N hL
    · refine r_run J 1 (pc' := 43) (lv' := [(0, vR 2), (1, vI x1), (2, vI x2), (3, vI x3)]) (st' := [vI x2]) rfl ?_
      exact r_iret J rfl rfl rfl rfl (by decide) (by decide)
set_option maxHeartbeats 4000000 in
set_option maxRecDepth 100000 in
theorem p_X5_sharersFor_0 {l : Launch} {E : gE} (J : J_X5_sharersFor E l) (x1 : Int32) (σ : gS) (M : gM) (N : gN) (hL : g_layC σ) : g_H E 0 0 0 [(0, vR 2), (1, vI x1)] [] (σ, M, N) (b_X5_sharersFor_0 x1 σ M) (eI σ M N) := by
  unfold b_X5_sharersFor_0
  refine r_run J 4 (pc' := 4) (lv' := [(3, vI 0), (2, vI 0), (0, vR 2), (1, vI x1)]) (st' := []) rfl ?_
  refine r_sub [2, 3, 1, 0] (lv' := [(0, vR 2), (1, vI x1), (2, vI 0), (3, vI 0)]) rfl ?_
  exact p_X5_sharersFor_4 J g_FU x1 0 0 σ M N hL
theorem c_X5_sharersFor {l : Launch} (x1 : Int32) (σ : gS) (M : gM) (N : gN) (hL : g_layC σ) (r : Int32) (h : f_X5_sharersFor x1 σ M = some r) : g_Ct l yX5_sharersFor cX5_sharersFor 4 (some .int) 3 0 0 [vR 2, vI x1] (σ, M, N) (eI σ M N r) :=
  g_Ct.of tb_X5_sharersFor (by decide +kernel) tk_X5_sharersFor (Nat.le_of_ble_eq_true rfl) (fun E J => p_X5_sharersFor_0 J x1 σ M N hL r h)
def tb_X10_roomAt : gT := [(0, .iload_n 1, 1, 0), (1, .ifCond .lt 20, 3, 0), (4, .iload_n 1, 1, 0), (5, .aload_n 0, 1, 0), (6, .getfield 28, 3, 0), (9, .if_icmp .ge 12, 3, 0), (12, .aload_n 0, 1, 0), (13, .getfield 11, 3, 0), (16, .iload_n 1, 1, 0), (17, .aaload, 1, 0), (18, .goto 4, 3, 0), (21, .aconst_null, 1, 0), (22, .areturn, 1, 0)]
set_option maxRecDepth 100000 in
theorem tk_X10_roomAt : g_okT cX10_roomAt tb_X10_roomAt = true := by decide +kernel
abbrev J_X10_roomAt (E : gE) (l : Launch) : Prop := g_J E cX10_roomAt RX10 "roomAt" (some (.object RX8)) 2 tb_X10_roomAt 1 0 0 l
set_option maxHeartbeats 4000000 in
set_option maxRecDepth 100000 in
theorem p_X10_roomAt_0 {l : Launch} {E : gE} (J : J_X10_roomAt E l) (r0 : Nat) (x1 : Int32) (σ : gS) (M : gM) (N : gN) (hL : g_layC σ) : g_H E 0 0 0 [(0, vR r0), (1, vI x1)] [] (σ, M, N) (b_X10_roomAt_0 r0 x1 σ M) (eR σ M N) := by
  unfold b_X10_roomAt_0
  refine r_run J 1 (pc' := 1) (lv' := [(0, vR r0), (1, vI x1)]) (st' := [vI x1]) rfl ?_
  refine r_if_lt J (tgt := 21) rfl (by decide) (fun c1 => ?_) (fun c1 => ?_)
  · refine r_run J 1 (pc' := 22) (lv' := [(0, vR r0), (1, vI x1)]) (st' := [vR 0]) rfl ?_
    exact r_aret J rfl rfl (Or.inl ⟨_, rfl⟩) rfl (by decide) (by decide)
  · refine r_run J 2 (pc' := 6) (lv' := [(0, vR r0), (1, vI x1)]) (st' := [vR r0, vI x1]) rfl ?_
    refine r_chk (fun hs6 => ?_)
    refine r_getI J cls10 rfl (k := 6) (by decide) wf_10_28 rfl (g_is_at hs6) ?_
    show g_H E 0 0 9 [(0, vR r0), (1, vI x1)] [vI (M r0 6), vI x1] (σ, M, N) _ _
    refine r_icmp_ge J (tgt := 21) rfl (by decide) (fun c9 => ?_) (fun c9 => ?_)
    · refine r_run J 1 (pc' := 13) (lv' := [(0, vR r0), (1, vI x1)]) (st' := [vR r0]) rfl ?_
      refine r_getR J cls10 rfl (k := 3) (t := 18) (by decide) wf_10_11 rfl rfl (g_is_at hs6) rfl (fun _ => ?_)
      show g_H E 0 0 16 [(0, vR r0), (1, vI x1)] [vR (σ.2 r0 3)] (σ, M, N) _ _
      refine r_run J 1 (pc' := 17) (lv' := [(0, vR r0), (1, vI x1)]) (st' := [vI x1, vR (σ.2 r0 3)]) rfl ?_
      refine r_chk (fun hs17 => ?_)
      refine r_aald J rfl (Or.inr (Or.inl ⟨rfl, rfl⟩)) (g_is_at hs17) (fun i17 _ => ?_)
      show g_H E 0 0 18 [(0, vR r0), (1, vI x1)] [vR (σ.2 (σ.2 r0 3) x1.toNatClampNeg)] (σ, M, N) _ _
      refine r_run J 1 (pc' := 22) (lv' := [(0, vR r0), (1, vI x1)]) (st' := [vR (σ.2 (σ.2 r0 3) x1.toNatClampNeg)]) rfl ?_
      exact r_aret J rfl rfl (Or.inl ⟨_, rfl⟩) rfl (by decide) (by decide)
    · refine r_run J 1 (pc' := 22) (lv' := [(0, vR r0), (1, vI x1)]) (st' := [vR 0]) rfl ?_
      exact r_aret J rfl rfl (Or.inl ⟨_, rfl⟩) rfl (by decide) (by decide)
theorem c_X10_roomAt {l : Launch} (r0 : Nat) (x1 : Int32) (σ : gS) (M : gM) (N : gN) (hL : g_layC σ) (r : Nat) (h : f_X10_roomAt r0 x1 σ M = some r) : g_Ct l yX10_roomAt cX10_roomAt 2 (some (.object RX8)) 1 0 0 [vR r0, vI x1] (σ, M, N) (eR σ M N r) :=
  g_Ct.of tb_X10_roomAt (by decide +kernel) tk_X10_roomAt (Nat.le_of_ble_eq_true rfl) (fun E J => p_X10_roomAt_0 J r0 x1 σ M N hL r h)
def tb_X10_guestsOf : gT := [(0, .iconst 0, 1, 0), (1, .istore_n 2, 1, 0), (2, .iconst 0, 1, 0), (3, .istore_n 3, 1, 0), (4, .iload_n 3, 1, 0), (5, .bipush 10, 2, 10), (7, .if_icmp .ge 25, 3, 0), (10, .aload_n 0, 1, 0), (11, .getfield 17, 3, 0), (14, .iload_n 3, 1, 0), (15, .iaload, 1, 0), (16, .iload_n 1, 1, 0), (17, .if_icmp .ne 9, 3, 0), (20, .iload_n 2, 1, 0), (21, .iconst 1, 1, 1), (22, .iload_n 3, 1, 0), (23, .ishl, 1, 0), (24, .ior, 1, 0), (25, .istore_n 2, 1, 0), (26, .iinc 3 1, 3, 1), (29, .goto (-25), 3, 0), (32, .iload_n 2, 1, 0), (33, .ireturn, 1, 0)]
set_option maxRecDepth 100000 in
theorem tk_X10_guestsOf : g_okT cX10_guestsOf tb_X10_guestsOf = true := by decide +kernel
abbrev J_X10_guestsOf (E : gE) (l : Launch) : Prop := g_J E cX10_guestsOf RX10 "guestsOf" (some .int) 4 tb_X10_guestsOf 1 0 0 l
set_option maxHeartbeats 4000000 in
set_option maxRecDepth 100000 in
theorem p_X10_guestsOf_26 {l : Launch} {E : gE} (J : J_X10_guestsOf E l) {k4 : Nat → Int32 → Int32 → Int32 → gS → gM → Option (Int32)} (H4 : ∀ (r0 : Nat) (x1 : Int32) (x2 : Int32) (x3 : Int32) (σ : gS) (M : gM) (N : gN) (_ : g_layC σ), g_H E 0 0 4 [(0, vR r0), (1, vI x1), (2, vI x2), (3, vI x3)] [] (σ, M, N) (k4 r0 x1 x2 x3 σ M) (eI σ M N)) (r0 : Nat) (x1 : Int32) (x2 : Int32) (x3 : Int32) (σ : gS) (M : gM) (N : gN) (hL : g_layC σ) : g_H E 0 0 26 [(0, vR r0), (1, vI x1), (2, vI x2), (3, vI x3)] [] (σ, M, N) (b_X10_guestsOf_26 k4 r0 x1 x2 x3 σ M) (eI σ M N) := by
  unfold b_X10_guestsOf_26
  refine r_run J 2 (pc' := 4) (lv' := [(3, vI (x3 + 1)), (0, vR r0), (1, vI x1), (2, vI x2)]) (st' := []) rfl ?_
  refine r_sub [1, 2, 3, 0] (lv' := [(0, vR r0), (1, vI x1), (2, vI x2), (3, vI (x3 + 1))]) rfl ?_
  exact H4 r0 x1 x2 (x3 + 1) σ M N hL
set_option maxHeartbeats 4000000 in
set_option maxRecDepth 100000 in
theorem p_X10_guestsOf_4 {l : Launch} {E : gE} (J : J_X10_guestsOf E l) : ∀ (n : Nat) (r0 : Nat) (x1 : Int32) (x2 : Int32) (x3 : Int32) (σ : gS) (M : gM) (N : gN) (hL : g_layC σ), g_H E 0 0 4 [(0, vR r0), (1, vI x1), (2, vI x2), (3, vI x3)] [] (σ, M, N) (l_X10_guestsOf_4 n r0 x1 x2 x3 σ M) (eI σ M N) := by
  intro n
  induction n with
  | zero => intros; exact h_none
  | succ n ih =>
    intro r0 x1 x2 x3 σ M N hL
    rw [l_X10_guestsOf_4]
    refine r_run J 2 (pc' := 7) (lv' := [(0, vR r0), (1, vI x1), (2, vI x2), (3, vI x3)]) (st' := [vI 10, vI x3]) rfl ?_
    refine r_icmp_ge J (tgt := 32) rfl (by decide) (fun c7 => ?_) (fun c7 => ?_)
    · refine r_run J 1 (pc' := 11) (lv' := [(0, vR r0), (1, vI x1), (2, vI x2), (3, vI x3)]) (st' := [vR r0]) rfl ?_
      refine r_chk (fun hs11 => ?_)
      refine r_getR J cls10 rfl (k := 4) (t := 14) (by decide) wf_10_17 rfl rfl (g_is_at hs11) rfl (fun _ => ?_)
      show g_H E 0 0 14 [(0, vR r0), (1, vI x1), (2, vI x2), (3, vI x3)] [vR (σ.2 r0 4)] (σ, M, N) _ _
      refine r_run J 1 (pc' := 15) (lv' := [(0, vR r0), (1, vI x1), (2, vI x2), (3, vI x3)]) (st' := [vI x3, vR (σ.2 r0 4)]) rfl ?_
      refine r_chk (fun hs15 => ?_)
      refine r_iald J rfl (g_is_at hs15) (fun i15 => ?_)
      show g_H E 0 0 16 [(0, vR r0), (1, vI x1), (2, vI x2), (3, vI x3)] [vI (M (σ.2 r0 4) x3.toNatClampNeg)] (σ, M, N) _ _
      refine r_run J 1 (pc' := 17) (lv' := [(0, vR r0), (1, vI x1), (2, vI x2), (3, vI x3)]) (st' := [vI x1, vI (M (σ.2 r0 4) x3.toNatClampNeg)]) rfl ?_
      refine r_icmp_ne J (tgt := 26) rfl (by decide) (fun c17 => ?_) (fun c17 => ?_)
      · refine r_run J 6 (pc' := 26) (lv' := [(2, vI (x2 ||| ((1 : Int32) <<< (x3 &&& 31)))), (0, vR r0), (1, vI x1), (3, vI x3)]) (st' := []) rfl ?_
        refine r_sub [1, 2, 0, 3] (lv' := [(0, vR r0), (1, vI x1), (2, vI (x2 ||| ((1 : Int32) <<< (x3 &&& 31)))), (3, vI x3)]) rfl ?_
        exact p_X10_guestsOf_26 J ih r0 x1 (x2 ||| ((1 : Int32) <<< (x3 &&& 31))) x3 σ M N hL
      · exact p_X10_guestsOf_26 J ih r0 x1 x2 x3 σ M N hL
    · refine r_run J 1 (pc' := 33) (lv' := [(0, vR r0), (1, vI x1), (2, vI x2), (3, vI x3)]) (st' := [vI x2]) rfl ?_
      exact r_iret J rfl rfl rfl rfl (by decide) (by decide)
set_option maxHeartbeats 4000000 in
set_option maxRecDepth 100000 in
theorem p_X10_guestsOf_0 {l : Launch} {E : gE} (J : J_X10_guestsOf E l) (r0 : Nat) (x1 : Int32) (σ : gS) (M : gM) (N : gN) (hL : g_layC σ) : g_H E 0 0 0 [(0, vR r0), (1, vI x1)] [] (σ, M, N) (b_X10_guestsOf_0 r0 x1 σ M) (eI σ M N) := by
  unfold b_X10_guestsOf_0
  refine r_run J 4 (pc' := 4) (lv' := [(3, vI 0), (2, vI 0), (0, vR r0), (1, vI x1)]) (st' := []) rfl ?_
  refine r_sub [2, 3, 1, 0] (lv' := [(0, vR r0), (1, vI x1), (2, vI 0), (3, vI 0)]) rfl ?_
  exact p_X10_guestsOf_4 J g_FU r0 x1 0 0 σ M N hL
theorem c_X10_guestsOf {l : Launch} (r0 : Nat) (x1 : Int32) (σ : gS) (M : gM) (N : gN) (hL : g_layC σ) (r : Int32) (h : f_X10_guestsOf r0 x1 σ M = some r) : g_Ct l yX10_guestsOf cX10_guestsOf 4 (some .int) 1 0 0 [vR r0, vI x1] (σ, M, N) (eI σ M N r) :=
  g_Ct.of tb_X10_guestsOf (by decide +kernel) tk_X10_guestsOf (Nat.le_of_ble_eq_true rfl) (fun E J => p_X10_guestsOf_0 J r0 x1 σ M N hL r h)
def tb_J_bitCount : gT := [(0, .iload_n 0, 1, 0), (1, .iload_n 0, 1, 0), (2, .iconst 1, 1, 1), (3, .iushr, 1, 0), (4, .ldc_w 265, 3, 0), (7, .iand, 1, 0), (8, .isub, 1, 0), (9, .istore_n 0, 1, 0), (10, .iload_n 0, 1, 0), (11, .ldc_w 266, 3, 0), (14, .iand, 1, 0), (15, .iload_n 0, 1, 0), (16, .iconst 2, 1, 2), (17, .iushr, 1, 0), (18, .ldc_w 266, 3, 0), (21, .iand, 1, 0), (22, .iadd, 1, 0), (23, .istore_n 0, 1, 0), (24, .iload_n 0, 1, 0), (25, .iload_n 0, 1, 0), (26, .iconst 4, 1, 4), (27, .iushr, 1, 0), (28, .iadd, 1, 0), (29, .ldc_w 267, 3, 0), (32, .iand, 1, 0), (33, .istore_n 0, 1, 0), (34, .iload_n 0, 1, 0), (35, .iload_n 0, 1, 0), (36, .bipush 8, 2, 8), (38, .iushr, 1, 0), (39, .iadd, 1, 0), (40, .istore_n 0, 1, 0), (41, .iload_n 0, 1, 0), (42, .iload_n 0, 1, 0), (43, .bipush 16, 2, 16), (45, .iushr, 1, 0), (46, .iadd, 1, 0), (47, .istore_n 0, 1, 0), (48, .iload_n 0, 1, 0), (49, .bipush 63, 2, 63), (51, .iand, 1, 0), (52, .ireturn, 1, 0)]
set_option maxRecDepth 100000 in
theorem tk_J_bitCount : g_okT prog_16_method_49_code tb_J_bitCount = true := by decide +kernel
abbrev J_J_bitCount (E : gE) (l : Launch) : Prop := g_J E prog_16_method_49_code "java/lang/Integer" "bitCount" (some .int) 1 tb_J_bitCount 1 0 0 l
set_option maxHeartbeats 4000000 in
set_option maxRecDepth 100000 in
theorem p_J_bitCount_48 {l : Launch} {E : gE} (J : J_J_bitCount E l) (x0 : Int32) (σ : gS) (M : gM) (N : gN) : g_H E 0 0 48 [(0, vI x0)] [] (σ, M, N) (b_J_bitCount_48 x0) (eI σ M N) := by
  unfold b_J_bitCount_48
  refine r_run J 3 (pc' := 52) (lv' := [(0, vI x0)]) (st' := [vI (x0 &&& (63 : Int32))]) rfl ?_
  exact r_iret J rfl rfl rfl rfl (by decide) (by decide)
set_option maxHeartbeats 4000000 in
set_option maxRecDepth 100000 in
theorem p_J_bitCount_41 {l : Launch} {E : gE} (J : J_J_bitCount E l) (x0 : Int32) (σ : gS) (M : gM) (N : gN) : g_H E 0 0 41 [(0, vI x0)] [] (σ, M, N) (b_J_bitCount_41 x0) (eI σ M N) := by
  unfold b_J_bitCount_41
  refine r_run J 6 (pc' := 48) (lv' := [(0, vI (x0 + ((x0.toUInt32 >>> ((16 : Int32).toUInt32 &&& Int32.toUInt32 31)).toInt32)))]) (st' := []) rfl ?_
  exact p_J_bitCount_48 J (x0 + ((x0.toUInt32 >>> ((16 : Int32).toUInt32 &&& Int32.toUInt32 31)).toInt32)) σ M N
set_option maxHeartbeats 4000000 in
set_option maxRecDepth 100000 in
theorem p_J_bitCount_34 {l : Launch} {E : gE} (J : J_J_bitCount E l) (x0 : Int32) (σ : gS) (M : gM) (N : gN) : g_H E 0 0 34 [(0, vI x0)] [] (σ, M, N) (b_J_bitCount_34 x0) (eI σ M N) := by
  unfold b_J_bitCount_34
  refine r_run J 6 (pc' := 41) (lv' := [(0, vI (x0 + ((x0.toUInt32 >>> ((8 : Int32).toUInt32 &&& Int32.toUInt32 31)).toInt32)))]) (st' := []) rfl ?_
  exact p_J_bitCount_41 J (x0 + ((x0.toUInt32 >>> ((8 : Int32).toUInt32 &&& Int32.toUInt32 31)).toInt32)) σ M N
set_option maxHeartbeats 4000000 in
set_option maxRecDepth 100000 in
theorem p_J_bitCount_24 {l : Launch} {E : gE} (J : J_J_bitCount E l) (x0 : Int32) (σ : gS) (M : gM) (N : gN) : g_H E 0 0 24 [(0, vI x0)] [] (σ, M, N) (b_J_bitCount_24 x0) (eI σ M N) := by
  unfold b_J_bitCount_24
  refine r_run J 5 (pc' := 29) (lv' := [(0, vI x0)]) (st' := [vI (x0 + ((x0.toUInt32 >>> ((4 : Int32).toUInt32 &&& Int32.toUInt32 31)).toInt32))]) rfl ?_
  refine r_ldcw J rfl wc_Int_267 ?_
  refine r_run J 2 (pc' := 34) (lv' := [(0, vI ((x0 + ((x0.toUInt32 >>> ((4 : Int32).toUInt32 &&& Int32.toUInt32 31)).toInt32)) &&& (252645135 : Int32)))]) (st' := []) rfl ?_
  exact p_J_bitCount_34 J ((x0 + ((x0.toUInt32 >>> ((4 : Int32).toUInt32 &&& Int32.toUInt32 31)).toInt32)) &&& (252645135 : Int32)) σ M N
set_option maxHeartbeats 4000000 in
set_option maxRecDepth 100000 in
theorem p_J_bitCount_10 {l : Launch} {E : gE} (J : J_J_bitCount E l) (x0 : Int32) (σ : gS) (M : gM) (N : gN) : g_H E 0 0 10 [(0, vI x0)] [] (σ, M, N) (b_J_bitCount_10 x0) (eI σ M N) := by
  unfold b_J_bitCount_10
  refine r_run J 1 (pc' := 11) (lv' := [(0, vI x0)]) (st' := [vI x0]) rfl ?_
  refine r_ldcw J rfl wc_Int_266 ?_
  refine r_run J 4 (pc' := 18) (lv' := [(0, vI x0)]) (st' := [vI ((x0.toUInt32 >>> ((2 : Int32).toUInt32 &&& Int32.toUInt32 31)).toInt32), vI (x0 &&& (858993459 : Int32))]) rfl ?_
  refine r_ldcw J rfl wc_Int_266 ?_
  refine r_run J 3 (pc' := 24) (lv' := [(0, vI ((x0 &&& (858993459 : Int32)) + (((x0.toUInt32 >>> ((2 : Int32).toUInt32 &&& Int32.toUInt32 31)).toInt32) &&& (858993459 : Int32))))]) (st' := []) rfl ?_
  exact p_J_bitCount_24 J ((x0 &&& (858993459 : Int32)) + (((x0.toUInt32 >>> ((2 : Int32).toUInt32 &&& Int32.toUInt32 31)).toInt32) &&& (858993459 : Int32))) σ M N
set_option maxHeartbeats 4000000 in
set_option maxRecDepth 100000 in
theorem p_J_bitCount_0 {l : Launch} {E : gE} (J : J_J_bitCount E l) (x0 : Int32) (σ : gS) (M : gM) (N : gN) : g_H E 0 0 0 [(0, vI x0)] [] (σ, M, N) (b_J_bitCount_0 x0) (eI σ M N) := by
  unfold b_J_bitCount_0
  refine r_run J 4 (pc' := 4) (lv' := [(0, vI x0)]) (st' := [vI ((x0.toUInt32 >>> ((1 : Int32).toUInt32 &&& Int32.toUInt32 31)).toInt32), vI x0]) rfl ?_
  refine r_ldcw J rfl wc_Int_265 ?_
  refine r_run J 3 (pc' := 10) (lv' := [(0, vI (x0 - (((x0.toUInt32 >>> ((1 : Int32).toUInt32 &&& Int32.toUInt32 31)).toInt32) &&& (1431655765 : Int32))))]) (st' := []) rfl ?_
  exact p_J_bitCount_10 J (x0 - (((x0.toUInt32 >>> ((1 : Int32).toUInt32 &&& Int32.toUInt32 31)).toInt32) &&& (1431655765 : Int32))) σ M N
theorem c_J_bitCount {l : Launch} (x0 : Int32) (σ : gS) (M : gM) (N : gN) (r : Int32) (h : f_J_bitCount x0 = some r) : g_Ct l yJ_bitCount prog_16_method_49_code 1 (some .int) 1 0 0 [vI x0] (σ, M, N) (eI σ M N r) :=
  g_Ct.of tb_J_bitCount (by decide +kernel) tk_J_bitCount (Nat.le_of_ble_eq_true rfl) (fun E J => p_J_bitCount_0 J x0 σ M N r h)
