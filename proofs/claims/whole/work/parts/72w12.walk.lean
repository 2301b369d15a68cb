def tb_X5_sharesWithAll : gT := [(0, .iconst 0, 1, 0), (1, .istore_n 3, 1, 0), (2, .iload_n 3, 1, 0), (3, .aload_n 0, 1, 0), (4, .getfield 17, 3, 0), (7, .if_icmp .ge 28, 3, 0), (10, .iload_n 2, 1, 0), (11, .iload_n 3, 1, 0), (12, .ishr, 1, 0), (13, .iconst 1, 1, 1), (14, .iand, 1, 0), (15, .ifCond .eq 14, 3, 0), (18, .aload_n 0, 1, 0), (19, .iload_n 1, 1, 0), (20, .iload_n 3, 1, 0), (21, .invokevirtual 45, 3, 0), (24, .ifCond .ne 5, 3, 0), (27, .iconst 0, 1, 0), (28, .ireturn, 1, 0), (29, .iinc 3 1, 3, 1), (32, .goto (-30), 3, 0), (35, .iconst 1, 1, 1), (36, .ireturn, 1, 0)]
set_option maxRecDepth 100000 in
theorem tk_X5_sharesWithAll : g_okT cX5_sharesWithAll tb_X5_sharesWithAll = true := by decide +kernel
abbrev J_X5_sharesWithAll (E : gE) (l : Launch) : Prop := g_J E cX5_sharesWithAll RX5 "sharesWithAll" (some .boolean) 4 tb_X5_sharesWithAll 3 0 0 l
set_option maxHeartbeats 4000000 in
set_option maxRecDepth 100000 in
theorem p_X5_sharesWithAll_29 {l : Launch} {E : gE} (J : J_X5_sharesWithAll E l) {k2 : Int32 → Int32 → Int32 → gS → gM → Option (Int32)} (H2 : ∀ (x1 : Int32) (x2 : Int32) (x3 : Int32) (σ : gS) (M : gM) (N : gN) (_ : g_layC σ), g_H E 0 0 2 [(0, vR 2), (1, vI x1), (2, vI x2), (3, vI x3)] [] (σ, M, N) (k2 x1 x2 x3 σ M) (eI σ M N)) (x1 : Int32) (x2 : Int32) (x3 : Int32) (σ : gS) (M : gM) (N : gN) (hL : g_layC σ) : g_H E 0 0 29 [(0, vR 2), (1, vI x1), (2, vI x2), (3, vI x3)] [] (σ, M, N) (b_X5_sharesWithAll_29 k2 x1 x2 x3 σ M) (eI σ M N) := by
  unfold b_X5_sharesWithAll_29
  refine r_run J 2 (pc' := 2) (lv' := [(3, vI (x3 + 1)), (0, vR 2), (1, vI x1), (2, vI x2)]) (st' := []) rfl ?_
  refine r_sub [1, 2, 3, 0] (lv' := [(0, vR 2), (1, vI x1), (2, vI x2), (3, vI (x3 + 1))]) rfl ?_
  exact H2 x1 x2 (x3 + 1) σ M N hL
set_option maxHeartbeats 4000000 in
set_option maxRecDepth 100000 in
theorem p_X5_sharesWithAll_2 {l : Launch} {E : gE} (J : J_X5_sharesWithAll E l) : ∀ (n : Nat) (x1 : Int32) (x2 : Int32) (x3 : Int32) (σ : gS) (M : gM) (N : gN) (hL : g_layC σ), g_H E 0 0 2 [(0, vR 2), (1, vI x1), (2, vI x2), (3, vI x3)] [] (σ, M, N) (l_X5_sharesWithAll_2 n x1 x2 x3 σ M) (eI σ M N) := by
  intro n
  induction n with
  | zero => intros; exact h_none
  | succ n ih =>
    intro x1 x2 x3 σ M N hL
    rw [l_X5_sharesWithAll_2]
    refine r_run J 2 (pc' := 4) (lv' := [(0, vR 2), (1, vI x1), (2, vI x2), (3, vI x3)]) (st' := [vR 2, vI x3]) rfl ?_
    refine r_getI J cls5 rfl (k := 1) (by decide) wf_5_17 rfl (ly_2 hL) ?_
    show g_H E 0 0 7 [(0, vR 2), (1, vI x1), (2, vI x2), (3, vI x3)] [vI (M 2 1), vI x3] (σ, M, N) _ _
    refine r_icmp_ge J (tgt := 35) rfl (by decide) (fun c7 => ?_) (fun c7 => ?_)
    · refine r_run J 5 (pc' := 15) (lv' := [(0, vR 2), (1, vI x1), (2, vI x2), (3, vI x3)]) (st' := [vI ((x2 >>> (x3 &&& 31)) &&& (1 : Int32))]) rfl ?_
      refine r_if_eq J (tgt := 29) rfl (by decide) (fun c15 => ?_) (fun c15 => ?_)
      · exact p_X5_sharesWithAll_29 J ih x1 x2 x3 σ M N hL
      · refine r_run J 3 (pc' := 21) (lv' := [(0, vR 2), (1, vI x1), (2, vI x2), (3, vI x3)]) (st' := [vI x3, vI x1, vR 2]) rfl ?_
        refine r_callV J (As := [vI x1, vI x3]) (st := []) (fun r hr => c_X5_mayShare x1 x3 σ M N hL r hr) cls5 (ly_2 hL) wm_5_45 wy_X5_mayShare wd_X5_mayShare ⟨by decide, by decide, by decide, by decide, Nat.le_of_ble_eq_true rfl⟩ rfl rfl (fun q21 hq21 => ?_)
        show g_H E 0 0 24 [(0, vR 2), (1, vI x1), (2, vI x2), (3, vI x3)] [vI q21] (σ, M, N) _ _
        refine r_if_ne J (tgt := 29) rfl (by decide) (fun c24 => ?_) (fun c24 => ?_)
        · refine r_run J 1 (pc' := 28) (lv' := [(0, vR 2), (1, vI x1), (2, vI x2), (3, vI x3)]) (st' := [vI 0]) rfl ?_
          exact r_iret J rfl rfl rfl rfl (by decide) (by decide)
        · exact p_X5_sharesWithAll_29 J ih x1 x2 x3 σ M N hL
    · refine r_run J 1 (pc' := 36) (lv' := [(0, vR 2), (1, vI x1), (2, vI x2), (3, vI x3)]) (st' := [vI 1]) rfl ?_
      exact r_iret J rfl rfl rfl rfl (by decide) (by decide)
set_option maxHeartbeats 4000000 in
set_option maxRecDepth 100000 in
theorem p_X5_sharesWithAll_0 {l : Launch} {E : gE} (J : J_X5_sharesWithAll E l) (x1 : Int32) (x2 : Int32) (σ : gS) (M : gM) (N : gN) (hL : g_layC σ) : g_H E 0 0 0 [(0, vR 2), (1, vI x1), (2, vI x2)] [] (σ, M, N) (b_X5_sharesWithAll_0 x1 x2 σ M) (eI σ M N) := by
  unfold b_X5_sharesWithAll_0
  refine r_run J 2 (pc' := 2) (lv' := [(3, vI 0), (0, vR 2), (1, vI x1), (2, vI x2)]) (st' := []) rfl ?_
  refine r_sub [1, 2, 3, 0] (lv' := [(0, vR 2), (1, vI x1), (2, vI x2), (3, vI 0)]) rfl ?_
  exact p_X5_sharesWithAll_2 J g_FU x1 x2 0 σ M N hL
theorem c_X5_sharesWithAll {l : Launch} (x1 : Int32) (x2 : Int32) (σ : gS) (M : gM) (N : gN) (hL : g_layC σ) (r : Int32) (h : f_X5_sharesWithAll x1 x2 σ M = some r) : g_Ct l yX5_sharesWithAll cX5_sharesWithAll 4 (some .boolean) 3 0 0 [vR 2, vI x1, vI x2] (σ, M, N) (eI σ M N r) :=
  g_Ct.of tb_X5_sharesWithAll (by decide +kernel) tk_X5_sharesWithAll (Nat.le_of_ble_eq_true rfl) (fun E J => p_X5_sharesWithAll_0 J x1 x2 σ M N hL r h)
def tb_X5_fits : gT := [(0, .aload_n 0, 1, 0), (1, .iload_n 2, 1, 0), (2, .invokevirtual 21, 3, 0), (5, .astore 4, 2, 0), (7, .aload_n 1, 1, 0), (8, .iload_n 3, 1, 0), (9, .invokevirtual 49, 3, 0), (12, .astore 5, 2, 0), (14, .aload 4, 2, 0), (16, .ifnull 32, 3, 0), (19, .aload 5, 2, 0), (21, .ifnull 27, 3, 0), (24, .aload 5, 2, 0), (26, .getfield 55, 3, 0), (29, .ifCond .eq 19, 3, 0), (32, .aload 4, 2, 0), (34, .getfield 60, 3, 0), (37, .ifCond .eq 13, 3, 0), (40, .aload 5, 2, 0), (42, .getfield 63, 3, 0), (45, .ifCond .ne 5, 3, 0), (48, .iconst 0, 1, 0), (49, .ireturn, 1, 0), (50, .aload_n 1, 1, 0), (51, .iload_n 3, 1, 0), (52, .invokevirtual 64, 3, 0), (55, .iconst 1, 1, 1), (56, .iload_n 2, 1, 0), (57, .ishl, 1, 0), (58, .iconst (-1), 1, (-1)), (59, .ixor, 1, 0), (60, .iand, 1, 0), (61, .istore 6, 2, 0), (63, .iload 6, 2, 0), (65, .invokestatic 68, 3, 0), (68, .aload 5, 2, 0), (70, .getfield 73, 3, 0), (73, .if_icmp .ge 17, 3, 0), (76, .aload_n 0, 1, 0), (77, .iload_n 2, 1, 0), (78, .iload 6, 2, 0), (80, .invokevirtual 76, 3, 0), (83, .ifCond .eq 7, 3, 0), (86, .iconst 1, 1, 1), (87, .goto 4, 3, 0), (90, .iconst 0, 1, 0), (91, .ireturn, 1, 0)]
set_option maxRecDepth 100000 in
theorem tk_X5_fits : g_okT cX5_fits tb_X5_fits = true := by decide +kernel
abbrev J_X5_fits (E : gE) (l : Launch) : Prop := g_J E cX5_fits RX5 "fits" (some .boolean) 7 tb_X5_fits 4 0 0 l
set_option maxHeartbeats 4000000 in
set_option maxRecDepth 100000 in
theorem p_X5_fits_50 {l : Launch} {E : gE} (J : J_X5_fits E l) (r1 : Nat) (x2 : Int32) (x3 : Int32) (r5 : Nat) (σ : gS) (M : gM) (N : gN) (hL : g_layC σ) : g_H E 0 0 50 [(0, vR 2), (1, vR r1), (2, vI x2), (3, vI x3), (5, vR r5)] [] (σ, M, N) (b_X5_fits_50 r1 x2 x3 r5 σ M) (eI σ M N) := by
  unfold b_X5_fits_50
  refine r_run J 2 (pc' := 52) (lv' := [(0, vR 2), (1, vR r1), (2, vI x2), (3, vI x3), (5, vR r5)]) (st' := [vI x3, vR r1]) rfl ?_
  refine r_chk (fun hs52 => ?_)
  refine r_callV J (As := [vI x3]) (st := []) (fun r hr => c_X10_guestsOf r1 x3 σ M N hL r hr) cls10 (g_is_at hs52) wm_5_64 wy_X10_guestsOf wd_X10_guestsOf ⟨by decide, by decide, by decide, by decide, Nat.le_of_ble_eq_true rfl⟩ rfl rfl (fun q52 hq52 => ?_)
  show g_H E 0 0 55 [(0, vR 2), (1, vR r1), (2, vI x2), (3, vI x3), (5, vR r5)] [vI q52] (σ, M, N) _ _
  refine r_run J 8 (pc' := 65) (lv' := [(6, vI (q52 &&& (((1 : Int32) <<< (x2 &&& 31)) ^^^ (-1 : Int32)))), (0, vR 2), (1, vR r1), (2, vI x2), (3, vI x3), (5, vR r5)]) (st' := [vI (q52 &&& (((1 : Int32) <<< (x2 &&& 31)) ^^^ (-1 : Int32)))]) rfl ?_
  refine r_callS J (As := [vI (q52 &&& (((1 : Int32) <<< (x2 &&& 31)) ^^^ (-1 : Int32)))]) (st := []) (fun r hr => c_J_bitCount (q52 &&& (((1 : Int32) <<< (x2 &&& 31)) ^^^ (-1 : Int32))) σ M N r hr) wm_5_68 wy_J_bitCount wd_J_bitCount ⟨by decide, by decide, by decide, by decide, Nat.le_of_ble_eq_true rfl⟩ rfl rfl (fun q65 hq65 => ?_)
  show g_H E 0 0 68 [(6, vI (q52 &&& (((1 : Int32) <<< (x2 &&& 31)) ^^^ (-1 : Int32)))), (0, vR 2), (1, vR r1), (2, vI x2), (3, vI x3), (5, vR r5)] [vI q65] (σ, M, N) _ _
  refine r_run J 1 (pc' := 70) (lv' := [(6, vI (q52 &&& (((1 : Int32) <<< (x2 &&& 31)) ^^^ (-1 : Int32)))), (0, vR 2), (1, vR r1), (2, vI x2), (3, vI x3), (5, vR r5)]) (st' := [vR r5, vI q65]) rfl ?_
  refine r_chk (fun hs70 => ?_)
  refine r_getI J cls8 rfl (k := 0) (by decide) wf_5_73 rfl (g_is_at hs70) ?_
  show g_H E 0 0 73 [(6, vI (q52 &&& (((1 : Int32) <<< (x2 &&& 31)) ^^^ (-1 : Int32)))), (0, vR 2), (1, vR r1), (2, vI x2), (3, vI x3), (5, vR r5)] [vI (M r5 0), vI q65] (σ, M, N) _ _
  refine r_icmp_ge J (tgt := 90) rfl (by decide) (fun c73 => ?_) (fun c73 => ?_)
  · refine r_run J 3 (pc' := 80) (lv' := [(6, vI (q52 &&& (((1 : Int32) <<< (x2 &&& 31)) ^^^ (-1 : Int32)))), (0, vR 2), (1, vR r1), (2, vI x2), (3, vI x3), (5, vR r5)]) (st' := [vI (q52 &&& (((1 : Int32) <<< (x2 &&& 31)) ^^^ (-1 : Int32))), vI x2, vR 2]) rfl ?_
    refine r_callV J (As := [vI x2, vI (q52 &&& (((1 : Int32) <<< (x2 &&& 31)) ^^^ (-1 : Int32)))]) (st := []) (fun r hr => c_X5_sharesWithAll x2 (q52 &&& (((1 : Int32) <<< (x2 &&& 31)) ^^^ (-1 : Int32))) σ M N hL r hr) cls5 (ly_2 hL) wm_5_76 wy_X5_sharesWithAll wd_X5_sharesWithAll ⟨by decide, by decide, by decide, by decide, Nat.le_of_ble_eq_true rfl⟩ rfl rfl (fun q80 hq80 => ?_)
    show g_H E 0 0 83 [(6, vI (q52 &&& (((1 : Int32) <<< (x2 &&& 31)) ^^^ (-1 : Int32)))), (0, vR 2), (1, vR r1), (2, vI x2), (3, vI x3), (5, vR r5)] [vI q80] (σ, M, N) _ _
    refine r_if_eq J (tgt := 90) rfl (by decide) (fun c83 => ?_) (fun c83 => ?_)
    · refine r_run J 1 (pc' := 91) (lv' := [(6, vI (q52 &&& (((1 : Int32) <<< (x2 &&& 31)) ^^^ (-1 : Int32)))), (0, vR 2), (1, vR r1), (2, vI x2), (3, vI x3), (5, vR r5)]) (st' := [vI 0]) rfl ?_
      exact r_iret J rfl rfl rfl rfl (by decide) (by decide)
    · refine r_run J 2 (pc' := 91) (lv' := [(6, vI (q52 &&& (((1 : Int32) <<< (x2 &&& 31)) ^^^ (-1 : Int32)))), (0, vR 2), (1, vR r1), (2, vI x2), (3, vI x3), (5, vR r5)]) (st' := [vI 1]) rfl ?_
      exact r_iret J rfl rfl rfl rfl (by decide) (by decide)
  · refine r_run J 1 (pc' := 91) (lv' := [(6, vI (q52 &&& (((1 : Int32) <<< (x2 &&& 31)) ^^^ (-1 : Int32)))), (0, vR 2), (1, vR r1), (2, vI x2), (3, vI x3), (5, vR r5)]) (st' := [vI 0]) rfl ?_
    exact r_iret J rfl rfl rfl rfl (by decide) (by decide)
set_option maxHeartbeats 4000000 in
set_option maxRecDepth 100000 in
theorem p_X5_fits_0 {l : Launch} {E : gE} (J : J_X5_fits E l) (r1 : Nat) (x2 : Int32) (x3 : Int32) (σ : gS) (M : gM) (N : gN) (hL : g_layC σ) : g_H E 0 0 0 [(0, vR 2), (1, vR r1), (2, vI x2), (3, vI x3)] [] (σ, M, N) (b_X5_fits_0 r1 x2 x3 σ M) (eI σ M N) := by
  unfold b_X5_fits_0
  refine r_run J 2 (pc' := 2) (lv' := [(0, vR 2), (1, vR r1), (2, vI x2), (3, vI x3)]) (st' := [vI x2, vR 2]) rfl ?_
  refine r_callV J (As := [vI x2]) (st := []) (fun r hr => c_X5_at x2 σ M N hL r hr) cls5 (ly_2 hL) wm_5_21 wy_X5_at wd_X5_at ⟨by decide, by decide, by decide, by decide, Nat.le_of_ble_eq_true rfl⟩ rfl rfl (fun q2 hq2 => ?_)
  show g_H E 0 0 5 [(0, vR 2), (1, vR r1), (2, vI x2), (3, vI x3)] [vR q2] (σ, M, N) _ _
  refine r_run J 3 (pc' := 9) (lv' := [(4, vR q2), (0, vR 2), (1, vR r1), (2, vI x2), (3, vI x3)]) (st' := [vI x3, vR r1]) rfl ?_
  refine r_chk (fun hs9 => ?_)
  refine r_callV J (As := [vI x3]) (st := []) (fun r hr => c_X10_roomAt r1 x3 σ M N hL r hr) cls10 (g_is_at hs9) wm_5_49 wy_X10_roomAt wd_X10_roomAt ⟨by decide, by decide, by decide, by decide, Nat.le_of_ble_eq_true rfl⟩ rfl rfl (fun q9 hq9 => ?_)
  show g_H E 0 0 12 [(4, vR q2), (0, vR 2), (1, vR r1), (2, vI x2), (3, vI x3)] [vR q9] (σ, M, N) _ _
  refine r_run J 2 (pc' := 16) (lv' := [(5, vR q9), (4, vR q2), (0, vR 2), (1, vR r1), (2, vI x2), (3, vI x3)]) (st' := [vR q2]) rfl ?_
  refine r_ifnull J (tgt := 48) rfl (by decide) (fun c16 => ?_) (fun c16 => ?_)
  · refine r_run J 1 (pc' := 49) (lv' := [(5, vR q9), (4, vR q2), (0, vR 2), (1, vR r1), (2, vI x2), (3, vI x3)]) (st' := [vI 0]) rfl ?_
    exact r_iret J rfl rfl rfl rfl (by decide) (by decide)
  · refine r_run J 1 (pc' := 21) (lv' := [(5, vR q9), (4, vR q2), (0, vR 2), (1, vR r1), (2, vI x2), (3, vI x3)]) (st' := [vR q9]) rfl ?_
    refine r_ifnull J (tgt := 48) rfl (by decide) (fun c21 => ?_) (fun c21 => ?_)
    · refine r_run J 1 (pc' := 49) (lv' := [(5, vR q9), (4, vR q2), (0, vR 2), (1, vR r1), (2, vI x2), (3, vI x3)]) (st' := [vI 0]) rfl ?_
      exact r_iret J rfl rfl rfl rfl (by decide) (by decide)
    · refine r_run J 1 (pc' := 26) (lv' := [(5, vR q9), (4, vR q2), (0, vR 2), (1, vR r1), (2, vI x2), (3, vI x3)]) (st' := [vR q9]) rfl ?_
      refine r_chk (fun hs26 => ?_)
      refine r_getI J cls8 rfl (k := 3) (by decide) wf_5_55 rfl (g_is_at hs26) ?_
      show g_H E 0 0 29 [(5, vR q9), (4, vR q2), (0, vR 2), (1, vR r1), (2, vI x2), (3, vI x3)] [vI (M q9 3)] (σ, M, N) _ _
      refine r_if_eq J (tgt := 48) rfl (by decide) (fun c29 => ?_) (fun c29 => ?_)
      · refine r_run J 1 (pc' := 49) (lv' := [(5, vR q9), (4, vR q2), (0, vR 2), (1, vR r1), (2, vI x2), (3, vI x3)]) (st' := [vI 0]) rfl ?_
        exact r_iret J rfl rfl rfl rfl (by decide) (by decide)
      · refine r_run J 1 (pc' := 34) (lv' := [(5, vR q9), (4, vR q2), (0, vR 2), (1, vR r1), (2, vI x2), (3, vI x3)]) (st' := [vR q2]) rfl ?_
        refine r_chk (fun hs34 => ?_)
        refine r_getI J cls6 rfl (k := 2) (by decide) wf_5_60 rfl (g_is_at hs34) ?_
        show g_H E 0 0 37 [(5, vR q9), (4, vR q2), (0, vR 2), (1, vR r1), (2, vI x2), (3, vI x3)] [vI (M q2 2)] (σ, M, N) _ _
        refine r_if_eq J (tgt := 50) rfl (by decide) (fun c37 => ?_) (fun c37 => ?_)
        · refine r_sub [2, 3, 4, 5, 0] (lv' := [(0, vR 2), (1, vR r1), (2, vI x2), (3, vI x3), (5, vR q9)]) rfl ?_
          exact p_X5_fits_50 J r1 x2 x3 q9 σ M N hL
        · refine r_run J 1 (pc' := 42) (lv' := [(5, vR q9), (4, vR q2), (0, vR 2), (1, vR r1), (2, vI x2), (3, vI x3)]) (st' := [vR q9]) rfl ?_
          refine r_getI J cls8 rfl (k := 1) (by decide) wf_5_63 rfl (g_is_at hs26) ?_
          show g_H E 0 0 45 [(5, vR q9), (4, vR q2), (0, vR 2), (1, vR r1), (2, vI x2), (3, vI x3)] [vI (M q9 1)] (σ, M, N) _ _
          refine r_if_ne J (tgt := 50) rfl (by decide) (fun c45 => ?_) (fun c45 => ?_)
          · refine r_run J 1 (pc' := 49) (lv' := [(5, vR q9), (4, vR q2), (0, vR 2), (1, vR r1), (2, vI x2), (3, vI x3)]) (st' := [vI 0]) rfl ?_
            exact r_iret J rfl rfl rfl rfl (by decide) (by decide)
          · refine r_sub [2, 3, 4, 5, 0] (lv' := [(0, vR 2), (1, vR r1), (2, vI x2), (3, vI x3), (5, vR q9)]) rfl ?_
            exact p_X5_fits_50 J r1 x2 x3 q9 σ M N hL
theorem c_X5_fits {l : Launch} (r1 : Nat) (x2 : Int32) (x3 : Int32) (σ : gS) (M : gM) (N : gN) (hL : g_layC σ) (r : Int32) (h : f_X5_fits r1 x2 x3 σ M = some r) : g_Ct l yX5_fits cX5_fits 7 (some .boolean) 4 0 0 [vR 2, vR r1, vI x2, vI x3] (σ, M, N) (eI σ M N r) :=
  g_Ct.of tb_X5_fits (by decide +kernel) tk_X5_fits (Nat.le_of_ble_eq_true rfl) (fun E J => p_X5_fits_0 J r1 x2 x3 σ M N hL r h)
def tb_X5_isRight : gT := [(0, .iconst 0, 1, 0), (1, .istore_n 2, 1, 0), (2, .iload_n 2, 1, 0), (3, .aload_n 0, 1, 0), (4, .getfield 17, 3, 0), (7, .if_icmp .ge 60, 3, 0), (10, .aload_n 1, 1, 0), (11, .iload_n 2, 1, 0), (12, .invokevirtual 79, 3, 0), (15, .istore_n 3, 1, 0), (16, .iload_n 3, 1, 0), (17, .iconst (-1), 1, (-1)), (18, .if_icmp .ne 19, 3, 0), (21, .aload_n 0, 1, 0), (22, .getfield 11, 3, 0), (25, .iload_n 2, 1, 0), (26, .aaload, 1, 0), (27, .aload_n 1, 1, 0), (28, .getfield 82, 3, 0), (31, .invokevirtual 25, 3, 0), (34, .ifCond .eq 7, 3, 0), (37, .iconst 1, 1, 1), (38, .goto 4, 3, 0), (41, .iconst 0, 1, 0), (42, .istore 4, 2, 0), (44, .iload 4, 2, 0), (46, .ifCond .eq 15, 3, 0), (49, .aload_n 0, 1, 0), (50, .aload_n 1, 1, 0), (51, .iload_n 2, 1, 0), (52, .iload_n 3, 1, 0), (53, .invokevirtual 85, 3, 0), (56, .ifCond .ne 5, 3, 0), (59, .iconst 0, 1, 0), (60, .ireturn, 1, 0), (61, .iinc 2 1, 3, 1), (64, .goto (-62), 3, 0), (67, .iconst 1, 1, 1), (68, .ireturn, 1, 0)]
set_option maxRecDepth 100000 in
theorem tk_X5_isRight : g_okT cX5_isRight tb_X5_isRight = true := by decide +kernel
abbrev J_X5_isRight (E : gE) (l : Launch) : Prop := g_J E cX5_isRight RX5 "isRight" (some .boolean) 5 tb_X5_isRight 5 0 0 l
set_option maxHeartbeats 4000000 in
set_option maxRecDepth 100000 in
theorem p_X5_isRight_61 {l : Launch} {E : gE} (J : J_X5_isRight E l) {k2 : Nat → Int32 → gS → gM → Option (Int32)} (H2 : ∀ (r1 : Nat) (x2 : Int32) (σ : gS) (M : gM) (N : gN) (_ : g_layC σ), g_H E 0 0 2 [(0, vR 2), (1, vR r1), (2, vI x2)] [] (σ, M, N) (k2 r1 x2 σ M) (eI σ M N)) (r1 : Nat) (x2 : Int32) (σ : gS) (M : gM) (N : gN) (hL : g_layC σ) : g_H E 0 0 61 [(0, vR 2), (1, vR r1), (2, vI x2)] [] (σ, M, N) (b_X5_isRight_61 k2 r1 x2 σ M) (eI σ M N) := by
  unfold b_X5_isRight_61
  refine r_run J 2 (pc' := 2) (lv' := [(2, vI (x2 + 1)), (0, vR 2), (1, vR r1)]) (st' := []) rfl ?_
  refine r_sub [1, 2, 0] (lv' := [(0, vR 2), (1, vR r1), (2, vI (x2 + 1))]) rfl ?_
  exact H2 r1 (x2 + 1) σ M N hL
set_option maxHeartbeats 4000000 in
set_option maxRecDepth 100000 in
theorem p_X5_isRight_42 {l : Launch} {E : gE} (J : J_X5_isRight E l) {k2 : Nat → Int32 → gS → gM → Option (Int32)} (H2 : ∀ (r1 : Nat) (x2 : Int32) (σ : gS) (M : gM) (N : gN) (_ : g_layC σ), g_H E 0 0 2 [(0, vR 2), (1, vR r1), (2, vI x2)] [] (σ, M, N) (k2 r1 x2 σ M) (eI σ M N)) (r1 : Nat) (x2 : Int32) (x3 : Int32) (sx0 : Int32) (σ : gS) (M : gM) (N : gN) (hL : g_layC σ) : g_H E 0 0 42 [(0, vR 2), (1, vR r1), (2, vI x2), (3, vI x3)] [vI sx0] (σ, M, N) (b_X5_isRight_42 k2 r1 x2 x3 sx0 σ M) (eI σ M N) := by
  unfold b_X5_isRight_42
  refine r_run J 2 (pc' := 46) (lv' := [(4, vI sx0), (0, vR 2), (1, vR r1), (2, vI x2), (3, vI x3)]) (st' := [vI sx0]) rfl ?_
  refine r_if_eq J (tgt := 61) rfl (by decide) (fun c46 => ?_) (fun c46 => ?_)
  · refine r_sub [1, 2, 3] (lv' := [(0, vR 2), (1, vR r1), (2, vI x2)]) rfl ?_
    exact p_X5_isRight_61 J H2 r1 x2 σ M N hL
  · refine r_run J 4 (pc' := 53) (lv' := [(4, vI sx0), (0, vR 2), (1, vR r1), (2, vI x2), (3, vI x3)]) (st' := [vI x3, vI x2, vR r1, vR 2]) rfl ?_
    refine r_callV J (As := [vR r1, vI x2, vI x3]) (st := []) (fun r hr => c_X5_fits r1 x2 x3 σ M N hL r hr) cls5 (ly_2 hL) wm_5_85 wy_X5_fits wd_X5_fits ⟨by decide, by decide, by decide, by decide, Nat.le_of_ble_eq_true rfl⟩ rfl rfl (fun q53 hq53 => ?_)
    show g_H E 0 0 56 [(4, vI sx0), (0, vR 2), (1, vR r1), (2, vI x2), (3, vI x3)] [vI q53] (σ, M, N) _ _
    refine r_if_ne J (tgt := 61) rfl (by decide) (fun c56 => ?_) (fun c56 => ?_)
    · refine r_run J 1 (pc' := 60) (lv' := [(4, vI sx0), (0, vR 2), (1, vR r1), (2, vI x2), (3, vI x3)]) (st' := [vI 0]) rfl ?_
      exact r_iret J rfl rfl rfl rfl (by decide) (by decide)
    · refine r_sub [1, 2, 3] (lv' := [(0, vR 2), (1, vR r1), (2, vI x2)]) rfl ?_
      exact p_X5_isRight_61 J H2 r1 x2 σ M N hL
set_option maxHeartbeats 4000000 in
set_option maxRecDepth 100000 in
theorem p_X5_isRight_37 {l : Launch} {E : gE} (J : J_X5_isRight E l) {k2 : Nat → Int32 → gS → gM → Option (Int32)} (H2 : ∀ (r1 : Nat) (x2 : Int32) (σ : gS) (M : gM) (N : gN) (_ : g_layC σ), g_H E 0 0 2 [(0, vR 2), (1, vR r1), (2, vI x2)] [] (σ, M, N) (k2 r1 x2 σ M) (eI σ M N)) (r1 : Nat) (x2 : Int32) (x3 : Int32) (σ : gS) (M : gM) (N : gN) (hL : g_layC σ) : g_H E 0 0 37 [(0, vR 2), (1, vR r1), (2, vI x2), (3, vI x3)] [] (σ, M, N) (b_X5_isRight_37 k2 r1 x2 x3 σ M) (eI σ M N) := by
  unfold b_X5_isRight_37
  refine r_run J 2 (pc' := 42) (lv' := [(0, vR 2), (1, vR r1), (2, vI x2), (3, vI x3)]) (st' := [vI 1]) rfl ?_
  exact p_X5_isRight_42 J H2 r1 x2 x3 1 σ M N hL
set_option maxHeartbeats 4000000 in
set_option maxRecDepth 100000 in
theorem p_X5_isRight_2 {l : Launch} {E : gE} (J : J_X5_isRight E l) : ∀ (n : Nat) (r1 : Nat) (x2 : Int32) (σ : gS) (M : gM) (N : gN) (hL : g_layC σ), g_H E 0 0 2 [(0, vR 2), (1, vR r1), (2, vI x2)] [] (σ, M, N) (l_X5_isRight_2 n r1 x2 σ M) (eI σ M N) := by
  intro n
  induction n with
  | zero => intros; exact h_none
  | succ n ih =>
    intro r1 x2 σ M N hL
    rw [l_X5_isRight_2]
    refine r_run J 2 (pc' := 4) (lv' := [(0, vR 2), (1, vR r1), (2, vI x2)]) (st' := [vR 2, vI x2]) rfl ?_
    refine r_getI J cls5 rfl (k := 1) (by decide) wf_5_17 rfl (ly_2 hL) ?_
    show g_H E 0 0 7 [(0, vR 2), (1, vR r1), (2, vI x2)] [vI (M 2 1), vI x2] (σ, M, N) _ _
    refine r_icmp_ge J (tgt := 67) rfl (by decide) (fun c7 => ?_) (fun c7 => ?_)
    · refine r_run J 2 (pc' := 12) (lv' := [(0, vR 2), (1, vR r1), (2, vI x2)]) (st' := [vI x2, vR r1]) rfl ?_
      refine r_chk (fun hs12 => ?_)
      refine r_callV J (As := [vI x2]) (st := []) (fun r hr => c_X10_roomOfGuest r1 x2 σ M N hL r hr) cls10 (g_is_at hs12) wm_5_79 wy_X10_roomOfGuest wd_X10_roomOfGuest ⟨by decide, by decide, by decide, by decide, Nat.le_of_ble_eq_true rfl⟩ rfl rfl (fun q12 hq12 => ?_)
      show g_H E 0 0 15 [(0, vR 2), (1, vR r1), (2, vI x2)] [vI q12] (σ, M, N) _ _
      refine r_run J 3 (pc' := 18) (lv' := [(3, vI q12), (0, vR 2), (1, vR r1), (2, vI x2)]) (st' := [vI (-1), vI q12]) rfl ?_
      refine r_icmp_ne J (tgt := 37) rfl (by decide) (fun c18 => ?_) (fun c18 => ?_)
      · refine r_run J 1 (pc' := 22) (lv' := [(3, vI q12), (0, vR 2), (1, vR r1), (2, vI x2)]) (st' := [vR 2]) rfl ?_
        refine r_getR J cls5 rfl (k := 0) (t := 17) (by decide) wf_5_11 rfl rfl (ly_2 hL) (lr_2_0 hL) (fun _ => ?_)
        show g_H E 0 0 25 [(3, vI q12), (0, vR 2), (1, vR r1), (2, vI x2)] [vR 3] (σ, M, N) _ _
        refine r_run J 1 (pc' := 26) (lv' := [(3, vI q12), (0, vR 2), (1, vR r1), (2, vI x2)]) (st' := [vI x2, vR 3]) rfl ?_
        refine r_aald J rfl (Or.inl ⟨rfl, rfl⟩) (ly_3 hL) (fun i26 _ => ?_)
        show g_H E 0 0 27 [(3, vI q12), (0, vR 2), (1, vR r1), (2, vI x2)] [vR (σ.2 3 x2.toNatClampNeg)] (σ, M, N) _ _
        refine r_run J 1 (pc' := 28) (lv' := [(3, vI q12), (0, vR 2), (1, vR r1), (2, vI x2)]) (st' := [vR r1, vR (σ.2 3 x2.toNatClampNeg)]) rfl ?_
        refine r_getI J cls10 rfl (k := 0) (by decide) wf_5_82 rfl (g_is_at hs12) ?_
        show g_H E 0 0 31 [(3, vI q12), (0, vR 2), (1, vR r1), (2, vI x2)] [vI (M r1 0), vR (σ.2 3 x2.toNatClampNeg)] (σ, M, N) _ _
        refine r_chk (fun hs31 => ?_)
        refine r_callV J (As := [vI (M r1 0)]) (st := []) (fun r hr => c_X6_isThereIn (σ.2 3 x2.toNatClampNeg) (M r1 0) σ M N hL r hr) cls6 (g_is_at hs31) wm_5_25 wy_X6_isThereIn wd_X6_isThereIn ⟨by decide, by decide, by decide, by decide, Nat.le_of_ble_eq_true rfl⟩ rfl rfl (fun q31 hq31 => ?_)
        show g_H E 0 0 34 [(3, vI q12), (0, vR 2), (1, vR r1), (2, vI x2)] [vI q31] (σ, M, N) _ _
        refine r_if_eq J (tgt := 41) rfl (by decide) (fun c34 => ?_) (fun c34 => ?_)
        · refine r_run J 1 (pc' := 42) (lv' := [(3, vI q12), (0, vR 2), (1, vR r1), (2, vI x2)]) (st' := [vI 0]) rfl ?_
          refine r_sub [1, 2, 3, 0] (lv' := [(0, vR 2), (1, vR r1), (2, vI x2), (3, vI q12)]) rfl ?_
          exact p_X5_isRight_42 J ih r1 x2 q12 0 σ M N hL
        · refine r_sub [1, 2, 3, 0] (lv' := [(0, vR 2), (1, vR r1), (2, vI x2), (3, vI q12)]) rfl ?_
          exact p_X5_isRight_37 J ih r1 x2 q12 σ M N hL
      · refine r_sub [1, 2, 3, 0] (lv' := [(0, vR 2), (1, vR r1), (2, vI x2), (3, vI q12)]) rfl ?_
        exact p_X5_isRight_37 J ih r1 x2 q12 σ M N hL
    · refine r_run J 1 (pc' := 68) (lv' := [(0, vR 2), (1, vR r1), (2, vI x2)]) (st' := [vI 1]) rfl ?_
      exact r_iret J rfl rfl rfl rfl (by decide) (by decide)
set_option maxHeartbeats 4000000 in
set_option maxRecDepth 100000 in
theorem p_X5_isRight_0 {l : Launch} {E : gE} (J : J_X5_isRight E l) (r1 : Nat) (σ : gS) (M : gM) (N : gN) (hL : g_layC σ) : g_H E 0 0 0 [(0, vR 2), (1, vR r1)] [] (σ, M, N) (b_X5_isRight_0 r1 σ M) (eI σ M N) := by
  unfold b_X5_isRight_0
  refine r_run J 2 (pc' := 2) (lv' := [(2, vI 0), (0, vR 2), (1, vR r1)]) (st' := []) rfl ?_
  refine r_sub [1, 2, 0] (lv' := [(0, vR 2), (1, vR r1), (2, vI 0)]) rfl ?_
  exact p_X5_isRight_2 J g_FU r1 0 σ M N hL
theorem c_X5_isRight {l : Launch} (r1 : Nat) (σ : gS) (M : gM) (N : gN) (hL : g_layC σ) (r : Int32) (h : f_X5_isRight r1 σ M = some r) : g_Ct l yX5_isRight cX5_isRight 5 (some .boolean) 5 0 0 [vR 2, vR r1] (σ, M, N) (eI σ M N r) :=
  g_Ct.of tb_X5_isRight (by decide +kernel) tk_X5_isRight (Nat.le_of_ble_eq_true rfl) (fun E J => p_X5_isRight_0 J r1 σ M N hL r h)
def tb_X5_eaters : gT := [(0, .iconst 0, 1, 0), (1, .istore_n 3, 1, 0), (2, .iconst 0, 1, 0), (3, .istore 4, 2, 0), (5, .iload 4, 2, 0), (7, .aload_n 0, 1, 0), (8, .getfield 17, 3, 0), (11, .if_icmp .ge 36, 3, 0), (14, .aload_n 1, 1, 0), (15, .iload 4, 2, 0), (17, .invokevirtual 79, 3, 0), (20, .iconst (-1), 1, (-1)), (21, .if_icmp .eq 20, 3, 0), (24, .aload_n 0, 1, 0), (25, .getfield 11, 3, 0), (28, .iload 4, 2, 0), (30, .aaload, 1, 0), (31, .getfield 89, 3, 0), (34, .iload_n 2, 1, 0), (35, .if_icmp .ne 6, 3, 0), (38, .iinc 3 1, 3, 1), (41, .iinc 4 1, 3, 1), (44, .goto (-39), 3, 0), (47, .iload_n 3, 1, 0), (48, .ireturn, 1, 0)]
set_option maxRecDepth 100000 in
theorem tk_X5_eaters : g_okT cX5_eaters tb_X5_eaters = true := by decide +kernel
abbrev J_X5_eaters (E : gE) (l : Launch) : Prop := g_J E cX5_eaters RX5 "eaters" (some .int) 5 tb_X5_eaters 2 0 0 l
set_option maxHeartbeats 4000000 in
set_option maxRecDepth 100000 in
theorem p_X5_eaters_41 {l : Launch} {E : gE} (J : J_X5_eaters E l) {k5 : Nat → Int32 → Int32 → Int32 → gS → gM → Option (Int32)} (H5 : ∀ (r1 : Nat) (x2 : Int32) (x3 : Int32) (x4 : Int32) (σ : gS) (M : gM) (N : gN) (_ : g_layC σ), g_H E 0 0 5 [(0, vR 2), (1, vR r1), (2, vI x2), (3, vI x3), (4, vI x4)] [] (σ, M, N) (k5 r1 x2 x3 x4 σ M) (eI σ M N)) (r1 : Nat) (x2 : Int32) (x3 : Int32) (x4 : Int32) (σ : gS) (M : gM) (N : gN) (hL : g_layC σ) : g_H E 0 0 41 [(0, vR 2), (1, vR r1), (2, vI x2), (3, vI x3), (4, vI x4)] [] (σ, M, N) (b_X5_eaters_41 k5 r1 x2 x3 x4 σ M) (eI σ M N) := by
  unfold b_X5_eaters_41
  refine r_run J 2 (pc' := 5) (lv' := [(4, vI (x4 + 1)), (0, vR 2), (1, vR r1), (2, vI x2), (3, vI x3)]) (st' := []) rfl ?_
  refine r_sub [1, 2, 3, 4, 0] (lv' := [(0, vR 2), (1, vR r1), (2, vI x2), (3, vI x3), (4, vI (x4 + 1))]) rfl ?_
  exact H5 r1 x2 x3 (x4 + 1) σ M N hL
set_option maxHeartbeats 4000000 in
set_option maxRecDepth 100000 in
theorem p_X5_eaters_5 {l : Launch} {E : gE} (J : J_X5_eaters E l) : ∀ (n : Nat) (r1 : Nat) (x2 : Int32) (x3 : Int32) (x4 : Int32) (σ : gS) (M : gM) (N : gN) (hL : g_layC σ), g_H E 0 0 5 [(0, vR 2), (1, vR r1), (2, vI x2), (3, vI x3), (4, vI x4)] [] (σ, M, N) (l_X5_eaters_5 n r1 x2 x3 x4 σ M) (eI σ M N) := by
  intro n
  induction n with
  | zero => intros; exact h_none
  | succ n ih =>
    intro r1 x2 x3 x4 σ M N hL
    rw [l_X5_eaters_5]
    refine r_run J 2 (pc' := 8) (lv' := [(0, vR 2), (1, vR r1), (2, vI x2), (3, vI x3), (4, vI x4)]) (st' := [vR 2, vI x4]) rfl ?_
    refine r_getI J cls5 rfl (k := 1) (by decide) wf_5_17 rfl (ly_2 hL) ?_
    show g_H E 0 0 11 [(0, vR 2), (1, vR r1), (2, vI x2), (3, vI x3), (4, vI x4)] [vI (M 2 1), vI x4] (σ, M, N) _ _
    refine r_icmp_ge J (tgt := 47) rfl (by decide) (fun c11 => ?_) (fun c11 => ?_)
    · refine r_run J 2 (pc' := 17) (lv' := [(0, vR 2), (1, vR r1), (2, vI x2), (3, vI x3), (4, vI x4)]) (st' := [vI x4, vR r1]) rfl ?_
      refine r_chk (fun hs17 => ?_)
      refine r_callV J (As := [vI x4]) (st := []) (fun r hr => c_X10_roomOfGuest r1 x4 σ M N hL r hr) cls10 (g_is_at hs17) wm_5_79 wy_X10_roomOfGuest wd_X10_roomOfGuest ⟨by decide, by decide, by decide, by decide, Nat.le_of_ble_eq_true rfl⟩ rfl rfl (fun q17 hq17 => ?_)
      show g_H E 0 0 20 [(0, vR 2), (1, vR r1), (2, vI x2), (3, vI x3), (4, vI x4)] [vI q17] (σ, M, N) _ _
      refine r_run J 1 (pc' := 21) (lv' := [(0, vR 2), (1, vR r1), (2, vI x2), (3, vI x3), (4, vI x4)]) (st' := [vI (-1), vI q17]) rfl ?_
      refine r_icmp_eq J (tgt := 41) rfl (by decide) (fun c21 => ?_) (fun c21 => ?_)
      · exact p_X5_eaters_41 J ih r1 x2 x3 x4 σ M N hL
      · refine r_run J 1 (pc' := 25) (lv' := [(0, vR 2), (1, vR r1), (2, vI x2), (3, vI x3), (4, vI x4)]) (st' := [vR 2]) rfl ?_
        refine r_getR J cls5 rfl (k := 0) (t := 17) (by decide) wf_5_11 rfl rfl (ly_2 hL) (lr_2_0 hL) (fun _ => ?_)
        show g_H E 0 0 28 [(0, vR 2), (1, vR r1), (2, vI x2), (3, vI x3), (4, vI x4)] [vR 3] (σ, M, N) _ _
        refine r_run J 1 (pc' := 30) (lv' := [(0, vR 2), (1, vR r1), (2, vI x2), (3, vI x3), (4, vI x4)]) (st' := [vI x4, vR 3]) rfl ?_
        refine r_aald J rfl (Or.inl ⟨rfl, rfl⟩) (ly_3 hL) (fun i30 _ => ?_)
        show g_H E 0 0 31 [(0, vR 2), (1, vR r1), (2, vI x2), (3, vI x3), (4, vI x4)] [vR (σ.2 3 x4.toNatClampNeg)] (σ, M, N) _ _
        refine r_chk (fun hs31 => ?_)
        refine r_getI J cls6 rfl (k := 3) (by decide) wf_5_89 rfl (g_is_at hs31) ?_
        show g_H E 0 0 34 [(0, vR 2), (1, vR r1), (2, vI x2), (3, vI x3), (4, vI x4)] [vI (M (σ.2 3 x4.toNatClampNeg) 3)] (σ, M, N) _ _
        refine r_run J 1 (pc' := 35) (lv' := [(0, vR 2), (1, vR r1), (2, vI x2), (3, vI x3), (4, vI x4)]) (st' := [vI x2, vI (M (σ.2 3 x4.toNatClampNeg) 3)]) rfl ?_
        refine r_icmp_ne J (tgt := 41) rfl (by decide) (fun c35 => ?_) (fun c35 => ?_)
        · refine r_run J 1 (pc' := 41) (lv' := [(3, vI (x3 + 1)), (0, vR 2), (1, vR r1), (2, vI x2), (4, vI x4)]) (st' := []) rfl ?_
          refine r_sub [1, 2, 3, 0, 4] (lv' := [(0, vR 2), (1, vR r1), (2, vI x2), (3, vI (x3 + 1)), (4, vI x4)]) rfl ?_
          exact p_X5_eaters_41 J ih r1 x2 (x3 + 1) x4 σ M N hL
        · exact p_X5_eaters_41 J ih r1 x2 x3 x4 σ M N hL
    · refine r_run J 1 (pc' := 48) (lv' := [(0, vR 2), (1, vR r1), (2, vI x2), (3, vI x3), (4, vI x4)]) (st' := [vI x3]) rfl ?_
      exact r_iret J rfl rfl rfl rfl (by decide) (by decide)
set_option maxHeartbeats 4000000 in
set_option maxRecDepth 100000 in
theorem p_X5_eaters_0 {l : Launch} {E : gE} (J : J_X5_eaters E l) (r1 : Nat) (x2 : Int32) (σ : gS) (M : gM) (N : gN) (hL : g_layC σ) : g_H E 0 0 0 [(0, vR 2), (1, vR r1), (2, vI x2)] [] (σ, M, N) (b_X5_eaters_0 r1 x2 σ M) (eI σ M N) := by
  unfold b_X5_eaters_0
  refine r_run J 4 (pc' := 5) (lv' := [(4, vI 0), (3, vI 0), (0, vR 2), (1, vR r1), (2, vI x2)]) (st' := []) rfl ?_
  refine r_sub [2, 3, 4, 1, 0] (lv' := [(0, vR 2), (1, vR r1), (2, vI x2), (3, vI 0), (4, vI 0)]) rfl ?_
  exact p_X5_eaters_5 J g_FU r1 x2 0 0 σ M N hL
theorem c_X5_eaters {l : Launch} (r1 : Nat) (x2 : Int32) (σ : gS) (M : gM) (N : gN) (hL : g_layC σ) (r : Int32) (h : f_X5_eaters r1 x2 σ M = some r) : g_Ct l yX5_eaters cX5_eaters 5 (some .int) 2 0 0 [vR 2, vR r1, vI x2] (σ, M, N) (eI σ M N r) :=
  g_Ct.of tb_X5_eaters (by decide +kernel) tk_X5_eaters (Nat.le_of_ble_eq_true rfl) (fun E J => p_X5_eaters_0 J r1 x2 σ M N hL r h)
def tb_X6_init : gT := [(0, .aload_n 0, 1, 0), (1, .invokespecial 3, 3, 0), (4, .aload_n 0, 1, 0), (5, .iconst 0, 1, 0), (6, .putfield 9, 3, 0), (9, .aload_n 0, 1, 0), (10, .iconst (-1), 1, (-1)), (11, .putfield 15, 3, 0), (14, .aload_n 0, 1, 0), (15, .iconst 0, 1, 0), (16, .putfield 19, 3, 0), (19, .aload_n 0, 1, 0), (20, .iconst 0, 1, 0), (21, .putfield 22, 3, 0), (24, .aload_n 0, 1, 0), (25, .iconst 0, 1, 0), (26, .putfield 25, 3, 0), (29, .aload_n 0, 1, 0), (30, .iload_n 1, 1, 0), (31, .putfield 28, 3, 0), (34, .aload_n 0, 1, 0), (35, .iload_n 2, 1, 0), (36, .putfield 31, 3, 0), (39, .aload_n 0, 1, 0), (40, .iload_n 3, 1, 0), (41, .putfield 34, 3, 0), (44, .aload_n 0, 1, 0), (45, .iload 4, 2, 0), (47, .putfield 37, 3, 0), (50, .aload_n 0, 1, 0), (51, .iload 5, 2, 0), (53, .putfield 40, 3, 0), (56, .aload_n 0, 1, 0), (57, .iload 6, 2, 0), (59, .putfield 43, 3, 0), (62, .return_, 1, 0)]
set_option maxRecDepth 100000 in
theorem tk_X6_init : g_okT cX6_init tb_X6_init = true := by decide +kernel
abbrev J_X6_init (E : gE) (l : Launch) : Prop := g_J E cX6_init RX6 "<init>" none 7 tb_X6_init 1 0 0 l
set_option maxHeartbeats 4000000 in
set_option maxRecDepth 100000 in
theorem p_X6_init_50 {l : Launch} {E : gE} (J : J_X6_init E l) (r0 : Nat) (x5 : Int32) (x6 : Int32) (σ : gS) (M : gM) (N : gN) : g_H E 0 0 50 [(0, vR r0), (5, vI x5), (6, vI x6)] [] (σ, M, N) (b_X6_init_50 r0 x5 x6 σ M) (eVM σ N) := by
  unfold b_X6_init_50
  refine r_run J 2 (pc' := 53) (lv' := [(0, vR r0), (5, vI x5), (6, vI x6)]) (st' := [vI x5, vR r0]) rfl ?_
  refine r_chk (fun hs53 => ?_)
  refine r_putI J cls6 rfl (k := 4) (by decide) wf_6_40 rfl (Or.inl rfl) ⟨rfl, rfl⟩ (g_is_at hs53) ?_
  show g_H E 0 0 56 [(0, vR r0), (5, vI x5), (6, vI x6)] [] (σ, (g_up M r0 4 x5), N) _ _
  refine r_run J 2 (pc' := 59) (lv' := [(0, vR r0), (5, vI x5), (6, vI x6)]) (st' := [vI x6, vR r0]) rfl ?_
  refine r_putI J cls6 rfl (k := 5) (by decide) wf_6_43 rfl (Or.inl rfl) ⟨rfl, rfl⟩ (g_is_at hs53) ?_
  show g_H E 0 0 62 [(0, vR r0), (5, vI x5), (6, vI x6)] [] (σ, (g_up (g_up M r0 4 x5) r0 5 x6), N) _ _
  exact r_vret J rfl rfl rfl (by decide) (by decide)
set_option maxHeartbeats 4000000 in
set_option maxRecDepth 100000 in
theorem p_X6_init_34 {l : Launch} {E : gE} (J : J_X6_init E l) (r0 : Nat) (x2 : Int32) (x3 : Int32) (x4 : Int32) (x5 : Int32) (x6 : Int32) (σ : gS) (M : gM) (N : gN) : g_H E 0 0 34 [(0, vR r0), (2, vI x2), (3, vI x3), (4, vI x4), (5, vI x5), (6, vI x6)] [] (σ, M, N) (b_X6_init_34 r0 x2 x3 x4 x5 x6 σ M) (eVM σ N) := by
  unfold b_X6_init_34
  refine r_run J 2 (pc' := 36) (lv' := [(0, vR r0), (2, vI x2), (3, vI x3), (4, vI x4), (5, vI x5), (6, vI x6)]) (st' := [vI x2, vR r0]) rfl ?_
  refine r_chk (fun hs36 => ?_)
  refine r_putI J cls6 rfl (k := 1) (by decide) wf_6_31 rfl (Or.inr ⟨rfl, rfl, rfl⟩) ⟨rfl, rfl⟩ (g_is_at hs36) ?_
  show g_H E 0 0 39 [(0, vR r0), (2, vI x2), (3, vI x3), (4, vI x4), (5, vI x5), (6, vI x6)] [] (σ, (g_up M r0 1 x2), N) _ _
  refine r_run J 2 (pc' := 41) (lv' := [(0, vR r0), (2, vI x2), (3, vI x3), (4, vI x4), (5, vI x5), (6, vI x6)]) (st' := [vI x3, vR r0]) rfl ?_
  refine r_chk (fun hb41 => ?_)
  refine r_putI J cls6 rfl (k := 2) (by decide) wf_6_34 rfl (Or.inr ⟨rfl, rfl, rfl⟩) (g_b_fit hb41) (g_is_at hs36) ?_
  show g_H E 0 0 44 [(0, vR r0), (2, vI x2), (3, vI x3), (4, vI x4), (5, vI x5), (6, vI x6)] [] (σ, (g_up (g_up M r0 1 x2) r0 2 x3), N) _ _
  refine r_run J 2 (pc' := 47) (lv' := [(0, vR r0), (2, vI x2), (3, vI x3), (4, vI x4), (5, vI x5), (6, vI x6)]) (st' := [vI x4, vR r0]) rfl ?_
  refine r_putI J cls6 rfl (k := 3) (by decide) wf_6_37 rfl (Or.inr ⟨rfl, rfl, rfl⟩) ⟨rfl, rfl⟩ (g_is_at hs36) ?_
  show g_H E 0 0 50 [(0, vR r0), (2, vI x2), (3, vI x3), (4, vI x4), (5, vI x5), (6, vI x6)] [] (σ, (g_up (g_up (g_up M r0 1 x2) r0 2 x3) r0 3 x4), N) _ _
  refine r_sub [0, 4, 5] (lv' := [(0, vR r0), (5, vI x5), (6, vI x6)]) rfl ?_
  exact p_X6_init_50 J r0 x5 x6 σ (g_up (g_up (g_up M r0 1 x2) r0 2 x3) r0 3 x4) N
set_option maxHeartbeats 4000000 in
set_option maxRecDepth 100000 in
theorem p_X6_init_19 {l : Launch} {E : gE} (J : J_X6_init E l) (r0 : Nat) (x1 : Int32) (x2 : Int32) (x3 : Int32) (x4 : Int32) (x5 : Int32) (x6 : Int32) (σ : gS) (M : gM) (N : gN) : g_H E 0 0 19 [(0, vR r0), (1, vI x1), (2, vI x2), (3, vI x3), (4, vI x4), (5, vI x5), (6, vI x6)] [] (σ, M, N) (b_X6_init_19 r0 x1 x2 x3 x4 x5 x6 σ M) (eVM σ N) := by
  unfold b_X6_init_19
  refine r_run J 2 (pc' := 21) (lv' := [(0, vR r0), (1, vI x1), (2, vI x2), (3, vI x3), (4, vI x4), (5, vI x5), (6, vI x6)]) (st' := [vI 0, vR r0]) rfl ?_
  refine r_chk (fun hs21 => ?_)
  refine r_putI J cls6 rfl (k := 9) (by decide) wf_6_22 rfl (Or.inl rfl) ⟨rfl, rfl⟩ (g_is_at hs21) ?_
  show g_H E 0 0 24 [(0, vR r0), (1, vI x1), (2, vI x2), (3, vI x3), (4, vI x4), (5, vI x5), (6, vI x6)] [] (σ, (g_up M r0 9 0), N) _ _
  refine r_run J 2 (pc' := 26) (lv' := [(0, vR r0), (1, vI x1), (2, vI x2), (3, vI x3), (4, vI x4), (5, vI x5), (6, vI x6)]) (st' := [vI 0, vR r0]) rfl ?_
  refine r_putI J cls6 rfl (k := 10) (by decide) wf_6_25 rfl (Or.inl rfl) ⟨rfl, rfl⟩ (g_is_at hs21) ?_
  show g_H E 0 0 29 [(0, vR r0), (1, vI x1), (2, vI x2), (3, vI x3), (4, vI x4), (5, vI x5), (6, vI x6)] [] (σ, (g_up (g_up M r0 9 0) r0 10 0), N) _ _
  refine r_run J 2 (pc' := 31) (lv' := [(0, vR r0), (1, vI x1), (2, vI x2), (3, vI x3), (4, vI x4), (5, vI x5), (6, vI x6)]) (st' := [vI x1, vR r0]) rfl ?_
  refine r_chk (fun hb31 => ?_)
  refine r_putI J cls6 rfl (k := 0) (by decide) wf_6_28 rfl (Or.inr ⟨rfl, rfl, rfl⟩) (g_b_fit hb31) (g_is_at hs21) ?_
  show g_H E 0 0 34 [(0, vR r0), (1, vI x1), (2, vI x2), (3, vI x3), (4, vI x4), (5, vI x5), (6, vI x6)] [] (σ, (g_up (g_up (g_up M r0 9 0) r0 10 0) r0 0 x1), N) _ _
  refine r_sub [0, 2, 3, 4, 5, 6] (lv' := [(0, vR r0), (2, vI x2), (3, vI x3), (4, vI x4), (5, vI x5), (6, vI x6)]) rfl ?_
  exact p_X6_init_34 J r0 x2 x3 x4 x5 x6 σ (g_up (g_up (g_up M r0 9 0) r0 10 0) r0 0 x1) N
set_option maxHeartbeats 4000000 in
set_option maxRecDepth 100000 in
theorem p_X6_init_0 {l : Launch} {E : gE} (J : J_X6_init E l) (r0 : Nat) (x1 : Int32) (x2 : Int32) (x3 : Int32) (x4 : Int32) (x5 : Int32) (x6 : Int32) (σ : gS) (M : gM) (N : gN) : g_H E 0 0 0 [(0, vR r0), (1, vI x1), (2, vI x2), (3, vI x3), (4, vI x4), (5, vI x5), (6, vI x6)] [] (σ, M, N) (b_X6_init_0 r0 x1 x2 x3 x4 x5 x6 σ M) (eVM σ N) := by
  unfold b_X6_init_0
  refine r_run J 1 (pc' := 1) (lv' := [(0, vR r0), (1, vI x1), (2, vI x2), (3, vI x3), (4, vI x4), (5, vI x5), (6, vI x6)]) (st' := [vR r0]) rfl ?_
  refine r_chk (fun hs1 => ?_)
  refine r_objI J (by rw [(g_is_at hs1)]; exact Option.some_ne_none _) wm_6_3 w_obj rfl ⟨by decide, Nat.le_of_ble_eq_true rfl⟩ ?_
  refine r_run J 2 (pc' := 6) (lv' := [(0, vR r0), (1, vI x1), (2, vI x2), (3, vI x3), (4, vI x4), (5, vI x5), (6, vI x6)]) (st' := [vI 0, vR r0]) rfl ?_
  refine r_putI J cls6 rfl (k := 6) (by decide) wf_6_9 rfl (Or.inl rfl) ⟨rfl, rfl⟩ (g_is_at hs1) ?_
  show g_H E 0 0 9 [(0, vR r0), (1, vI x1), (2, vI x2), (3, vI x3), (4, vI x4), (5, vI x5), (6, vI x6)] [] (σ, (g_up M r0 6 0), N) _ _
  refine r_run J 2 (pc' := 11) (lv' := [(0, vR r0), (1, vI x1), (2, vI x2), (3, vI x3), (4, vI x4), (5, vI x5), (6, vI x6)]) (st' := [vI (-1), vR r0]) rfl ?_
  refine r_putI J cls6 rfl (k := 7) (by decide) wf_6_15 rfl (Or.inl rfl) ⟨rfl, rfl⟩ (g_is_at hs1) ?_
  show g_H E 0 0 14 [(0, vR r0), (1, vI x1), (2, vI x2), (3, vI x3), (4, vI x4), (5, vI x5), (6, vI x6)] [] (σ, (g_up (g_up M r0 6 0) r0 7 (-1)), N) _ _
  refine r_run J 2 (pc' := 16) (lv' := [(0, vR r0), (1, vI x1), (2, vI x2), (3, vI x3), (4, vI x4), (5, vI x5), (6, vI x6)]) (st' := [vI 0, vR r0]) rfl ?_
  refine r_putI J cls6 rfl (k := 8) (by decide) wf_6_19 rfl (Or.inl rfl) ⟨rfl, rfl⟩ (g_is_at hs1) ?_
  show g_H E 0 0 19 [(0, vR r0), (1, vI x1), (2, vI x2), (3, vI x3), (4, vI x4), (5, vI x5), (6, vI x6)] [] (σ, (g_up (g_up (g_up M r0 6 0) r0 7 (-1)) r0 8 0), N) _ _
  exact p_X6_init_19 J r0 x1 x2 x3 x4 x5 x6 σ (g_up (g_up (g_up M r0 6 0) r0 7 (-1)) r0 8 0) N
theorem c_X6_init {l : Launch} (r0 : Nat) (x1 : Int32) (x2 : Int32) (x3 : Int32) (x4 : Int32) (x5 : Int32) (x6 : Int32) (σ : gS) (M : gM) (N : gN) (r : gM) (h : f_X6_init r0 x1 x2 x3 x4 x5 x6 σ M = some r) : g_Ct l yX6_init cX6_init 7 none 1 0 0 [vR r0, vI x1, vI x2, vI x3, vI x4, vI x5, vI x6] (σ, M, N) (eVM σ N r) :=
  g_Ct.of tb_X6_init (by decide +kernel) tk_X6_init (Nat.le_of_ble_eq_true rfl) (fun E J => p_X6_init_0 J r0 x1 x2 x3 x4 x5 x6 σ M N r h)
def tb_X6_charge : gT := [(0, .aload_n 0, 1, 0), (1, .getfield 22, 3, 0), (4, .iload_n 2, 1, 0), (5, .ishr, 1, 0), (6, .iconst 1, 1, 1), (7, .iand, 1, 0), (8, .ifCond .eq 7, 3, 0), (11, .iconst 1, 1, 1), (12, .goto 4, 3, 0), (15, .iconst 0, 1, 0), (16, .istore 4, 2, 0), (18, .aload_n 0, 1, 0), (19, .dup, 1, 0), (20, .getfield 25, 3, 0), (23, .iload 4, 2, 0), (25, .ifCond .eq 14, 3, 0), (28, .iload_n 1, 1, 0), (29, .iload_n 1, 1, 0), (30, .iload_n 3, 1, 0), (31, .imul, 1, 0), (32, .bipush 100, 2, 100), (34, .idiv, 1, 0), (35, .isub, 1, 0), (36, .goto 4, 3, 0), (39, .iload_n 1, 1, 0), (40, .iadd, 1, 0), (41, .putfield 25, 3, 0), (44, .return_, 1, 0)]
set_option maxRecDepth 100000 in
theorem tk_X6_charge : g_okT cX6_charge tb_X6_charge = true := by decide +kernel
abbrev J_X6_charge (E : gE) (l : Launch) : Prop := g_J E cX6_charge RX6 "charge" none 5 tb_X6_charge 1 0 0 l
set_option maxHeartbeats 4000000 in
set_option maxRecDepth 100000 in
theorem p_X6_charge_40 {l : Launch} {E : gE} (J : J_X6_charge E l) (sx0 : Int32) (sx1 : Int32) (sr2 : Nat) (σ : gS) (M : gM) (N : gN) (hL : g_layC σ) : g_H E 0 0 40 [] [vI sx0, vI sx1, vR sr2] (σ, M, N) (b_X6_charge_40 sx0 sx1 sr2 σ M) (eVM σ N) := by
  unfold b_X6_charge_40
  refine r_run J 1 (pc' := 41) (lv' := []) (st' := [vI (sx1 + sx0), vR sr2]) rfl ?_
  refine r_chk (fun hs41 => ?_)
  refine r_putI J cls6 rfl (k := 10) (by decide) wf_6_25 rfl (Or.inl rfl) ⟨rfl, rfl⟩ (g_is_at hs41) ?_
  show g_H E 0 0 44 [] [] (σ, (g_up M sr2 10 (sx1 + sx0)), N) _ _
  exact r_vret J rfl rfl rfl (by decide) (by decide)
set_option maxHeartbeats 4000000 in
set_option maxRecDepth 100000 in
theorem p_X6_charge_16 {l : Launch} {E : gE} (J : J_X6_charge E l) (r0 : Nat) (x1 : Int32) (x3 : Int32) (sx0 : Int32) (σ : gS) (M : gM) (N : gN) (hL : g_layC σ) : g_H E 0 0 16 [(0, vR r0), (1, vI x1), (3, vI x3)] [vI sx0] (σ, M, N) (b_X6_charge_16 r0 x1 x3 sx0 σ M) (eVM σ N) := by
  unfold b_X6_charge_16
  refine r_run J 3 (pc' := 20) (lv' := [(4, vI sx0), (0, vR r0), (1, vI x1), (3, vI x3)]) (st' := [vR r0, vR r0]) rfl ?_
  refine r_chk (fun hs20 => ?_)
  refine r_getI J cls6 rfl (k := 10) (by decide) wf_6_25 rfl (g_is_at hs20) ?_
  show g_H E 0 0 23 [(4, vI sx0), (0, vR r0), (1, vI x1), (3, vI x3)] [vI (M r0 10), vR r0] (σ, M, N) _ _
  refine r_run J 1 (pc' := 25) (lv' := [(4, vI sx0), (0, vR r0), (1, vI x1), (3, vI x3)]) (st' := [vI sx0, vI (M r0 10), vR r0]) rfl ?_
  refine r_if_eq J (tgt := 39) rfl (by decide) (fun c25 => ?_) (fun c25 => ?_)
  · refine r_run J 1 (pc' := 40) (lv' := [(4, vI sx0), (0, vR r0), (1, vI x1), (3, vI x3)]) (st' := [vI x1, vI (M r0 10), vR r0]) rfl ?_
    refine r_sub [] (lv' := []) rfl ?_
    exact p_X6_charge_40 J x1 (M r0 10) r0 σ M N hL
  · refine r_run J 5 (pc' := 34) (lv' := [(4, vI sx0), (0, vR r0), (1, vI x1), (3, vI x3)]) (st' := [vI 100, vI (x1 * x3), vI x1, vI (M r0 10), vR r0]) rfl ?_
    refine r_idiv J rfl (fun c34 => ?_)
    refine r_run J 2 (pc' := 40) (lv' := [(4, vI sx0), (0, vR r0), (1, vI x1), (3, vI x3)]) (st' := [vI (x1 - ((x1 * x3) / (100 : Int32))), vI (M r0 10), vR r0]) rfl ?_
    refine r_sub [] (lv' := []) rfl ?_
    exact p_X6_charge_40 J (x1 - ((x1 * x3) / (100 : Int32))) (M r0 10) r0 σ M N hL
set_option maxHeartbeats 4000000 in
set_option maxRecDepth 100000 in
theorem p_X6_charge_0 {l : Launch} {E : gE} (J : J_X6_charge E l) (r0 : Nat) (x1 : Int32) (x2 : Int32) (x3 : Int32) (σ : gS) (M : gM) (N : gN) (hL : g_layC σ) : g_H E 0 0 0 [(0, vR r0), (1, vI x1), (2, vI x2), (3, vI x3)] [] (σ, M, N) (b_X6_charge_0 r0 x1 x2 x3 σ M) (eVM σ N) := by
  unfold b_X6_charge_0
  refine r_run J 1 (pc' := 1) (lv' := [(0, vR r0), (1, vI x1), (2, vI x2), (3, vI x3)]) (st' := [vR r0]) rfl ?_
  refine r_chk (fun hs1 => ?_)
  refine r_getI J cls6 rfl (k := 9) (by decide) wf_6_22 rfl (g_is_at hs1) ?_
  show g_H E 0 0 4 [(0, vR r0), (1, vI x1), (2, vI x2), (3, vI x3)] [vI (M r0 9)] (σ, M, N) _ _
  refine r_run J 4 (pc' := 8) (lv' := [(0, vR r0), (1, vI x1), (2, vI x2), (3, vI x3)]) (st' := [vI (((M r0 9) >>> (x2 &&& 31)) &&& (1 : Int32))]) rfl ?_
  refine r_if_eq J (tgt := 15) rfl (by decide) (fun c8 => ?_) (fun c8 => ?_)
  · refine r_run J 1 (pc' := 16) (lv' := [(0, vR r0), (1, vI x1), (2, vI x2), (3, vI x3)]) (st' := [vI 0]) rfl ?_
    refine r_sub [0, 1, 3] (lv' := [(0, vR r0), (1, vI x1), (3, vI x3)]) rfl ?_
    exact p_X6_charge_16 J r0 x1 x3 0 σ M N hL
  · refine r_run J 2 (pc' := 16) (lv' := [(0, vR r0), (1, vI x1), (2, vI x2), (3, vI x3)]) (st' := [vI 1]) rfl ?_
    refine r_sub [0, 1, 3] (lv' := [(0, vR r0), (1, vI x1), (3, vI x3)]) rfl ?_
    exact p_X6_charge_16 J r0 x1 x3 1 σ M N hL
theorem c_X6_charge {l : Launch} (r0 : Nat) (x1 : Int32) (x2 : Int32) (x3 : Int32) (σ : gS) (M : gM) (N : gN) (hL : g_layC σ) (r : gM) (h : f_X6_charge r0 x1 x2 x3 σ M = some r) : g_Ct l yX6_charge cX6_charge 5 none 1 0 0 [vR r0, vI x1, vI x2, vI x3] (σ, M, N) (eVM σ N r) :=
  g_Ct.of tb_X6_charge (by decide +kernel) tk_X6_charge (Nat.le_of_ble_eq_true rfl) (fun E J => p_X6_charge_0 J r0 x1 x2 x3 σ M N hL r h)
def tb_X7_init : gT := [(0, .aload_n 0, 1, 0), (1, .invokespecial 3, 3, 0), (4, .aload_n 0, 1, 0), (5, .bipush 12, 2, 12), (7, .newarray .int, 2, 0), (9, .putfield 11, 3, 0), (12, .aload_n 0, 1, 0), (13, .bipush 36, 2, 36), (15, .newarray .int, 2, 0), (17, .putfield 17, 3, 0), (20, .aload_n 0, 1, 0), (21, .sipush 400, 3, 400), (24, .newarray .int, 2, 0), (26, .putfield 20, 3, 0), (29, .aload_n 0, 1, 0), (30, .sipush 400, 3, 400), (33, .newarray .int, 2, 0), (35, .putfield 23, 3, 0), (38, .aload_n 0, 1, 0), (39, .sipush 401, 3, 401), (42, .newarray .int, 2, 0), (44, .putfield 26, 3, 0), (47, .aload_n 0, 1, 0), (48, .sipush 401, 3, 401), (51, .newarray .int, 2, 0), (53, .putfield 29, 3, 0), (56, .aload_n 0, 1, 0), (57, .iconst 0, 1, 0), (58, .putfield 32, 3, 0), (61, .aload_n 0, 1, 0), (62, .iconst 0, 1, 0), (63, .putfield 36, 3, 0), (66, .aload_n 0, 1, 0), (67, .iconst 0, 1, 0), (68, .putfield 39, 3, 0), (71, .aload_n 0, 1, 0), (72, .iconst 0, 1, 0), (73, .putfield 42, 3, 0), (76, .aload_n 0, 1, 0), (77, .iconst 0, 1, 0), (78, .putfield 45, 3, 0), (81, .aload_n 0, 1, 0), (82, .bipush 12, 2, 12), (84, .putfield 48, 3, 0), (87, .aload_n 0, 1, 0), (88, .iconst 0, 1, 0), (89, .putfield 51, 3, 0), (92, .aload_n 0, 1, 0), (93, .iconst 0, 1, 0), (94, .putfield 54, 3, 0), (97, .return_, 1, 0)]
set_option maxRecDepth 100000 in
theorem tk_X7_init : g_okT cX7_init tb_X7_init = true := by decide +kernel
abbrev J_X7_init (E : gE) (l : Launch) : Prop := g_J E cX7_init RX7 "<init>" none 1 tb_X7_init 1 6 1650 l
set_option maxHeartbeats 4000000 in
set_option maxRecDepth 100000 in
theorem p_X7_init_92 {l : Launch} {E : gE} (J : J_X7_init E l) (σ : gS) (M : gM) (N : gN) : g_H E 6 1650 92 [(0, vR 7)] [] (σ, M, N) (b_X7_init_92 σ M N) (eVSMN) := by
  unfold b_X7_init_92
  refine r_run J 2 (pc' := 94) (lv' := [(0, vR 7)]) (st' := [vI 0, vR 7]) rfl ?_
  refine r_chk (fun hs94 => ?_)
  refine r_putI J cls7 rfl (k := 13) (by decide) wf_7_54 rfl (Or.inl rfl) ⟨rfl, rfl⟩ (g_is_at hs94) ?_
  show g_H E 6 1650 97 [(0, vR 7)] [] (σ, (g_up M 7 13 0), N) _ _
  exact r_vret J rfl rfl rfl (by decide) (by decide)
set_option maxHeartbeats 4000000 in
set_option maxRecDepth 100000 in
theorem p_X7_init_87 {l : Launch} {E : gE} (J : J_X7_init E l) (σ : gS) (M : gM) (N : gN) : g_H E 6 1650 87 [(0, vR 7)] [] (σ, M, N) (b_X7_init_87 σ M N) (eVSMN) := by
  unfold b_X7_init_87
  refine r_run J 2 (pc' := 89) (lv' := [(0, vR 7)]) (st' := [vI 0, vR 7]) rfl ?_
  refine r_chk (fun hs89 => ?_)
  refine r_putI J cls7 rfl (k := 12) (by decide) wf_7_51 rfl (Or.inl rfl) ⟨rfl, rfl⟩ (g_is_at hs89) ?_
  show g_H E 6 1650 92 [(0, vR 7)] [] (σ, (g_up M 7 12 0), N) _ _
  exact p_X7_init_92 J σ (g_up M 7 12 0) N
set_option maxHeartbeats 4000000 in
set_option maxRecDepth 100000 in
theorem p_X7_init_81 {l : Launch} {E : gE} (J : J_X7_init E l) (σ : gS) (M : gM) (N : gN) : g_H E 6 1650 81 [(0, vR 7)] [] (σ, M, N) (b_X7_init_81 σ M N) (eVSMN) := by
  unfold b_X7_init_81
  refine r_run J 2 (pc' := 84) (lv' := [(0, vR 7)]) (st' := [vI 12, vR 7]) rfl ?_
  refine r_chk (fun hs84 => ?_)
  refine r_putI J cls7 rfl (k := 11) (by decide) wf_7_48 rfl (Or.inl rfl) ⟨rfl, rfl⟩ (g_is_at hs84) ?_
  show g_H E 6 1650 87 [(0, vR 7)] [] (σ, (g_up M 7 11 12), N) _ _
  exact p_X7_init_87 J σ (g_up M 7 11 12) N
set_option maxHeartbeats 4000000 in
set_option maxRecDepth 100000 in
theorem p_X7_init_76 {l : Launch} {E : gE} (J : J_X7_init E l) (σ : gS) (M : gM) (N : gN) : g_H E 6 1650 76 [(0, vR 7)] [] (σ, M, N) (b_X7_init_76 σ M N) (eVSMN) := by
  unfold b_X7_init_76
  refine r_run J 2 (pc' := 78) (lv' := [(0, vR 7)]) (st' := [vI 0, vR 7]) rfl ?_
  refine r_chk (fun hs78 => ?_)
  refine r_putI J cls7 rfl (k := 10) (by decide) wf_7_45 rfl (Or.inl rfl) ⟨rfl, rfl⟩ (g_is_at hs78) ?_
  show g_H E 6 1650 81 [(0, vR 7)] [] (σ, (g_up M 7 10 0), N) _ _
  exact p_X7_init_81 J σ (g_up M 7 10 0) N
set_option maxHeartbeats 4000000 in
set_option maxRecDepth 100000 in
theorem p_X7_init_71 {l : Launch} {E : gE} (J : J_X7_init E l) (σ : gS) (M : gM) (N : gN) : g_H E 6 1650 71 [(0, vR 7)] [] (σ, M, N) (b_X7_init_71 σ M N) (eVSMN) := by
  unfold b_X7_init_71
  refine r_run J 2 (pc' := 73) (lv' := [(0, vR 7)]) (st' := [vI 0, vR 7]) rfl ?_
  refine r_chk (fun hs73 => ?_)
  refine r_putI J cls7 rfl (k := 9) (by decide) wf_7_42 rfl (Or.inl rfl) ⟨rfl, rfl⟩ (g_is_at hs73) ?_
  show g_H E 6 1650 76 [(0, vR 7)] [] (σ, (g_up M 7 9 0), N) _ _
  exact p_X7_init_76 J σ (g_up M 7 9 0) N
set_option maxHeartbeats 4000000 in
set_option maxRecDepth 100000 in
theorem p_X7_init_66 {l : Launch} {E : gE} (J : J_X7_init E l) (σ : gS) (M : gM) (N : gN) : g_H E 6 1650 66 [(0, vR 7)] [] (σ, M, N) (b_X7_init_66 σ M N) (eVSMN) := by
  unfold b_X7_init_66
  refine r_run J 2 (pc' := 68) (lv' := [(0, vR 7)]) (st' := [vI 0, vR 7]) rfl ?_
  refine r_chk (fun hs68 => ?_)
  refine r_putI J cls7 rfl (k := 8) (by decide) wf_7_39 rfl (Or.inl rfl) ⟨rfl, rfl⟩ (g_is_at hs68) ?_
  show g_H E 6 1650 71 [(0, vR 7)] [] (σ, (g_up M 7 8 0), N) _ _
  exact p_X7_init_71 J σ (g_up M 7 8 0) N
set_option maxHeartbeats 4000000 in
set_option maxRecDepth 100000 in
theorem p_X7_init_61 {l : Launch} {E : gE} (J : J_X7_init E l) (σ : gS) (M : gM) (N : gN) : g_H E 6 1650 61 [(0, vR 7)] [] (σ, M, N) (b_X7_init_61 σ M N) (eVSMN) := by
  unfold b_X7_init_61
  refine r_run J 2 (pc' := 63) (lv' := [(0, vR 7)]) (st' := [vI 0, vR 7]) rfl ?_
  refine r_chk (fun hs63 => ?_)
  refine r_putI J cls7 rfl (k := 7) (by decide) wf_7_36 rfl (Or.inl rfl) ⟨rfl, rfl⟩ (g_is_at hs63) ?_
  show g_H E 6 1650 66 [(0, vR 7)] [] (σ, (g_up M 7 7 0), N) _ _
  exact p_X7_init_66 J σ (g_up M 7 7 0) N
set_option maxHeartbeats 4000000 in
set_option maxRecDepth 100000 in
theorem p_X7_init_56 {l : Launch} {E : gE} (J : J_X7_init E l) (σ : gS) (M : gM) (N : gN) : g_H E 6 1650 56 [(0, vR 7)] [] (σ, M, N) (b_X7_init_56 σ M N) (eVSMN) := by
  unfold b_X7_init_56
  refine r_run J 2 (pc' := 58) (lv' := [(0, vR 7)]) (st' := [vI 0, vR 7]) rfl ?_
  refine r_chk (fun hs58 => ?_)
  refine r_putI J cls7 rfl (k := 6) (by decide) wf_7_32 rfl (Or.inl rfl) ⟨rfl, rfl⟩ (g_is_at hs58) ?_
  show g_H E 6 1650 61 [(0, vR 7)] [] (σ, (g_up M 7 6 0), N) _ _
  exact p_X7_init_61 J σ (g_up M 7 6 0) N
set_option maxHeartbeats 4000000 in
set_option maxRecDepth 100000 in
theorem p_X7_init_47 {l : Launch} {E : gE} (J : J_X7_init E l) (σ : gS) (M : gM) (N : gN) : g_H E 5 1249 47 [(0, vR 7)] [] (σ, M, N) (b_X7_init_47 σ M N) (eVSMN) := by
  unfold b_X7_init_47
  refine r_run J 2 (pc' := 51) (lv' := [(0, vR 7)]) (st' := [vI 401, vR 7]) rfl ?_
  refine r_chk (fun hf51 => ?_)
  refine r_newI J (B := 401) rfl wa_int (by decide) rfl (Nat.le_refl _) (by decide) (g_fr_0 hf51) (g_fr_n hf51) (by decide) (by decide) ?_
  show g_H E 6 1650 53 [(0, vR 7)] [vR 38, vR 7] ((g_nS σ 38 14 401), (g_z M 38 0), (g_z N 38 0)) _ _
  refine r_chk (fun hs53 => ?_)
  refine r_putR J cls7 rfl (k := 5) (t := 14) (by decide) wf_7_29 rfl rfl (Or.inr ⟨rfl, rfl, rfl⟩) (g_is_at hs53) (Or.inr ⟨_, (g_nS_at σ 38 14 401)⟩) ?_
  show g_H E 6 1650 56 [(0, vR 7)] [] ((g_pS (g_nS σ 38 14 401) 7 5 38), (g_z M 38 0), (g_z N 38 0)) _ _
  exact p_X7_init_56 J (g_pS (g_nS σ 38 14 401) 7 5 38) (g_z M 38 0) (g_z N 38 0)
set_option maxHeartbeats 4000000 in
set_option maxRecDepth 100000 in
theorem p_X7_init_38 {l : Launch} {E : gE} (J : J_X7_init E l) (σ : gS) (M : gM) (N : gN) : g_H E 4 848 38 [(0, vR 7)] [] (σ, M, N) (b_X7_init_38 σ M N) (eVSMN) := by
  unfold b_X7_init_38
  refine r_run J 2 (pc' := 42) (lv' := [(0, vR 7)]) (st' := [vI 401, vR 7]) rfl ?_
  refine r_chk (fun hf42 => ?_)
  refine r_newI J (B := 401) rfl wa_int (by decide) rfl (Nat.le_refl _) (by decide) (g_fr_0 hf42) (g_fr_n hf42) (by decide) (by decide) ?_
  show g_H E 5 1249 44 [(0, vR 7)] [vR 37, vR 7] ((g_nS σ 37 14 401), (g_z M 37 0), (g_z N 37 0)) _ _
  refine r_chk (fun hs44 => ?_)
  refine r_putR J cls7 rfl (k := 4) (t := 14) (by decide) wf_7_26 rfl rfl (Or.inr ⟨rfl, rfl, rfl⟩) (g_is_at hs44) (Or.inr ⟨_, (g_nS_at σ 37 14 401)⟩) ?_
  show g_H E 5 1249 47 [(0, vR 7)] [] ((g_pS (g_nS σ 37 14 401) 7 4 37), (g_z M 37 0), (g_z N 37 0)) _ _
  exact p_X7_init_47 J (g_pS (g_nS σ 37 14 401) 7 4 37) (g_z M 37 0) (g_z N 37 0)
set_option maxHeartbeats 4000000 in
set_option maxRecDepth 100000 in
theorem p_X7_init_29 {l : Launch} {E : gE} (J : J_X7_init E l) (σ : gS) (M : gM) (N : gN) : g_H E 3 448 29 [(0, vR 7)] [] (σ, M, N) (b_X7_init_29 σ M N) (eVSMN) := by
  unfold b_X7_init_29
  refine r_run J 2 (pc' := 33) (lv' := [(0, vR 7)]) (st' := [vI 400, vR 7]) rfl ?_
  refine r_chk (fun hf33 => ?_)
  refine r_newI J (B := 400) rfl wa_int (by decide) rfl (Nat.le_refl _) (by decide) (g_fr_0 hf33) (g_fr_n hf33) (by decide) (by decide) ?_
  show g_H E 4 848 35 [(0, vR 7)] [vR 11, vR 7] ((g_nS σ 11 14 400), (g_z M 11 0), (g_z N 11 0)) _ _
  refine r_chk (fun hs35 => ?_)
  refine r_putR J cls7 rfl (k := 3) (t := 14) (by decide) wf_7_23 rfl rfl (Or.inr ⟨rfl, rfl, rfl⟩) (g_is_at hs35) (Or.inr ⟨_, (g_nS_at σ 11 14 400)⟩) ?_
  show g_H E 4 848 38 [(0, vR 7)] [] ((g_pS (g_nS σ 11 14 400) 7 3 11), (g_z M 11 0), (g_z N 11 0)) _ _
  exact p_X7_init_38 J (g_pS (g_nS σ 11 14 400) 7 3 11) (g_z M 11 0) (g_z N 11 0)
set_option maxHeartbeats 4000000 in
set_option maxRecDepth 100000 in
theorem p_X7_init_20 {l : Launch} {E : gE} (J : J_X7_init E l) (σ : gS) (M : gM) (N : gN) : g_H E 2 48 20 [(0, vR 7)] [] (σ, M, N) (b_X7_init_20 σ M N) (eVSMN) := by
  unfold b_X7_init_20
  refine r_run J 2 (pc' := 24) (lv' := [(0, vR 7)]) (st' := [vI 400, vR 7]) rfl ?_
  refine r_chk (fun hf24 => ?_)
  refine r_newI J (B := 400) rfl wa_int (by decide) rfl (Nat.le_refl _) (by decide) (g_fr_0 hf24) (g_fr_n hf24) (by decide) (by decide) ?_
  show g_H E 3 448 26 [(0, vR 7)] [vR 10, vR 7] ((g_nS σ 10 14 400), (g_z M 10 0), (g_z N 10 0)) _ _
  refine r_chk (fun hs26 => ?_)
  refine r_putR J cls7 rfl (k := 2) (t := 14) (by decide) wf_7_20 rfl rfl (Or.inr ⟨rfl, rfl, rfl⟩) (g_is_at hs26) (Or.inr ⟨_, (g_nS_at σ 10 14 400)⟩) ?_
  show g_H E 3 448 29 [(0, vR 7)] [] ((g_pS (g_nS σ 10 14 400) 7 2 10), (g_z M 10 0), (g_z N 10 0)) _ _
  exact p_X7_init_29 J (g_pS (g_nS σ 10 14 400) 7 2 10) (g_z M 10 0) (g_z N 10 0)
set_option maxHeartbeats 4000000 in
set_option maxRecDepth 100000 in
theorem p_X7_init_12 {l : Launch} {E : gE} (J : J_X7_init E l) (σ : gS) (M : gM) (N : gN) : g_H E 1 12 12 [(0, vR 7)] [] (σ, M, N) (b_X7_init_12 σ M N) (eVSMN) := by
  unfold b_X7_init_12
  refine r_run J 2 (pc' := 15) (lv' := [(0, vR 7)]) (st' := [vI 36, vR 7]) rfl ?_
  refine r_chk (fun hf15 => ?_)
  refine r_newI J (B := 36) rfl wa_int (by decide) rfl (Nat.le_refl _) (by decide) (g_fr_0 hf15) (g_fr_n hf15) (by decide) (by decide) ?_
  show g_H E 2 48 17 [(0, vR 7)] [vR 9, vR 7] ((g_nS σ 9 14 36), (g_z M 9 0), (g_z N 9 0)) _ _
  refine r_chk (fun hs17 => ?_)
  refine r_putR J cls7 rfl (k := 1) (t := 14) (by decide) wf_7_17 rfl rfl (Or.inr ⟨rfl, rfl, rfl⟩) (g_is_at hs17) (Or.inr ⟨_, (g_nS_at σ 9 14 36)⟩) ?_
  show g_H E 2 48 20 [(0, vR 7)] [] ((g_pS (g_nS σ 9 14 36) 7 1 9), (g_z M 9 0), (g_z N 9 0)) _ _
  exact p_X7_init_20 J (g_pS (g_nS σ 9 14 36) 7 1 9) (g_z M 9 0) (g_z N 9 0)
set_option maxHeartbeats 4000000 in
set_option maxRecDepth 100000 in
theorem p_X7_init_0 {l : Launch} {E : gE} (J : J_X7_init E l) (σ : gS) (M : gM) (N : gN) : g_H E 0 0 0 [(0, vR 7)] [] (σ, M, N) (b_X7_init_0 σ M N) (eVSMN) := by
  unfold b_X7_init_0
  refine r_run J 1 (pc' := 1) (lv' := [(0, vR 7)]) (st' := [vR 7]) rfl ?_
  refine r_chk (fun hs1 => ?_)
  refine r_objI J (by rw [(g_is_at hs1)]; exact Option.some_ne_none _) wm_7_3 w_obj rfl ⟨by decide, Nat.le_of_ble_eq_true rfl⟩ ?_
  refine r_run J 2 (pc' := 7) (lv' := [(0, vR 7)]) (st' := [vI 12, vR 7]) rfl ?_
  refine r_chk (fun hf7 => ?_)
  refine r_newI J (B := 12) rfl wa_int (by decide) rfl (Nat.le_refl _) (by decide) (g_fr_0 hf7) (g_fr_n hf7) (by decide) (by decide) ?_
  show g_H E 1 12 9 [(0, vR 7)] [vR 8, vR 7] ((g_nS σ 8 14 12), (g_z M 8 0), (g_z N 8 0)) _ _
  refine r_chk (fun hs9 => ?_)
  refine r_putR J cls7 rfl (k := 0) (t := 14) (by decide) wf_7_11 rfl rfl (Or.inr ⟨rfl, rfl, rfl⟩) (g_is_at hs9) (Or.inr ⟨_, (g_nS_at σ 8 14 12)⟩) ?_
  show g_H E 1 12 12 [(0, vR 7)] [] ((g_pS (g_nS σ 8 14 12) 7 0 8), (g_z M 8 0), (g_z N 8 0)) _ _
  exact p_X7_init_12 J (g_pS (g_nS σ 8 14 12) 7 0 8) (g_z M 8 0) (g_z N 8 0)
theorem c_X7_init {l : Launch} (σ : gS) (M : gM) (N : gN) (r : gS × gM × gN) (h : f_X7_init σ M N = some r) : g_Ct l yX7_init cX7_init 1 none 1 6 1650 [vR 7] (σ, M, N) (eVSMN r) :=
  g_Ct.of tb_X7_init (by decide +kernel) tk_X7_init (Nat.le_of_ble_eq_true rfl) (fun E J => p_X7_init_0 J σ M N r h)
def tb_X7_take : gT := [(0, .bipush 56, 2, 56), (2, .istore_n 3, 1, 0), (3, .iload_n 3, 1, 0), (4, .ifCond .lt 55, 3, 0), (7, .lload_n 1, 1, 0), (8, .iload_n 3, 1, 0), (9, .lushr, 1, 0), (10, .l2i, 1, 0), (11, .sipush 255, 3, 255), (14, .iand, 1, 0), (15, .istore 4, 2, 0), (17, .iload 4, 2, 0), (19, .ifCond .eq 34, 3, 0), (22, .aload_n 0, 1, 0), (23, .getfield 32, 3, 0), (26, .sipush 400, 3, 400), (29, .if_icmp .ge 24, 3, 0), (32, .aload_n 0, 1, 0), (33, .getfield 23, 3, 0), (36, .aload_n 0, 1, 0), (37, .getfield 32, 3, 0), (40, .iload 4, 2, 0), (42, .iastore, 1, 0), (43, .aload_n 0, 1, 0), (44, .dup, 1, 0), (45, .getfield 32, 3, 0), (48, .iconst 1, 1, 1), (49, .iadd, 1, 0), (50, .putfield 32, 3, 0), (53, .iinc 3 (-8), 3, (-8)), (56, .goto (-53), 3, 0), (59, .return_, 1, 0)]
set_option maxRecDepth 100000 in
theorem tk_X7_take : g_okT cX7_take tb_X7_take = true := by decide +kernel
abbrev J_X7_take (E : gE) (l : Launch) : Prop := g_J E cX7_take RX7 "take" none 5 tb_X7_take 1 0 0 l
set_option maxHeartbeats 4000000 in
set_option maxRecDepth 100000 in
theorem p_X7_take_53 {l : Launch} {E : gE} (J : J_X7_take E l) {k3 : Int64 → Int32 → gS → gM → Option (gM)} (H3 : ∀ (y1 : Int64) (x3 : Int32) (σ : gS) (M : gM) (N : gN) (_ : g_layC σ), g_H E 0 0 3 [(0, vR 7), (1, vL y1), (3, vI x3)] [] (σ, M, N) (k3 y1 x3 σ M) (eVM σ N)) (y1 : Int64) (x3 : Int32) (σ : gS) (M : gM) (N : gN) (hL : g_layC σ) : g_H E 0 0 53 [(0, vR 7), (1, vL y1), (3, vI x3)] [] (σ, M, N) (b_X7_take_53 k3 y1 x3 σ M) (eVM σ N) := by
  unfold b_X7_take_53
  refine r_run J 2 (pc' := 3) (lv' := [(3, vI (x3 + (-8))), (0, vR 7), (1, vL y1)]) (st' := []) rfl ?_
  refine r_sub [1, 2, 0] (lv' := [(0, vR 7), (1, vL y1), (3, vI (x3 + (-8)))]) rfl ?_
  exact H3 y1 (x3 + (-8)) σ M N hL
set_option maxHeartbeats 4000000 in
set_option maxRecDepth 100000 in
theorem p_X7_take_3 {l : Launch} {E : gE} (J : J_X7_take E l) : ∀ (n : Nat) (y1 : Int64) (x3 : Int32) (σ : gS) (M : gM) (N : gN) (hL : g_layC σ), g_H E 0 0 3 [(0, vR 7), (1, vL y1), (3, vI x3)] [] (σ, M, N) (l_X7_take_3 n y1 x3 σ M) (eVM σ N) := by
  intro n
  induction n with
  | zero => intros; exact h_none
  | succ n ih =>
    intro y1 x3 σ M N hL
    rw [l_X7_take_3]
    refine r_run J 1 (pc' := 4) (lv' := [(0, vR 7), (1, vL y1), (3, vI x3)]) (st' := [vI x3]) rfl ?_
    refine r_if_lt J (tgt := 59) rfl (by decide) (fun c4 => ?_) (fun c4 => ?_)
    · exact r_vret J rfl rfl rfl (by decide) (by decide)
    · refine r_run J 8 (pc' := 19) (lv' := [(4, vI ((((y1.toUInt64 >>> (x3.toInt64.toUInt64 &&& Int64.toUInt64 63)).toInt64).toInt32) &&& (255 : Int32))), (0, vR 7), (1, vL y1), (3, vI x3)]) (st' := [vI ((((y1.toUInt64 >>> (x3.toInt64.toUInt64 &&& Int64.toUInt64 63)).toInt64).toInt32) &&& (255 : Int32))]) rfl ?_
      refine r_if_eq J (tgt := 53) rfl (by decide) (fun c19 => ?_) (fun c19 => ?_)
      · refine r_sub [1, 2, 3] (lv' := [(0, vR 7), (1, vL y1), (3, vI x3)]) rfl ?_
        exact p_X7_take_53 J ih y1 x3 σ M N hL
      · refine r_run J 1 (pc' := 23) (lv' := [(4, vI ((((y1.toUInt64 >>> (x3.toInt64.toUInt64 &&& Int64.toUInt64 63)).toInt64).toInt32) &&& (255 : Int32))), (0, vR 7), (1, vL y1), (3, vI x3)]) (st' := [vR 7]) rfl ?_
        refine r_getI J cls7 rfl (k := 6) (by decide) wf_7_32 rfl (ly_7 hL) ?_
        show g_H E 0 0 26 [(4, vI ((((y1.toUInt64 >>> (x3.toInt64.toUInt64 &&& Int64.toUInt64 63)).toInt64).toInt32) &&& (255 : Int32))), (0, vR 7), (1, vL y1), (3, vI x3)] [vI (M 7 6)] (σ, M, N) _ _
        refine r_run J 1 (pc' := 29) (lv' := [(4, vI ((((y1.toUInt64 >>> (x3.toInt64.toUInt64 &&& Int64.toUInt64 63)).toInt64).toInt32) &&& (255 : Int32))), (0, vR 7), (1, vL y1), (3, vI x3)]) (st' := [vI 400, vI (M 7 6)]) rfl ?_
        refine r_icmp_ge J (tgt := 53) rfl (by decide) (fun c29 => ?_) (fun c29 => ?_)
        · refine r_run J 1 (pc' := 33) (lv' := [(4, vI ((((y1.toUInt64 >>> (x3.toInt64.toUInt64 &&& Int64.toUInt64 63)).toInt64).toInt32) &&& (255 : Int32))), (0, vR 7), (1, vL y1), (3, vI x3)]) (st' := [vR 7]) rfl ?_
          refine r_getR J cls7 rfl (k := 3) (t := 14) (by decide) wf_7_23 rfl rfl (ly_7 hL) (lr_7_3 hL) (fun _ => ?_)
          show g_H E 0 0 36 [(4, vI ((((y1.toUInt64 >>> (x3.toInt64.toUInt64 &&& Int64.toUInt64 63)).toInt64).toInt32) &&& (255 : Int32))), (0, vR 7), (1, vL y1), (3, vI x3)] [vR 11] (σ, M, N) _ _
          refine r_run J 1 (pc' := 37) (lv' := [(4, vI ((((y1.toUInt64 >>> (x3.toInt64.toUInt64 &&& Int64.toUInt64 63)).toInt64).toInt32) &&& (255 : Int32))), (0, vR 7), (1, vL y1), (3, vI x3)]) (st' := [vR 7, vR 11]) rfl ?_
          refine r_getI J cls7 rfl (k := 6) (by decide) wf_7_32 rfl (ly_7 hL) ?_
          show g_H E 0 0 40 [(4, vI ((((y1.toUInt64 >>> (x3.toInt64.toUInt64 &&& Int64.toUInt64 63)).toInt64).toInt32) &&& (255 : Int32))), (0, vR 7), (1, vL y1), (3, vI x3)] [vI (M 7 6), vR 11] (σ, M, N) _ _
          refine r_run J 1 (pc' := 42) (lv' := [(4, vI ((((y1.toUInt64 >>> (x3.toInt64.toUInt64 &&& Int64.toUInt64 63)).toInt64).toInt32) &&& (255 : Int32))), (0, vR 7), (1, vL y1), (3, vI x3)]) (st' := [vI ((((y1.toUInt64 >>> (x3.toInt64.toUInt64 &&& Int64.toUInt64 63)).toInt64).toInt32) &&& (255 : Int32)), vI (M 7 6), vR 11]) rfl ?_
          refine r_iast J rfl (ly_11 hL) (fun i42 => ?_)
          show g_H E 0 0 43 [(4, vI ((((y1.toUInt64 >>> (x3.toInt64.toUInt64 &&& Int64.toUInt64 63)).toInt64).toInt32) &&& (255 : Int32))), (0, vR 7), (1, vL y1), (3, vI x3)] [] (σ, (g_up M 11 ((M 7 6).toNatClampNeg) ((((y1.toUInt64 >>> (x3.toInt64.toUInt64 &&& Int64.toUInt64 63)).toInt64).toInt32) &&& (255 : Int32))), N) _ _
          refine r_run J 2 (pc' := 45) (lv' := [(4, vI ((((y1.toUInt64 >>> (x3.toInt64.toUInt64 &&& Int64.toUInt64 63)).toInt64).toInt32) &&& (255 : Int32))), (0, vR 7), (1, vL y1), (3, vI x3)]) (st' := [vR 7, vR 7]) rfl ?_
          refine r_getI J cls7 rfl (k := 6) (by decide) wf_7_32 rfl (ly_7 hL) ?_
          show g_H E 0 0 48 [(4, vI ((((y1.toUInt64 >>> (x3.toInt64.toUInt64 &&& Int64.toUInt64 63)).toInt64).toInt32) &&& (255 : Int32))), (0, vR 7), (1, vL y1), (3, vI x3)] [vI ((g_up M 11 ((M 7 6).toNatClampNeg) ((((y1.toUInt64 >>> (x3.toInt64.toUInt64 &&& Int64.toUInt64 63)).toInt64).toInt32) &&& (255 : Int32))) 7 6), vR 7] (σ, (g_up M 11 ((M 7 6).toNatClampNeg) ((((y1.toUInt64 >>> (x3.toInt64.toUInt64 &&& Int64.toUInt64 63)).toInt64).toInt32) &&& (255 : Int32))), N) _ _
          refine r_run J 2 (pc' := 50) (lv' := [(4, vI ((((y1.toUInt64 >>> (x3.toInt64.toUInt64 &&& Int64.toUInt64 63)).toInt64).toInt32) &&& (255 : Int32))), (0, vR 7), (1, vL y1), (3, vI x3)]) (st' := [vI (((g_up M 11 ((M 7 6).toNatClampNeg) ((((y1.toUInt64 >>> (x3.toInt64.toUInt64 &&& Int64.toUInt64 63)).toInt64).toInt32) &&& (255 : Int32))) 7 6) + (1 : Int32)), vR 7]) rfl ?_
          refine r_putI J cls7 rfl (k := 6) (by decide) wf_7_32 rfl (Or.inl rfl) ⟨rfl, rfl⟩ (ly_7 hL) ?_
          show g_H E 0 0 53 [(4, vI ((((y1.toUInt64 >>> (x3.toInt64.toUInt64 &&& Int64.toUInt64 63)).toInt64).toInt32) &&& (255 : Int32))), (0, vR 7), (1, vL y1), (3, vI x3)] [] (σ, (g_up (g_up M 11 ((M 7 6).toNatClampNeg) ((((y1.toUInt64 >>> (x3.toInt64.toUInt64 &&& Int64.toUInt64 63)).toInt64).toInt32) &&& (255 : Int32))) 7 6 (((g_up M 11 ((M 7 6).toNatClampNeg) ((((y1.toUInt64 >>> (x3.toInt64.toUInt64 &&& Int64.toUInt64 63)).toInt64).toInt32) &&& (255 : Int32))) 7 6) + (1 : Int32))), N) _ _
          refine r_sub [1, 2, 3] (lv' := [(0, vR 7), (1, vL y1), (3, vI x3)]) rfl ?_
          exact p_X7_take_53 J ih y1 x3 σ (g_up (g_up M 11 ((M 7 6).toNatClampNeg) ((((y1.toUInt64 >>> (x3.toInt64.toUInt64 &&& Int64.toUInt64 63)).toInt64).toInt32) &&& (255 : Int32))) 7 6 (((g_up M 11 ((M 7 6).toNatClampNeg) ((((y1.toUInt64 >>> (x3.toInt64.toUInt64 &&& Int64.toUInt64 63)).toInt64).toInt32) &&& (255 : Int32))) 7 6) + (1 : Int32))) N hL
        · refine r_sub [1, 2, 3] (lv' := [(0, vR 7), (1, vL y1), (3, vI x3)]) rfl ?_
          exact p_X7_take_53 J ih y1 x3 σ M N hL
set_option maxHeartbeats 4000000 in
set_option maxRecDepth 100000 in
theorem p_X7_take_0 {l : Launch} {E : gE} (J : J_X7_take E l) (y1 : Int64) (σ : gS) (M : gM) (N : gN) (hL : g_layC σ) : g_H E 0 0 0 [(0, vR 7), (1, vL y1)] [] (σ, M, N) (b_X7_take_0 y1 σ M) (eVM σ N) := by
  unfold b_X7_take_0
  refine r_run J 2 (pc' := 3) (lv' := [(3, vI 56), (0, vR 7), (1, vL y1)]) (st' := []) rfl ?_
  refine r_sub [1, 2, 0] (lv' := [(0, vR 7), (1, vL y1), (3, vI 56)]) rfl ?_
  exact p_X7_take_3 J g_FU y1 56 σ M N hL
theorem c_X7_take {l : Launch} (y1 : Int64) (σ : gS) (M : gM) (N : gN) (hL : g_layC σ) (r : gM) (h : f_X7_take y1 σ M = some r) : g_Ct l yX7_take cX7_take 5 none 1 0 0 [vR 7, vL y1] (σ, M, N) (eVM σ N r) :=
  g_Ct.of tb_X7_take (by decide +kernel) tk_X7_take (Nat.le_of_ble_eq_true rfl) (fun E J => p_X7_take_0 J y1 σ M N hL r h)
def tb_X7_isBlank : gT := [(0, .iload_n 0, 1, 0), (1, .bipush 32, 2, 32), (3, .if_icmp .eq 9, 3, 0), (6, .iload_n 0, 1, 0), (7, .bipush 10, 2, 10), (9, .if_icmp .ne 7, 3, 0), (12, .iconst 1, 1, 1), (13, .goto 4, 3, 0), (16, .iconst 0, 1, 0), (17, .ireturn, 1, 0)]
set_option maxRecDepth 100000 in
theorem tk_X7_isBlank : g_okT cX7_isBlank tb_X7_isBlank = true := by decide +kernel
abbrev J_X7_isBlank (E : gE) (l : Launch) : Prop := g_J E cX7_isBlank RX7 "isBlank" (some .boolean) 1 tb_X7_isBlank 1 0 0 l
set_option maxHeartbeats 4000000 in
set_option maxRecDepth 100000 in
theorem p_X7_isBlank_12 {l : Launch} {E : gE} (J : J_X7_isBlank E l) (σ : gS) (M : gM) (N : gN) (hL : g_layC σ) : g_H E 0 0 12 [] [] (σ, M, N) (b_X7_isBlank_12) (eI σ M N) := by
  unfold b_X7_isBlank_12
  refine r_run J 2 (pc' := 17) (lv' := []) (st' := [vI 1]) rfl ?_
  exact r_iret J rfl rfl rfl rfl (by decide) (by decide)
set_option maxHeartbeats 4000000 in
set_option maxRecDepth 100000 in
theorem p_X7_isBlank_0 {l : Launch} {E : gE} (J : J_X7_isBlank E l) (x0 : Int32) (σ : gS) (M : gM) (N : gN) (hL : g_layC σ) : g_H E 0 0 0 [(0, vI x0)] [] (σ, M, N) (b_X7_isBlank_0 x0) (eI σ M N) := by
  unfold b_X7_isBlank_0
  refine r_run J 2 (pc' := 3) (lv' := [(0, vI x0)]) (st' := [vI 32, vI x0]) rfl ?_
  refine r_icmp_eq J (tgt := 12) rfl (by decide) (fun c3 => ?_) (fun c3 => ?_)
  · refine r_sub [] (lv' := []) rfl ?_
    exact p_X7_isBlank_12 J σ M N hL
  · refine r_run J 2 (pc' := 9) (lv' := [(0, vI x0)]) (st' := [vI 10, vI x0]) rfl ?_
    refine r_icmp_ne J (tgt := 16) rfl (by decide) (fun c9 => ?_) (fun c9 => ?_)
    · refine r_sub [] (lv' := []) rfl ?_
      exact p_X7_isBlank_12 J σ M N hL
    · refine r_run J 1 (pc' := 17) (lv' := [(0, vI x0)]) (st' := [vI 0]) rfl ?_
      exact r_iret J rfl rfl rfl rfl (by decide) (by decide)
theorem c_X7_isBlank {l : Launch} (x0 : Int32) (σ : gS) (M : gM) (N : gN) (hL : g_layC σ) (r : Int32) (h : f_X7_isBlank x0 = some r) : g_Ct l yX7_isBlank cX7_isBlank 1 (some .boolean) 1 0 0 [vI x0] (σ, M, N) (eI σ M N r) :=
  g_Ct.of tb_X7_isBlank (by decide +kernel) tk_X7_isBlank (Nat.le_of_ble_eq_true rfl) (fun E J => p_X7_isBlank_0 J x0 σ M N hL r h)
def tb_X7_isLetter : gT := [(0, .iload_n 0, 1, 0), (1, .bipush 97, 2, 97), (3, .if_icmp .lt 13, 3, 0), (6, .iload_n 0, 1, 0), (7, .bipush 122, 2, 122), (9, .if_icmp .gt 7, 3, 0), (12, .iconst 1, 1, 1), (13, .goto 4, 3, 0), (16, .iconst 0, 1, 0), (17, .ireturn, 1, 0)]
set_option maxRecDepth 100000 in
theorem tk_X7_isLetter : g_okT cX7_isLetter tb_X7_isLetter = true := by decide +kernel
abbrev J_X7_isLetter (E : gE) (l : Launch) : Prop := g_J E cX7_isLetter RX7 "isLetter" (some .boolean) 1 tb_X7_isLetter 1 0 0 l
set_option maxHeartbeats 4000000 in
set_option maxRecDepth 100000 in
theorem p_X7_isLetter_0 {l : Launch} {E : gE} (J : J_X7_isLetter E l) (x0 : Int32) (σ : gS) (M : gM) (N : gN) (hL : g_layC σ) : g_H E 0 0 0 [(0, vI x0)] [] (σ, M, N) (b_X7_isLetter_0 x0) (eI σ M N) := by
  unfold b_X7_isLetter_0
  refine r_run J 2 (pc' := 3) (lv' := [(0, vI x0)]) (st' := [vI 97, vI x0]) rfl ?_
  refine r_icmp_lt J (tgt := 16) rfl (by decide) (fun c3 => ?_) (fun c3 => ?_)
  · refine r_run J 1 (pc' := 17) (lv' := [(0, vI x0)]) (st' := [vI 0]) rfl ?_
    exact r_iret J rfl rfl rfl rfl (by decide) (by decide)
  · refine r_run J 2 (pc' := 9) (lv' := [(0, vI x0)]) (st' := [vI 122, vI x0]) rfl ?_
    refine r_icmp_gt J (tgt := 16) rfl (by decide) (fun c9 => ?_) (fun c9 => ?_)
    · refine r_run J 1 (pc' := 17) (lv' := [(0, vI x0)]) (st' := [vI 0]) rfl ?_
      exact r_iret J rfl rfl rfl rfl (by decide) (by decide)
    · refine r_run J 2 (pc' := 17) (lv' := [(0, vI x0)]) (st' := [vI 1]) rfl ?_
      exact r_iret J rfl rfl rfl rfl (by decide) (by decide)
theorem c_X7_isLetter {l : Launch} (x0 : Int32) (σ : gS) (M : gM) (N : gN) (hL : g_layC σ) (r : Int32) (h : f_X7_isLetter x0 = some r) : g_Ct l yX7_isLetter cX7_isLetter 1 (some .boolean) 1 0 0 [vI x0] (σ, M, N) (eI σ M N r) :=
  g_Ct.of tb_X7_isLetter (by decide +kernel) tk_X7_isLetter (Nat.le_of_ble_eq_true rfl) (fun E J => p_X7_isLetter_0 J x0 σ M N hL r h)
def tb_X7_isDigit : gT := [(0, .iload_n 0, 1, 0), (1, .bipush 48, 2, 48), (3, .if_icmp .lt 13, 3, 0), (6, .iload_n 0, 1, 0), (7, .bipush 57, 2, 57), (9, .if_icmp .gt 7, 3, 0), (12, .iconst 1, 1, 1), (13, .goto 4, 3, 0), (16, .iconst 0, 1, 0), (17, .ireturn, 1, 0)]
set_option maxRecDepth 100000 in
theorem tk_X7_isDigit : g_okT cX7_isDigit tb_X7_isDigit = true := by decide +kernel
abbrev J_X7_isDigit (E : gE) (l : Launch) : Prop := g_J E cX7_isDigit RX7 "isDigit" (some .boolean) 1 tb_X7_isDigit 1 0 0 l
set_option maxHeartbeats 4000000 in
set_option maxRecDepth 100000 in
theorem p_X7_isDigit_0 {l : Launch} {E : gE} (J : J_X7_isDigit E l) (x0 : Int32) (σ : gS) (M : gM) (N : gN) (hL : g_layC σ) : g_H E 0 0 0 [(0, vI x0)] [] (σ, M, N) (b_X7_isDigit_0 x0) (eI σ M N) := by
  unfold b_X7_isDigit_0
  refine r_run J 2 (pc' := 3) (lv' := [(0, vI x0)]) (st' := [vI 48, vI x0]) rfl ?_
  refine r_icmp_lt J (tgt := 16) rfl (by decide) (fun c3 => ?_) (fun c3 => ?_)
  · refine r_run J 1 (pc' := 17) (lv' := [(0, vI x0)]) (st' := [vI 0]) rfl ?_
    exact r_iret J rfl rfl rfl rfl (by decide) (by decide)
  · refine r_run J 2 (pc' := 9) (lv' := [(0, vI x0)]) (st' := [vI 57, vI x0]) rfl ?_
    refine r_icmp_gt J (tgt := 16) rfl (by decide) (fun c9 => ?_) (fun c9 => ?_)
    · refine r_run J 1 (pc' := 17) (lv' := [(0, vI x0)]) (st' := [vI 0]) rfl ?_
      exact r_iret J rfl rfl rfl rfl (by decide) (by decide)
    · refine r_run J 2 (pc' := 17) (lv' := [(0, vI x0)]) (st' := [vI 1]) rfl ?_
      exact r_iret J rfl rfl rfl rfl (by decide) (by decide)
theorem c_X7_isDigit {l : Launch} (x0 : Int32) (σ : gS) (M : gM) (N : gN) (hL : g_layC σ) (r : Int32) (h : f_X7_isDigit x0 = some r) : g_Ct l yX7_isDigit cX7_isDigit 1 (some .boolean) 1 0 0 [vI x0] (σ, M, N) (eI σ M N r) :=
  g_Ct.of tb_X7_isDigit (by decide +kernel) tk_X7_isDigit (Nat.le_of_ble_eq_true rfl) (fun E J => p_X7_isDigit_0 J x0 σ M N hL r h)
def tb_X7_endOfToken : gT := [(0, .aload_n 0, 1, 0), (1, .getfield 23, 3, 0), (4, .iload_n 1, 1, 0), (5, .iaload, 1, 0), (6, .invokestatic 102, 3, 0), (9, .istore_n 2, 1, 0), (10, .aload_n 0, 1, 0), (11, .getfield 23, 3, 0), (14, .iload_n 1, 1, 0), (15, .iaload, 1, 0), (16, .invokestatic 105, 3, 0), (19, .istore_n 3, 1, 0), (20, .iload_n 1, 1, 0), (21, .iconst 1, 1, 1), (22, .iadd, 1, 0), (23, .istore 4, 2, 0), (25, .iload 4, 2, 0), (27, .aload_n 0, 1, 0), (28, .getfield 32, 3, 0), (31, .if_icmp .ge 43, 3, 0), (34, .iload_n 2, 1, 0), (35, .ifCond .eq 16, 3, 0), (38, .aload_n 0, 1, 0), (39, .getfield 23, 3, 0), (42, .iload 4, 2, 0), (44, .iaload, 1, 0), (45, .invokestatic 102, 3, 0), (48, .ifCond .ne 20, 3, 0), (51, .iload_n 3, 1, 0), (52, .ifCond .eq 22, 3, 0), (55, .aload_n 0, 1, 0), (56, .getfield 23, 3, 0), (59, .iload 4, 2, 0), (61, .iaload, 1, 0), (62, .invokestatic 105, 3, 0), (65, .ifCond .eq 9, 3, 0), (68, .iinc 4 1, 3, 1), (71, .goto (-46), 3, 0), (74, .iload 4, 2, 0), (76, .ireturn, 1, 0)]
set_option maxRecDepth 100000 in
theorem tk_X7_endOfToken : g_okT cX7_endOfToken tb_X7_endOfToken = true := by decide +kernel
abbrev J_X7_endOfToken (E : gE) (l : Launch) : Prop := g_J E cX7_endOfToken RX7 "endOfToken" (some .int) 5 tb_X7_endOfToken 2 0 0 l
set_option maxHeartbeats 4000000 in
set_option maxRecDepth 100000 in
theorem p_X7_endOfToken_68 {l : Launch} {E : gE} (J : J_X7_endOfToken E l) {k25 : Int32 → Int32 → Int32 → gS → gM → Option (Int32)} (H25 : ∀ (x2 : Int32) (x3 : Int32) (x4 : Int32) (σ : gS) (M : gM) (N : gN) (_ : g_layC σ), g_H E 0 0 25 [(0, vR 7), (2, vI x2), (3, vI x3), (4, vI x4)] [] (σ, M, N) (k25 x2 x3 x4 σ M) (eI σ M N)) (x2 : Int32) (x3 : Int32) (x4 : Int32) (σ : gS) (M : gM) (N : gN) (hL : g_layC σ) : g_H E 0 0 68 [(0, vR 7), (2, vI x2), (3, vI x3), (4, vI x4)] [] (σ, M, N) (b_X7_endOfToken_68 k25 x2 x3 x4 σ M) (eI σ M N) := by
  unfold b_X7_endOfToken_68
  refine r_run J 2 (pc' := 25) (lv' := [(4, vI (x4 + 1)), (0, vR 7), (2, vI x2), (3, vI x3)]) (st' := []) rfl ?_
  refine r_sub [1, 2, 3, 0] (lv' := [(0, vR 7), (2, vI x2), (3, vI x3), (4, vI (x4 + 1))]) rfl ?_
  exact H25 x2 x3 (x4 + 1) σ M N hL
set_option maxHeartbeats 4000000 in
set_option maxRecDepth 100000 in
theorem p_X7_endOfToken_51 {l : Launch} {E : gE} (J : J_X7_endOfToken E l) {k25 : Int32 → Int32 → Int32 → gS → gM → Option (Int32)} (H25 : ∀ (x2 : Int32) (x3 : Int32) (x4 : Int32) (σ : gS) (M : gM) (N : gN) (_ : g_layC σ), g_H E 0 0 25 [(0, vR 7), (2, vI x2), (3, vI x3), (4, vI x4)] [] (σ, M, N) (k25 x2 x3 x4 σ M) (eI σ M N)) (x2 : Int32) (x3 : Int32) (x4 : Int32) (σ : gS) (M : gM) (N : gN) (hL : g_layC σ) : g_H E 0 0 51 [(0, vR 7), (2, vI x2), (3, vI x3), (4, vI x4)] [] (σ, M, N) (b_X7_endOfToken_51 k25 x2 x3 x4 σ M) (eI σ M N) := by
  unfold b_X7_endOfToken_51
  refine r_run J 1 (pc' := 52) (lv' := [(0, vR 7), (2, vI x2), (3, vI x3), (4, vI x4)]) (st' := [vI x3]) rfl ?_
  refine r_if_eq J (tgt := 74) rfl (by decide) (fun c52 => ?_) (fun c52 => ?_)
  · refine r_run J 1 (pc' := 76) (lv' := [(0, vR 7), (2, vI x2), (3, vI x3), (4, vI x4)]) (st' := [vI x4]) rfl ?_
    exact r_iret J rfl rfl rfl rfl (by decide) (by decide)
  · refine r_run J 1 (pc' := 56) (lv' := [(0, vR 7), (2, vI x2), (3, vI x3), (4, vI x4)]) (st' := [vR 7]) rfl ?_
    refine r_getR J cls7 rfl (k := 3) (t := 14) (by decide) wf_7_23 rfl rfl (ly_7 hL) (lr_7_3 hL) (fun _ => ?_)
    show g_H E 0 0 59 [(0, vR 7), (2, vI x2), (3, vI x3), (4, vI x4)] [vR 11] (σ, M, N) _ _
    refine r_run J 1 (pc' := 61) (lv' := [(0, vR 7), (2, vI x2), (3, vI x3), (4, vI x4)]) (st' := [vI x4, vR 11]) rfl ?_
    refine r_iald J rfl (ly_11 hL) (fun i61 => ?_)
    show g_H E 0 0 62 [(0, vR 7), (2, vI x2), (3, vI x3), (4, vI x4)] [vI (M 11 x4.toNatClampNeg)] (σ, M, N) _ _
    refine r_callS J (As := [vI (M 11 x4.toNatClampNeg)]) (st := []) (fun r hr => c_X7_isDigit (M 11 x4.toNatClampNeg) σ M N hL r hr) wm_7_105 wy_X7_isDigit wd_X7_isDigit ⟨by decide, by decide, by decide, by decide, Nat.le_of_ble_eq_true rfl⟩ rfl rfl (fun q62 hq62 => ?_)
    show g_H E 0 0 65 [(0, vR 7), (2, vI x2), (3, vI x3), (4, vI x4)] [vI q62] (σ, M, N) _ _
    refine r_if_eq J (tgt := 74) rfl (by decide) (fun c65 => ?_) (fun c65 => ?_)
    · refine r_run J 1 (pc' := 76) (lv' := [(0, vR 7), (2, vI x2), (3, vI x3), (4, vI x4)]) (st' := [vI x4]) rfl ?_
      exact r_iret J rfl rfl rfl rfl (by decide) (by decide)
    · exact p_X7_endOfToken_68 J H25 x2 x3 x4 σ M N hL
set_option maxHeartbeats 4000000 in
set_option maxRecDepth 100000 in
theorem p_X7_endOfToken_25 {l : Launch} {E : gE} (J : J_X7_endOfToken E l) : ∀ (n : Nat) (x2 : Int32) (x3 : Int32) (x4 : Int32) (σ : gS) (M : gM) (N : gN) (hL : g_layC σ), g_H E 0 0 25 [(0, vR 7), (2, vI x2), (3, vI x3), (4, vI x4)] [] (σ, M, N) (l_X7_endOfToken_25 n x2 x3 x4 σ M) (eI σ M N) := by
  intro n
  induction n with
  | zero => intros; exact h_none
  | succ n ih =>
    intro x2 x3 x4 σ M N hL
    rw [l_X7_endOfToken_25]
    refine r_run J 2 (pc' := 28) (lv' := [(0, vR 7), (2, vI x2), (3, vI x3), (4, vI x4)]) (st' := [vR 7, vI x4]) rfl ?_
    refine r_getI J cls7 rfl (k := 6) (by decide) wf_7_32 rfl (ly_7 hL) ?_
    show g_H E 0 0 31 [(0, vR 7), (2, vI x2), (3, vI x3), (4, vI x4)] [vI (M 7 6), vI x4] (σ, M, N) _ _
    refine r_icmp_ge J (tgt := 74) rfl (by decide) (fun c31 => ?_) (fun c31 => ?_)
    · refine r_run J 1 (pc' := 35) (lv' := [(0, vR 7), (2, vI x2), (3, vI x3), (4, vI x4)]) (st' := [vI x2]) rfl ?_
      refine r_if_eq J (tgt := 51) rfl (by decide) (fun c35 => ?_) (fun c35 => ?_)
      · exact p_X7_endOfToken_51 J ih x2 x3 x4 σ M N hL
      · refine r_run J 1 (pc' := 39) (lv' := [(0, vR 7), (2, vI x2), (3, vI x3), (4, vI x4)]) (st' := [vR 7]) rfl ?_
        refine r_getR J cls7 rfl (k := 3) (t := 14) (by decide) wf_7_23 rfl rfl (ly_7 hL) (lr_7_3 hL) (fun _ => ?_)
        show g_H E 0 0 42 [(0, vR 7), (2, vI x2), (3, vI x3), (4, vI x4)] [vR 11] (σ, M, N) _ _
        refine r_run J 1 (pc' := 44) (lv' := [(0, vR 7), (2, vI x2), (3, vI x3), (4, vI x4)]) (st' := [vI x4, vR 11]) rfl ?_
        refine r_iald J rfl (ly_11 hL) (fun i44 => ?_)
        show g_H E 0 0 45 [(0, vR 7), (2, vI x2), (3, vI x3), (4, vI x4)] [vI (M 11 x4.toNatClampNeg)] (σ, M, N) _ _
        refine r_callS J (As := [vI (M 11 x4.toNatClampNeg)]) (st := []) (fun r hr => c_X7_isLetter (M 11 x4.toNatClampNeg) σ M N hL r hr) wm_7_102 wy_X7_isLetter wd_X7_isLetter ⟨by decide, by decide, by decide, by decide, Nat.le_of_ble_eq_true rfl⟩ rfl rfl (fun q45 hq45 => ?_)
        show g_H E 0 0 48 [(0, vR 7), (2, vI x2), (3, vI x3), (4, vI x4)] [vI q45] (σ, M, N) _ _
        refine r_if_ne J (tgt := 68) rfl (by decide) (fun c48 => ?_) (fun c48 => ?_)
        · exact p_X7_endOfToken_51 J ih x2 x3 x4 σ M N hL
        · exact p_X7_endOfToken_68 J ih x2 x3 x4 σ M N hL
    · refine r_run J 1 (pc' := 76) (lv' := [(0, vR 7), (2, vI x2), (3, vI x3), (4, vI x4)]) (st' := [vI x4]) rfl ?_
      exact r_iret J rfl rfl rfl rfl (by decide) (by decide)
set_option maxHeartbeats 4000000 in
set_option maxRecDepth 100000 in
theorem p_X7_endOfToken_0 {l : Launch} {E : gE} (J : J_X7_endOfToken E l) (x1 : Int32) (σ : gS) (M : gM) (N : gN) (hL : g_layC σ) : g_H E 0 0 0 [(0, vR 7), (1, vI x1)] [] (σ, M, N) (b_X7_endOfToken_0 x1 σ M) (eI σ M N) := by
  unfold b_X7_endOfToken_0
  refine r_run J 1 (pc' := 1) (lv' := [(0, vR 7), (1, vI x1)]) (st' := [vR 7]) rfl ?_
  refine r_getR J cls7 rfl (k := 3) (t := 14) (by decide) wf_7_23 rfl rfl (ly_7 hL) (lr_7_3 hL) (fun _ => ?_)
  show g_H E 0 0 4 [(0, vR 7), (1, vI x1)] [vR 11] (σ, M, N) _ _
  refine r_run J 1 (pc' := 5) (lv' := [(0, vR 7), (1, vI x1)]) (st' := [vI x1, vR 11]) rfl ?_
  refine r_iald J rfl (ly_11 hL) (fun i5 => ?_)
  show g_H E 0 0 6 [(0, vR 7), (1, vI x1)] [vI (M 11 x1.toNatClampNeg)] (σ, M, N) _ _
  refine r_callS J (As := [vI (M 11 x1.toNatClampNeg)]) (st := []) (fun r hr => c_X7_isLetter (M 11 x1.toNatClampNeg) σ M N hL r hr) wm_7_102 wy_X7_isLetter wd_X7_isLetter ⟨by decide, by decide, by decide, by decide, Nat.le_of_ble_eq_true rfl⟩ rfl rfl (fun q6 hq6 => ?_)
  show g_H E 0 0 9 [(0, vR 7), (1, vI x1)] [vI q6] (σ, M, N) _ _
  refine r_run J 2 (pc' := 11) (lv' := [(2, vI q6), (0, vR 7), (1, vI x1)]) (st' := [vR 7]) rfl ?_
  refine r_getR J cls7 rfl (k := 3) (t := 14) (by decide) wf_7_23 rfl rfl (ly_7 hL) (lr_7_3 hL) (fun _ => ?_)
  show g_H E 0 0 14 [(2, vI q6), (0, vR 7), (1, vI x1)] [vR 11] (σ, M, N) _ _
  refine r_run J 1 (pc' := 15) (lv' := [(2, vI q6), (0, vR 7), (1, vI x1)]) (st' := [vI x1, vR 11]) rfl ?_
  refine r_iald J rfl (ly_11 hL) (fun i15 => ?_)
  show g_H E 0 0 16 [(2, vI q6), (0, vR 7), (1, vI x1)] [vI (M 11 x1.toNatClampNeg)] (σ, M, N) _ _
  refine r_callS J (As := [vI (M 11 x1.toNatClampNeg)]) (st := []) (fun r hr => c_X7_isDigit (M 11 x1.toNatClampNeg) σ M N hL r hr) wm_7_105 wy_X7_isDigit wd_X7_isDigit ⟨by decide, by decide, by decide, by decide, Nat.le_of_ble_eq_true rfl⟩ rfl rfl (fun q16 hq16 => ?_)
  show g_H E 0 0 19 [(2, vI q6), (0, vR 7), (1, vI x1)] [vI q16] (σ, M, N) _ _
  refine r_run J 5 (pc' := 25) (lv' := [(4, vI (x1 + (1 : Int32))), (3, vI q16), (2, vI q6), (0, vR 7), (1, vI x1)]) (st' := []) rfl ?_
  refine r_sub [3, 2, 1, 0] (lv' := [(0, vR 7), (2, vI q6), (3, vI q16), (4, vI (x1 + (1 : Int32)))]) rfl ?_
  exact p_X7_endOfToken_25 J g_FU q6 q16 (x1 + (1 : Int32)) σ M N hL
theorem c_X7_endOfToken {l : Launch} (x1 : Int32) (σ : gS) (M : gM) (N : gN) (hL : g_layC σ) (r : Int32) (h : f_X7_endOfToken x1 σ M = some r) : g_Ct l yX7_endOfToken cX7_endOfToken 5 (some .int) 2 0 0 [vR 7, vI x1] (σ, M, N) (eI σ M N r) :=
  g_Ct.of tb_X7_endOfToken (by decide +kernel) tk_X7_endOfToken (Nat.le_of_ble_eq_true rfl) (fun E J => p_X7_endOfToken_0 J x1 σ M N hL r h)
def tb_S_coder : gT := [(0, .getstatic 38, 3, 0), (3, .ifCond .eq 10, 3, 0), (6, .aload_n 0, 1, 0), (7, .getfield 15, 3, 0), (10, .goto 4, 3, 0), (13, .iconst 1, 1, 1), (14, .ireturn, 1, 0)]
set_option maxRecDepth 100000 in
theorem tk_S_coder : g_okT prog_19_method_152_code tb_S_coder = true := by decide +kernel
abbrev J_S_coder (E : gE) (l : Launch) : Prop := g_J E prog_19_method_152_code "java/lang/String" "coder" (some .byte) 1 tb_S_coder 1 0 0 l
set_option maxHeartbeats 4000000 in
set_option maxRecDepth 100000 in
theorem p_S_coder_0 {l : Launch} {E : gE} (J : J_S_coder E l) (e0 : Nat) (σ : gS) (M : gM) (N : gN) : g_H E 0 0 0 [(0, vE e0)] [] (σ, M, N) (b_S_coder_0 e0) (eI σ M N) := by
  unfold b_S_coder_0
  refine r_gscs J rfl wf_S_38 ?_
  refine r_if_eq J (tgt := 13) rfl (by decide) (fun c3 => ?_) (fun c3 => ?_)
  · refine r_run J 1 (pc' := 14) (lv' := [(0, vE e0)]) (st' := [vI 1]) rfl ?_
    exact r_iret J rfl rfl rfl rfl (by decide) (by decide)
  · refine r_run J 1 (pc' := 7) (lv' := [(0, vE e0)]) (st' := [vE e0]) rfl ?_
    refine r_chk (fun he7 => ?_)
    refine r_scod J rfl wf_S_15 (g_k13_lt he7) ?_
    refine r_run J 1 (pc' := 14) (lv' := [(0, vE e0)]) (st' := [vI 0]) rfl ?_
    exact r_iret J rfl rfl rfl rfl (by decide) (by decide)
theorem c_S_coder {l : Launch} (e0 : Nat) (σ : gS) (M : gM) (N : gN) (r : Int32) (h : f_S_coder e0 = some r) : g_Ct l yS_coder prog_19_method_152_code 1 (some .byte) 1 0 0 [vE e0] (σ, M, N) (eI σ M N r) :=
  g_Ct.of tb_S_coder (by decide +kernel) tk_S_coder (Nat.le_of_ble_eq_true rfl) (fun E J => p_S_coder_0 J e0 σ M N r h)
def tb_S_length : gT := [(0, .aload_n 0, 1, 0), (1, .getfield 9, 3, 0), (4, .arraylength, 1, 0), (5, .aload_n 0, 1, 0), (6, .invokevirtual 335, 3, 0), (9, .ishr, 1, 0), (10, .ireturn, 1, 0)]
set_option maxRecDepth 100000 in
theorem tk_S_length : g_okT prog_19_method_54_code tb_S_length = true := by decide +kernel
abbrev J_S_length (E : gE) (l : Launch) : Prop := g_J E prog_19_method_54_code "java/lang/String" "length" (some .int) 1 tb_S_length 2 0 0 l
set_option maxHeartbeats 4000000 in
set_option maxRecDepth 100000 in
theorem p_S_length_0 {l : Launch} {E : gE} (J : J_S_length E l) (e0 : Nat) (σ : gS) (M : gM) (N : gN) : g_H E 0 0 0 [(0, vE e0)] [] (σ, M, N) (b_S_length_0 e0) (eI σ M N) := by
  unfold b_S_length_0
  refine r_run J 1 (pc' := 1) (lv' := [(0, vE e0)]) (st' := [vE e0]) rfl ?_
  refine r_chk (fun he1 => ?_)
  refine r_sval J rfl wf_S_9 (g_k13_lt he1) ?_
  refine r_slen J rfl (g_k13_lt he1) ?_
  refine r_run J 1 (pc' := 6) (lv' := [(0, vE e0)]) (st' := [vE e0, vI (Int32.ofNat (g_slen.getD e0 0))]) rfl ?_
  refine r_callVE J (As := []) (st := [vI (Int32.ofNat (g_slen.getD e0 0))]) (fun r hr => c_S_coder e0 σ M N r hr) (g_k13_lt he1) wm_S_335 wy_S_coder wd_S_coder ⟨by decide, by decide, by decide, by decide, Nat.le_of_ble_eq_true rfl⟩ rfl rfl (fun q6 hq6 => ?_)
  show g_H E 0 0 9 [(0, vE e0)] [vI q6, vI (Int32.ofNat (g_slen.getD e0 0))] (σ, M, N) _ _
  refine r_run J 1 (pc' := 10) (lv' := [(0, vE e0)]) (st' := [vI ((Int32.ofNat (g_slen.getD e0 0)) >>> (q6 &&& 31))]) rfl ?_
  exact r_iret J rfl rfl rfl rfl (by decide) (by decide)
theorem c_S_length {l : Launch} (e0 : Nat) (σ : gS) (M : gM) (N : gN) (r : Int32) (h : f_S_length e0 = some r) : g_Ct l yS_length prog_19_method_54_code 1 (some .int) 2 0 0 [vE e0] (σ, M, N) (eI σ M N r) :=
  g_Ct.of tb_S_length (by decide +kernel) tk_S_length (Nat.le_of_ble_eq_true rfl) (fun E J => p_S_length_0 J e0 σ M N r h)
def tb_S_isLatin1 : gT := [(0, .getstatic 38, 3, 0), (3, .ifCond .eq 14, 3, 0), (6, .aload_n 0, 1, 0), (7, .getfield 15, 3, 0), (10, .ifCond .ne 7, 3, 0), (13, .iconst 1, 1, 1), (14, .goto 4, 3, 0), (17, .iconst 0, 1, 0), (18, .ireturn, 1, 0)]
set_option maxRecDepth 100000 in
theorem tk_S_isLatin1 : g_okT prog_19_method_154_code tb_S_isLatin1 = true := by decide +kernel
abbrev J_S_isLatin1 (E : gE) (l : Launch) : Prop := g_J E prog_19_method_154_code "java/lang/String" "isLatin1" (some .boolean) 1 tb_S_isLatin1 1 0 0 l
set_option maxHeartbeats 4000000 in
set_option maxRecDepth 100000 in
theorem p_S_isLatin1_0 {l : Launch} {E : gE} (J : J_S_isLatin1 E l) (e0 : Nat) (σ : gS) (M : gM) (N : gN) : g_H E 0 0 0 [(0, vE e0)] [] (σ, M, N) (b_S_isLatin1_0 e0) (eI σ M N) := by
  unfold b_S_isLatin1_0
  refine r_gscs J rfl wf_S_38 ?_
  refine r_if_eq J (tgt := 17) rfl (by decide) (fun c3 => ?_) (fun c3 => ?_)
  · refine r_run J 1 (pc' := 18) (lv' := [(0, vE e0)]) (st' := [vI 0]) rfl ?_
    exact r_iret J rfl rfl rfl rfl (by decide) (by decide)
  · refine r_run J 1 (pc' := 7) (lv' := [(0, vE e0)]) (st' := [vE e0]) rfl ?_
    refine r_chk (fun he7 => ?_)
    refine r_scod J rfl wf_S_15 (g_k13_lt he7) ?_
    refine r_if_ne J (tgt := 17) rfl (by decide) (fun c10 => ?_) (fun c10 => ?_)
    · refine r_run J 2 (pc' := 18) (lv' := [(0, vE e0)]) (st' := [vI 1]) rfl ?_
      exact r_iret J rfl rfl rfl rfl (by decide) (by decide)
    · refine r_run J 1 (pc' := 18) (lv' := [(0, vE e0)]) (st' := [vI 0]) rfl ?_
      exact r_iret J rfl rfl rfl rfl (by decide) (by decide)
theorem c_S_isLatin1 {l : Launch} (e0 : Nat) (σ : gS) (M : gM) (N : gN) (r : Int32) (h : f_S_isLatin1 e0 = some r) : g_Ct l yS_isLatin1 prog_19_method_154_code 1 (some .boolean) 1 0 0 [vE e0] (σ, M, N) (eI σ M N r) :=
  g_Ct.of tb_S_isLatin1 (by decide +kernel) tk_S_isLatin1 (Nat.le_of_ble_eq_true rfl) (fun E J => p_S_isLatin1_0 J e0 σ M N r h)
def tb_S_preCheck : gT := [(0, .iload_n 0, 1, 0), (1, .ifCond .lt 8, 3, 0), (4, .iload_n 0, 1, 0), (5, .iload_n 1, 1, 0), (6, .if_icmp .lt 10, 3, 0), (9, .aload_n 2, 1, 0), (10, .iload_n 0, 1, 0), (11, .iload_n 1, 1, 0), (12, .invokestatic 95, 3, 0), (15, .athrow, 1, 0), (16, .iload_n 0, 1, 0), (17, .ireturn, 1, 0)]
set_option maxRecDepth 100000 in
theorem tk_S_preCheck : g_okT prog_25_method_11_code tb_S_preCheck = true := by decide +kernel
abbrev J_S_preCheck (E : gE) (l : Launch) : Prop := g_J E prog_25_method_11_code "jdk/internal/util/Preconditions" "checkIndex" (some .int) 3 tb_S_preCheck 1 0 0 l
set_option maxHeartbeats 4000000 in
set_option maxRecDepth 100000 in
theorem p_S_preCheck_0 {l : Launch} {E : gE} (J : J_S_preCheck E l) (x0 : Int32) (x1 : Int32) (g2 : gV) (σ : gS) (M : gM) (N : gN) : g_H E 0 0 0 [(0, vI x0), (1, vI x1), (2, g2)] [] (σ, M, N) (b_S_preCheck_0 x0 x1 g2) (eI σ M N) := by
  unfold b_S_preCheck_0
  refine r_run J 1 (pc' := 1) (lv' := [(0, vI x0), (1, vI x1), (2, g2)]) (st' := [vI x0]) rfl ?_
  refine r_if_lt J (tgt := 9) rfl (by decide) (fun c1 => ?_) (fun c1 => ?_)
  · exact h_none
  · refine r_run J 2 (pc' := 6) (lv' := [(0, vI x0), (1, vI x1), (2, g2)]) (st' := [vI x1, vI x0]) rfl ?_
    refine r_icmp_lt J (tgt := 16) rfl (by decide) (fun c6 => ?_) (fun c6 => ?_)
    · refine r_run J 1 (pc' := 17) (lv' := [(0, vI x0), (1, vI x1), (2, g2)]) (st' := [vI x0]) rfl ?_
      exact r_iret J rfl rfl rfl rfl (by decide) (by decide)
    · exact h_none
theorem c_S_preCheck {l : Launch} (x0 : Int32) (x1 : Int32) (g2 : gV) (hg : g_cat g2 = 1) (σ : gS) (M : gM) (N : gN) (r : Int32) (h : f_S_preCheck x0 x1 g2 = some r) : g_Ct l yS_preCheck prog_25_method_11_code 3 (some .int) 1 0 0 [vI x0, vI x1, g2] (σ, M, N) (eI σ M N r) :=
  g_Ct.of tb_S_preCheck (by decide +kernel) tk_S_preCheck (by show g_cat (vI x0) + (g_cat (vI x1) + (g_cat g2 + 0)) ≤ 3; rw [hg]; exact Nat.le_of_ble_eq_true rfl) (fun E J => p_S_preCheck_0 J x0 x1 g2 σ M N r h)
def tb_S_checkIndex : gT := [(0, .iload_n 0, 1, 0), (1, .iload_n 1, 1, 0), (2, .getstatic 1053, 3, 0), (5, .invokestatic 1059, 3, 0), (8, .pop, 1, 0), (9, .return_, 1, 0)]
set_option maxRecDepth 100000 in
theorem tk_S_checkIndex : g_okT prog_19_method_155_code tb_S_checkIndex = true := by decide +kernel
abbrev J_S_checkIndex (E : gE) (l : Launch) : Prop := g_J E prog_19_method_155_code "java/lang/String" "checkIndex" none 2 tb_S_checkIndex 2 0 0 l
set_option maxHeartbeats 4000000 in
set_option maxRecDepth 100000 in
theorem p_S_checkIndex_0 {l : Launch} {E : gE} (J : J_S_checkIndex E l) (x0 : Int32) (x1 : Int32) (σ : gS) (M : gM) (N : gN) : g_H E 0 0 0 [(0, vI x0), (1, vI x1)] [] (σ, M, N) (b_S_checkIndex_0 x0 x1) (eV σ M N) := by
  unfold b_S_checkIndex_0
  refine r_run J 2 (pc' := 2) (lv' := [(0, vI x0), (1, vI x1)]) (st' := [vI x1, vI x0]) rfl ?_
  refine r_gsff J rfl wf_S_1053 (fun gf hgf => ?_)
  refine r_callS J (As := [vI x0, vI x1, gf]) (st := []) (fun r hr => c_S_preCheck x0 x1 gf (by rcases hgf with rfl | rfl <;> rfl) σ M N r hr) wm_S_1059 wy_S_preCheck wd_S_preCheck ⟨by decide, by decide, by decide, by decide, Nat.le_of_ble_eq_true rfl⟩ rfl rfl (fun q5 hq5 => ?_)
  show g_H E 0 0 8 [(0, vI x0), (1, vI x1)] [vI q5] (σ, M, N) _ _
  refine r_run J 1 (pc' := 9) (lv' := [(0, vI x0), (1, vI x1)]) (st' := []) rfl ?_
  exact r_vret J rfl rfl rfl (by decide) (by decide)
theorem c_S_checkIndex {l : Launch} (x0 : Int32) (x1 : Int32) (σ : gS) (M : gM) (N : gN) (r : Unit) (h : f_S_checkIndex x0 x1 = some r) : g_Ct l yS_checkIndex prog_19_method_155_code 2 none 2 0 0 [vI x0, vI x1] (σ, M, N) (eV σ M N r) :=
  g_Ct.of tb_S_checkIndex (by decide +kernel) tk_S_checkIndex (Nat.le_of_ble_eq_true rfl) (fun E J => p_S_checkIndex_0 J x0 x1 σ M N r h)
def tb_S_latCharAt : gT := [(0, .iload_n 1, 1, 0), (1, .aload_n 0, 1, 0), (2, .arraylength, 1, 0), (3, .invokestatic 9, 3, 0), (6, .aload_n 0, 1, 0), (7, .iload_n 1, 1, 0), (8, .baload, 1, 0), (9, .sipush 255, 3, 255), (12, .iand, 1, 0), (13, .i2c, 1, 0), (14, .ireturn, 1, 0)]
set_option maxRecDepth 100000 in
theorem tk_S_latCharAt : g_okT prog_20_method_2_code tb_S_latCharAt = true := by decide +kernel
abbrev J_S_latCharAt (E : gE) (l : Launch) : Prop := g_J E prog_20_method_2_code "java/lang/StringLatin1" "charAt" (some .char) 2 tb_S_latCharAt 3 0 0 l
set_option maxHeartbeats 4000000 in
set_option maxRecDepth 100000 in
theorem p_S_latCharAt_0 {l : Launch} {E : gE} (J : J_S_latCharAt E l) (e0 : Nat) (x1 : Int32) (σ : gS) (M : gM) (N : gN) : g_H E 0 0 0 [(0, vE (100 + e0)), (1, vI x1)] [] (σ, M, N) (b_S_latCharAt_0 e0 x1) (eI σ M N) := by
  unfold b_S_latCharAt_0
  refine r_run J 2 (pc' := 2) (lv' := [(0, vE (100 + e0)), (1, vI x1)]) (st' := [vE (100 + e0), vI x1]) rfl ?_
  refine r_chk (fun he2 => ?_)
  refine r_slen J rfl (g_k13_lt he2) ?_
  refine r_callS J (As := [vI x1, vI (Int32.ofNat (g_slen.getD e0 0))]) (st := []) (fun r hr => c_S_checkIndex x1 (Int32.ofNat (g_slen.getD e0 0)) σ M N r hr) wm_SL_9 wy_S_checkIndex wd_S_checkIndex ⟨by decide, by decide, by decide, by decide, Nat.le_of_ble_eq_true rfl⟩ rfl rfl (fun q3 hq3 => ?_)
  show g_H E 0 0 6 [(0, vE (100 + e0)), (1, vI x1)] [] (σ, M, N) _ _
  refine r_run J 2 (pc' := 8) (lv' := [(0, vE (100 + e0)), (1, vI x1)]) (st' := [vI x1, vE (100 + e0)]) rfl ?_
  refine r_sbald J rfl (g_k13_lt he2) (fun i8 => ?_)
  refine r_run J 3 (pc' := 14) (lv' := [(0, vE (100 + e0)), (1, vI x1)]) (st' := [vI ((((g_sbyt.getD e0 []).getD x1.toNatClampNeg 0) &&& (255 : Int32)).toUInt32 % 65536).toInt32]) rfl ?_
  exact r_iret J rfl rfl (pk_nc _) rfl (by decide) (by decide)
theorem c_S_latCharAt {l : Launch} (e0 : Nat) (x1 : Int32) (σ : gS) (M : gM) (N : gN) (r : Int32) (h : f_S_latCharAt e0 x1 = some r) : g_Ct l yS_latCharAt prog_20_method_2_code 2 (some .char) 3 0 0 [vE (100 + e0), vI x1] (σ, M, N) (eI σ M N r) :=
  g_Ct.of tb_S_latCharAt (by decide +kernel) tk_S_latCharAt (Nat.le_of_ble_eq_true rfl) (fun E J => p_S_latCharAt_0 J e0 x1 σ M N r h)
def tb_S_charAt : gT := [(0, .aload_n 0, 1, 0), (1, .invokevirtual 492, 3, 0), (4, .ifCond .eq 12, 3, 0), (7, .aload_n 0, 1, 0), (8, .getfield 9, 3, 0), (11, .iload_n 1, 1, 0), (12, .invokestatic 495, 3, 0), (15, .ireturn, 1, 0), (16, .aload_n 0, 1, 0), (17, .getfield 9, 3, 0), (20, .iload_n 1, 1, 0), (21, .invokestatic 498, 3, 0), (24, .ireturn, 1, 0)]
set_option maxRecDepth 100000 in
theorem tk_S_charAt : g_okT prog_19_method_56_code tb_S_charAt = true := by decide +kernel
abbrev J_S_charAt (E : gE) (l : Launch) : Prop := g_J E prog_19_method_56_code "java/lang/String" "charAt" (some .char) 2 tb_S_charAt 4 0 0 l
set_option maxHeartbeats 4000000 in
set_option maxRecDepth 100000 in
theorem p_S_charAt_0 {l : Launch} {E : gE} (J : J_S_charAt E l) (e0 : Nat) (x1 : Int32) (σ : gS) (M : gM) (N : gN) : g_H E 0 0 0 [(0, vE e0), (1, vI x1)] [] (σ, M, N) (b_S_charAt_0 e0 x1) (eI σ M N) := by
  unfold b_S_charAt_0
  refine r_run J 1 (pc' := 1) (lv' := [(0, vE e0), (1, vI x1)]) (st' := [vE e0]) rfl ?_
  refine r_chk (fun he1 => ?_)
  refine r_callVE J (As := []) (st := []) (fun r hr => c_S_isLatin1 e0 σ M N r hr) (g_k13_lt he1) wm_S_492 wy_S_isLatin1 wd_S_isLatin1 ⟨by decide, by decide, by decide, by decide, Nat.le_of_ble_eq_true rfl⟩ rfl rfl (fun q1 hq1 => ?_)
  show g_H E 0 0 4 [(0, vE e0), (1, vI x1)] [vI q1] (σ, M, N) _ _
  refine r_if_eq J (tgt := 16) rfl (by decide) (fun c4 => ?_) (fun c4 => ?_)
  · exact h_none
  · refine r_run J 1 (pc' := 8) (lv' := [(0, vE e0), (1, vI x1)]) (st' := [vE e0]) rfl ?_
    refine r_sval J rfl wf_S_9 (g_k13_lt he1) ?_
    refine r_run J 1 (pc' := 12) (lv' := [(0, vE e0), (1, vI x1)]) (st' := [vI x1, vE (100 + e0)]) rfl ?_
    refine r_callS J (As := [vE (100 + e0), vI x1]) (st := []) (fun r hr => c_S_latCharAt e0 x1 σ M N r hr) wm_S_495 wy_S_latCharAt wd_S_latCharAt ⟨by decide, by decide, by decide, by decide, Nat.le_of_ble_eq_true rfl⟩ rfl rfl (fun q12 hq12 => ?_)
    show g_H E 0 0 15 [(0, vE e0), (1, vI x1)] [vI q12] (σ, M, N) _ _
    refine r_chk (fun hz => ?_)
    exact r_iret J rfl rfl (g_c_nar hz) rfl (by decide) (by decide)
theorem c_S_charAt {l : Launch} (e0 : Nat) (x1 : Int32) (σ : gS) (M : gM) (N : gN) (r : Int32) (h : f_S_charAt e0 x1 = some r) : g_Ct l yS_charAt prog_19_method_56_code 2 (some .char) 4 0 0 [vE e0, vI x1] (σ, M, N) (eI σ M N r) :=
  g_Ct.of tb_S_charAt (by decide +kernel) tk_S_charAt (Nat.le_of_ble_eq_true rfl) (fun E J => p_S_charAt_0 J e0 x1 σ M N r h)
def tb_X7_spells : gT := [(0, .aload_n 1, 1, 0), (1, .invokevirtual 143, 3, 0), (4, .iload_n 3, 1, 0), (5, .iload_n 2, 1, 0), (6, .isub, 1, 0), (7, .if_icmp .eq 5, 3, 0), (10, .iconst 0, 1, 0), (11, .ireturn, 1, 0), (12, .iconst 0, 1, 0), (13, .istore 4, 2, 0), (15, .iload 4, 2, 0), (17, .aload_n 1, 1, 0), (18, .invokevirtual 143, 3, 0), (21, .if_icmp .ge 29, 3, 0), (24, .aload_n 1, 1, 0), (25, .iload 4, 2, 0), (27, .invokevirtual 148, 3, 0), (30, .aload_n 0, 1, 0), (31, .getfield 23, 3, 0), (34, .iload_n 2, 1, 0), (35, .iload 4, 2, 0), (37, .iadd, 1, 0), (38, .iaload, 1, 0), (39, .if_icmp .eq 5, 3, 0), (42, .iconst 0, 1, 0), (43, .ireturn, 1, 0), (44, .iinc 4 1, 3, 1), (47, .goto (-32), 3, 0), (50, .iconst 1, 1, 1), (51, .ireturn, 1, 0)]
set_option maxRecDepth 100000 in
theorem tk_X7_spells : g_okT cX7_spells tb_X7_spells = true := by decide +kernel
abbrev J_X7_spells (E : gE) (l : Launch) : Prop := g_J E cX7_spells RX7 "spells" (some .boolean) 5 tb_X7_spells 5 0 0 l
set_option maxHeartbeats 4000000 in
set_option maxRecDepth 100000 in
theorem p_X7_spells_15 {l : Launch} {E : gE} (J : J_X7_spells E l) : ∀ (n : Nat) (e1 : Nat) (x2 : Int32) (x4 : Int32) (σ : gS) (M : gM) (N : gN) (hL : g_layC σ), g_H E 0 0 15 [(0, vR 7), (1, vE e1), (2, vI x2), (4, vI x4)] [] (σ, M, N) (l_X7_spells_15 n e1 x2 x4 σ M) (eI σ M N) := by
  intro n
  induction n with
  | zero => intros; exact h_none
  | succ n ih =>
    intro e1 x2 x4 σ M N hL
    rw [l_X7_spells_15]
    refine r_run J 2 (pc' := 18) (lv' := [(0, vR 7), (1, vE e1), (2, vI x2), (4, vI x4)]) (st' := [vE e1, vI x4]) rfl ?_
    refine r_chk (fun he18 => ?_)
    refine r_callVE J (As := []) (st := [vI x4]) (fun r hr => c_S_length e1 σ M N r hr) (g_k13_lt he18) wm_7_143 wy_S_length wd_S_length ⟨by decide, by decide, by decide, by decide, Nat.le_of_ble_eq_true rfl⟩ rfl rfl (fun q18 hq18 => ?_)
    show g_H E 0 0 21 [(0, vR 7), (1, vE e1), (2, vI x2), (4, vI x4)] [vI q18, vI x4] (σ, M, N) _ _
    refine r_icmp_ge J (tgt := 50) rfl (by decide) (fun c21 => ?_) (fun c21 => ?_)
    · refine r_run J 2 (pc' := 27) (lv' := [(0, vR 7), (1, vE e1), (2, vI x2), (4, vI x4)]) (st' := [vI x4, vE e1]) rfl ?_
      refine r_callVE J (As := [vI x4]) (st := []) (fun r hr => c_S_charAt e1 x4 σ M N r hr) (g_k13_lt he18) wm_7_148 wy_S_charAt wd_S_charAt ⟨by decide, by decide, by decide, by decide, Nat.le_of_ble_eq_true rfl⟩ rfl rfl (fun q27 hq27 => ?_)
      show g_H E 0 0 30 [(0, vR 7), (1, vE e1), (2, vI x2), (4, vI x4)] [vI q27] (σ, M, N) _ _
      refine r_run J 1 (pc' := 31) (lv' := [(0, vR 7), (1, vE e1), (2, vI x2), (4, vI x4)]) (st' := [vR 7, vI q27]) rfl ?_
      refine r_getR J cls7 rfl (k := 3) (t := 14) (by decide) wf_7_23 rfl rfl (ly_7 hL) (lr_7_3 hL) (fun _ => ?_)
      show g_H E 0 0 34 [(0, vR 7), (1, vE e1), (2, vI x2), (4, vI x4)] [vR 11, vI q27] (σ, M, N) _ _
      refine r_run J 3 (pc' := 38) (lv' := [(0, vR 7), (1, vE e1), (2, vI x2), (4, vI x4)]) (st' := [vI (x2 + x4), vR 11, vI q27]) rfl ?_
      refine r_iald J rfl (ly_11 hL) (fun i38 => ?_)
      show g_H E 0 0 39 [(0, vR 7), (1, vE e1), (2, vI x2), (4, vI x4)] [vI (M 11 (x2 + x4).toNatClampNeg), vI q27] (σ, M, N) _ _
      refine r_icmp_eq J (tgt := 44) rfl (by decide) (fun c39 => ?_) (fun c39 => ?_)
      · refine r_run J 2 (pc' := 15) (lv' := [(4, vI (x4 + 1)), (0, vR 7), (1, vE e1), (2, vI x2)]) (st' := []) rfl ?_
        refine r_sub [1, 2, 3, 0] (lv' := [(0, vR 7), (1, vE e1), (2, vI x2), (4, vI (x4 + 1))]) rfl ?_
        exact ih e1 x2 (x4 + 1) σ M N hL
      · refine r_run J 1 (pc' := 43) (lv' := [(0, vR 7), (1, vE e1), (2, vI x2), (4, vI x4)]) (st' := [vI 0]) rfl ?_
        exact r_iret J rfl rfl rfl rfl (by decide) (by decide)
    · refine r_run J 1 (pc' := 51) (lv' := [(0, vR 7), (1, vE e1), (2, vI x2), (4, vI x4)]) (st' := [vI 1]) rfl ?_
      exact r_iret J rfl rfl rfl rfl (by decide) (by decide)
set_option maxHeartbeats 4000000 in
set_option maxRecDepth 100000 in
theorem p_X7_spells_0 {l : Launch} {E : gE} (J : J_X7_spells E l) (e1 : Nat) (x2 : Int32) (x3 : Int32) (σ : gS) (M : gM) (N : gN) (hL : g_layC σ) : g_H E 0 0 0 [(0, vR 7), (1, vE e1), (2, vI x2), (3, vI x3)] [] (σ, M, N) (b_X7_spells_0 e1 x2 x3 σ M) (eI σ M N) := by
  unfold b_X7_spells_0
  refine r_run J 1 (pc' := 1) (lv' := [(0, vR 7), (1, vE e1), (2, vI x2), (3, vI x3)]) (st' := [vE e1]) rfl ?_
  refine r_chk (fun he1 => ?_)
  refine r_callVE J (As := []) (st := []) (fun r hr => c_S_length e1 σ M N r hr) (g_k13_lt he1) wm_7_143 wy_S_length wd_S_length ⟨by decide, by decide, by decide, by decide, Nat.le_of_ble_eq_true rfl⟩ rfl rfl (fun q1 hq1 => ?_)
  show g_H E 0 0 4 [(0, vR 7), (1, vE e1), (2, vI x2), (3, vI x3)] [vI q1] (σ, M, N) _ _
  refine r_run J 3 (pc' := 7) (lv' := [(0, vR 7), (1, vE e1), (2, vI x2), (3, vI x3)]) (st' := [vI (x3 - x2), vI q1]) rfl ?_
  refine r_icmp_eq J (tgt := 12) rfl (by decide) (fun c7 => ?_) (fun c7 => ?_)
  · refine r_run J 2 (pc' := 15) (lv' := [(4, vI 0), (0, vR 7), (1, vE e1), (2, vI x2), (3, vI x3)]) (st' := []) rfl ?_
    refine r_sub [1, 2, 3, 0] (lv' := [(0, vR 7), (1, vE e1), (2, vI x2), (4, vI 0)]) rfl ?_
    exact p_X7_spells_15 J g_FU e1 x2 0 σ M N hL
  · refine r_run J 1 (pc' := 11) (lv' := [(0, vR 7), (1, vE e1), (2, vI x2), (3, vI x3)]) (st' := [vI 0]) rfl ?_
    exact r_iret J rfl rfl rfl rfl (by decide) (by decide)
theorem c_X7_spells {l : Launch} (e1 : Nat) (x2 : Int32) (x3 : Int32) (σ : gS) (M : gM) (N : gN) (hL : g_layC σ) (r : Int32) (h : f_X7_spells e1 x2 x3 σ M = some r) : g_Ct l yX7_spells cX7_spells 5 (some .boolean) 5 0 0 [vR 7, vE e1, vI x2, vI x3] (σ, M, N) (eI σ M N r) :=
  g_Ct.of tb_X7_spells (by decide +kernel) tk_X7_spells (Nat.le_of_ble_eq_true rfl) (fun E J => p_X7_spells_0 J e1 x2 x3 σ M N hL r h)
def tb_X7_wordOf : gT := [(0, .aload_n 0, 1, 0), (1, .ldc 117, 2, 0), (3, .iload_n 1, 1, 0), (4, .iload_n 2, 1, 0), (5, .invokevirtual 119, 3, 0), (8, .ifCond .eq 5, 3, 0), (11, .iconst 0, 1, 0), (12, .ireturn, 1, 0), (13, .aload_n 0, 1, 0), (14, .ldc 123, 2, 0), (16, .iload_n 1, 1, 0), (17, .iload_n 2, 1, 0), (18, .invokevirtual 119, 3, 0), (21, .ifCond .eq 5, 3, 0), (24, .iconst 1, 1, 1), (25, .ireturn, 1, 0), (26, .aload_n 0, 1, 0), (27, .ldc 125, 2, 0), (29, .iload_n 1, 1, 0), (30, .iload_n 2, 1, 0), (31, .invokevirtual 119, 3, 0), (34, .ifCond .eq 5, 3, 0), (37, .iconst 2, 1, 2), (38, .ireturn, 1, 0), (39, .aload_n 0, 1, 0), (40, .ldc 127, 2, 0), (42, .iload_n 1, 1, 0), (43, .iload_n 2, 1, 0), (44, .invokevirtual 119, 3, 0), (47, .ifCond .eq 5, 3, 0), (50, .iconst 3, 1, 3), (51, .ireturn, 1, 0), (52, .aload_n 0, 1, 0), (53, .ldc 129, 2, 0), (55, .iload_n 1, 1, 0), (56, .iload_n 2, 1, 0), (57, .invokevirtual 119, 3, 0), (60, .ifCond .eq 5, 3, 0), (63, .iconst 4, 1, 4), (64, .ireturn, 1, 0), (65, .aload_n 0, 1, 0), (66, .ldc 131, 2, 0), (68, .iload_n 1, 1, 0), (69, .iload_n 2, 1, 0), (70, .invokevirtual 119, 3, 0), (73, .ifCond .eq 5, 3, 0), (76, .iconst 5, 1, 5), (77, .ireturn, 1, 0), (78, .aload_n 0, 1, 0), (79, .ldc 133, 2, 0), (81, .iload_n 1, 1, 0), (82, .iload_n 2, 1, 0), (83, .invokevirtual 119, 3, 0), (86, .ifCond .eq 6, 3, 0), (89, .bipush 6, 2, 6), (91, .ireturn, 1, 0), (92, .aload_n 0, 1, 0), (93, .ldc 135, 2, 0), (95, .iload_n 1, 1, 0), (96, .iload_n 2, 1, 0), (97, .invokevirtual 119, 3, 0), (100, .ifCond .eq 6, 3, 0), (103, .bipush 7, 2, 7), (105, .ireturn, 1, 0), (106, .aload_n 0, 1, 0), (107, .ldc 137, 2, 0), (109, .iload_n 1, 1, 0), (110, .iload_n 2, 1, 0), (111, .invokevirtual 119, 3, 0), (114, .ifCond .eq 6, 3, 0), (117, .bipush 8, 2, 8), (119, .ireturn, 1, 0), (120, .aload_n 0, 1, 0), (121, .ldc 139, 2, 0), (123, .iload_n 1, 1, 0), (124, .iload_n 2, 1, 0), (125, .invokevirtual 119, 3, 0), (128, .ifCond .eq 6, 3, 0), (131, .bipush 9, 2, 9), (133, .ireturn, 1, 0), (134, .aload_n 0, 1, 0), (135, .ldc 141, 2, 0), (137, .iload_n 1, 1, 0), (138, .iload_n 2, 1, 0), (139, .invokevirtual 119, 3, 0), (142, .ifCond .eq 8, 3, 0), (145, .bipush 10, 2, 10), (147, .goto 5, 3, 0), (150, .bipush 13, 2, 13), (152, .ireturn, 1, 0)]
set_option maxRecDepth 100000 in
theorem tk_X7_wordOf : g_okT cX7_wordOf tb_X7_wordOf = true := by decide +kernel
abbrev J_X7_wordOf (E : gE) (l : Launch) : Prop := g_J E cX7_wordOf RX7 "wordOf" (some .int) 3 tb_X7_wordOf 6 0 0 l
set_option maxHeartbeats 4000000 in
set_option maxRecDepth 100000 in
theorem p_X7_wordOf_0 {l : Launch} {E : gE} (J : J_X7_wordOf E l) (x1 : Int32) (x2 : Int32) (σ : gS) (M : gM) (N : gN) (hL : g_layC σ) : g_H E 0 0 0 [(0, vR 7), (1, vI x1), (2, vI x2)] [] (σ, M, N) (b_X7_wordOf_0 x1 x2 σ M) (eI σ M N) := by
  unfold b_X7_wordOf_0
  refine r_run J 1 (pc' := 1) (lv' := [(0, vR 7), (1, vI x1), (2, vI x2)]) (st' := [vR 7]) rfl ?_
  refine r_ldcS J rfl ws_7_117 ?_
  refine r_run J 2 (pc' := 5) (lv' := [(0, vR 7), (1, vI x1), (2, vI x2)]) (st' := [vI x2, vI x1, vE 0, vR 7]) rfl ?_
  refine r_callV J (As := [vE 0, vI x1, vI x2]) (st := []) (fun r hr => c_X7_spells 0 x1 x2 σ M N hL r hr) cls7 (ly_7 hL) wm_7_119 wy_X7_spells wd_X7_spells ⟨by decide, by decide, by decide, by decide, Nat.le_of_ble_eq_true rfl⟩ rfl rfl (fun q5 hq5 => ?_)
  show g_H E 0 0 8 [(0, vR 7), (1, vI x1), (2, vI x2)] [vI q5] (σ, M, N) _ _
  refine r_if_eq J (tgt := 13) rfl (by decide) (fun c8 => ?_) (fun c8 => ?_)
  · refine r_run J 1 (pc' := 14) (lv' := [(0, vR 7), (1, vI x1), (2, vI x2)]) (st' := [vR 7]) rfl ?_
    refine r_ldcS J rfl ws_7_123 ?_
    refine r_run J 2 (pc' := 18) (lv' := [(0, vR 7), (1, vI x1), (2, vI x2)]) (st' := [vI x2, vI x1, vE 1, vR 7]) rfl ?_
    refine r_callV J (As := [vE 1, vI x1, vI x2]) (st := []) (fun r hr => c_X7_spells 1 x1 x2 σ M N hL r hr) cls7 (ly_7 hL) wm_7_119 wy_X7_spells wd_X7_spells ⟨by decide, by decide, by decide, by decide, Nat.le_of_ble_eq_true rfl⟩ rfl rfl (fun q18 hq18 => ?_)
    show g_H E 0 0 21 [(0, vR 7), (1, vI x1), (2, vI x2)] [vI q18] (σ, M, N) _ _
    refine r_if_eq J (tgt := 26) rfl (by decide) (fun c21 => ?_) (fun c21 => ?_)
    · refine r_run J 1 (pc' := 27) (lv' := [(0, vR 7), (1, vI x1), (2, vI x2)]) (st' := [vR 7]) rfl ?_
      refine r_ldcS J rfl ws_7_125 ?_
      refine r_run J 2 (pc' := 31) (lv' := [(0, vR 7), (1, vI x1), (2, vI x2)]) (st' := [vI x2, vI x1, vE 2, vR 7]) rfl ?_
      refine r_callV J (As := [vE 2, vI x1, vI x2]) (st := []) (fun r hr => c_X7_spells 2 x1 x2 σ M N hL r hr) cls7 (ly_7 hL) wm_7_119 wy_X7_spells wd_X7_spells ⟨by decide, by decide, by decide, by decide, Nat.le_of_ble_eq_true rfl⟩ rfl rfl (fun q31 hq31 => ?_)
      show g_H E 0 0 34 [(0, vR 7), (1, vI x1), (2, vI x2)] [vI q31] (σ, M, N) _ _
      refine r_if_eq J (tgt := 39) rfl (by decide) (fun c34 => ?_) (fun c34 => ?_)
      · refine r_run J 1 (pc' := 40) (lv' := [(0, vR 7), (1, vI x1), (2, vI x2)]) (st' := [vR 7]) rfl ?_
        refine r_ldcS J rfl ws_7_127 ?_
        refine r_run J 2 (pc' := 44) (lv' := [(0, vR 7), (1, vI x1), (2, vI x2)]) (st' := [vI x2, vI x1, vE 3, vR 7]) rfl ?_
        refine r_callV J (As := [vE 3, vI x1, vI x2]) (st := []) (fun r hr => c_X7_spells 3 x1 x2 σ M N hL r hr) cls7 (ly_7 hL) wm_7_119 wy_X7_spells wd_X7_spells ⟨by decide, by decide, by decide, by decide, Nat.le_of_ble_eq_true rfl⟩ rfl rfl (fun q44 hq44 => ?_)
        show g_H E 0 0 47 [(0, vR 7), (1, vI x1), (2, vI x2)] [vI q44] (σ, M, N) _ _
        refine r_if_eq J (tgt := 52) rfl (by decide) (fun c47 => ?_) (fun c47 => ?_)
        · refine r_run J 1 (pc' := 53) (lv' := [(0, vR 7), (1, vI x1), (2, vI x2)]) (st' := [vR 7]) rfl ?_
          refine r_ldcS J rfl ws_7_129 ?_
          refine r_run J 2 (pc' := 57) (lv' := [(0, vR 7), (1, vI x1), (2, vI x2)]) (st' := [vI x2, vI x1, vE 4, vR 7]) rfl ?_
          refine r_callV J (As := [vE 4, vI x1, vI x2]) (st := []) (fun r hr => c_X7_spells 4 x1 x2 σ M N hL r hr) cls7 (ly_7 hL) wm_7_119 wy_X7_spells wd_X7_spells ⟨by decide, by decide, by decide, by decide, Nat.le_of_ble_eq_true rfl⟩ rfl rfl (fun q57 hq57 => ?_)
          show g_H E 0 0 60 [(0, vR 7), (1, vI x1), (2, vI x2)] [vI q57] (σ, M, N) _ _
          refine r_if_eq J (tgt := 65) rfl (by decide) (fun c60 => ?_) (fun c60 => ?_)
          · refine r_run J 1 (pc' := 66) (lv' := [(0, vR 7), (1, vI x1), (2, vI x2)]) (st' := [vR 7]) rfl ?_
            refine r_ldcS J rfl ws_7_131 ?_
            refine r_run J 2 (pc' := 70) (lv' := [(0, vR 7), (1, vI x1), (2, vI x2)]) (st' := [vI x2, vI x1, vE 5, vR 7]) rfl ?_
            refine r_callV J (As := [vE 5, vI x1, vI x2]) (st := []) (fun r hr => c_X7_spells 5 x1 x2 σ M N hL r hr) cls7 (ly_7 hL) wm_7_119 wy_X7_spells wd_X7_spells ⟨by decide, by decide, by decide, by decide, Nat.le_of_ble_eq_true rfl⟩ rfl rfl (fun q70 hq70 => ?_)
            show g_H E 0 0 73 [(0, vR 7), (1, vI x1), (2, vI x2)] [vI q70] (σ, M, N) _ _
            refine r_if_eq J (tgt := 78) rfl (by decide) (fun c73 => ?_) (fun c73 => ?_)
            · refine r_run J 1 (pc' := 79) (lv' := [(0, vR 7), (1, vI x1), (2, vI x2)]) (st' := [vR 7]) rfl ?_
              refine r_ldcS J rfl ws_7_133 ?_
              refine r_run J 2 (pc' := 83) (lv' := [(0, vR 7), (1, vI x1), (2, vI x2)]) (st' := [vI x2, vI x1, vE 6, vR 7]) rfl ?_
              refine r_callV J (As := [vE 6, vI x1, vI x2]) (st := []) (fun r hr => c_X7_spells 6 x1 x2 σ M N hL r hr) cls7 (ly_7 hL) wm_7_119 wy_X7_spells wd_X7_spells ⟨by decide, by decide, by decide, by decide, Nat.le_of_ble_eq_true rfl⟩ rfl rfl (fun q83 hq83 => ?_)
              show g_H E 0 0 86 [(0, vR 7), (1, vI x1), (2, vI x2)] [vI q83] (σ, M, N) _ _
              refine r_if_eq J (tgt := 92) rfl (by decide) (fun c86 => ?_) (fun c86 => ?_)
              · refine r_run J 1 (pc' := 93) (lv' := [(0, vR 7), (1, vI x1), (2, vI x2)]) (st' := [vR 7]) rfl ?_
                refine r_ldcS J rfl ws_7_135 ?_
                refine r_run J 2 (pc' := 97) (lv' := [(0, vR 7), (1, vI x1), (2, vI x2)]) (st' := [vI x2, vI x1, vE 7, vR 7]) rfl ?_
                refine r_callV J (As := [vE 7, vI x1, vI x2]) (st := []) (fun r hr => c_X7_spells 7 x1 x2 σ M N hL r hr) cls7 (ly_7 hL) wm_7_119 wy_X7_spells wd_X7_spells ⟨by decide, by decide, by decide, by decide, Nat.le_of_ble_eq_true rfl⟩ rfl rfl (fun q97 hq97 => ?_)
                show g_H E 0 0 100 [(0, vR 7), (1, vI x1), (2, vI x2)] [vI q97] (σ, M, N) _ _
                refine r_if_eq J (tgt := 106) rfl (by decide) (fun c100 => ?_) (fun c100 => ?_)
                · refine r_run J 1 (pc' := 107) (lv' := [(0, vR 7), (1, vI x1), (2, vI x2)]) (st' := [vR 7]) rfl ?_
                  refine r_ldcS J rfl ws_7_137 ?_
                  refine r_run J 2 (pc' := 111) (lv' := [(0, vR 7), (1, vI x1), (2, vI x2)]) (st' := [vI x2, vI x1, vE 8, vR 7]) rfl ?_
                  refine r_callV J (As := [vE 8, vI x1, vI x2]) (st := []) (fun r hr => c_X7_spells 8 x1 x2 σ M N hL r hr) cls7 (ly_7 hL) wm_7_119 wy_X7_spells wd_X7_spells ⟨by decide, by decide, by decide, by decide, Nat.le_of_ble_eq_true rfl⟩ rfl rfl (fun q111 hq111 => ?_)
                  show g_H E 0 0 114 [(0, vR 7), (1, vI x1), (2, vI x2)] [vI q111] (σ, M, N) _ _
                  refine r_if_eq J (tgt := 120) rfl (by decide) (fun c114 => ?_) (fun c114 => ?_)
                  · refine r_run J 1 (pc' := 121) (lv' := [(0, vR 7), (1, vI x1), (2, vI x2)]) (st' := [vR 7]) rfl ?_
                    refine r_ldcS J rfl ws_7_139 ?_
                    refine r_run J 2 (pc' := 125) (lv' := [(0, vR 7), (1, vI x1), (2, vI x2)]) (st' := [vI x2, vI x1, vE 9, vR 7]) rfl ?_
                    refine r_callV J (As := [vE 9, vI x1, vI x2]) (st := []) (fun r hr => c_X7_spells 9 x1 x2 σ M N hL r hr) cls7 (ly_7 hL) wm_7_119 wy_X7_spells wd_X7_spells ⟨by decide, by decide, by decide, by decide, Nat.le_of_ble_eq_true rfl⟩ rfl rfl (fun q125 hq125 => ?_)
                    show g_H E 0 0 128 [(0, vR 7), (1, vI x1), (2, vI x2)] [vI q125] (σ, M, N) _ _
                    refine r_if_eq J (tgt := 134) rfl (by decide) (fun c128 => ?_) (fun c128 => ?_)
                    · refine r_run J 1 (pc' := 135) (lv' := [(0, vR 7), (1, vI x1), (2, vI x2)]) (st' := [vR 7]) rfl ?_
                      refine r_ldcS J rfl ws_7_141 ?_
                      refine r_run J 2 (pc' := 139) (lv' := [(0, vR 7), (1, vI x1), (2, vI x2)]) (st' := [vI x2, vI x1, vE 10, vR 7]) rfl ?_
                      refine r_callV J (As := [vE 10, vI x1, vI x2]) (st := []) (fun r hr => c_X7_spells 10 x1 x2 σ M N hL r hr) cls7 (ly_7 hL) wm_7_119 wy_X7_spells wd_X7_spells ⟨by decide, by decide, by decide, by decide, Nat.le_of_ble_eq_true rfl⟩ rfl rfl (fun q139 hq139 => ?_)
                      show g_H E 0 0 142 [(0, vR 7), (1, vI x1), (2, vI x2)] [vI q139] (σ, M, N) _ _
                      refine r_if_eq J (tgt := 150) rfl (by decide) (fun c142 => ?_) (fun c142 => ?_)
                      · refine r_run J 1 (pc' := 152) (lv' := [(0, vR 7), (1, vI x1), (2, vI x2)]) (st' := [vI 13]) rfl ?_
                        exact r_iret J rfl rfl rfl rfl (by decide) (by decide)
                      · refine r_run J 2 (pc' := 152) (lv' := [(0, vR 7), (1, vI x1), (2, vI x2)]) (st' := [vI 10]) rfl ?_
                        exact r_iret J rfl rfl rfl rfl (by decide) (by decide)
                    · refine r_run J 1 (pc' := 133) (lv' := [(0, vR 7), (1, vI x1), (2, vI x2)]) (st' := [vI 9]) rfl ?_
                      exact r_iret J rfl rfl rfl rfl (by decide) (by decide)
                  · refine r_run J 1 (pc' := 119) (lv' := [(0, vR 7), (1, vI x1), (2, vI x2)]) (st' := [vI 8]) rfl ?_
                    exact r_iret J rfl rfl rfl rfl (by decide) (by decide)
                · refine r_run J 1 (pc' := 105) (lv' := [(0, vR 7), (1, vI x1), (2, vI x2)]) (st' := [vI 7]) rfl ?_
                  exact r_iret J rfl rfl rfl rfl (by decide) (by decide)
              · refine r_run J 1 (pc' := 91) (lv' := [(0, vR 7), (1, vI x1), (2, vI x2)]) (st' := [vI 6]) rfl ?_
                exact r_iret J rfl rfl rfl rfl (by decide) (by decide)
            · refine r_run J 1 (pc' := 77) (lv' := [(0, vR 7), (1, vI x1), (2, vI x2)]) (st' := [vI 5]) rfl ?_
              exact r_iret J rfl rfl rfl rfl (by decide) (by decide)
          · refine r_run J 1 (pc' := 64) (lv' := [(0, vR 7), (1, vI x1), (2, vI x2)]) (st' := [vI 4]) rfl ?_
            exact r_iret J rfl rfl rfl rfl (by decide) (by decide)
        · refine r_run J 1 (pc' := 51) (lv' := [(0, vR 7), (1, vI x1), (2, vI x2)]) (st' := [vI 3]) rfl ?_
          exact r_iret J rfl rfl rfl rfl (by decide) (by decide)
      · refine r_run J 1 (pc' := 38) (lv' := [(0, vR 7), (1, vI x1), (2, vI x2)]) (st' := [vI 2]) rfl ?_
        exact r_iret J rfl rfl rfl rfl (by decide) (by decide)
    · refine r_run J 1 (pc' := 25) (lv' := [(0, vR 7), (1, vI x1), (2, vI x2)]) (st' := [vI 1]) rfl ?_
      exact r_iret J rfl rfl rfl rfl (by decide) (by decide)
  · refine r_run J 1 (pc' := 12) (lv' := [(0, vR 7), (1, vI x1), (2, vI x2)]) (st' := [vI 0]) rfl ?_
    exact r_iret J rfl rfl rfl rfl (by decide) (by decide)
theorem c_X7_wordOf {l : Launch} (x1 : Int32) (x2 : Int32) (σ : gS) (M : gM) (N : gN) (hL : g_layC σ) (r : Int32) (h : f_X7_wordOf x1 x2 σ M = some r) : g_Ct l yX7_wordOf cX7_wordOf 3 (some .int) 6 0 0 [vR 7, vI x1, vI x2] (σ, M, N) (eI σ M N r) :=
  g_Ct.of tb_X7_wordOf (by decide +kernel) tk_X7_wordOf (Nat.le_of_ble_eq_true rfl) (fun E J => p_X7_wordOf_0 J x1 x2 σ M N hL r h)
def tb_X7_numberOf : gT := [(0, .iload_n 2, 1, 0), (1, .iload_n 1, 1, 0), (2, .isub, 1, 0), (3, .iconst 4, 1, 4), (4, .if_icmp .le 6, 3, 0), (7, .bipush 13, 2, 13), (9, .ireturn, 1, 0), (10, .iconst 0, 1, 0), (11, .istore_n 3, 1, 0), (12, .iload_n 1, 1, 0), (13, .istore 4, 2, 0), (15, .iload 4, 2, 0), (17, .iload_n 2, 1, 0), (18, .if_icmp .ge 25, 3, 0), (21, .iload_n 3, 1, 0), (22, .bipush 10, 2, 10), (24, .imul, 1, 0), (25, .aload_n 0, 1, 0), (26, .getfield 23, 3, 0), (29, .iload 4, 2, 0), (31, .iaload, 1, 0), (32, .iadd, 1, 0), (33, .bipush 48, 2, 48), (35, .isub, 1, 0), (36, .istore_n 3, 1, 0), (37, .iinc 4 1, 3, 1), (40, .goto (-25), 3, 0), (43, .sipush 1000, 3, 1000), (46, .iload_n 3, 1, 0), (47, .iadd, 1, 0), (48, .ireturn, 1, 0)]
set_option maxRecDepth 100000 in
theorem tk_X7_numberOf : g_okT cX7_numberOf tb_X7_numberOf = true := by decide +kernel
abbrev J_X7_numberOf (E : gE) (l : Launch) : Prop := g_J E cX7_numberOf RX7 "numberOf" (some .int) 5 tb_X7_numberOf 1 0 0 l
set_option maxHeartbeats 4000000 in
set_option maxRecDepth 100000 in
theorem p_X7_numberOf_15 {l : Launch} {E : gE} (J : J_X7_numberOf E l) : ∀ (n : Nat) (x2 : Int32) (x3 : Int32) (x4 : Int32) (σ : gS) (M : gM) (N : gN) (hL : g_layC σ), g_H E 0 0 15 [(0, vR 7), (2, vI x2), (3, vI x3), (4, vI x4)] [] (σ, M, N) (l_X7_numberOf_15 n x2 x3 x4 σ M) (eI σ M N) := by
  intro n
  induction n with
  | zero => intros; exact h_none
  | succ n ih =>
    intro x2 x3 x4 σ M N hL
    rw [l_X7_numberOf_15]
    refine r_run J 2 (pc' := 18) (lv' := [(0, vR 7), (2, vI x2), (3, vI x3), (4, vI x4)]) (st' := [vI x2, vI x4]) rfl ?_
    refine r_icmp_ge J (tgt := 43) rfl (by decide) (fun c18 => ?_) (fun c18 => ?_)
    · refine r_run J 4 (pc' := 26) (lv' := [(0, vR 7), (2, vI x2), (3, vI x3), (4, vI x4)]) (st' := [vR 7, vI (x3 * (10 : Int32))]) rfl ?_
      refine r_getR J cls7 rfl (k := 3) (t := 14) (by decide) wf_7_23 rfl rfl (ly_7 hL) (lr_7_3 hL) (fun _ => ?_)
      show g_H E 0 0 29 [(0, vR 7), (2, vI x2), (3, vI x3), (4, vI x4)] [vR 11, vI (x3 * (10 : Int32))] (σ, M, N) _ _
      refine r_run J 1 (pc' := 31) (lv' := [(0, vR 7), (2, vI x2), (3, vI x3), (4, vI x4)]) (st' := [vI x4, vR 11, vI (x3 * (10 : Int32))]) rfl ?_
      refine r_iald J rfl (ly_11 hL) (fun i31 => ?_)
      show g_H E 0 0 32 [(0, vR 7), (2, vI x2), (3, vI x3), (4, vI x4)] [vI (M 11 x4.toNatClampNeg), vI (x3 * (10 : Int32))] (σ, M, N) _ _
      refine r_run J 6 (pc' := 15) (lv' := [(4, vI (x4 + 1)), (3, vI (((x3 * (10 : Int32)) + (M 11 x4.toNatClampNeg)) - (48 : Int32))), (0, vR 7), (2, vI x2)]) (st' := []) rfl ?_
      refine r_sub [2, 3, 1, 0] (lv' := [(0, vR 7), (2, vI x2), (3, vI (((x3 * (10 : Int32)) + (M 11 x4.toNatClampNeg)) - (48 : Int32))), (4, vI (x4 + 1))]) rfl ?_
      exact ih x2 (((x3 * (10 : Int32)) + (M 11 x4.toNatClampNeg)) - (48 : Int32)) (x4 + 1) σ M N hL
    · refine r_run J 3 (pc' := 48) (lv' := [(0, vR 7), (2, vI x2), (3, vI x3), (4, vI x4)]) (st' := [vI ((1000 : Int32) + x3)]) rfl ?_
      exact r_iret J rfl rfl rfl rfl (by decide) (by decide)
set_option maxHeartbeats 4000000 in
set_option maxRecDepth 100000 in
theorem p_X7_numberOf_0 {l : Launch} {E : gE} (J : J_X7_numberOf E l) (x1 : Int32) (x2 : Int32) (σ : gS) (M : gM) (N : gN) (hL : g_layC σ) : g_H E 0 0 0 [(0, vR 7), (1, vI x1), (2, vI x2)] [] (σ, M, N) (b_X7_numberOf_0 x1 x2 σ M) (eI σ M N) := by
  unfold b_X7_numberOf_0
  refine r_run J 4 (pc' := 4) (lv' := [(0, vR 7), (1, vI x1), (2, vI x2)]) (st' := [vI 4, vI (x2 - x1)]) rfl ?_
  refine r_icmp_le J (tgt := 10) rfl (by decide) (fun c4 => ?_) (fun c4 => ?_)
  · refine r_run J 1 (pc' := 9) (lv' := [(0, vR 7), (1, vI x1), (2, vI x2)]) (st' := [vI 13]) rfl ?_
    exact r_iret J rfl rfl rfl rfl (by decide) (by decide)
  · refine r_run J 4 (pc' := 15) (lv' := [(4, vI x1), (3, vI 0), (0, vR 7), (1, vI x1), (2, vI x2)]) (st' := []) rfl ?_
    refine r_sub [2, 4, 1, 0] (lv' := [(0, vR 7), (2, vI x2), (3, vI 0), (4, vI x1)]) rfl ?_
    exact p_X7_numberOf_15 J g_FU x2 0 x1 σ M N hL
theorem c_X7_numberOf {l : Launch} (x1 : Int32) (x2 : Int32) (σ : gS) (M : gM) (N : gN) (hL : g_layC σ) (r : Int32) (h : f_X7_numberOf x1 x2 σ M = some r) : g_Ct l yX7_numberOf cX7_numberOf 5 (some .int) 1 0 0 [vR 7, vI x1, vI x2] (σ, M, N) (eI σ M N r) :=
  g_Ct.of tb_X7_numberOf (by decide +kernel) tk_X7_numberOf (Nat.le_of_ble_eq_true rfl) (fun E J => p_X7_numberOf_0 J x1 x2 σ M N hL r h)
def tb_X7_isSign : gT := [(0, .iload_n 0, 1, 0), (1, .tableswitch 105 40 61 #[103, 103, 105, 103, 105, 103, 105, 105, 105, 105, 105, 105, 105, 105, 105, 105, 105, 105, 105, 103, 103, 103], 103, 0), (104, .iconst 1, 1, 1), (105, .ireturn, 1, 0), (106, .iconst 0, 1, 0), (107, .ireturn, 1, 0)]
set_option maxRecDepth 100000 in
theorem tk_X7_isSign : g_okT cX7_isSign tb_X7_isSign = true := by decide +kernel
abbrev J_X7_isSign (E : gE) (l : Launch) : Prop := g_J E cX7_isSign RX7 "isSign" (some .boolean) 1 tb_X7_isSign 1 0 0 l
set_option maxHeartbeats 4000000 in
set_option maxRecDepth 100000 in
theorem p_X7_isSign_0 {l : Launch} {E : gE} (J : J_X7_isSign E l) (x0 : Int32) (σ : gS) (M : gM) (N : gN) (hL : g_layC σ) : g_H E 0 0 0 [(0, vI x0)] [] (σ, M, N) (b_X7_isSign_0 x0) (eI σ M N) := by
  unfold b_X7_isSign_0
  refine r_run J 1 (pc' := 1) (lv' := [(0, vI x0)]) (st' := [vI x0]) rfl ?_
  refine r_table J [(40, 104), (41, 104), (42, 106), (43, 104), (44, 106), (45, 104), (46, 106), (47, 106), (48, 106), (49, 106), (50, 106), (51, 106), (52, 106), (53, 106), (54, 106), (55, 106), (56, 106), (57, 106), (58, 106), (59, 104), (60, 104), (61, 104)] (d := 106) rfl (by decide +kernel) (List.forall_mem_cons.mpr ⟨fun hc => ?_, List.forall_mem_cons.mpr ⟨fun hc => ?_, List.forall_mem_cons.mpr ⟨fun hc => ?_, List.forall_mem_cons.mpr ⟨fun hc => ?_, List.forall_mem_cons.mpr ⟨fun hc => ?_, List.forall_mem_cons.mpr ⟨fun hc => ?_, List.forall_mem_cons.mpr ⟨fun hc => ?_, List.forall_mem_cons.mpr ⟨fun hc => ?_, List.forall_mem_cons.mpr ⟨fun hc => ?_, List.forall_mem_cons.mpr ⟨fun hc => ?_, List.forall_mem_cons.mpr ⟨fun hc => ?_, List.forall_mem_cons.mpr ⟨fun hc => ?_, List.forall_mem_cons.mpr ⟨fun hc => ?_, List.forall_mem_cons.mpr ⟨fun hc => ?_, List.forall_mem_cons.mpr ⟨fun hc => ?_, List.forall_mem_cons.mpr ⟨fun hc => ?_, List.forall_mem_cons.mpr ⟨fun hc => ?_, List.forall_mem_cons.mpr ⟨fun hc => ?_, List.forall_mem_cons.mpr ⟨fun hc => ?_, List.forall_mem_cons.mpr ⟨fun hc => ?_, List.forall_mem_cons.mpr ⟨fun hc => ?_, List.forall_mem_cons.mpr ⟨fun hc => ?_, fun _ h => absurd h List.not_mem_nil⟩⟩⟩⟩⟩⟩⟩⟩⟩⟩⟩⟩⟩⟩⟩⟩⟩⟩⟩⟩⟩⟩) (fun hd => ?_)
  · rw [if_pos hc]
    refine r_run J 1 (pc' := 105) (lv' := [(0, vI x0)]) (st' := [vI 1]) rfl ?_
    exact r_iret J rfl rfl rfl rfl (by decide) (by decide)
  · rw [if_neg (by rw [hc]; decide), if_pos hc]
    refine r_run J 1 (pc' := 105) (lv' := [(0, vI x0)]) (st' := [vI 1]) rfl ?_
    exact r_iret J rfl rfl rfl rfl (by decide) (by decide)
  · rw [if_neg (by rw [hc]; decide), if_neg (by rw [hc]; decide), if_neg (by rw [hc]; decide), if_neg (by rw [hc]; decide), if_neg (by rw [hc]; decide), if_neg (by rw [hc]; decide), if_neg (by rw [hc]; decide)]
    refine r_run J 1 (pc' := 107) (lv' := [(0, vI x0)]) (st' := [vI 0]) rfl ?_
    exact r_iret J rfl rfl rfl rfl (by decide) (by decide)
  · rw [if_neg (by rw [hc]; decide), if_neg (by rw [hc]; decide), if_pos hc]
    refine r_run J 1 (pc' := 105) (lv' := [(0, vI x0)]) (st' := [vI 1]) rfl ?_
    exact r_iret J rfl rfl rfl rfl (by decide) (by decide)
  · rw [if_neg (by rw [hc]; decide), if_neg (by rw [hc]; decide), if_neg (by rw [hc]; decide), if_neg (by rw [hc]; decide), if_neg (by rw [hc]; decide), if_neg (by rw [hc]; decide), if_neg (by rw [hc]; decide)]
    refine r_run J 1 (pc' := 107) (lv' := [(0, vI x0)]) (st' := [vI 0]) rfl ?_
    exact r_iret J rfl rfl rfl rfl (by decide) (by decide)
  · rw [if_neg (by rw [hc]; decide), if_neg (by rw [hc]; decide), if_neg (by rw [hc]; decide), if_pos hc]
    refine r_run J 1 (pc' := 105) (lv' := [(0, vI x0)]) (st' := [vI 1]) rfl ?_
    exact r_iret J rfl rfl rfl rfl (by decide) (by decide)
  · rw [if_neg (by rw [hc]; decide), if_neg (by rw [hc]; decide), if_neg (by rw [hc]; decide), if_neg (by rw [hc]; decide), if_neg (by rw [hc]; decide), if_neg (by rw [hc]; decide), if_neg (by rw [hc]; decide)]
    refine r_run J 1 (pc' := 107) (lv' := [(0, vI x0)]) (st' := [vI 0]) rfl ?_
    exact r_iret J rfl rfl rfl rfl (by decide) (by decide)
  · rw [if_neg (by rw [hc]; decide), if_neg (by rw [hc]; decide), if_neg (by rw [hc]; decide), if_neg (by rw [hc]; decide), if_neg (by rw [hc]; decide), if_neg (by rw [hc]; decide), if_neg (by rw [hc]; decide)]
    refine r_run J 1 (pc' := 107) (lv' := [(0, vI x0)]) (st' := [vI 0]) rfl ?_
    exact r_iret J rfl rfl rfl rfl (by decide) (by decide)
  · rw [if_neg (by rw [hc]; decide), if_neg (by rw [hc]; decide), if_neg (by rw [hc]; decide), if_neg (by rw [hc]; decide), if_neg (by rw [hc]; decide), if_neg (by rw [hc]; decide), if_neg (by rw [hc]; decide)]
    refine r_run J 1 (pc' := 107) (lv' := [(0, vI x0)]) (st' := [vI 0]) rfl ?_
    exact r_iret J rfl rfl rfl rfl (by decide) (by decide)
  · rw [if_neg (by rw [hc]; decide), if_neg (by rw [hc]; decide), if_neg (by rw [hc]; decide), if_neg (by rw [hc]; decide), if_neg (by rw [hc]; decide), if_neg (by rw [hc]; decide), if_neg (by rw [hc]; decide)]
    refine r_run J 1 (pc' := 107) (lv' := [(0, vI x0)]) (st' := [vI 0]) rfl ?_
    exact r_iret J rfl rfl rfl rfl (by decide) (by decide)
  · rw [if_neg (by rw [hc]; decide), if_neg (by rw [hc]; decide), if_neg (by rw [hc]; decide), if_neg (by rw [hc]; decide), if_neg (by rw [hc]; decide), if_neg (by rw [hc]; decide), if_neg (by rw [hc]; decide)]
    refine r_run J 1 (pc' := 107) (lv' := [(0, vI x0)]) (st' := [vI 0]) rfl ?_
    exact r_iret J rfl rfl rfl rfl (by decide) (by decide)
  · rw [if_neg (by rw [hc]; decide), if_neg (by rw [hc]; decide), if_neg (by rw [hc]; decide), if_neg (by rw [hc]; decide), if_neg (by rw [hc]; decide), if_neg (by rw [hc]; decide), if_neg (by rw [hc]; decide)]
    refine r_run J 1 (pc' := 107) (lv' := [(0, vI x0)]) (st' := [vI 0]) rfl ?_
    exact r_iret J rfl rfl rfl rfl (by decide) (by decide)
  · rw [if_neg (by rw [hc]; decide), if_neg (by rw [hc]; decide), if_neg (by rw [hc]; decide), if_neg (by rw [hc]; decide), if_neg (by rw [hc]; decide), if_neg (by rw [hc]; decide), if_neg (by rw [hc]; decide)]
    refine r_run J 1 (pc' := 107) (lv' := [(0, vI x0)]) (st' := [vI 0]) rfl ?_
    exact r_iret J rfl rfl rfl rfl (by decide) (by decide)
  · rw [if_neg (by rw [hc]; decide), if_neg (by rw [hc]; decide), if_neg (by rw [hc]; decide), if_neg (by rw [hc]; decide), if_neg (by rw [hc]; decide), if_neg (by rw [hc]; decide), if_neg (by rw [hc]; decide)]
    refine r_run J 1 (pc' := 107) (lv' := [(0, vI x0)]) (st' := [vI 0]) rfl ?_
    exact r_iret J rfl rfl rfl rfl (by decide) (by decide)
  · rw [if_neg (by rw [hc]; decide), if_neg (by rw [hc]; decide), if_neg (by rw [hc]; decide), if_neg (by rw [hc]; decide), if_neg (by rw [hc]; decide), if_neg (by rw [hc]; decide), if_neg (by rw [hc]; decide)]
    refine r_run J 1 (pc' := 107) (lv' := [(0, vI x0)]) (st' := [vI 0]) rfl ?_
    exact r_iret J rfl rfl rfl rfl (by decide) (by decide)
  · rw [if_neg (by rw [hc]; decide), if_neg (by rw [hc]; decide), if_neg (by rw [hc]; decide), if_neg (by rw [hc]; decide), if_neg (by rw [hc]; decide), if_neg (by rw [hc]; decide), if_neg (by rw [hc]; decide)]
    refine r_run J 1 (pc' := 107) (lv' := [(0, vI x0)]) (st' := [vI 0]) rfl ?_
    exact r_iret J rfl rfl rfl rfl (by decide) (by decide)
  · rw [if_neg (by rw [hc]; decide), if_neg (by rw [hc]; decide), if_neg (by rw [hc]; decide), if_neg (by rw [hc]; decide), if_neg (by rw [hc]; decide), if_neg (by rw [hc]; decide), if_neg (by rw [hc]; decide)]
    refine r_run J 1 (pc' := 107) (lv' := [(0, vI x0)]) (st' := [vI 0]) rfl ?_
    exact r_iret J rfl rfl rfl rfl (by decide) (by decide)
  · rw [if_neg (by rw [hc]; decide), if_neg (by rw [hc]; decide), if_neg (by rw [hc]; decide), if_neg (by rw [hc]; decide), if_neg (by rw [hc]; decide), if_neg (by rw [hc]; decide), if_neg (by rw [hc]; decide)]
    refine r_run J 1 (pc' := 107) (lv' := [(0, vI x0)]) (st' := [vI 0]) rfl ?_
    exact r_iret J rfl rfl rfl rfl (by decide) (by decide)
  · rw [if_neg (by rw [hc]; decide), if_neg (by rw [hc]; decide), if_neg (by rw [hc]; decide), if_neg (by rw [hc]; decide), if_neg (by rw [hc]; decide), if_neg (by rw [hc]; decide), if_neg (by rw [hc]; decide)]
    refine r_run J 1 (pc' := 107) (lv' := [(0, vI x0)]) (st' := [vI 0]) rfl ?_
    exact r_iret J rfl rfl rfl rfl (by decide) (by decide)
  · rw [if_neg (by rw [hc]; decide), if_neg (by rw [hc]; decide), if_neg (by rw [hc]; decide), if_neg (by rw [hc]; decide), if_pos hc]
    refine r_run J 1 (pc' := 105) (lv' := [(0, vI x0)]) (st' := [vI 1]) rfl ?_
    exact r_iret J rfl rfl rfl rfl (by decide) (by decide)
  · rw [if_neg (by rw [hc]; decide), if_neg (by rw [hc]; decide), if_neg (by rw [hc]; decide), if_neg (by rw [hc]; decide), if_neg (by rw [hc]; decide), if_pos hc]
    refine r_run J 1 (pc' := 105) (lv' := [(0, vI x0)]) (st' := [vI 1]) rfl ?_
    exact r_iret J rfl rfl rfl rfl (by decide) (by decide)
  · rw [if_neg (by rw [hc]; decide), if_neg (by rw [hc]; decide), if_neg (by rw [hc]; decide), if_neg (by rw [hc]; decide), if_neg (by rw [hc]; decide), if_neg (by rw [hc]; decide), if_pos hc]
    refine r_run J 1 (pc' := 105) (lv' := [(0, vI x0)]) (st' := [vI 1]) rfl ?_
    exact r_iret J rfl rfl rfl rfl (by decide) (by decide)
  · rw [if_neg (hd _ (List.mem_of_getElem? (i := 0) rfl)), if_neg (hd _ (List.mem_of_getElem? (i := 1) rfl)), if_neg (hd _ (List.mem_of_getElem? (i := 3) rfl)), if_neg (hd _ (List.mem_of_getElem? (i := 5) rfl)), if_neg (hd _ (List.mem_of_getElem? (i := 19) rfl)), if_neg (hd _ (List.mem_of_getElem? (i := 20) rfl)), if_neg (hd _ (List.mem_of_getElem? (i := 21) rfl))]
    refine r_run J 1 (pc' := 107) (lv' := [(0, vI x0)]) (st' := [vI 0]) rfl ?_
    exact r_iret J rfl rfl rfl rfl (by decide) (by decide)
theorem c_X7_isSign {l : Launch} (x0 : Int32) (σ : gS) (M : gM) (N : gN) (hL : g_layC σ) (r : Int32) (h : f_X7_isSign x0 = some r) : g_Ct l yX7_isSign cX7_isSign 1 (some .boolean) 1 0 0 [vI x0] (σ, M, N) (eI σ M N r) :=
  g_Ct.of tb_X7_isSign (by decide +kernel) tk_X7_isSign (Nat.le_of_ble_eq_true rfl) (fun E J => p_X7_isSign_0 J x0 σ M N hL r h)
def tb_X7_tokenOf : gT := [(0, .aload_n 0, 1, 0), (1, .getfield 23, 3, 0), (4, .iload_n 1, 1, 0), (5, .iaload, 1, 0), (6, .invokestatic 102, 3, 0), (9, .ifCond .eq 10, 3, 0), (12, .aload_n 0, 1, 0), (13, .iload_n 1, 1, 0), (14, .iload_n 2, 1, 0), (15, .invokevirtual 108, 3, 0), (18, .ireturn, 1, 0), (19, .aload_n 0, 1, 0), (20, .getfield 23, 3, 0), (23, .iload_n 1, 1, 0), (24, .iaload, 1, 0), (25, .invokestatic 105, 3, 0), (28, .ifCond .eq 10, 3, 0), (31, .aload_n 0, 1, 0), (32, .iload_n 1, 1, 0), (33, .iload_n 2, 1, 0), (34, .invokevirtual 111, 3, 0), (37, .ireturn, 1, 0), (38, .aload_n 0, 1, 0), (39, .getfield 23, 3, 0), (42, .iload_n 1, 1, 0), (43, .iaload, 1, 0), (44, .invokestatic 114, 3, 0), (47, .ifCond .eq 12, 3, 0), (50, .aload_n 0, 1, 0), (51, .getfield 23, 3, 0), (54, .iload_n 1, 1, 0), (55, .iaload, 1, 0), (56, .goto 5, 3, 0), (59, .bipush 13, 2, 13), (61, .ireturn, 1, 0)]
set_option maxRecDepth 100000 in
theorem tk_X7_tokenOf : g_okT cX7_tokenOf tb_X7_tokenOf = true := by decide +kernel
abbrev J_X7_tokenOf (E : gE) (l : Launch) : Prop := g_J E cX7_tokenOf RX7 "tokenOf" (some .int) 3 tb_X7_tokenOf 7 0 0 l
set_option maxHeartbeats 4000000 in
set_option maxRecDepth 100000 in
theorem p_X7_tokenOf_0 {l : Launch} {E : gE} (J : J_X7_tokenOf E l) (x1 : Int32) (x2 : Int32) (σ : gS) (M : gM) (N : gN) (hL : g_layC σ) : g_H E 0 0 0 [(0, vR 7), (1, vI x1), (2, vI x2)] [] (σ, M, N) (b_X7_tokenOf_0 x1 x2 σ M) (eI σ M N) := by
  unfold b_X7_tokenOf_0
  refine r_run J 1 (pc' := 1) (lv' := [(0, vR 7), (1, vI x1), (2, vI x2)]) (st' := [vR 7]) rfl ?_
  refine r_getR J cls7 rfl (k := 3) (t := 14) (by decide) wf_7_23 rfl rfl (ly_7 hL) (lr_7_3 hL) (fun _ => ?_)
  show g_H E 0 0 4 [(0, vR 7), (1, vI x1), (2, vI x2)] [vR 11] (σ, M, N) _ _
  refine r_run J 1 (pc' := 5) (lv' := [(0, vR 7), (1, vI x1), (2, vI x2)]) (st' := [vI x1, vR 11]) rfl ?_
  refine r_iald J rfl (ly_11 hL) (fun i5 => ?_)
  show g_H E 0 0 6 [(0, vR 7), (1, vI x1), (2, vI x2)] [vI (M 11 x1.toNatClampNeg)] (σ, M, N) _ _
  refine r_callS J (As := [vI (M 11 x1.toNatClampNeg)]) (st := []) (fun r hr => c_X7_isLetter (M 11 x1.toNatClampNeg) σ M N hL r hr) wm_7_102 wy_X7_isLetter wd_X7_isLetter ⟨by decide, by decide, by decide, by decide, Nat.le_of_ble_eq_true rfl⟩ rfl rfl (fun q6 hq6 => ?_)
  show g_H E 0 0 9 [(0, vR 7), (1, vI x1), (2, vI x2)] [vI q6] (σ, M, N) _ _
  refine r_if_eq J (tgt := 19) rfl (by decide) (fun c9 => ?_) (fun c9 => ?_)
  · refine r_run J 1 (pc' := 20) (lv' := [(0, vR 7), (1, vI x1), (2, vI x2)]) (st' := [vR 7]) rfl ?_
    refine r_getR J cls7 rfl (k := 3) (t := 14) (by decide) wf_7_23 rfl rfl (ly_7 hL) (lr_7_3 hL) (fun _ => ?_)
    show g_H E 0 0 23 [(0, vR 7), (1, vI x1), (2, vI x2)] [vR 11] (σ, M, N) _ _
    refine r_run J 1 (pc' := 24) (lv' := [(0, vR 7), (1, vI x1), (2, vI x2)]) (st' := [vI x1, vR 11]) rfl ?_
    refine r_iald J rfl (ly_11 hL) (fun i24 => ?_)
    show g_H E 0 0 25 [(0, vR 7), (1, vI x1), (2, vI x2)] [vI (M 11 x1.toNatClampNeg)] (σ, M, N) _ _
    refine r_callS J (As := [vI (M 11 x1.toNatClampNeg)]) (st := []) (fun r hr => c_X7_isDigit (M 11 x1.toNatClampNeg) σ M N hL r hr) wm_7_105 wy_X7_isDigit wd_X7_isDigit ⟨by decide, by decide, by decide, by decide, Nat.le_of_ble_eq_true rfl⟩ rfl rfl (fun q25 hq25 => ?_)
    show g_H E 0 0 28 [(0, vR 7), (1, vI x1), (2, vI x2)] [vI q25] (σ, M, N) _ _
    refine r_if_eq J (tgt := 38) rfl (by decide) (fun c28 => ?_) (fun c28 => ?_)
    · refine r_run J 1 (pc' := 39) (lv' := [(0, vR 7), (1, vI x1), (2, vI x2)]) (st' := [vR 7]) rfl ?_
      refine r_getR J cls7 rfl (k := 3) (t := 14) (by decide) wf_7_23 rfl rfl (ly_7 hL) (lr_7_3 hL) (fun _ => ?_)
      show g_H E 0 0 42 [(0, vR 7), (1, vI x1), (2, vI x2)] [vR 11] (σ, M, N) _ _
      refine r_run J 1 (pc' := 43) (lv' := [(0, vR 7), (1, vI x1), (2, vI x2)]) (st' := [vI x1, vR 11]) rfl ?_
      refine r_iald J rfl (ly_11 hL) (fun i43 => ?_)
      show g_H E 0 0 44 [(0, vR 7), (1, vI x1), (2, vI x2)] [vI (M 11 x1.toNatClampNeg)] (σ, M, N) _ _
      refine r_callS J (As := [vI (M 11 x1.toNatClampNeg)]) (st := []) (fun r hr => c_X7_isSign (M 11 x1.toNatClampNeg) σ M N hL r hr) wm_7_114 wy_X7_isSign wd_X7_isSign ⟨by decide, by decide, by decide, by decide, Nat.le_of_ble_eq_true rfl⟩ rfl rfl (fun q44 hq44 => ?_)
      show g_H E 0 0 47 [(0, vR 7), (1, vI x1), (2, vI x2)] [vI q44] (σ, M, N) _ _
      refine r_if_eq J (tgt := 59) rfl (by decide) (fun c47 => ?_) (fun c47 => ?_)
      · refine r_run J 1 (pc' := 61) (lv' := [(0, vR 7), (1, vI x1), (2, vI x2)]) (st' := [vI 13]) rfl ?_
        exact r_iret J rfl rfl rfl rfl (by decide) (by decide)
      · refine r_run J 1 (pc' := 51) (lv' := [(0, vR 7), (1, vI x1), (2, vI x2)]) (st' := [vR 7]) rfl ?_
        refine r_getR J cls7 rfl (k := 3) (t := 14) (by decide) wf_7_23 rfl rfl (ly_7 hL) (lr_7_3 hL) (fun _ => ?_)
        show g_H E 0 0 54 [(0, vR 7), (1, vI x1), (2, vI x2)] [vR 11] (σ, M, N) _ _
        refine r_run J 1 (pc' := 55) (lv' := [(0, vR 7), (1, vI x1), (2, vI x2)]) (st' := [vI x1, vR 11]) rfl ?_
        refine r_iald J rfl (ly_11 hL) (fun i55 => ?_)
        show g_H E 0 0 56 [(0, vR 7), (1, vI x1), (2, vI x2)] [vI (M 11 x1.toNatClampNeg)] (σ, M, N) _ _
        refine r_run J 1 (pc' := 61) (lv' := [(0, vR 7), (1, vI x1), (2, vI x2)]) (st' := [vI (M 11 x1.toNatClampNeg)]) rfl ?_
        exact r_iret J rfl rfl rfl rfl (by decide) (by decide)
    · refine r_run J 3 (pc' := 34) (lv' := [(0, vR 7), (1, vI x1), (2, vI x2)]) (st' := [vI x2, vI x1, vR 7]) rfl ?_
      refine r_callV J (As := [vI x1, vI x2]) (st := []) (fun r hr => c_X7_numberOf x1 x2 σ M N hL r hr) cls7 (ly_7 hL) wm_7_111 wy_X7_numberOf wd_X7_numberOf ⟨by decide, by decide, by decide, by decide, Nat.le_of_ble_eq_true rfl⟩ rfl rfl (fun q34 hq34 => ?_)
      show g_H E 0 0 37 [(0, vR 7), (1, vI x1), (2, vI x2)] [vI q34] (σ, M, N) _ _
      exact r_iret J rfl rfl rfl rfl (by decide) (by decide)
  · refine r_run J 3 (pc' := 15) (lv' := [(0, vR 7), (1, vI x1), (2, vI x2)]) (st' := [vI x2, vI x1, vR 7]) rfl ?_
    refine r_callV J (As := [vI x1, vI x2]) (st := []) (fun r hr => c_X7_wordOf x1 x2 σ M N hL r hr) cls7 (ly_7 hL) wm_7_108 wy_X7_wordOf wd_X7_wordOf ⟨by decide, by decide, by decide, by decide, Nat.le_of_ble_eq_true rfl⟩ rfl rfl (fun q15 hq15 => ?_)
    show g_H E 0 0 18 [(0, vR 7), (1, vI x1), (2, vI x2)] [vI q15] (σ, M, N) _ _
    exact r_iret J rfl rfl rfl rfl (by decide) (by decide)
theorem c_X7_tokenOf {l : Launch} (x1 : Int32) (x2 : Int32) (σ : gS) (M : gM) (N : gN) (hL : g_layC σ) (r : Int32) (h : f_X7_tokenOf x1 x2 σ M = some r) : g_Ct l yX7_tokenOf cX7_tokenOf 3 (some .int) 7 0 0 [vR 7, vI x1, vI x2] (σ, M, N) (eI σ M N r) :=
  g_Ct.of tb_X7_tokenOf (by decide +kernel) tk_X7_tokenOf (Nat.le_of_ble_eq_true rfl) (fun E J => p_X7_tokenOf_0 J x1 x2 σ M N hL r h)
def tb_X7_keep : gT := [(0, .aload_n 0, 1, 0), (1, .getfield 42, 3, 0), (4, .sipush 400, 3, 400), (7, .if_icmp .gt 33, 3, 0), (10, .aload_n 0, 1, 0), (11, .getfield 26, 3, 0), (14, .aload_n 0, 1, 0), (15, .getfield 42, 3, 0), (18, .iload_n 1, 1, 0), (19, .iastore, 1, 0), (20, .aload_n 0, 1, 0), (21, .getfield 29, 3, 0), (24, .aload_n 0, 1, 0), (25, .getfield 42, 3, 0), (28, .iload_n 2, 1, 0), (29, .iastore, 1, 0), (30, .aload_n 0, 1, 0), (31, .dup, 1, 0), (32, .getfield 42, 3, 0), (35, .iconst 1, 1, 1), (36, .iadd, 1, 0), (37, .putfield 42, 3, 0), (40, .return_, 1, 0)]
set_option maxRecDepth 100000 in
theorem tk_X7_keep : g_okT cX7_keep tb_X7_keep = true := by decide +kernel
abbrev J_X7_keep (E : gE) (l : Launch) : Prop := g_J E cX7_keep RX7 "keep" none 3 tb_X7_keep 1 0 0 l
set_option maxHeartbeats 4000000 in
set_option maxRecDepth 100000 in
theorem p_X7_keep_0 {l : Launch} {E : gE} (J : J_X7_keep E l) (x1 : Int32) (x2 : Int32) (σ : gS) (M : gM) (N : gN) (hL : g_layC σ) : g_H E 0 0 0 [(0, vR 7), (1, vI x1), (2, vI x2)] [] (σ, M, N) (b_X7_keep_0 x1 x2 σ M) (eVM σ N) := by
  unfold b_X7_keep_0
  refine r_run J 1 (pc' := 1) (lv' := [(0, vR 7), (1, vI x1), (2, vI x2)]) (st' := [vR 7]) rfl ?_
  refine r_getI J cls7 rfl (k := 9) (by decide) wf_7_42 rfl (ly_7 hL) ?_
  show g_H E 0 0 4 [(0, vR 7), (1, vI x1), (2, vI x2)] [vI (M 7 9)] (σ, M, N) _ _
  refine r_run J 1 (pc' := 7) (lv' := [(0, vR 7), (1, vI x1), (2, vI x2)]) (st' := [vI 400, vI (M 7 9)]) rfl ?_
  refine r_icmp_gt J (tgt := 40) rfl (by decide) (fun c7 => ?_) (fun c7 => ?_)
  · exact r_vret J rfl rfl rfl (by decide) (by decide)
  · refine r_run J 1 (pc' := 11) (lv' := [(0, vR 7), (1, vI x1), (2, vI x2)]) (st' := [vR 7]) rfl ?_
    refine r_getR J cls7 rfl (k := 4) (t := 14) (by decide) wf_7_26 rfl rfl (ly_7 hL) (lr_7_4 hL) (fun _ => ?_)
    show g_H E 0 0 14 [(0, vR 7), (1, vI x1), (2, vI x2)] [vR 37] (σ, M, N) _ _
    refine r_run J 1 (pc' := 15) (lv' := [(0, vR 7), (1, vI x1), (2, vI x2)]) (st' := [vR 7, vR 37]) rfl ?_
    refine r_getI J cls7 rfl (k := 9) (by decide) wf_7_42 rfl (ly_7 hL) ?_
    show g_H E 0 0 18 [(0, vR 7), (1, vI x1), (2, vI x2)] [vI (M 7 9), vR 37] (σ, M, N) _ _
    refine r_run J 1 (pc' := 19) (lv' := [(0, vR 7), (1, vI x1), (2, vI x2)]) (st' := [vI x1, vI (M 7 9), vR 37]) rfl ?_
    refine r_iast J rfl (ly_37 hL) (fun i19 => ?_)
    show g_H E 0 0 20 [(0, vR 7), (1, vI x1), (2, vI x2)] [] (σ, (g_up M 37 ((M 7 9).toNatClampNeg) x1), N) _ _
    refine r_run J 1 (pc' := 21) (lv' := [(0, vR 7), (1, vI x1), (2, vI x2)]) (st' := [vR 7]) rfl ?_
    refine r_getR J cls7 rfl (k := 5) (t := 14) (by decide) wf_7_29 rfl rfl (ly_7 hL) (lr_7_5 hL) (fun _ => ?_)
    show g_H E 0 0 24 [(0, vR 7), (1, vI x1), (2, vI x2)] [vR 38] (σ, (g_up M 37 ((M 7 9).toNatClampNeg) x1), N) _ _
    refine r_run J 1 (pc' := 25) (lv' := [(0, vR 7), (1, vI x1), (2, vI x2)]) (st' := [vR 7, vR 38]) rfl ?_
    refine r_getI J cls7 rfl (k := 9) (by decide) wf_7_42 rfl (ly_7 hL) ?_
    show g_H E 0 0 28 [(0, vR 7), (1, vI x1), (2, vI x2)] [vI ((g_up M 37 ((M 7 9).toNatClampNeg) x1) 7 9), vR 38] (σ, (g_up M 37 ((M 7 9).toNatClampNeg) x1), N) _ _
    refine r_run J 1 (pc' := 29) (lv' := [(0, vR 7), (1, vI x1), (2, vI x2)]) (st' := [vI x2, vI ((g_up M 37 ((M 7 9).toNatClampNeg) x1) 7 9), vR 38]) rfl ?_
    refine r_iast J rfl (ly_38 hL) (fun i29 => ?_)
    show g_H E 0 0 30 [(0, vR 7), (1, vI x1), (2, vI x2)] [] (σ, (g_up (g_up M 37 ((M 7 9).toNatClampNeg) x1) 38 (((g_up M 37 ((M 7 9).toNatClampNeg) x1) 7 9).toNatClampNeg) x2), N) _ _
    refine r_run J 2 (pc' := 32) (lv' := [(0, vR 7), (1, vI x1), (2, vI x2)]) (st' := [vR 7, vR 7]) rfl ?_
    refine r_getI J cls7 rfl (k := 9) (by decide) wf_7_42 rfl (ly_7 hL) ?_
    show g_H E 0 0 35 [(0, vR 7), (1, vI x1), (2, vI x2)] [vI ((g_up (g_up M 37 ((M 7 9).toNatClampNeg) x1) 38 (((g_up M 37 ((M 7 9).toNatClampNeg) x1) 7 9).toNatClampNeg) x2) 7 9), vR 7] (σ, (g_up (g_up M 37 ((M 7 9).toNatClampNeg) x1) 38 (((g_up M 37 ((M 7 9).toNatClampNeg) x1) 7 9).toNatClampNeg) x2), N) _ _
    refine r_run J 2 (pc' := 37) (lv' := [(0, vR 7), (1, vI x1), (2, vI x2)]) (st' := [vI (((g_up (g_up M 37 ((M 7 9).toNatClampNeg) x1) 38 (((g_up M 37 ((M 7 9).toNatClampNeg) x1) 7 9).toNatClampNeg) x2) 7 9) + (1 : Int32)), vR 7]) rfl ?_
    refine r_putI J cls7 rfl (k := 9) (by decide) wf_7_42 rfl (Or.inl rfl) ⟨rfl, rfl⟩ (ly_7 hL) ?_
    show g_H E 0 0 40 [(0, vR 7), (1, vI x1), (2, vI x2)] [] (σ, (g_up (g_up (g_up M 37 ((M 7 9).toNatClampNeg) x1) 38 (((g_up M 37 ((M 7 9).toNatClampNeg) x1) 7 9).toNatClampNeg) x2) 7 9 (((g_up (g_up M 37 ((M 7 9).toNatClampNeg) x1) 38 (((g_up M 37 ((M 7 9).toNatClampNeg) x1) 7 9).toNatClampNeg) x2) 7 9) + (1 : Int32))), N) _ _
    exact r_vret J rfl rfl rfl (by decide) (by decide)
theorem c_X7_keep {l : Launch} (x1 : Int32) (x2 : Int32) (σ : gS) (M : gM) (N : gN) (hL : g_layC σ) (r : gM) (h : f_X7_keep x1 x2 σ M = some r) : g_Ct l yX7_keep cX7_keep 3 none 1 0 0 [vR 7, vI x1, vI x2] (σ, M, N) (eVM σ N r) :=
  g_Ct.of tb_X7_keep (by decide +kernel) tk_X7_keep (Nat.le_of_ble_eq_true rfl) (fun E J => p_X7_keep_0 J x1 x2 σ M N hL r h)
def tb_X7_splitTape : gT := [(0, .aload_n 0, 1, 0), (1, .iconst 0, 1, 0), (2, .putfield 42, 3, 0), (5, .iconst 0, 1, 0), (6, .istore_n 1, 1, 0), (7, .iconst 0, 1, 0), (8, .istore_n 2, 1, 0), (9, .iload_n 2, 1, 0), (10, .aload_n 0, 1, 0), (11, .getfield 32, 3, 0), (14, .if_icmp .ge 43, 3, 0), (17, .iload_n 2, 1, 0), (18, .iload_n 1, 1, 0), (19, .if_icmp .lt 32, 3, 0), (22, .aload_n 0, 1, 0), (23, .getfield 23, 3, 0), (26, .iload_n 2, 1, 0), (27, .iaload, 1, 0), (28, .invokestatic 87, 3, 0), (31, .ifCond .ne 20, 3, 0), (34, .aload_n 0, 1, 0), (35, .iload_n 2, 1, 0), (36, .invokevirtual 90, 3, 0), (39, .istore_n 1, 1, 0), (40, .aload_n 0, 1, 0), (41, .aload_n 0, 1, 0), (42, .iload_n 2, 1, 0), (43, .iload_n 1, 1, 0), (44, .invokevirtual 94, 3, 0), (47, .iload_n 2, 1, 0), (48, .invokevirtual 98, 3, 0), (51, .iinc 2 1, 3, 1), (54, .goto (-45), 3, 0), (57, .aload_n 0, 1, 0), (58, .bipush 12, 2, 12), (60, .aload_n 0, 1, 0), (61, .getfield 32, 3, 0), (64, .invokevirtual 98, 3, 0), (67, .return_, 1, 0)]
set_option maxRecDepth 100000 in
theorem tk_X7_splitTape : g_okT cX7_splitTape tb_X7_splitTape = true := by decide +kernel
abbrev J_X7_splitTape (E : gE) (l : Launch) : Prop := g_J E cX7_splitTape RX7 "splitTape" none 3 tb_X7_splitTape 8 0 0 l
set_option maxHeartbeats 4000000 in
set_option maxRecDepth 100000 in
theorem p_X7_splitTape_51 {l : Launch} {E : gE} (J : J_X7_splitTape E l) {k9 : Int32 → Int32 → gS → gM → Option (gM)} (H9 : ∀ (x1 : Int32) (x2 : Int32) (σ : gS) (M : gM) (N : gN) (_ : g_layC σ), g_H E 0 0 9 [(0, vR 7), (1, vI x1), (2, vI x2)] [] (σ, M, N) (k9 x1 x2 σ M) (eVM σ N)) (x1 : Int32) (x2 : Int32) (σ : gS) (M : gM) (N : gN) (hL : g_layC σ) : g_H E 0 0 51 [(0, vR 7), (1, vI x1), (2, vI x2)] [] (σ, M, N) (b_X7_splitTape_51 k9 x1 x2 σ M) (eVM σ N) := by
  unfold b_X7_splitTape_51
  refine r_run J 2 (pc' := 9) (lv' := [(2, vI (x2 + 1)), (0, vR 7), (1, vI x1)]) (st' := []) rfl ?_
  refine r_sub [1, 2, 0] (lv' := [(0, vR 7), (1, vI x1), (2, vI (x2 + 1))]) rfl ?_
  exact H9 x1 (x2 + 1) σ M N hL
set_option maxHeartbeats 4000000 in
set_option maxRecDepth 100000 in
theorem p_X7_splitTape_9 {l : Launch} {E : gE} (J : J_X7_splitTape E l) : ∀ (n : Nat) (x1 : Int32) (x2 : Int32) (σ : gS) (M : gM) (N : gN) (hL : g_layC σ), g_H E 0 0 9 [(0, vR 7), (1, vI x1), (2, vI x2)] [] (σ, M, N) (l_X7_splitTape_9 n x1 x2 σ M) (eVM σ N) := by
  intro n
  induction n with
  | zero => intros; exact h_none
  | succ n ih =>
    intro x1 x2 σ M N hL
    rw [l_X7_splitTape_9]
    refine r_run J 2 (pc' := 11) (lv' := [(0, vR 7), (1, vI x1), (2, vI x2)]) (st' := [vR 7, vI x2]) rfl ?_
    refine r_getI J cls7 rfl (k := 6) (by decide) wf_7_32 rfl (ly_7 hL) ?_
    show g_H E 0 0 14 [(0, vR 7), (1, vI x1), (2, vI x2)] [vI (M 7 6), vI x2] (σ, M, N) _ _
    refine r_icmp_ge J (tgt := 57) rfl (by decide) (fun c14 => ?_) (fun c14 => ?_)
    · refine r_run J 2 (pc' := 19) (lv' := [(0, vR 7), (1, vI x1), (2, vI x2)]) (st' := [vI x1, vI x2]) rfl ?_
      refine r_icmp_lt J (tgt := 51) rfl (by decide) (fun c19 => ?_) (fun c19 => ?_)
      · exact p_X7_splitTape_51 J ih x1 x2 σ M N hL
      · refine r_run J 1 (pc' := 23) (lv' := [(0, vR 7), (1, vI x1), (2, vI x2)]) (st' := [vR 7]) rfl ?_
        refine r_getR J cls7 rfl (k := 3) (t := 14) (by decide) wf_7_23 rfl rfl (ly_7 hL) (lr_7_3 hL) (fun _ => ?_)
        show g_H E 0 0 26 [(0, vR 7), (1, vI x1), (2, vI x2)] [vR 11] (σ, M, N) _ _
        refine r_run J 1 (pc' := 27) (lv' := [(0, vR 7), (1, vI x1), (2, vI x2)]) (st' := [vI x2, vR 11]) rfl ?_
        refine r_iald J rfl (ly_11 hL) (fun i27 => ?_)
        show g_H E 0 0 28 [(0, vR 7), (1, vI x1), (2, vI x2)] [vI (M 11 x2.toNatClampNeg)] (σ, M, N) _ _
        refine r_callS J (As := [vI (M 11 x2.toNatClampNeg)]) (st := []) (fun r hr => c_X7_isBlank (M 11 x2.toNatClampNeg) σ M N hL r hr) wm_7_87 wy_X7_isBlank wd_X7_isBlank ⟨by decide, by decide, by decide, by decide, Nat.le_of_ble_eq_true rfl⟩ rfl rfl (fun q28 hq28 => ?_)
        show g_H E 0 0 31 [(0, vR 7), (1, vI x1), (2, vI x2)] [vI q28] (σ, M, N) _ _
        refine r_if_ne J (tgt := 51) rfl (by decide) (fun c31 => ?_) (fun c31 => ?_)
        · refine r_run J 2 (pc' := 36) (lv' := [(0, vR 7), (1, vI x1), (2, vI x2)]) (st' := [vI x2, vR 7]) rfl ?_
          refine r_callV J (As := [vI x2]) (st := []) (fun r hr => c_X7_endOfToken x2 σ M N hL r hr) cls7 (ly_7 hL) wm_7_90 wy_X7_endOfToken wd_X7_endOfToken ⟨by decide, by decide, by decide, by decide, Nat.le_of_ble_eq_true rfl⟩ rfl rfl (fun q36 hq36 => ?_)
          show g_H E 0 0 39 [(0, vR 7), (1, vI x1), (2, vI x2)] [vI q36] (σ, M, N) _ _
          refine r_run J 5 (pc' := 44) (lv' := [(1, vI q36), (0, vR 7), (2, vI x2)]) (st' := [vI q36, vI x2, vR 7, vR 7]) rfl ?_
          refine r_callV J (As := [vI x2, vI q36]) (st := [vR 7]) (fun r hr => c_X7_tokenOf x2 q36 σ M N hL r hr) cls7 (ly_7 hL) wm_7_94 wy_X7_tokenOf wd_X7_tokenOf ⟨by decide, by decide, by decide, by decide, Nat.le_of_ble_eq_true rfl⟩ rfl rfl (fun q44 hq44 => ?_)
          show g_H E 0 0 47 [(1, vI q36), (0, vR 7), (2, vI x2)] [vI q44, vR 7] (σ, M, N) _ _
          refine r_run J 1 (pc' := 48) (lv' := [(1, vI q36), (0, vR 7), (2, vI x2)]) (st' := [vI x2, vI q44, vR 7]) rfl ?_
          refine r_callV J (As := [vI q44, vI x2]) (st := []) (fun r hr => c_X7_keep q44 x2 σ M N hL r hr) cls7 (ly_7 hL) wm_7_98 wy_X7_keep wd_X7_keep ⟨by decide, by decide, by decide, by decide, Nat.le_of_ble_eq_true rfl⟩ rfl rfl (fun q48 hq48 => ?_)
          show g_H E 0 0 51 [(1, vI q36), (0, vR 7), (2, vI x2)] [] (σ, q48, N) _ _
          refine r_sub [1, 0, 2] (lv' := [(0, vR 7), (1, vI q36), (2, vI x2)]) rfl ?_
          exact p_X7_splitTape_51 J ih q36 x2 σ q48 N hL
        · exact p_X7_splitTape_51 J ih x1 x2 σ M N hL
    · refine r_run J 3 (pc' := 61) (lv' := [(0, vR 7), (1, vI x1), (2, vI x2)]) (st' := [vR 7, vI 12, vR 7]) rfl ?_
      refine r_getI J cls7 rfl (k := 6) (by decide) wf_7_32 rfl (ly_7 hL) ?_
      show g_H E 0 0 64 [(0, vR 7), (1, vI x1), (2, vI x2)] [vI (M 7 6), vI 12, vR 7] (σ, M, N) _ _
      refine r_callV J (As := [vI 12, vI (M 7 6)]) (st := []) (fun r hr => c_X7_keep 12 (M 7 6) σ M N hL r hr) cls7 (ly_7 hL) wm_7_98 wy_X7_keep wd_X7_keep ⟨by decide, by decide, by decide, by decide, Nat.le_of_ble_eq_true rfl⟩ rfl rfl (fun q64 hq64 => ?_)
      show g_H E 0 0 67 [(0, vR 7), (1, vI x1), (2, vI x2)] [] (σ, q64, N) _ _
      exact r_vret J rfl rfl rfl (by decide) (by decide)
set_option maxHeartbeats 4000000 in
set_option maxRecDepth 100000 in
theorem p_X7_splitTape_0 {l : Launch} {E : gE} (J : J_X7_splitTape E l) (σ : gS) (M : gM) (N : gN) (hL : g_layC σ) : g_H E 0 0 0 [(0, vR 7)] [] (σ, M, N) (b_X7_splitTape_0 σ M) (eVM σ N) := by
  unfold b_X7_splitTape_0
  refine r_run J 2 (pc' := 2) (lv' := [(0, vR 7)]) (st' := [vI 0, vR 7]) rfl ?_
  refine r_putI J cls7 rfl (k := 9) (by decide) wf_7_42 rfl (Or.inl rfl) ⟨rfl, rfl⟩ (ly_7 hL) ?_
  show g_H E 0 0 5 [(0, vR 7)] [] (σ, (g_up M 7 9 0), N) _ _
  refine r_run J 4 (pc' := 9) (lv' := [(2, vI 0), (1, vI 0), (0, vR 7)]) (st' := []) rfl ?_
  refine r_sub [2, 1, 0] (lv' := [(0, vR 7), (1, vI 0), (2, vI 0)]) rfl ?_
  exact p_X7_splitTape_9 J g_FU 0 0 σ (g_up M 7 9 0) N hL
theorem c_X7_splitTape {l : Launch} (σ : gS) (M : gM) (N : gN) (hL : g_layC σ) (r : gM) (h : f_X7_splitTape σ M = some r) : g_Ct l yX7_splitTape cX7_splitTape 3 none 8 0 0 [vR 7] (σ, M, N) (eVM σ N r) :=
  g_Ct.of tb_X7_splitTape (by decide +kernel) tk_X7_splitTape (Nat.le_of_ble_eq_true rfl) (fun E J => p_X7_splitTape_0 J σ M N hL r h)
def tb_X7_advance : gT := [(0, .aload_n 0, 1, 0), (1, .getfield 45, 3, 0), (4, .aload_n 0, 1, 0), (5, .getfield 42, 3, 0), (8, .if_icmp .ge 39, 3, 0), (11, .aload_n 0, 1, 0), (12, .aload_n 0, 1, 0), (13, .getfield 26, 3, 0), (16, .aload_n 0, 1, 0), (17, .getfield 45, 3, 0), (20, .iaload, 1, 0), (21, .putfield 48, 3, 0), (24, .aload_n 0, 1, 0), (25, .aload_n 0, 1, 0), (26, .getfield 29, 3, 0), (29, .aload_n 0, 1, 0), (30, .getfield 45, 3, 0), (33, .iaload, 1, 0), (34, .putfield 51, 3, 0), (37, .aload_n 0, 1, 0), (38, .dup, 1, 0), (39, .getfield 45, 3, 0), (42, .iconst 1, 1, 1), (43, .iadd, 1, 0), (44, .putfield 45, 3, 0), (47, .return_, 1, 0)]
set_option maxRecDepth 100000 in
theorem tk_X7_advance : g_okT cX7_advance tb_X7_advance = true := by decide +kernel
abbrev J_X7_advance (E : gE) (l : Launch) : Prop := g_J E cX7_advance RX7 "advance" none 1 tb_X7_advance 1 0 0 l
set_option maxHeartbeats 4000000 in
set_option maxRecDepth 100000 in
theorem p_X7_advance_0 {l : Launch} {E : gE} (J : J_X7_advance E l) (σ : gS) (M : gM) (N : gN) (hL : g_layC σ) : g_H E 0 0 0 [(0, vR 7)] [] (σ, M, N) (b_X7_advance_0 σ M) (eVM σ N) := by
  unfold b_X7_advance_0
  refine r_run J 1 (pc' := 1) (lv' := [(0, vR 7)]) (st' := [vR 7]) rfl ?_
  refine r_getI J cls7 rfl (k := 10) (by decide) wf_7_45 rfl (ly_7 hL) ?_
  show g_H E 0 0 4 [(0, vR 7)] [vI (M 7 10)] (σ, M, N) _ _
  refine r_run J 1 (pc' := 5) (lv' := [(0, vR 7)]) (st' := [vR 7, vI (M 7 10)]) rfl ?_
  refine r_getI J cls7 rfl (k := 9) (by decide) wf_7_42 rfl (ly_7 hL) ?_
  show g_H E 0 0 8 [(0, vR 7)] [vI (M 7 9), vI (M 7 10)] (σ, M, N) _ _
  refine r_icmp_ge J (tgt := 47) rfl (by decide) (fun c8 => ?_) (fun c8 => ?_)
  · refine r_run J 2 (pc' := 13) (lv' := [(0, vR 7)]) (st' := [vR 7, vR 7]) rfl ?_
    refine r_getR J cls7 rfl (k := 4) (t := 14) (by decide) wf_7_26 rfl rfl (ly_7 hL) (lr_7_4 hL) (fun _ => ?_)
    show g_H E 0 0 16 [(0, vR 7)] [vR 37, vR 7] (σ, M, N) _ _
    refine r_run J 1 (pc' := 17) (lv' := [(0, vR 7)]) (st' := [vR 7, vR 37, vR 7]) rfl ?_
    refine r_getI J cls7 rfl (k := 10) (by decide) wf_7_45 rfl (ly_7 hL) ?_
    show g_H E 0 0 20 [(0, vR 7)] [vI (M 7 10), vR 37, vR 7] (σ, M, N) _ _
    refine r_iald J rfl (ly_37 hL) (fun i20 => ?_)
    show g_H E 0 0 21 [(0, vR 7)] [vI (M 37 (M 7 10).toNatClampNeg), vR 7] (σ, M, N) _ _
    refine r_putI J cls7 rfl (k := 11) (by decide) wf_7_48 rfl (Or.inl rfl) ⟨rfl, rfl⟩ (ly_7 hL) ?_
    show g_H E 0 0 24 [(0, vR 7)] [] (σ, (g_up M 7 11 (M 37 (M 7 10).toNatClampNeg)), N) _ _
    refine r_run J 2 (pc' := 26) (lv' := [(0, vR 7)]) (st' := [vR 7, vR 7]) rfl ?_
    refine r_getR J cls7 rfl (k := 5) (t := 14) (by decide) wf_7_29 rfl rfl (ly_7 hL) (lr_7_5 hL) (fun _ => ?_)
    show g_H E 0 0 29 [(0, vR 7)] [vR 38, vR 7] (σ, (g_up M 7 11 (M 37 (M 7 10).toNatClampNeg)), N) _ _
    refine r_run J 1 (pc' := 30) (lv' := [(0, vR 7)]) (st' := [vR 7, vR 38, vR 7]) rfl ?_
    refine r_getI J cls7 rfl (k := 10) (by decide) wf_7_45 rfl (ly_7 hL) ?_
    show g_H E 0 0 33 [(0, vR 7)] [vI ((g_up M 7 11 (M 37 (M 7 10).toNatClampNeg)) 7 10), vR 38, vR 7] (σ, (g_up M 7 11 (M 37 (M 7 10).toNatClampNeg)), N) _ _
    refine r_iald J rfl (ly_38 hL) (fun i33 => ?_)
    show g_H E 0 0 34 [(0, vR 7)] [vI ((g_up M 7 11 (M 37 (M 7 10).toNatClampNeg)) 38 ((g_up M 7 11 (M 37 (M 7 10).toNatClampNeg)) 7 10).toNatClampNeg), vR 7] (σ, (g_up M 7 11 (M 37 (M 7 10).toNatClampNeg)), N) _ _
    refine r_putI J cls7 rfl (k := 12) (by decide) wf_7_51 rfl (Or.inl rfl) ⟨rfl, rfl⟩ (ly_7 hL) ?_
    show g_H E 0 0 37 [(0, vR 7)] [] (σ, (g_up (g_up M 7 11 (M 37 (M 7 10).toNatClampNeg)) 7 12 ((g_up M 7 11 (M 37 (M 7 10).toNatClampNeg)) 38 ((g_up M 7 11 (M 37 (M 7 10).toNatClampNeg)) 7 10).toNatClampNeg)), N) _ _
    refine r_run J 2 (pc' := 39) (lv' := [(0, vR 7)]) (st' := [vR 7, vR 7]) rfl ?_
    refine r_getI J cls7 rfl (k := 10) (by decide) wf_7_45 rfl (ly_7 hL) ?_
    show g_H E 0 0 42 [(0, vR 7)] [vI ((g_up (g_up M 7 11 (M 37 (M 7 10).toNatClampNeg)) 7 12 ((g_up M 7 11 (M 37 (M 7 10).toNatClampNeg)) 38 ((g_up M 7 11 (M 37 (M 7 10).toNatClampNeg)) 7 10).toNatClampNeg)) 7 10), vR 7] (σ, (g_up (g_up M 7 11 (M 37 (M 7 10).toNatClampNeg)) 7 12 ((g_up M 7 11 (M 37 (M 7 10).toNatClampNeg)) 38 ((g_up M 7 11 (M 37 (M 7 10).toNatClampNeg)) 7 10).toNatClampNeg)), N) _ _
    refine r_run J 2 (pc' := 44) (lv' := [(0, vR 7)]) (st' := [vI (((g_up (g_up M 7 11 (M 37 (M 7 10).toNatClampNeg)) 7 12 ((g_up M 7 11 (M 37 (M 7 10).toNatClampNeg)) 38 ((g_up M 7 11 (M 37 (M 7 10).toNatClampNeg)) 7 10).toNatClampNeg)) 7 10) + (1 : Int32)), vR 7]) rfl ?_
    refine r_putI J cls7 rfl (k := 10) (by decide) wf_7_45 rfl (Or.inl rfl) ⟨rfl, rfl⟩ (ly_7 hL) ?_
    show g_H E 0 0 47 [(0, vR 7)] [] (σ, (g_up (g_up (g_up M 7 11 (M 37 (M 7 10).toNatClampNeg)) 7 12 ((g_up M 7 11 (M 37 (M 7 10).toNatClampNeg)) 38 ((g_up M 7 11 (M 37 (M 7 10).toNatClampNeg)) 7 10).toNatClampNeg)) 7 10 (((g_up (g_up M 7 11 (M 37 (M 7 10).toNatClampNeg)) 7 12 ((g_up M 7 11 (M 37 (M 7 10).toNatClampNeg)) 38 ((g_up M 7 11 (M 37 (M 7 10).toNatClampNeg)) 7 10).toNatClampNeg)) 7 10) + (1 : Int32))), N) _ _
    exact r_vret J rfl rfl rfl (by decide) (by decide)
  · exact r_vret J rfl rfl rfl (by decide) (by decide)
theorem c_X7_advance {l : Launch} (σ : gS) (M : gM) (N : gN) (hL : g_layC σ) (r : gM) (h : f_X7_advance σ M = some r) : g_Ct l yX7_advance cX7_advance 1 none 1 0 0 [vR 7] (σ, M, N) (eVM σ N r) :=
  g_Ct.of tb_X7_advance (by decide +kernel) tk_X7_advance (Nat.le_of_ble_eq_true rfl) (fun E J => p_X7_advance_0 J σ M N hL r h)
def tb_X7_refuse : gT := [(0, .aload_n 0, 1, 0), (1, .aload_n 0, 1, 0), (2, .getfield 51, 3, 0), (5, .bipush 10, 2, 10), (7, .imul, 1, 0), (8, .iload_n 1, 1, 0), (9, .iadd, 1, 0), (10, .putfield 54, 3, 0), (13, .iconst 0, 1, 0), (14, .ireturn, 1, 0)]
set_option maxRecDepth 100000 in
theorem tk_X7_refuse : g_okT cX7_refuse tb_X7_refuse = true := by decide +kernel
abbrev J_X7_refuse (E : gE) (l : Launch) : Prop := g_J E cX7_refuse RX7 "refuse" (some .boolean) 2 tb_X7_refuse 1 0 0 l
set_option maxHeartbeats 4000000 in
set_option maxRecDepth 100000 in
theorem p_X7_refuse_0 {l : Launch} {E : gE} (J : J_X7_refuse E l) (x1 : Int32) (σ : gS) (M : gM) (N : gN) (hL : g_layC σ) : g_H E 0 0 0 [(0, vR 7), (1, vI x1)] [] (σ, M, N) (b_X7_refuse_0 x1 σ M) (eIM σ N) := by
  unfold b_X7_refuse_0
  refine r_run J 2 (pc' := 2) (lv' := [(0, vR 7), (1, vI x1)]) (st' := [vR 7, vR 7]) rfl ?_
  refine r_getI J cls7 rfl (k := 12) (by decide) wf_7_51 rfl (ly_7 hL) ?_
  show g_H E 0 0 5 [(0, vR 7), (1, vI x1)] [vI (M 7 12), vR 7] (σ, M, N) _ _
  refine r_run J 4 (pc' := 10) (lv' := [(0, vR 7), (1, vI x1)]) (st' := [vI (((M 7 12) * (10 : Int32)) + x1), vR 7]) rfl ?_
  refine r_putI J cls7 rfl (k := 13) (by decide) wf_7_54 rfl (Or.inl rfl) ⟨rfl, rfl⟩ (ly_7 hL) ?_
  show g_H E 0 0 13 [(0, vR 7), (1, vI x1)] [] (σ, (g_up M 7 13 (((M 7 12) * (10 : Int32)) + x1)), N) _ _
  refine r_run J 1 (pc' := 14) (lv' := [(0, vR 7), (1, vI x1)]) (st' := [vI 0]) rfl ?_
  exact r_iret J rfl rfl rfl rfl (by decide) (by decide)
theorem c_X7_refuse {l : Launch} (x1 : Int32) (σ : gS) (M : gM) (N : gN) (hL : g_layC σ) (r : Int32 × gM) (h : f_X7_refuse x1 σ M = some r) : g_Ct l yX7_refuse cX7_refuse 2 (some .boolean) 1 0 0 [vR 7, vI x1] (σ, M, N) (eIM σ N r) :=
  g_Ct.of tb_X7_refuse (by decide +kernel) tk_X7_refuse (Nat.le_of_ble_eq_true rfl) (fun E J => p_X7_refuse_0 J x1 σ M N hL r h)
def tb_X7_write : gT := [(0, .aload_n 0, 1, 0), (1, .getfield 39, 3, 0), (4, .sipush 400, 3, 400), (7, .if_icmp .ge 23, 3, 0), (10, .aload_n 0, 1, 0), (11, .getfield 20, 3, 0), (14, .aload_n 0, 1, 0), (15, .getfield 39, 3, 0), (18, .iload_n 1, 1, 0), (19, .iastore, 1, 0), (20, .aload_n 0, 1, 0), (21, .dup, 1, 0), (22, .getfield 39, 3, 0), (25, .iconst 1, 1, 1), (26, .iadd, 1, 0), (27, .putfield 39, 3, 0), (30, .return_, 1, 0)]
set_option maxRecDepth 100000 in
theorem tk_X7_write : g_okT cX7_write tb_X7_write = true := by decide +kernel
abbrev J_X7_write (E : gE) (l : Launch) : Prop := g_J E cX7_write RX7 "write" none 2 tb_X7_write 1 0 0 l
set_option maxHeartbeats 4000000 in
set_option maxRecDepth 100000 in
theorem p_X7_write_0 {l : Launch} {E : gE} (J : J_X7_write E l) (x1 : Int32) (σ : gS) (M : gM) (N : gN) (hL : g_layC σ) : g_H E 0 0 0 [(0, vR 7), (1, vI x1)] [] (σ, M, N) (b_X7_write_0 x1 σ M) (eVM σ N) := by
  unfold b_X7_write_0
  refine r_run J 1 (pc' := 1) (lv' := [(0, vR 7), (1, vI x1)]) (st' := [vR 7]) rfl ?_
  refine r_getI J cls7 rfl (k := 8) (by decide) wf_7_39 rfl (ly_7 hL) ?_
  show g_H E 0 0 4 [(0, vR 7), (1, vI x1)] [vI (M 7 8)] (σ, M, N) _ _
  refine r_run J 1 (pc' := 7) (lv' := [(0, vR 7), (1, vI x1)]) (st' := [vI 400, vI (M 7 8)]) rfl ?_
  refine r_icmp_ge J (tgt := 30) rfl (by decide) (fun c7 => ?_) (fun c7 => ?_)
  · refine r_run J 1 (pc' := 11) (lv' := [(0, vR 7), (1, vI x1)]) (st' := [vR 7]) rfl ?_
    refine r_getR J cls7 rfl (k := 2) (t := 14) (by decide) wf_7_20 rfl rfl (ly_7 hL) (lr_7_2 hL) (fun _ => ?_)
    show g_H E 0 0 14 [(0, vR 7), (1, vI x1)] [vR 10] (σ, M, N) _ _
    refine r_run J 1 (pc' := 15) (lv' := [(0, vR 7), (1, vI x1)]) (st' := [vR 7, vR 10]) rfl ?_
    refine r_getI J cls7 rfl (k := 8) (by decide) wf_7_39 rfl (ly_7 hL) ?_
    show g_H E 0 0 18 [(0, vR 7), (1, vI x1)] [vI (M 7 8), vR 10] (σ, M, N) _ _
    refine r_run J 1 (pc' := 19) (lv' := [(0, vR 7), (1, vI x1)]) (st' := [vI x1, vI (M 7 8), vR 10]) rfl ?_
    refine r_iast J rfl (ly_10 hL) (fun i19 => ?_)
    show g_H E 0 0 20 [(0, vR 7), (1, vI x1)] [] (σ, (g_up M 10 ((M 7 8).toNatClampNeg) x1), N) _ _
    refine r_run J 2 (pc' := 22) (lv' := [(0, vR 7), (1, vI x1)]) (st' := [vR 7, vR 7]) rfl ?_
    refine r_getI J cls7 rfl (k := 8) (by decide) wf_7_39 rfl (ly_7 hL) ?_
    show g_H E 0 0 25 [(0, vR 7), (1, vI x1)] [vI ((g_up M 10 ((M 7 8).toNatClampNeg) x1) 7 8), vR 7] (σ, (g_up M 10 ((M 7 8).toNatClampNeg) x1), N) _ _
    refine r_run J 2 (pc' := 27) (lv' := [(0, vR 7), (1, vI x1)]) (st' := [vI (((g_up M 10 ((M 7 8).toNatClampNeg) x1) 7 8) + (1 : Int32)), vR 7]) rfl ?_
    refine r_putI J cls7 rfl (k := 8) (by decide) wf_7_39 rfl (Or.inl rfl) ⟨rfl, rfl⟩ (ly_7 hL) ?_
    show g_H E 0 0 30 [(0, vR 7), (1, vI x1)] [] (σ, (g_up (g_up M 10 ((M 7 8).toNatClampNeg) x1) 7 8 (((g_up M 10 ((M 7 8).toNatClampNeg) x1) 7 8) + (1 : Int32))), N) _ _
    exact r_vret J rfl rfl rfl (by decide) (by decide)
  · exact r_vret J rfl rfl rfl (by decide) (by decide)
theorem c_X7_write {l : Launch} (x1 : Int32) (σ : gS) (M : gM) (N : gN) (hL : g_layC σ) (r : gM) (h : f_X7_write x1 σ M = some r) : g_Ct l yX7_write cX7_write 2 none 1 0 0 [vR 7, vI x1] (σ, M, N) (eVM σ N r) :=
  g_Ct.of tb_X7_write (by decide +kernel) tk_X7_write (Nat.le_of_ble_eq_true rfl) (fun E J => p_X7_write_0 J x1 σ M N hL r h)
