def tb_X5_sharesWithAll : gT := [(0, .iconst 0, 1, 0), (1, .istore_n 3, 1, 0), (2, .iload_n 3, 1, 0), (3, .aload_n 0, 1, 0), (4, .getfield 17, 3, 0), (7, .if_icmp .ge 28, 3, 0), (10, .iload_n 2, 1, 0), (11, .iload_n 3, 1, 0), (12, .ishr, 1, 0), (13, .iconst 1, 1, 1), (14, .iand, 1, 0), (15, .ifCond .eq 14, 3, 0), (18, .aload_n 0, 1, 0), (19, .iload_n 1, 1, 0), (20, .iload_n 3, 1, 0), (21, .invokevirtual 45, 3, 0), (24, .ifCond .ne 5, 3, 0), (27, .iconst 0, 1, 0), (28, .ireturn, 1, 0), (29, .iinc 3 1, 3, 1), (32, .goto (-30), 3, 0), (35, .iconst 1, 1, 1), (36, .ireturn, 1, 0)]
set_option maxRecDepth 100000 in
theorem tk_X5_sharesWithAll : g_okT cX5_sharesWithAll tb_X5_sharesWithAll = true := by decide +kernel
abbrev J_X5_sharesWithAll (E : gE) (l : Launch) : Prop := g_J E cX5_sharesWithAll RX5 "sharesWithAll" (some .boolean) 4 tb_X5_sharesWithAll 3 0 0 l
noncomputable def b_X5_sharesWithAll_29 (k2 : Int32 → Int32 → Int32 → gS → gM → Option (Int32)) (x1 : Int32) (x2 : Int32) (x3 : Int32) (σ : gS) (M : gM) : Option (Int32) := k2 x1 x2 (x3 + 1) σ M
noncomputable def l_X5_sharesWithAll_2 : Nat → Int32 → Int32 → Int32 → gS → gM → Option (Int32)
  | 0, _, _, _, _, _ => none
  | n + 1, x1, x2, x3, σ, M => if x3 < (M 2 1) then if ((x2 >>> (x3 &&& 31)) &&& (1 : Int32)) = (0 : Int32) then b_X5_sharesWithAll_29 (fun x1 x2 x3 σ M => l_X5_sharesWithAll_2 n x1 x2 x3 σ M) x1 x2 x3 σ M else (f_X5_mayShare x1 x3 σ M).bind fun q21 => if q21 = (0 : Int32) then some 0 else b_X5_sharesWithAll_29 (fun x1 x2 x3 σ M => l_X5_sharesWithAll_2 n x1 x2 x3 σ M) x1 x2 x3 σ M else some 1
noncomputable def b_X5_sharesWithAll_0 (x1 : Int32) (x2 : Int32) (σ : gS) (M : gM) : Option (Int32) := l_X5_sharesWithAll_2 g_FU x1 x2 0 σ M
set_option maxHeartbeats 4000000 in
set_option maxRecDepth 100000 in
theorem p_X5_sharesWithAll_29 {l : Launch} {E : gE} (J : J_X5_sharesWithAll E l) {k2 : Int32 → Int32 → Int32 → gS → gM → Option (Int32)} (H2 : ∀ (x1 : Int32) (x2 : Int32) (x3 : Int32) (σ : gS) (M : gM) (N : gN) (_ : g_layC σ), g_H E 0 0 2 [(0, vR 2), (1, vI x1), (2, vI x2), (3, vI x3)] [] (σ, M, N) (k2 x1 x2 x3 σ M) (eI σ M N)) (x1 : Int32) (x2 : Int32) (x3 : Int32) (σ : gS) (M : gM) (N : gN) (hL : g_layC σ) : g_H E 0 0 29 [(0, vR 2), (1, vI x1), (2, vI x2), (3, vI x3)] [] (σ, M, N) (b_X5_sharesWithAll_29 k2 x1 x2 x3 σ M) (eI σ M N) := by
  unfold b_X5_sharesWithAll_29
  refine r_run J 2 (pc' := 2) (lv' := [(3, vI (x3 + 1)), (0, vR 2), (1, vI x1), (2, vI x2)]) (st' := []) rfl ?_
  refine r_sub [1, 2, 3, 0] (lv' := [(0, vR 2), (1, vI x1), (2, vI x2), (3, vI (x3 + 1))]) rfl ?_
  exact H2 x1 x2 (x3 + 1) σ M N hL
set_option maxHeartbeats 4000000 in
set_option maxRecDepth 100000 in
theorem p_X5_sharesWithAll_2 {l : Launch} {E : gE} (J : J_X5_sharesWithAll E l) : ∀ (n : Nat) (x1 : Int32) (x2 : Int32) (x3 : Int32) (σ : gS) (M : gM) (N : gN) (hL : g_layC σ), g_H E 0 0 2 [(0, vR 2), (1, vI x1), (2, vI x2), (3, vI x3)] [] (σ, M, N) (l_X5_sharesWithAll_2 n x1 x2 x3 σ M) (eI σ M N) := by
  intro n
  induction n with
  | zero => intros; exact h_none
  | succ n ih =>
    intro x1 x2 x3 σ M N hL
    rw [l_X5_sharesWithAll_2]
    refine r_run J 2 (pc' := 4) (lv' := [(0, vR 2), (1, vI x1), (2, vI x2), (3, vI x3)]) (st' := [vR 2, vI x3]) rfl ?_
    refine r_getI J cls5 rfl (k := 1) (by decide) wf_5_17 rfl (ly_2 hL) ?_
    show g_H E 0 0 7 [(0, vR 2), (1, vI x1), (2, vI x2), (3, vI x3)] [vI (M 2 1), vI x3] (σ, M, N) _ _
    refine r_icmp_ge J (tgt := 35) rfl (by decide) (fun c7 => ?_) (fun c7 => ?_)
    · refine r_run J 5 (pc' := 15) (lv' := [(0, vR 2), (1, vI x1), (2, vI x2), (3, vI x3)]) (st' := [vI ((x2 >>> (x3 &&& 31)) &&& (1 : Int32))]) rfl ?_
      refine r_if_eq J (tgt := 29) rfl (by decide) (fun c15 => ?_) (fun c15 => ?_)
      · exact p_X5_sharesWithAll_29 J ih x1 x2 x3 σ M N hL
      · refine r_run J 3 (pc' := 21) (lv' := [(0, vR 2), (1, vI x1), (2, vI x2), (3, vI x3)]) (st' := [vI x3, vI x1, vR 2]) rfl ?_
        refine r_callV J (As := [vI x1, vI x3]) (st := []) (fun r hr => c_X5_mayShare x1 x3 σ M N hL r hr) cls5 (ly_2 hL) wm_5_45 wy_X5_mayShare wd_X5_mayShare ⟨by decide, by decide, by decide, by decide, Nat.le_of_ble_eq_true rfl⟩ rfl rfl (fun q21 hq21 => ?_)
        show g_H E 0 0 24 [(0, vR 2), (1, vI x1), (2, vI x2), (3, vI x3)] [vI q21] (σ, M, N) _ _
        refine r_if_ne J (tgt := 29) rfl (by decide) (fun c24 => ?_) (fun c24 => ?_)
        · refine r_run J 1 (pc' := 28) (lv' := [(0, vR 2), (1, vI x1), (2, vI x2), (3, vI x3)]) (st' := [vI 0]) rfl ?_
          exact r_iret J rfl rfl rfl rfl (by decide) (by decide)
        · exact p_X5_sharesWithAll_29 J ih x1 x2 x3 σ M N hL
    · refine r_run J 1 (pc' := 36) (lv' := [(0, vR 2), (1, vI x1), (2, vI x2), (3, vI x3)]) (st' := [vI 1]) rfl ?_
      exact r_iret J rfl rfl rfl rfl (by decide) (by decide)
set_option maxHeartbeats 4000000 in
set_option maxRecDepth 100000 in
theorem p_X5_sharesWithAll_0 {l : Launch} {E : gE} (J : J_X5_sharesWithAll E l) (x1 : Int32) (x2 : Int32) (σ : gS) (M : gM) (N : gN) (hL : g_layC σ) : g_H E 0 0 0 [(0, vR 2), (1, vI x1), (2, vI x2)] [] (σ, M, N) (b_X5_sharesWithAll_0 x1 x2 σ M) (eI σ M N) := by
  unfold b_X5_sharesWithAll_0
  refine r_run J 2 (pc' := 2) (lv' := [(3, vI 0), (0, vR 2), (1, vI x1), (2, vI x2)]) (st' := []) rfl ?_
  refine r_sub [1, 2, 3, 0] (lv' := [(0, vR 2), (1, vI x1), (2, vI x2), (3, vI 0)]) rfl ?_
  exact p_X5_sharesWithAll_2 J g_FU x1 x2 0 σ M N hL
noncomputable def f_X5_sharesWithAll (x1 : Int32) (x2 : Int32) (σ : gS) (M : gM) : Option (Int32) := b_X5_sharesWithAll_0 x1 x2 σ M
theorem c_X5_sharesWithAll {l : Launch} (x1 : Int32) (x2 : Int32) (σ : gS) (M : gM) (N : gN) (hL : g_layC σ) (r : Int32) (h : f_X5_sharesWithAll x1 x2 σ M = some r) : g_Ct l yX5_sharesWithAll cX5_sharesWithAll 4 (some .boolean) 3 0 0 [vR 2, vI x1, vI x2] (σ, M, N) (eI σ M N r) :=
  g_Ct.of tb_X5_sharesWithAll (by decide +kernel) tk_X5_sharesWithAll (Nat.le_of_ble_eq_true rfl) (fun E J => p_X5_sharesWithAll_0 J x1 x2 σ M N hL r h)
def tb_X5_fits : gT := [(0, .aload_n 0, 1, 0), (1, .iload_n 2, 1, 0), (2, .invokevirtual 21, 3, 0), (5, .astore 4, 2, 0), (7, .aload_n 1, 1, 0), (8, .iload_n 3, 1, 0), (9, .invokevirtual 49, 3, 0), (12, .astore 5, 2, 0), (14, .aload 4, 2, 0), (16, .ifnull 32, 3, 0), (19, .aload 5, 2, 0), (21, .ifnull 27, 3, 0), (24, .aload 5, 2, 0), (26, .getfield 55, 3, 0), (29, .ifCond .eq 19, 3, 0), (32, .aload 4, 2, 0), (34, .getfield 60, 3, 0), (37, .ifCond .eq 13, 3, 0), (40, .aload 5, 2, 0), (42, .getfield 63, 3, 0), (45, .ifCond .ne 5, 3, 0), (48, .iconst 0, 1, 0), (49, .ireturn, 1, 0), (50, .aload_n 1, 1, 0), (51, .iload_n 3, 1, 0), (52, .invokevirtual 64, 3, 0), (55, .iconst 1, 1, 1), (56, .iload_n 2, 1, 0), (57, .ishl, 1, 0), (58, .iconst (-1), 1, (-1)), (59, .ixor, 1, 0), (60, .iand, 1, 0), (61, .istore 6, 2, 0), (63, .iload 6, 2, 0), (65, .invokestatic 68, 3, 0), (68, .aload 5, 2, 0), (70, .getfield 73, 3, 0), (73, .if_icmp .ge 17, 3, 0), (76, .aload_n 0, 1, 0), (77, .iload_n 2, 1, 0), (78, .iload 6, 2, 0), (80, .invokevirtual 76, 3, 0), (83, .ifCond .eq 7, 3, 0), (86, .iconst 1, 1, 1), (87, .goto 4, 3, 0), (90, .iconst 0, 1, 0), (91, .ireturn, 1, 0)]
set_option maxRecDepth 100000 in
theorem tk_X5_fits : g_okT cX5_fits tb_X5_fits = true := by decide +kernel
abbrev J_X5_fits (E : gE) (l : Launch) : Prop := g_J E cX5_fits RX5 "fits" (some .boolean) 7 tb_X5_fits 4 0 0 l
noncomputable def b_X5_fits_50 (r1 : Nat) (x2 : Int32) (x3 : Int32) (r5 : Nat) (σ : gS) (M : gM) : Option (Int32) := if g_is σ r1 10 = true then (f_X10_guestsOf r1 x3 σ M).bind fun q52 => (f_J_bitCount (q52 &&& (((1 : Int32) <<< (x2 &&& 31)) ^^^ (-1 : Int32)))).bind fun q65 => if g_is σ r5 8 = true then if q65 < (M r5 0) then (f_X5_sharesWithAll x2 (q52 &&& (((1 : Int32) <<< (x2 &&& 31)) ^^^ (-1 : Int32))) σ M).bind fun q80 => if q80 = (0 : Int32) then some 0 else some 1 else some 0 else none else none
noncomputable def b_X5_fits_0 (r1 : Nat) (x2 : Int32) (x3 : Int32) (σ : gS) (M : gM) : Option (Int32) := (f_X5_at x2 σ M).bind fun q2 => if g_is σ r1 10 = true then (f_X10_roomAt r1 x3 σ M).bind fun q9 => if q2 = 0 then some 0 else if q9 = 0 then some 0 else if g_is σ q9 8 = true then if (M q9 3) = (0 : Int32) then some 0 else if g_is σ q2 6 = true then if (M q2 2) = (0 : Int32) then b_X5_fits_50 r1 x2 x3 q9 σ M else if (M q9 1) = (0 : Int32) then some 0 else b_X5_fits_50 r1 x2 x3 q9 σ M else none else none else none
set_option maxHeartbeats 4000000 in
set_option maxRecDepth 100000 in
theorem p_X5_fits_50 {l : Launch} {E : gE} (J : J_X5_fits E l) (r1 : Nat) (x2 : Int32) (x3 : Int32) (r5 : Nat) (σ : gS) (M : gM) (N : gN) (hL : g_layC σ) : g_H E 0 0 50 [(0, vR 2), (1, vR r1), (2, vI x2), (3, vI x3), (5, vR r5)] [] (σ, M, N) (b_X5_fits_50 r1 x2 x3 r5 σ M) (eI σ M N) := by
  unfold b_X5_fits_50
  refine r_run J 2 (pc' := 52) (lv' := [(0, vR 2), (1, vR r1), (2, vI x2), (3, vI x3), (5, vR r5)]) (st' := [vI x3, vR r1]) rfl ?_
  refine r_chk (fun hs52 => ?_)
  refine r_callV J (As := [vI x3]) (st := []) (fun r hr => c_X10_guestsOf r1 x3 σ M N hL r hr) cls10 (g_is_at hs52) wm_5_64 wy_X10_guestsOf wd_X10_guestsOf ⟨by decide, by decide, by decide, by decide, Nat.le_of_ble_eq_true rfl⟩ rfl rfl (fun q52 hq52 => ?_)
  show g_H E 0 0 55 [(0, vR 2), (1, vR r1), (2, vI x2), (3, vI x3), (5, vR r5)] [vI q52] (σ, M, N) _ _
  refine r_run J 8 (pc' := 65) (lv' := [(6, vI (q52 &&& (((1 : Int32) <<< (x2 &&& 31)) ^^^ (-1 : Int32)))), (0, vR 2), (1, vR r1), (2, vI x2), (3, vI x3), (5, vR r5)]) (st' := [vI (q52 &&& (((1 : Int32) <<< (x2 &&& 31)) ^^^ (-1 : Int32)))]) rfl ?_
  refine r_callS J (As := [vI (q52 &&& (((1 : Int32) <<< (x2 &&& 31)) ^^^ (-1 : Int32)))]) (st := []) (fun r hr => c_J_bitCount (q52 &&& (((1 : Int32) <<< (x2 &&& 31)) ^^^ (-1 : Int32))) σ M N r hr) wm_5_68 wy_J_bitCount wd_J_bitCount ⟨by decide, by decide, by decide, by decide, Nat.le_of_ble_eq_true rfl⟩ rfl rfl (fun q65 hq65 => ?_)
  show g_H E 0 0 68 [(6, vI (q52 &&& (((1 : Int32) <<< (x2 &&& 31)) ^^^ (-1 : Int32)))), (0, vR 2), (1, vR r1), (2, vI x2), (3, vI x3), (5, vR r5)] [vI q65] (σ, M, N) _ _
  refine r_run J 1 (pc' := 70) (lv' := [(6, vI (q52 &&& (((1 : Int32) <<< (x2 &&& 31)) ^^^ (-1 : Int32)))), (0, vR 2), (1, vR r1), (2, vI x2), (3, vI x3), (5, vR r5)]) (st' := [vR r5, vI q65]) rfl ?_
  refine r_chk (fun hs70 => ?_)
  refine r_getI J cls8 rfl (k := 0) (by decide) wf_5_73 rfl (g_is_at hs70) ?_
  show g_H E 0 0 73 [(6, vI (q52 &&& (((1 : Int32) <<< (x2 &&& 31)) ^^^ (-1 : Int32)))), (0, vR 2), (1, vR r1), (2, vI x2), (3, vI x3), (5, vR r5)] [vI (M r5 0), vI q65] (σ, M, N) _ _
  refine r_icmp_ge J (tgt := 90) rfl (by decide) (fun c73 => ?_) (fun c73 => ?_)
  · refine r_run J 3 (pc' := 80) (lv' := [(6, vI (q52 &&& (((1 : Int32) <<< (x2 &&& 31)) ^^^ (-1 : Int32)))), (0, vR 2), (1, vR r1), (2, vI x2), (3, vI x3), (5, vR r5)]) (st' := [vI (q52 &&& (((1 : Int32) <<< (x2 &&& 31)) ^^^ (-1 : Int32))), vI x2, vR 2]) rfl ?_
    refine r_callV J (As := [vI x2, vI (q52 &&& (((1 : Int32) <<< (x2 &&& 31)) ^^^ (-1 : Int32)))]) (st := []) (fun r hr => c_X5_sharesWithAll x2 (q52 &&& (((1 : Int32) <<< (x2 &&& 31)) ^^^ (-1 : Int32))) σ M N hL r hr) cls5 (ly_2 hL) wm_5_76 wy_X5_sharesWithAll wd_X5_sharesWithAll ⟨by decide, by decide, by decide, by decide, Nat.le_of_ble_eq_true rfl⟩ rfl rfl (fun q80 hq80 => ?_)
    show g_H E 0 0 83 [(6, vI (q52 &&& (((1 : Int32) <<< (x2 &&& 31)) ^^^ (-1 : Int32)))), (0, vR 2), (1, vR r1), (2, vI x2), (3, vI x3), (5, vR r5)] [vI q80] (σ, M, N) _ _
    refine r_if_eq J (tgt := 90) rfl (by decide) (fun c83 => ?_) (fun c83 => ?_)
    · refine r_run J 1 (pc' := 91) (lv' := [(6, vI (q52 &&& (((1 : Int32) <<< (x2 &&& 31)) ^^^ (-1 : Int32)))), (0, vR 2), (1, vR r1), (2, vI x2), (3, vI x3), (5, vR r5)]) (st' := [vI 0]) rfl ?_
      exact r_iret J rfl rfl rfl rfl (by decide) (by decide)
    · refine r_run J 2 (pc' := 91) (lv' := [(6, vI (q52 &&& (((1 : Int32) <<< (x2 &&& 31)) ^^^ (-1 : Int32)))), (0, vR 2), (1, vR r1), (2, vI x2), (3, vI x3), (5, vR r5)]) (st' := [vI 1]) rfl ?_
      exact r_iret J rfl rfl rfl rfl (by decide) (by decide)
  · refine r_run J 1 (pc' := 91) (lv' := [(6, vI (q52 &&& (((1 : Int32) <<< (x2 &&& 31)) ^^^ (-1 : Int32)))), (0, vR 2), (1, vR r1), (2, vI x2), (3, vI x3), (5, vR r5)]) (st' := [vI 0]) rfl ?_
    exact r_iret J rfl rfl rfl rfl (by decide) (by decide)
set_option maxHeartbeats 4000000 in
set_option maxRecDepth 100000 in
theorem p_X5_fits_0 {l : Launch} {E : gE} (J : J_X5_fits E l) (r1 : Nat) (x2 : Int32) (x3 : Int32) (σ : gS) (M : gM) (N : gN) (hL : g_layC σ) : g_H E 0 0 0 [(0, vR 2), (1, vR r1), (2, vI x2), (3, vI x3)] [] (σ, M, N) (b_X5_fits_0 r1 x2 x3 σ M) (eI σ M N) := by
  unfold b_X5_fits_0
  refine r_run J 2 (pc' := 2) (lv' := [(0, vR 2), (1, vR r1), (2, vI x2), (3, vI x3)]) (st' := [vI x2, vR 2]) rfl ?_
  refine r_callV J (As := [vI x2]) (st := []) (fun r hr => c_X5_at x2 σ M N hL r hr) cls5 (ly_2 hL) wm_5_21 wy_X5_at wd_X5_at ⟨by decide, by decide, by decide, by decide, Nat.le_of_ble_eq_true rfl⟩ rfl rfl (fun q2 hq2 => ?_)
  show g_H E 0 0 5 [(0, vR 2), (1, vR r1), (2, vI x2), (3, vI x3)] [vR q2] (σ, M, N) _ _
  refine r_run J 3 (pc' := 9) (lv' := [(4, vR q2), (0, vR 2), (1, vR r1), (2, vI x2), (3, vI x3)]) (st' := [vI x3, vR r1]) rfl ?_
  refine r_chk (fun hs9 => ?_)
  refine r_callV J (As := [vI x3]) (st := []) (fun r hr => c_X10_roomAt r1 x3 σ M N hL r hr) cls10 (g_is_at hs9) wm_5_49 wy_X10_roomAt wd_X10_roomAt ⟨by decide, by decide, by decide, by decide, Nat.le_of_ble_eq_true rfl⟩ rfl rfl (fun q9 hq9 => ?_)
  show g_H E 0 0 12 [(4, vR q2), (0, vR 2), (1, vR r1), (2, vI x2), (3, vI x3)] [vR q9] (σ, M, N) _ _
  refine r_run J 2 (pc' := 16) (lv' := [(5, vR q9), (4, vR q2), (0, vR 2), (1, vR r1), (2, vI x2), (3, vI x3)]) (st' := [vR q2]) rfl ?_
  refine r_ifnull J (tgt := 48) rfl (by decide) (fun c16 => ?_) (fun c16 => ?_)
  · refine r_run J 1 (pc' := 49) (lv' := [(5, vR q9), (4, vR q2), (0, vR 2), (1, vR r1), (2, vI x2), (3, vI x3)]) (st' := [vI 0]) rfl ?_
    exact r_iret J rfl rfl rfl rfl (by decide) (by decide)
  · refine r_run J 1 (pc' := 21) (lv' := [(5, vR q9), (4, vR q2), (0, vR 2), (1, vR r1), (2, vI x2), (3, vI x3)]) (st' := [vR q9]) rfl ?_
    refine r_ifnull J (tgt := 48) rfl (by decide) (fun c21 => ?_) (fun c21 => ?_)
    · refine r_run J 1 (pc' := 49) (lv' := [(5, vR q9), (4, vR q2), (0, vR 2), (1, vR r1), (2, vI x2), (3, vI x3)]) (st' := [vI 0]) rfl ?_
      exact r_iret J rfl rfl rfl rfl (by decide) (by decide)
    · refine r_run J 1 (pc' := 26) (lv' := [(5, vR q9), (4, vR q2), (0, vR 2), (1, vR r1), (2, vI x2), (3, vI x3)]) (st' := [vR q9]) rfl ?_
      refine r_chk (fun hs26 => ?_)
      refine r_getI J cls8 rfl (k := 3) (by decide) wf_5_55 rfl (g_is_at hs26) ?_
      show g_H E 0 0 29 [(5, vR q9), (4, vR q2), (0, vR 2), (1, vR r1), (2, vI x2), (3, vI x3)] [vI (M q9 3)] (σ, M, N) _ _
      refine r_if_eq J (tgt := 48) rfl (by decide) (fun c29 => ?_) (fun c29 => ?_)
      · refine r_run J 1 (pc' := 49) (lv' := [(5, vR q9), (4, vR q2), (0, vR 2), (1, vR r1), (2, vI x2), (3, vI x3)]) (st' := [vI 0]) rfl ?_
        exact r_iret J rfl rfl rfl rfl (by decide) (by decide)
      · refine r_run J 1 (pc' := 34) (lv' := [(5, vR q9), (4, vR q2), (0, vR 2), (1, vR r1), (2, vI x2), (3, vI x3)]) (st' := [vR q2]) rfl ?_
        refine r_chk (fun hs34 => ?_)
        refine r_getI J cls6 rfl (k := 2) (by decide) wf_5_60 rfl (g_is_at hs34) ?_
        show g_H E 0 0 37 [(5, vR q9), (4, vR q2), (0, vR 2), (1, vR r1), (2, vI x2), (3, vI x3)] [vI (M q2 2)] (σ, M, N) _ _
        refine r_if_eq J (tgt := 50) rfl (by decide) (fun c37 => ?_) (fun c37 => ?_)
        · refine r_sub [2, 3, 4, 5, 0] (lv' := [(0, vR 2), (1, vR r1), (2, vI x2), (3, vI x3), (5, vR q9)]) rfl ?_
          exact p_X5_fits_50 J r1 x2 x3 q9 σ M N hL
        · refine r_run J 1 (pc' := 42) (lv' := [(5, vR q9), (4, vR q2), (0, vR 2), (1, vR r1), (2, vI x2), (3, vI x3)]) (st' := [vR q9]) rfl ?_
          refine r_getI J cls8 rfl (k := 1) (by decide) wf_5_63 rfl (g_is_at hs26) ?_
          show g_H E 0 0 45 [(5, vR q9), (4, vR q2), (0, vR 2), (1, vR r1), (2, vI x2), (3, vI x3)] [vI (M q9 1)] (σ, M, N) _ _
          refine r_if_ne J (tgt := 50) rfl (by decide) (fun c45 => ?_) (fun c45 => ?_)
          · refine r_run J 1 (pc' := 49) (lv' := [(5, vR q9), (4, vR q2), (0, vR 2), (1, vR r1), (2, vI x2), (3, vI x3)]) (st' := [vI 0]) rfl ?_
            exact r_iret J rfl rfl rfl rfl (by decide) (by decide)
          · refine r_sub [2, 3, 4, 5, 0] (lv' := [(0, vR 2), (1, vR r1), (2, vI x2), (3, vI x3), (5, vR q9)]) rfl ?_
            exact p_X5_fits_50 J r1 x2 x3 q9 σ M N hL
noncomputable def f_X5_fits (r1 : Nat) (x2 : Int32) (x3 : Int32) (σ : gS) (M : gM) : Option (Int32) := b_X5_fits_0 r1 x2 x3 σ M
theorem c_X5_fits {l : Launch} (r1 : Nat) (x2 : Int32) (x3 : Int32) (σ : gS) (M : gM) (N : gN) (hL : g_layC σ) (r : Int32) (h : f_X5_fits r1 x2 x3 σ M = some r) : g_Ct l yX5_fits cX5_fits 7 (some .boolean) 4 0 0 [vR 2, vR r1, vI x2, vI x3] (σ, M, N) (eI σ M N r) :=
  g_Ct.of tb_X5_fits (by decide +kernel) tk_X5_fits (Nat.le_of_ble_eq_true rfl) (fun E J => p_X5_fits_0 J r1 x2 x3 σ M N hL r h)
def tb_X5_isRight : gT := [(0, .iconst 0, 1, 0), (1, .istore_n 2, 1, 0), (2, .iload_n 2, 1, 0), (3, .aload_n 0, 1, 0), (4, .getfield 17, 3, 0), (7, .if_icmp .ge 60, 3, 0), (10, .aload_n 1, 1, 0), (11, .iload_n 2, 1, 0), (12, .invokevirtual 79, 3, 0), (15, .istore_n 3, 1, 0), (16, .iload_n 3, 1, 0), (17, .iconst (-1), 1, (-1)), (18, .if_icmp .ne 19, 3, 0), (21, .aload_n 0, 1, 0), (22, .getfield 11, 3, 0), (25, .iload_n 2, 1, 0), (26, .aaload, 1, 0), (27, .aload_n 1, 1, 0), (28, .getfield 82, 3, 0), (31, .invokevirtual 25, 3, 0), (34, .ifCond .eq 7, 3, 0), (37, .iconst 1, 1, 1), (38, .goto 4, 3, 0), (41, .iconst 0, 1, 0), (42, .istore 4, 2, 0), (44, .iload 4, 2, 0), (46, .ifCond .eq 15, 3, 0), (49, .aload_n 0, 1, 0), (50, .aload_n 1, 1, 0), (51, .iload_n 2, 1, 0), (52, .iload_n 3, 1, 0), (53, .invokevirtual 85, 3, 0), (56, .ifCond .ne 5, 3, 0), (59, .iconst 0, 1, 0), (60, .ireturn, 1, 0), (61, .iinc 2 1, 3, 1), (64, .goto (-62), 3, 0), (67, .iconst 1, 1, 1), (68, .ireturn, 1, 0)]
set_option maxRecDepth 100000 in
theorem tk_X5_isRight : g_okT cX5_isRight tb_X5_isRight = true := by decide +kernel
abbrev J_X5_isRight (E : gE) (l : Launch) : Prop := g_J E cX5_isRight RX5 "isRight" (some .boolean) 5 tb_X5_isRight 5 0 0 l
noncomputable def b_X5_isRight_61 (k2 : Nat → Int32 → gS → gM → Option (Int32)) (r1 : Nat) (x2 : Int32) (σ : gS) (M : gM) : Option (Int32) := k2 r1 (x2 + 1) σ M
noncomputable def b_X5_isRight_42 (k2 : Nat → Int32 → gS → gM → Option (Int32)) (r1 : Nat) (x2 : Int32) (x3 : Int32) (sx0 : Int32) (σ : gS) (M : gM) : Option (Int32) := if sx0 = (0 : Int32) then b_X5_isRight_61 k2 r1 x2 σ M else (f_X5_fits r1 x2 x3 σ M).bind fun q53 => if q53 = (0 : Int32) then some 0 else b_X5_isRight_61 k2 r1 x2 σ M
noncomputable def b_X5_isRight_37 (k2 : Nat → Int32 → gS → gM → Option (Int32)) (r1 : Nat) (x2 : Int32) (x3 : Int32) (σ : gS) (M : gM) : Option (Int32) := b_X5_isRight_42 k2 r1 x2 x3 1 σ M
noncomputable def l_X5_isRight_2 : Nat → Nat → Int32 → gS → gM → Option (Int32)
  | 0, _, _, _, _ => none
  | n + 1, r1, x2, σ, M => if x2 < (M 2 1) then if g_is σ r1 10 = true then (f_X10_roomOfGuest r1 x2 σ M).bind fun q12 => if q12 = (-1 : Int32) then if g_in x2 10 = true then if g_is σ (σ.2 3 x2.toNatClampNeg) 6 = true then (f_X6_isThereIn (σ.2 3 x2.toNatClampNeg) (M r1 0) σ M).bind fun q31 => if q31 = (0 : Int32) then b_X5_isRight_42 (fun r1 x2 σ M => l_X5_isRight_2 n r1 x2 σ M) r1 x2 q12 0 σ M else b_X5_isRight_37 (fun r1 x2 σ M => l_X5_isRight_2 n r1 x2 σ M) r1 x2 q12 σ M else none else none else b_X5_isRight_37 (fun r1 x2 σ M => l_X5_isRight_2 n r1 x2 σ M) r1 x2 q12 σ M else none else some 1
noncomputable def b_X5_isRight_0 (r1 : Nat) (σ : gS) (M : gM) : Option (Int32) := l_X5_isRight_2 g_FU r1 0 σ M
set_option maxHeartbeats 4000000 in
set_option maxRecDepth 100000 in
theorem p_X5_isRight_61 {l : Launch} {E : gE} (J : J_X5_isRight E l) {k2 : Nat → Int32 → gS → gM → Option (Int32)} (H2 : ∀ (r1 : Nat) (x2 : Int32) (σ : gS) (M : gM) (N : gN) (_ : g_layC σ), g_H E 0 0 2 [(0, vR 2), (1, vR r1), (2, vI x2)] [] (σ, M, N) (k2 r1 x2 σ M) (eI σ M N)) (r1 : Nat) (x2 : Int32) (σ : gS) (M : gM) (N : gN) (hL : g_layC σ) : g_H E 0 0 61 [(0, vR 2), (1, vR r1), (2, vI x2)] [] (σ, M, N) (b_X5_isRight_61 k2 r1 x2 σ M) (eI σ M N) := by
  unfold b_X5_isRight_61
  refine r_run J 2 (pc' := 2) (lv' := [(2, vI (x2 + 1)), (0, vR 2), (1, vR r1)]) (st' := []) rfl ?_
  refine r_sub [1, 2, 0] (lv' := [(0, vR 2), (1, vR r1), (2, vI (x2 + 1))]) rfl ?_
  exact H2 r1 (x2 + 1) σ M N hL
set_option maxHeartbeats 4000000 in
set_option maxRecDepth 100000 in
theorem p_X5_isRight_42 {l : Launch} {E : gE} (J : J_X5_isRight E l) {k2 : Nat → Int32 → gS → gM → Option (Int32)} (H2 : ∀ (r1 : Nat) (x2 : Int32) (σ : gS) (M : gM) (N : gN) (_ : g_layC σ), g_H E 0 0 2 [(0, vR 2), (1, vR r1), (2, vI x2)] [] (σ, M, N) (k2 r1 x2 σ M) (eI σ M N)) (r1 : Nat) (x2 : Int32) (x3 : Int32) (sx0 : Int32) (σ : gS) (M : gM) (N : gN) (hL : g_layC σ) : g_H E 0 0 42 [(0, vR 2), (1, vR r1), (2, vI x2), (3, vI x3)] [vI sx0] (σ, M, N) (b_X5_isRight_42 k2 r1 x2 x3 sx0 σ M) (eI σ M N) := by
  unfold b_X5_isRight_42
  refine r_run J 2 (pc' := 46) (lv' := [(4, vI sx0), (0, vR 2), (1, vR r1), (2, vI x2), (3, vI x3)]) (st' := [vI sx0]) rfl ?_
  refine r_if_eq J (tgt := 61) rfl (by decide) (fun c46 => ?_) (fun c46 => ?_)
  · refine r_sub [1, 2, 3] (lv' := [(0, vR 2), (1, vR r1), (2, vI x2)]) rfl ?_
    exact p_X5_isRight_61 J H2 r1 x2 σ M N hL
  · refine r_run J 4 (pc' := 53) (lv' := [(4, vI sx0), (0, vR 2), (1, vR r1), (2, vI x2), (3, vI x3)]) (st' := [vI x3, vI x2, vR r1, vR 2]) rfl ?_
    refine r_callV J (As := [vR r1, vI x2, vI x3]) (st := []) (fun r hr => c_X5_fits r1 x2 x3 σ M N hL r hr) cls5 (ly_2 hL) wm_5_85 wy_X5_fits wd_X5_fits ⟨by decide, by decide, by decide, by decide, Nat.le_of_ble_eq_true rfl⟩ rfl rfl (fun q53 hq53 => ?_)
    show g_H E 0 0 56 [(4, vI sx0), (0, vR 2), (1, vR r1), (2, vI x2), (3, vI x3)] [vI q53] (σ, M, N) _ _
    refine r_if_ne J (tgt := 61) rfl (by decide) (fun c56 => ?_) (fun c56 => ?_)
    · refine r_run J 1 (pc' := 60) (lv' := [(4, vI sx0), (0, vR 2), (1, vR r1), (2, vI x2), (3, vI x3)]) (st' := [vI 0]) rfl ?_
      exact r_iret J rfl rfl rfl rfl (by decide) (by decide)
    · refine r_sub [1, 2, 3] (lv' := [(0, vR 2), (1, vR r1), (2, vI x2)]) rfl ?_
      exact p_X5_isRight_61 J H2 r1 x2 σ M N hL
set_option maxHeartbeats 4000000 in
set_option maxRecDepth 100000 in
theorem p_X5_isRight_37 {l : Launch} {E : gE} (J : J_X5_isRight E l) {k2 : Nat → Int32 → gS → gM → Option (Int32)} (H2 : ∀ (r1 : Nat) (x2 : Int32) (σ : gS) (M : gM) (N : gN) (_ : g_layC σ), g_H E 0 0 2 [(0, vR 2), (1, vR r1), (2, vI x2)] [] (σ, M, N) (k2 r1 x2 σ M) (eI σ M N)) (r1 : Nat) (x2 : Int32) (x3 : Int32) (σ : gS) (M : gM) (N : gN) (hL : g_layC σ) : g_H E 0 0 37 [(0, vR 2), (1, vR r1), (2, vI x2), (3, vI x3)] [] (σ, M, N) (b_X5_isRight_37 k2 r1 x2 x3 σ M) (eI σ M N) := by
  unfold b_X5_isRight_37
  refine r_run J 2 (pc' := 42) (lv' := [(0, vR 2), (1, vR r1), (2, vI x2), (3, vI x3)]) (st' := [vI 1]) rfl ?_
  exact p_X5_isRight_42 J H2 r1 x2 x3 1 σ M N hL
set_option maxHeartbeats 4000000 in
set_option maxRecDepth 100000 in
theorem p_X5_isRight_2 {l : Launch} {E : gE} (J : J_X5_isRight E l) : ∀ (n : Nat) (r1 : Nat) (x2 : Int32) (σ : gS) (M : gM) (N : gN) (hL : g_layC σ), g_H E 0 0 2 [(0, vR 2), (1, vR r1), (2, vI x2)] [] (σ, M, N) (l_X5_isRight_2 n r1 x2 σ M) (eI σ M N) := by
  intro n
  induction n with
  | zero => intros; exact h_none
  | succ n ih =>
    intro r1 x2 σ M N hL
    rw [l_X5_isRight_2]
    refine r_run J 2 (pc' := 4) (lv' := [(0, vR 2), (1, vR r1), (2, vI x2)]) (st' := [vR 2, vI x2]) rfl ?_
    refine r_getI J cls5 rfl (k := 1) (by decide) wf_5_17 rfl (ly_2 hL) ?_
    show g_H E 0 0 7 [(0, vR 2), (1, vR r1), (2, vI x2)] [vI (M 2 1), vI x2] (σ, M, N) _ _
    refine r_icmp_ge J (tgt := 67) rfl (by decide) (fun c7 => ?_) (fun c7 => ?_)
    · refine r_run J 2 (pc' := 12) (lv' := [(0, vR 2), (1, vR r1), (2, vI x2)]) (st' := [vI x2, vR r1]) rfl ?_
      refine r_chk (fun hs12 => ?_)
      refine r_callV J (As := [vI x2]) (st := []) (fun r hr => c_X10_roomOfGuest r1 x2 σ M N hL r hr) cls10 (g_is_at hs12) wm_5_79 wy_X10_roomOfGuest wd_X10_roomOfGuest ⟨by decide, by decide, by decide, by decide, Nat.le_of_ble_eq_true rfl⟩ rfl rfl (fun q12 hq12 => ?_)
      show g_H E 0 0 15 [(0, vR 2), (1, vR r1), (2, vI x2)] [vI q12] (σ, M, N) _ _
      refine r_run J 3 (pc' := 18) (lv' := [(3, vI q12), (0, vR 2), (1, vR r1), (2, vI x2)]) (st' := [vI (-1), vI q12]) rfl ?_
      refine r_icmp_ne J (tgt := 37) rfl (by decide) (fun c18 => ?_) (fun c18 => ?_)
      · refine r_run J 1 (pc' := 22) (lv' := [(3, vI q12), (0, vR 2), (1, vR r1), (2, vI x2)]) (st' := [vR 2]) rfl ?_
        refine r_getR J cls5 rfl (k := 0) (t := 17) (by decide) wf_5_11 rfl rfl (ly_2 hL) (lr_2_0 hL) (fun _ => ?_)
        show g_H E 0 0 25 [(3, vI q12), (0, vR 2), (1, vR r1), (2, vI x2)] [vR 3] (σ, M, N) _ _
        refine r_run J 1 (pc' := 26) (lv' := [(3, vI q12), (0, vR 2), (1, vR r1), (2, vI x2)]) (st' := [vI x2, vR 3]) rfl ?_
        refine r_aald J rfl (Or.inl ⟨rfl, rfl⟩) (ly_3 hL) (fun i26 _ => ?_)
        show g_H E 0 0 27 [(3, vI q12), (0, vR 2), (1, vR r1), (2, vI x2)] [vR (σ.2 3 x2.toNatClampNeg)] (σ, M, N) _ _
        refine r_run J 1 (pc' := 28) (lv' := [(3, vI q12), (0, vR 2), (1, vR r1), (2, vI x2)]) (st' := [vR r1, vR (σ.2 3 x2.toNatClampNeg)]) rfl ?_
        refine r_getI J cls10 rfl (k := 0) (by decide) wf_5_82 rfl (g_is_at hs12) ?_
        show g_H E 0 0 31 [(3, vI q12), (0, vR 2), (1, vR r1), (2, vI x2)] [vI (M r1 0), vR (σ.2 3 x2.toNatClampNeg)] (σ, M, N) _ _
        refine r_chk (fun hs31 => ?_)
        refine r_callV J (As := [vI (M r1 0)]) (st := []) (fun r hr => c_X6_isThereIn (σ.2 3 x2.toNatClampNeg) (M r1 0) σ M N hL r hr) cls6 (g_is_at hs31) wm_5_25 wy_X6_isThereIn wd_X6_isThereIn ⟨by decide, by decide, by decide, by decide, Nat.le_of_ble_eq_true rfl⟩ rfl rfl (fun q31 hq31 => ?_)
        show g_H E 0 0 34 [(3, vI q12), (0, vR 2), (1, vR r1), (2, vI x2)] [vI q31] (σ, M, N) _ _
        refine r_if_eq J (tgt := 41) rfl (by decide) (fun c34 => ?_) (fun c34 => ?_)
        · refine r_run J 1 (pc' := 42) (lv' := [(3, vI q12), (0, vR 2), (1, vR r1), (2, vI x2)]) (st' := [vI 0]) rfl ?_
          refine r_sub [1, 2, 3, 0] (lv' := [(0, vR 2), (1, vR r1), (2, vI x2), (3, vI q12)]) rfl ?_
          exact p_X5_isRight_42 J ih r1 x2 q12 0 σ M N hL
        · refine r_sub [1, 2, 3, 0] (lv' := [(0, vR 2), (1, vR r1), (2, vI x2), (3, vI q12)]) rfl ?_
          exact p_X5_isRight_37 J ih r1 x2 q12 σ M N hL
      · refine r_sub [1, 2, 3, 0] (lv' := [(0, vR 2), (1, vR r1), (2, vI x2), (3, vI q12)]) rfl ?_
        exact p_X5_isRight_37 J ih r1 x2 q12 σ M N hL
    · refine r_run J 1 (pc' := 68) (lv' := [(0, vR 2), (1, vR r1), (2, vI x2)]) (st' := [vI 1]) rfl ?_
      exact r_iret J rfl rfl rfl rfl (by decide) (by decide)
set_option maxHeartbeats 4000000 in
set_option maxRecDepth 100000 in
theorem p_X5_isRight_0 {l : Launch} {E : gE} (J : J_X5_isRight E l) (r1 : Nat) (σ : gS) (M : gM) (N : gN) (hL : g_layC σ) : g_H E 0 0 0 [(0, vR 2), (1, vR r1)] [] (σ, M, N) (b_X5_isRight_0 r1 σ M) (eI σ M N) := by
  unfold b_X5_isRight_0
  refine r_run J 2 (pc' := 2) (lv' := [(2, vI 0), (0, vR 2), (1, vR r1)]) (st' := []) rfl ?_
  refine r_sub [1, 2, 0] (lv' := [(0, vR 2), (1, vR r1), (2, vI 0)]) rfl ?_
  exact p_X5_isRight_2 J g_FU r1 0 σ M N hL
noncomputable def f_X5_isRight (r1 : Nat) (σ : gS) (M : gM) : Option (Int32) := b_X5_isRight_0 r1 σ M
theorem c_X5_isRight {l : Launch} (r1 : Nat) (σ : gS) (M : gM) (N : gN) (hL : g_layC σ) (r : Int32) (h : f_X5_isRight r1 σ M = some r) : g_Ct l yX5_isRight cX5_isRight 5 (some .boolean) 5 0 0 [vR 2, vR r1] (σ, M, N) (eI σ M N r) :=
  g_Ct.of tb_X5_isRight (by decide +kernel) tk_X5_isRight (Nat.le_of_ble_eq_true rfl) (fun E J => p_X5_isRight_0 J r1 σ M N hL r h)
def tb_X5_eaters : gT := [(0, .iconst 0, 1, 0), (1, .istore_n 3, 1, 0), (2, .iconst 0, 1, 0), (3, .istore 4, 2, 0), (5, .iload 4, 2, 0), (7, .aload_n 0, 1, 0), (8, .getfield 17, 3, 0), (11, .if_icmp .ge 36, 3, 0), (14, .aload_n 1, 1, 0), (15, .iload 4, 2, 0), (17, .invokevirtual 79, 3, 0), (20, .iconst (-1), 1, (-1)), (21, .if_icmp .eq 20, 3, 0), (24, .aload_n 0, 1, 0), (25, .getfield 11, 3, 0), (28, .iload 4, 2, 0), (30, .aaload, 1, 0), (31, .getfield 89, 3, 0), (34, .iload_n 2, 1, 0), (35, .if_icmp .ne 6, 3, 0), (38, .iinc 3 1, 3, 1), (41, .iinc 4 1, 3, 1), (44, .goto (-39), 3, 0), (47, .iload_n 3, 1, 0), (48, .ireturn, 1, 0)]
set_option maxRecDepth 100000 in
theorem tk_X5_eaters : g_okT cX5_eaters tb_X5_eaters = true := by decide +kernel
abbrev J_X5_eaters (E : gE) (l : Launch) : Prop := g_J E cX5_eaters RX5 "eaters" (some .int) 5 tb_X5_eaters 2 0 0 l
noncomputable def b_X5_eaters_41 (k5 : Nat → Int32 → Int32 → Int32 → gS → gM → Option (Int32)) (r1 : Nat) (x2 : Int32) (x3 : Int32) (x4 : Int32) (σ : gS) (M : gM) : Option (Int32) := k5 r1 x2 x3 (x4 + 1) σ M
noncomputable def l_X5_eaters_5 : Nat → Nat → Int32 → Int32 → Int32 → gS → gM → Option (Int32)
  | 0, _, _, _, _, _, _ => none
  | n + 1, r1, x2, x3, x4, σ, M => if x4 < (M 2 1) then if g_is σ r1 10 = true then (f_X10_roomOfGuest r1 x4 σ M).bind fun q17 => if q17 = (-1 : Int32) then b_X5_eaters_41 (fun r1 x2 x3 x4 σ M => l_X5_eaters_5 n r1 x2 x3 x4 σ M) r1 x2 x3 x4 σ M else if g_in x4 10 = true then if g_is σ (σ.2 3 x4.toNatClampNeg) 6 = true then if (M (σ.2 3 x4.toNatClampNeg) 3) = x2 then b_X5_eaters_41 (fun r1 x2 x3 x4 σ M => l_X5_eaters_5 n r1 x2 x3 x4 σ M) r1 x2 (x3 + 1) x4 σ M else b_X5_eaters_41 (fun r1 x2 x3 x4 σ M => l_X5_eaters_5 n r1 x2 x3 x4 σ M) r1 x2 x3 x4 σ M else none else none else none else some x3
noncomputable def b_X5_eaters_0 (r1 : Nat) (x2 : Int32) (σ : gS) (M : gM) : Option (Int32) := l_X5_eaters_5 g_FU r1 x2 0 0 σ M
set_option maxHeartbeats 4000000 in
set_option maxRecDepth 100000 in
theorem p_X5_eaters_41 {l : Launch} {E : gE} (J : J_X5_eaters E l) {k5 : Nat → Int32 → Int32 → Int32 → gS → gM → Option (Int32)} (H5 : ∀ (r1 : Nat) (x2 : Int32) (x3 : Int32) (x4 : Int32) (σ : gS) (M : gM) (N : gN) (_ : g_layC σ), g_H E 0 0 5 [(0, vR 2), (1, vR r1), (2, vI x2), (3, vI x3), (4, vI x4)] [] (σ, M, N) (k5 r1 x2 x3 x4 σ M) (eI σ M N)) (r1 : Nat) (x2 : Int32) (x3 : Int32) (x4 : Int32) (σ : gS) (M : gM) (N : gN) (hL : g_layC σ) : g_H E 0 0 41 [(0, vR 2), (1, vR r1), (2, vI x2), (3, vI x3), (4, vI x4)] [] (σ, M, N) (b_X5_eaters_41 k5 r1 x2 x3 x4 σ M) (eI σ M N) := by
  unfold b_X5_eaters_41
  refine r_run J 2 (pc' := 5) (lv' := [(4, vI (x4 + 1)), (0, vR 2), (1, vR r1), (2, vI x2), (3, vI x3)]) (st' := []) rfl ?_
  refine r_sub [1, 2, 3, 4, 0] (lv' := [(0, vR 2), (1, vR r1), (2, vI x2), (3, vI x3), (4, vI (x4 + 1))]) rfl ?_
  exact H5 r1 x2 x3 (x4 + 1) σ M N hL
set_option maxHeartbeats 4000000 in
set_option maxRecDepth 100000 in
theorem p_X5_eaters_5 {l : Launch} {E : gE} (J : J_X5_eaters E l) : ∀ (n : Nat) (r1 : Nat) (x2 : Int32) (x3 : Int32) (x4 : Int32) (σ : gS) (M : gM) (N : gN) (hL : g_layC σ), g_H E 0 0 5 [(0, vR 2), (1, vR r1), (2, vI x2), (3, vI x3), (4, vI x4)] [] (σ, M, N) (l_X5_eaters_5 n r1 x2 x3 x4 σ M) (eI σ M N) := by
  intro n
  induction n with
  | zero => intros; exact h_none
  | succ n ih =>
    intro r1 x2 x3 x4 σ M N hL
    rw [l_X5_eaters_5]
    refine r_run J 2 (pc' := 8) (lv' := [(0, vR 2), (1, vR r1), (2, vI x2), (3, vI x3), (4, vI x4)]) (st' := [vR 2, vI x4]) rfl ?_
    refine r_getI J cls5 rfl (k := 1) (by decide) wf_5_17 rfl (ly_2 hL) ?_
    show g_H E 0 0 11 [(0, vR 2), (1, vR r1), (2, vI x2), (3, vI x3), (4, vI x4)] [vI (M 2 1), vI x4] (σ, M, N) _ _
    refine r_icmp_ge J (tgt := 47) rfl (by decide) (fun c11 => ?_) (fun c11 => ?_)
    · refine r_run J 2 (pc' := 17) (lv' := [(0, vR 2), (1, vR r1), (2, vI x2), (3, vI x3), (4, vI x4)]) (st' := [vI x4, vR r1]) rfl ?_
      refine r_chk (fun hs17 => ?_)
      refine r_callV J (As := [vI x4]) (st := []) (fun r hr => c_X10_roomOfGuest r1 x4 σ M N hL r hr) cls10 (g_is_at hs17) wm_5_79 wy_X10_roomOfGuest wd_X10_roomOfGuest ⟨by decide, by decide, by decide, by decide, Nat.le_of_ble_eq_true rfl⟩ rfl rfl (fun q17 hq17 => ?_)
      show g_H E 0 0 20 [(0, vR 2), (1, vR r1), (2, vI x2), (3, vI x3), (4, vI x4)] [vI q17] (σ, M, N) _ _
      refine r_run J 1 (pc' := 21) (lv' := [(0, vR 2), (1, vR r1), (2, vI x2), (3, vI x3), (4, vI x4)]) (st' := [vI (-1), vI q17]) rfl ?_
      refine r_icmp_eq J (tgt := 41) rfl (by decide) (fun c21 => ?_) (fun c21 => ?_)
      · exact p_X5_eaters_41 J ih r1 x2 x3 x4 σ M N hL
      · refine r_run J 1 (pc' := 25) (lv' := [(0, vR 2), (1, vR r1), (2, vI x2), (3, vI x3), (4, vI x4)]) (st' := [vR 2]) rfl ?_
        refine r_getR J cls5 rfl (k := 0) (t := 17) (by decide) wf_5_11 rfl rfl (ly_2 hL) (lr_2_0 hL) (fun _ => ?_)
        show g_H E 0 0 28 [(0, vR 2), (1, vR r1), (2, vI x2), (3, vI x3), (4, vI x4)] [vR 3] (σ, M, N) _ _
        refine r_run J 1 (pc' := 30) (lv' := [(0, vR 2), (1, vR r1), (2, vI x2), (3, vI x3), (4, vI x4)]) (st' := [vI x4, vR 3]) rfl ?_
        refine r_aald J rfl (Or.inl ⟨rfl, rfl⟩) (ly_3 hL) (fun i30 _ => ?_)
        show g_H E 0 0 31 [(0, vR 2), (1, vR r1), (2, vI x2), (3, vI x3), (4, vI x4)] [vR (σ.2 3 x4.toNatClampNeg)] (σ, M, N) _ _
        refine r_chk (fun hs31 => ?_)
        refine r_getI J cls6 rfl (k := 3) (by decide) wf_5_89 rfl (g_is_at hs31) ?_
        show g_H E 0 0 34 [(0, vR 2), (1, vR r1), (2, vI x2), (3, vI x3), (4, vI x4)] [vI (M (σ.2 3 x4.toNatClampNeg) 3)] (σ, M, N) _ _
        refine r_run J 1 (pc' := 35) (lv' := [(0, vR 2), (1, vR r1), (2, vI x2), (3, vI x3), (4, vI x4)]) (st' := [vI x2, vI (M (σ.2 3 x4.toNatClampNeg) 3)]) rfl ?_
        refine r_icmp_ne J (tgt := 41) rfl (by decide) (fun c35 => ?_) (fun c35 => ?_)
        · refine r_run J 1 (pc' := 41) (lv' := [(3, vI (x3 + 1)), (0, vR 2), (1, vR r1), (2, vI x2), (4, vI x4)]) (st' := []) rfl ?_
          refine r_sub [1, 2, 3, 0, 4] (lv' := [(0, vR 2), (1, vR r1), (2, vI x2), (3, vI (x3 + 1)), (4, vI x4)]) rfl ?_
          exact p_X5_eaters_41 J ih r1 x2 (x3 + 1) x4 σ M N hL
        · exact p_X5_eaters_41 J ih r1 x2 x3 x4 σ M N hL
    · refine r_run J 1 (pc' := 48) (lv' := [(0, vR 2), (1, vR r1), (2, vI x2), (3, vI x3), (4, vI x4)]) (st' := [vI x3]) rfl ?_
      exact r_iret J rfl rfl rfl rfl (by decide) (by decide)
set_option maxHeartbeats 4000000 in
set_option maxRecDepth 100000 in
theorem p_X5_eaters_0 {l : Launch} {E : gE} (J : J_X5_eaters E l) (r1 : Nat) (x2 : Int32) (σ : gS) (M : gM) (N : gN) (hL : g_layC σ) : g_H E 0 0 0 [(0, vR 2), (1, vR r1), (2, vI x2)] [] (σ, M, N) (b_X5_eaters_0 r1 x2 σ M) (eI σ M N) := by
  unfold b_X5_eaters_0
  refine r_run J 4 (pc' := 5) (lv' := [(4, vI 0), (3, vI 0), (0, vR 2), (1, vR r1), (2, vI x2)]) (st' := []) rfl ?_
  refine r_sub [2, 3, 4, 1, 0] (lv' := [(0, vR 2), (1, vR r1), (2, vI x2), (3, vI 0), (4, vI 0)]) rfl ?_
  exact p_X5_eaters_5 J g_FU r1 x2 0 0 σ M N hL
noncomputable def f_X5_eaters (r1 : Nat) (x2 : Int32) (σ : gS) (M : gM) : Option (Int32) := b_X5_eaters_0 r1 x2 σ M
theorem c_X5_eaters {l : Launch} (r1 : Nat) (x2 : Int32) (σ : gS) (M : gM) (N : gN) (hL : g_layC σ) (r : Int32) (h : f_X5_eaters r1 x2 σ M = some r) : g_Ct l yX5_eaters cX5_eaters 5 (some .int) 2 0 0 [vR 2, vR r1, vI x2] (σ, M, N) (eI σ M N r) :=
  g_Ct.of tb_X5_eaters (by decide +kernel) tk_X5_eaters (Nat.le_of_ble_eq_true rfl) (fun E J => p_X5_eaters_0 J r1 x2 σ M N hL r h)
def tb_X6_init : gT := [(0, .aload_n 0, 1, 0), (1, .invokespecial 3, 3, 0), (4, .aload_n 0, 1, 0), (5, .iconst 0, 1, 0), (6, .putfield 9, 3, 0), (9, .aload_n 0, 1, 0), (10, .iconst (-1), 1, (-1)), (11, .putfield 15, 3, 0), (14, .aload_n 0, 1, 0), (15, .iconst 0, 1, 0), (16, .putfield 19, 3, 0), (19, .aload_n 0, 1, 0), (20, .iconst 0, 1, 0), (21, .putfield 22, 3, 0), (24, .aload_n 0, 1, 0), (25, .iconst 0, 1, 0), (26, .putfield 25, 3, 0), (29, .aload_n 0, 1, 0), (30, .iload_n 1, 1, 0), (31, .putfield 28, 3, 0), (34, .aload_n 0, 1, 0), (35, .iload_n 2, 1, 0), (36, .putfield 31, 3, 0), (39, .aload_n 0, 1, 0), (40, .iload_n 3, 1, 0), (41, .putfield 34, 3, 0), (44, .aload_n 0, 1, 0), (45, .iload 4, 2, 0), (47, .putfield 37, 3, 0), (50, .aload_n 0, 1, 0), (51, .iload 5, 2, 0), (53, .putfield 40, 3, 0), (56, .aload_n 0, 1, 0), (57, .iload 6, 2, 0), (59, .putfield 43, 3, 0), (62, .return_, 1, 0)]
set_option maxRecDepth 100000 in
theorem tk_X6_init : g_okT cX6_init tb_X6_init = true := by decide +kernel
abbrev J_X6_init (E : gE) (l : Launch) : Prop := g_J E cX6_init RX6 "<init>" none 7 tb_X6_init 1 0 0 l
noncomputable def b_X6_init_50 (r0 : Nat) (x5 : Int32) (x6 : Int32) (σ : gS) (M : gM) : Option (gM) := if g_is σ r0 6 = true then some (g_up (g_up M r0 4 x5) r0 5 x6) else none
noncomputable def b_X6_init_34 (r0 : Nat) (x2 : Int32) (x3 : Int32) (x4 : Int32) (x5 : Int32) (x6 : Int32) (σ : gS) (M : gM) : Option (gM) := if g_is σ r0 6 = true then if g_b x3 = true then b_X6_init_50 r0 x5 x6 σ (g_up (g_up (g_up M r0 1 x2) r0 2 x3) r0 3 x4) else none else none
noncomputable def b_X6_init_19 (r0 : Nat) (x1 : Int32) (x2 : Int32) (x3 : Int32) (x4 : Int32) (x5 : Int32) (x6 : Int32) (σ : gS) (M : gM) : Option (gM) := if g_is σ r0 6 = true then if g_b x1 = true then b_X6_init_34 r0 x2 x3 x4 x5 x6 σ (g_up (g_up (g_up M r0 9 0) r0 10 0) r0 0 x1) else none else none
noncomputable def b_X6_init_0 (r0 : Nat) (x1 : Int32) (x2 : Int32) (x3 : Int32) (x4 : Int32) (x5 : Int32) (x6 : Int32) (σ : gS) (M : gM) : Option (gM) := if g_is σ r0 6 = true then b_X6_init_19 r0 x1 x2 x3 x4 x5 x6 σ (g_up (g_up (g_up M r0 6 0) r0 7 (-1)) r0 8 0) else none
set_option maxHeartbeats 4000000 in
set_option maxRecDepth 100000 in
theorem p_X6_init_50 {l : Launch} {E : gE} (J : J_X6_init E l) (r0 : Nat) (x5 : Int32) (x6 : Int32) (σ : gS) (M : gM) (N : gN) : g_H E 0 0 50 [(0, vR r0), (5, vI x5), (6, vI x6)] [] (σ, M, N) (b_X6_init_50 r0 x5 x6 σ M) (eVM σ N) := by
  unfold b_X6_init_50
  refine r_run J 2 (pc' := 53) (lv' := [(0, vR r0), (5, vI x5), (6, vI x6)]) (st' := [vI x5, vR r0]) rfl ?_
  refine r_chk (fun hs53 => ?_)
  refine r_putI J cls6 rfl (k := 4) (by decide) wf_6_40 rfl (Or.inl rfl) ⟨rfl, rfl⟩ (g_is_at hs53) ?_
  show g_H E 0 0 56 [(0, vR r0), (5, vI x5), (6, vI x6)] [] (σ, (g_up M r0 4 x5), N) _ _
  refine r_run J 2 (pc' := 59) (lv' := [(0, vR r0), (5, vI x5), (6, vI x6)]) (st' := [vI x6, vR r0]) rfl ?_
  refine r_putI J cls6 rfl (k := 5) (by decide) wf_6_43 rfl (Or.inl rfl) ⟨rfl, rfl⟩ (g_is_at hs53) ?_
  show g_H E 0 0 62 [(0, vR r0), (5, vI x5), (6, vI x6)] [] (σ, (g_up (g_up M r0 4 x5) r0 5 x6), N) _ _
  exact r_vret J rfl rfl rfl (by decide) (by decide)
set_option maxHeartbeats 4000000 in
set_option maxRecDepth 100000 in
theorem p_X6_init_34 {l : Launch} {E : gE} (J : J_X6_init E l) (r0 : Nat) (x2 : Int32) (x3 : Int32) (x4 : Int32) (x5 : Int32) (x6 : Int32) (σ : gS) (M : gM) (N : gN) : g_H E 0 0 34 [(0, vR r0), (2, vI x2), (3, vI x3), (4, vI x4), (5, vI x5), (6, vI x6)] [] (σ, M, N) (b_X6_init_34 r0 x2 x3 x4 x5 x6 σ M) (eVM σ N) := by
  unfold b_X6_init_34
  refine r_run J 2 (pc' := 36) (lv' := [(0, vR r0), (2, vI x2), (3, vI x3), (4, vI x4), (5, vI x5), (6, vI x6)]) (st' := [vI x2, vR r0]) rfl ?_
  refine r_chk (fun hs36 => ?_)
  refine r_putI J cls6 rfl (k := 1) (by decide) wf_6_31 rfl (Or.inr ⟨rfl, rfl, rfl⟩) ⟨rfl, rfl⟩ (g_is_at hs36) ?_
  show g_H E 0 0 39 [(0, vR r0), (2, vI x2), (3, vI x3), (4, vI x4), (5, vI x5), (6, vI x6)] [] (σ, (g_up M r0 1 x2), N) _ _
  refine r_run J 2 (pc' := 41) (lv' := [(0, vR r0), (2, vI x2), (3, vI x3), (4, vI x4), (5, vI x5), (6, vI x6)]) (st' := [vI x3, vR r0]) rfl ?_
  refine r_chk (fun hb41 => ?_)
  refine r_putI J cls6 rfl (k := 2) (by decide) wf_6_34 rfl (Or.inr ⟨rfl, rfl, rfl⟩) (g_b_fit hb41) (g_is_at hs36) ?_
  show g_H E 0 0 44 [(0, vR r0), (2, vI x2), (3, vI x3), (4, vI x4), (5, vI x5), (6, vI x6)] [] (σ, (g_up (g_up M r0 1 x2) r0 2 x3), N) _ _
  refine r_run J 2 (pc' := 47) (lv' := [(0, vR r0), (2, vI x2), (3, vI x3), (4, vI x4), (5, vI x5), (6, vI x6)]) (st' := [vI x4, vR r0]) rfl ?_
  refine r_putI J cls6 rfl (k := 3) (by decide) wf_6_37 rfl (Or.inr ⟨rfl, rfl, rfl⟩) ⟨rfl, rfl⟩ (g_is_at hs36) ?_
  show g_H E 0 0 50 [(0, vR r0), (2, vI x2), (3, vI x3), (4, vI x4), (5, vI x5), (6, vI x6)] [] (σ, (g_up (g_up (g_up M r0 1 x2) r0 2 x3) r0 3 x4), N) _ _
  refine r_sub [0, 4, 5] (lv' := [(0, vR r0), (5, vI x5), (6, vI x6)]) rfl ?_
  exact p_X6_init_50 J r0 x5 x6 σ (g_up (g_up (g_up M r0 1 x2) r0 2 x3) r0 3 x4) N
set_option maxHeartbeats 4000000 in
set_option maxRecDepth 100000 in
theorem p_X6_init_19 {l : Launch} {E : gE} (J : J_X6_init E l) (r0 : Nat) (x1 : Int32) (x2 : Int32) (x3 : Int32) (x4 : Int32) (x5 : Int32) (x6 : Int32) (σ : gS) (M : gM) (N : gN) : g_H E 0 0 19 [(0, vR r0), (1, vI x1), (2, vI x2), (3, vI x3), (4, vI x4), (5, vI x5), (6, vI x6)] [] (σ, M, N) (b_X6_init_19 r0 x1 x2 x3 x4 x5 x6 σ M) (eVM σ N) := by
  unfold b_X6_init_19
  refine r_run J 2 (pc' := 21) (lv' := [(0, vR r0), (1, vI x1), (2, vI x2), (3, vI x3), (4, vI x4), (5, vI x5), (6, vI x6)]) (st' := [vI 0, vR r0]) rfl ?_
  refine r_chk (fun hs21 => ?_)
  refine r_putI J cls6 rfl (k := 9) (by decide) wf_6_22 rfl (Or.inl rfl) ⟨rfl, rfl⟩ (g_is_at hs21) ?_
  show g_H E 0 0 24 [(0, vR r0), (1, vI x1), (2, vI x2), (3, vI x3), (4, vI x4), (5, vI x5), (6, vI x6)] [] (σ, (g_up M r0 9 0), N) _ _
  refine r_run J 2 (pc' := 26) (lv' := [(0, vR r0), (1, vI x1), (2, vI x2), (3, vI x3), (4, vI x4), (5, vI x5), (6, vI x6)]) (st' := [vI 0, vR r0]) rfl ?_
  refine r_putI J cls6 rfl (k := 10) (by decide) wf_6_25 rfl (Or.inl rfl) ⟨rfl, rfl⟩ (g_is_at hs21) ?_
  show g_H E 0 0 29 [(0, vR r0), (1, vI x1), (2, vI x2), (3, vI x3), (4, vI x4), (5, vI x5), (6, vI x6)] [] (σ, (g_up (g_up M r0 9 0) r0 10 0), N) _ _
  refine r_run J 2 (pc' := 31) (lv' := [(0, vR r0), (1, vI x1), (2, vI x2), (3, vI x3), (4, vI x4), (5, vI x5), (6, vI x6)]) (st' := [vI x1, vR r0]) rfl ?_
  refine r_chk (fun hb31 => ?_)
  refine r_putI J cls6 rfl (k := 0) (by decide) wf_6_28 rfl (Or.inr ⟨rfl, rfl, rfl⟩) (g_b_fit hb31) (g_is_at hs21) ?_
  show g_H E 0 0 34 [(0, vR r0), (1, vI x1), (2, vI x2), (3, vI x3), (4, vI x4), (5, vI x5), (6, vI x6)] [] (σ, (g_up (g_up (g_up M r0 9 0) r0 10 0) r0 0 x1), N) _ _
  refine r_sub [0, 2, 3, 4, 5, 6] (lv' := [(0, vR r0), (2, vI x2), (3, vI x3), (4, vI x4), (5, vI x5), (6, vI x6)]) rfl ?_
  exact p_X6_init_34 J r0 x2 x3 x4 x5 x6 σ (g_up (g_up (g_up M r0 9 0) r0 10 0) r0 0 x1) N
set_option maxHeartbeats 4000000 in
set_option maxRecDepth 100000 in
theorem p_X6_init_0 {l : Launch} {E : gE} (J : J_X6_init E l) (r0 : Nat) (x1 : Int32) (x2 : Int32) (x3 : Int32) (x4 : Int32) (x5 : Int32) (x6 : Int32) (σ : gS) (M : gM) (N : gN) : g_H E 0 0 0 [(0, vR r0), (1, vI x1), (2, vI x2), (3, vI x3), (4, vI x4), (5, vI x5), (6, vI x6)] [] (σ, M, N) (b_X6_init_0 r0 x1 x2 x3 x4 x5 x6 σ M) (eVM σ N) := by
  unfold b_X6_init_0
  refine r_run J 1 (pc' := 1) (lv' := [(0, vR r0), (1, vI x1), (2, vI x2), (3, vI x3), (4, vI x4), (5, vI x5), (6, vI x6)]) (st' := [vR r0]) rfl ?_
  refine r_chk (fun hs1 => ?_)
  refine r_objI J (by rw [(g_is_at hs1)]; exact Option.some_ne_none _) wm_6_3 w_obj rfl ⟨by decide, Nat.le_of_ble_eq_true rfl⟩ ?_
  refine r_run J 2 (pc' := 6) (lv' := [(0, vR r0), (1, vI x1), (2, vI x2), (3, vI x3), (4, vI x4), (5, vI x5), (6, vI x6)]) (st' := [vI 0, vR r0]) rfl ?_
  refine r_putI J cls6 rfl (k := 6) (by decide) wf_6_9 rfl (Or.inl rfl) ⟨rfl, rfl⟩ (g_is_at hs1) ?_
  show g_H E 0 0 9 [(0, vR r0), (1, vI x1), (2, vI x2), (3, vI x3), (4, vI x4), (5, vI x5), (6, vI x6)] [] (σ, (g_up M r0 6 0), N) _ _
  refine r_run J 2 (pc' := 11) (lv' := [(0, vR r0), (1, vI x1), (2, vI x2), (3, vI x3), (4, vI x4), (5, vI x5), (6, vI x6)]) (st' := [vI (-1), vR r0]) rfl ?_
  refine r_putI J cls6 rfl (k := 7) (by decide) wf_6_15 rfl (Or.inl rfl) ⟨rfl, rfl⟩ (g_is_at hs1) ?_
  show g_H E 0 0 14 [(0, vR r0), (1, vI x1), (2, vI x2), (3, vI x3), (4, vI x4), (5, vI x5), (6, vI x6)] [] (σ, (g_up (g_up M r0 6 0) r0 7 (-1)), N) _ _
  refine r_run J 2 (pc' := 16) (lv' := [(0, vR r0), (1, vI x1), (2, vI x2), (3, vI x3), (4, vI x4), (5, vI x5), (6, vI x6)]) (st' := [vI 0, vR r0]) rfl ?_
  refine r_putI J cls6 rfl (k := 8) (by decide) wf_6_19 rfl (Or.inl rfl) ⟨rfl, rfl⟩ (g_is_at hs1) ?_
  show g_H E 0 0 19 [(0, vR r0), (1, vI x1), (2, vI x2), (3, vI x3), (4, vI x4), (5, vI x5), (6, vI x6)] [] (σ, (g_up (g_up (g_up M r0 6 0) r0 7 (-1)) r0 8 0), N) _ _
  exact p_X6_init_19 J r0 x1 x2 x3 x4 x5 x6 σ (g_up (g_up (g_up M r0 6 0) r0 7 (-1)) r0 8 0) N
noncomputable def f_X6_init (r0 : Nat) (x1 : Int32) (x2 : Int32) (x3 : Int32) (x4 : Int32) (x5 : Int32) (x6 : Int32) (σ : gS) (M : gM) : Option (gM) := b_X6_init_0 r0 x1 x2 x3 x4 x5 x6 σ M
theorem c_X6_init {l : Launch} (r0 : Nat) (x1 : Int32) (x2 : Int32) (x3 : Int32) (x4 : Int32) (x5 : Int32) (x6 : Int32) (σ : gS) (M : gM) (N : gN) (r : gM) (h : f_X6_init r0 x1 x2 x3 x4 x5 x6 σ M = some r) : g_Ct l yX6_init cX6_init 7 none 1 0 0 [vR r0, vI x1, vI x2, vI x3, vI x4, vI x5, vI x6] (σ, M, N) (eVM σ N r) :=
  g_Ct.of tb_X6_init (by decide +kernel) tk_X6_init (Nat.le_of_ble_eq_true rfl) (fun E J => p_X6_init_0 J r0 x1 x2 x3 x4 x5 x6 σ M N r h)
def tb_X6_charge : gT := [(0, .aload_n 0, 1, 0), (1, .getfield 22, 3, 0), (4, .iload_n 2, 1, 0), (5, .ishr, 1, 0), (6, .iconst 1, 1, 1), (7, .iand, 1, 0), (8, .ifCond .eq 7, 3, 0), (11, .iconst 1, 1, 1), (12, .goto 4, 3, 0), (15, .iconst 0, 1, 0), (16, .istore 4, 2, 0), (18, .aload_n 0, 1, 0), (19, .dup, 1, 0), (20, .getfield 25, 3, 0), (23, .iload 4, 2, 0), (25, .ifCond .eq 14, 3, 0), (28, .iload_n 1, 1, 0), (29, .iload_n 1, 1, 0), (30, .iload_n 3, 1, 0), (31, .imul, 1, 0), (32, .bipush 100, 2, 100), (34, .idiv, 1, 0), (35, .isub, 1, 0), (36, .goto 4, 3, 0), (39, .iload_n 1, 1, 0), (40, .iadd, 1, 0), (41, .putfield 25, 3, 0), (44, .return_, 1, 0)]
set_option maxRecDepth 100000 in
theorem tk_X6_charge : g_okT cX6_charge tb_X6_charge = true := by decide +kernel
abbrev J_X6_charge (E : gE) (l : Launch) : Prop := g_J E cX6_charge RX6 "charge" none 5 tb_X6_charge 1 0 0 l
noncomputable def b_X6_charge_40 (sx0 : Int32) (sx1 : Int32) (sr2 : Nat) (σ : gS) (M : gM) : Option (gM) := if g_is σ sr2 6 = true then some (g_up M sr2 10 (sx1 + sx0)) else none
noncomputable def b_X6_charge_16 (r0 : Nat) (x1 : Int32) (x3 : Int32) (sx0 : Int32) (σ : gS) (M : gM) : Option (gM) := if g_is σ r0 6 = true then if sx0 = (0 : Int32) then b_X6_charge_40 x1 (M r0 10) r0 σ M else if (100 : Int32) = 0 then none else b_X6_charge_40 (x1 - ((x1 * x3) / (100 : Int32))) (M r0 10) r0 σ M else none
noncomputable def b_X6_charge_0 (r0 : Nat) (x1 : Int32) (x2 : Int32) (x3 : Int32) (σ : gS) (M : gM) : Option (gM) := if g_is σ r0 6 = true then if (((M r0 9) >>> (x2 &&& 31)) &&& (1 : Int32)) = (0 : Int32) then b_X6_charge_16 r0 x1 x3 0 σ M else b_X6_charge_16 r0 x1 x3 1 σ M else none
set_option maxHeartbeats 4000000 in
set_option maxRecDepth 100000 in
theorem p_X6_charge_40 {l : Launch} {E : gE} (J : J_X6_charge E l) (sx0 : Int32) (sx1 : Int32) (sr2 : Nat) (σ : gS) (M : gM) (N : gN) (hL : g_layC σ) : g_H E 0 0 40 [] [vI sx0, vI sx1, vR sr2] (σ, M, N) (b_X6_charge_40 sx0 sx1 sr2 σ M) (eVM σ N) := by
  unfold b_X6_charge_40
  refine r_run J 1 (pc' := 41) (lv' := []) (st' := [vI (sx1 + sx0), vR sr2]) rfl ?_
  refine r_chk (fun hs41 => ?_)
  refine r_putI J cls6 rfl (k := 10) (by decide) wf_6_25 rfl (Or.inl rfl) ⟨rfl, rfl⟩ (g_is_at hs41) ?_
  show g_H E 0 0 44 [] [] (σ, (g_up M sr2 10 (sx1 + sx0)), N) _ _
  exact r_vret J rfl rfl rfl (by decide) (by decide)
set_option maxHeartbeats 4000000 in
set_option maxRecDepth 100000 in
theorem p_X6_charge_16 {l : Launch} {E : gE} (J : J_X6_charge E l) (r0 : Nat) (x1 : Int32) (x3 : Int32) (sx0 : Int32) (σ : gS) (M : gM) (N : gN) (hL : g_layC σ) : g_H E 0 0 16 [(0, vR r0), (1, vI x1), (3, vI x3)] [vI sx0] (σ, M, N) (b_X6_charge_16 r0 x1 x3 sx0 σ M) (eVM σ N) := by
  unfold b_X6_charge_16
  refine r_run J 3 (pc' := 20) (lv' := [(4, vI sx0), (0, vR r0), (1, vI x1), (3, vI x3)]) (st' := [vR r0, vR r0]) rfl ?_
  refine r_chk (fun hs20 => ?_)
  refine r_getI J cls6 rfl (k := 10) (by decide) wf_6_25 rfl (g_is_at hs20) ?_
  show g_H E 0 0 23 [(4, vI sx0), (0, vR r0), (1, vI x1), (3, vI x3)] [vI (M r0 10), vR r0] (σ, M, N) _ _
  refine r_run J 1 (pc' := 25) (lv' := [(4, vI sx0), (0, vR r0), (1, vI x1), (3, vI x3)]) (st' := [vI sx0, vI (M r0 10), vR r0]) rfl ?_
  refine r_if_eq J (tgt := 39) rfl (by decide) (fun c25 => ?_) (fun c25 => ?_)
  · refine r_run J 1 (pc' := 40) (lv' := [(4, vI sx0), (0, vR r0), (1, vI x1), (3, vI x3)]) (st' := [vI x1, vI (M r0 10), vR r0]) rfl ?_
    refine r_sub [] (lv' := []) rfl ?_
    exact p_X6_charge_40 J x1 (M r0 10) r0 σ M N hL
  · refine r_run J 5 (pc' := 34) (lv' := [(4, vI sx0), (0, vR r0), (1, vI x1), (3, vI x3)]) (st' := [vI 100, vI (x1 * x3), vI x1, vI (M r0 10), vR r0]) rfl ?_
    refine r_idiv J rfl (fun c34 => ?_)
    refine r_run J 2 (pc' := 40) (lv' := [(4, vI sx0), (0, vR r0), (1, vI x1), (3, vI x3)]) (st' := [vI (x1 - ((x1 * x3) / (100 : Int32))), vI (M r0 10), vR r0]) rfl ?_
    refine r_sub [] (lv' := []) rfl ?_
    exact p_X6_charge_40 J (x1 - ((x1 * x3) / (100 : Int32))) (M r0 10) r0 σ M N hL
set_option maxHeartbeats 4000000 in
set_option maxRecDepth 100000 in
theorem p_X6_charge_0 {l : Launch} {E : gE} (J : J_X6_charge E l) (r0 : Nat) (x1 : Int32) (x2 : Int32) (x3 : Int32) (σ : gS) (M : gM) (N : gN) (hL : g_layC σ) : g_H E 0 0 0 [(0, vR r0), (1, vI x1), (2, vI x2), (3, vI x3)] [] (σ, M, N) (b_X6_charge_0 r0 x1 x2 x3 σ M) (eVM σ N) := by
  unfold b_X6_charge_0
  refine r_run J 1 (pc' := 1) (lv' := [(0, vR r0), (1, vI x1), (2, vI x2), (3, vI x3)]) (st' := [vR r0]) rfl ?_
  refine r_chk (fun hs1 => ?_)
  refine r_getI J cls6 rfl (k := 9) (by decide) wf_6_22 rfl (g_is_at hs1) ?_
  show g_H E 0 0 4 [(0, vR r0), (1, vI x1), (2, vI x2), (3, vI x3)] [vI (M r0 9)] (σ, M, N) _ _
  refine r_run J 4 (pc' := 8) (lv' := [(0, vR r0), (1, vI x1), (2, vI x2), (3, vI x3)]) (st' := [vI (((M r0 9) >>> (x2 &&& 31)) &&& (1 : Int32))]) rfl ?_
  refine r_if_eq J (tgt := 15) rfl (by decide) (fun c8 => ?_) (fun c8 => ?_)
  · refine r_run J 1 (pc' := 16) (lv' := [(0, vR r0), (1, vI x1), (2, vI x2), (3, vI x3)]) (st' := [vI 0]) rfl ?_
    refine r_sub [0, 1, 3] (lv' := [(0, vR r0), (1, vI x1), (3, vI x3)]) rfl ?_
    exact p_X6_charge_16 J r0 x1 x3 0 σ M N hL
  · refine r_run J 2 (pc' := 16) (lv' := [(0, vR r0), (1, vI x1), (2, vI x2), (3, vI x3)]) (st' := [vI 1]) rfl ?_
    refine r_sub [0, 1, 3] (lv' := [(0, vR r0), (1, vI x1), (3, vI x3)]) rfl ?_
    exact p_X6_charge_16 J r0 x1 x3 1 σ M N hL
noncomputable def f_X6_charge (r0 : Nat) (x1 : Int32) (x2 : Int32) (x3 : Int32) (σ : gS) (M : gM) : Option (gM) := b_X6_charge_0 r0 x1 x2 x3 σ M
theorem c_X6_charge {l : Launch} (r0 : Nat) (x1 : Int32) (x2 : Int32) (x3 : Int32) (σ : gS) (M : gM) (N : gN) (hL : g_layC σ) (r : gM) (h : f_X6_charge r0 x1 x2 x3 σ M = some r) : g_Ct l yX6_charge cX6_charge 5 none 1 0 0 [vR r0, vI x1, vI x2, vI x3] (σ, M, N) (eVM σ N r) :=
  g_Ct.of tb_X6_charge (by decide +kernel) tk_X6_charge (Nat.le_of_ble_eq_true rfl) (fun E J => p_X6_charge_0 J r0 x1 x2 x3 σ M N hL r h)
def tb_X7_init : gT := [(0, .aload_n 0, 1, 0), (1, .invokespecial 3, 3, 0), (4, .aload_n 0, 1, 0), (5, .bipush 12, 2, 12), (7, .newarray .int, 2, 0), (9, .putfield 11, 3, 0), (12, .aload_n 0, 1, 0), (13, .bipush 36, 2, 36), (15, .newarray .int, 2, 0), (17, .putfield 17, 3, 0), (20, .aload_n 0, 1, 0), (21, .sipush 400, 3, 400), (24, .newarray .int, 2, 0), (26, .putfield 20, 3, 0), (29, .aload_n 0, 1, 0), (30, .sipush 400, 3, 400), (33, .newarray .int, 2, 0), (35, .putfield 23, 3, 0), (38, .aload_n 0, 1, 0), (39, .iconst 0, 1, 0), (40, .putfield 26, 3, 0), (43, .aload_n 0, 1, 0), (44, .iconst 0, 1, 0), (45, .putfield 30, 3, 0), (48, .aload_n 0, 1, 0), (49, .iconst 0, 1, 0), (50, .putfield 33, 3, 0), (53, .aload_n 0, 1, 0), (54, .bipush 12, 2, 12), (56, .putfield 36, 3, 0), (59, .aload_n 0, 1, 0), (60, .iconst 0, 1, 0), (61, .putfield 39, 3, 0), (64, .aload_n 0, 1, 0), (65, .iconst 0, 1, 0), (66, .putfield 42, 3, 0), (69, .aload_n 0, 1, 0), (70, .iconst 0, 1, 0), (71, .putfield 45, 3, 0), (74, .aload_n 0, 1, 0), (75, .iconst 0, 1, 0), (76, .putfield 48, 3, 0), (79, .return_, 1, 0)]
set_option maxRecDepth 100000 in
theorem tk_X7_init : g_okT cX7_init tb_X7_init = true := by decide +kernel
abbrev J_X7_init (E : gE) (l : Launch) : Prop := g_J E cX7_init RX7 "<init>" none 1 tb_X7_init 1 4 848 l
noncomputable def b_X7_init_74 (σ : gS) (M : gM) (N : gN) : Option (gS × gM × gN) := if g_is σ 7 7 = true then some (σ, (g_up M 7 11 0), N) else none
noncomputable def b_X7_init_69 (σ : gS) (M : gM) (N : gN) : Option (gS × gM × gN) := if g_is σ 7 7 = true then b_X7_init_74 σ (g_up M 7 10 0) N else none
noncomputable def b_X7_init_64 (σ : gS) (M : gM) (N : gN) : Option (gS × gM × gN) := if g_is σ 7 7 = true then b_X7_init_69 σ (g_up M 7 9 0) N else none
noncomputable def b_X7_init_59 (σ : gS) (M : gM) (N : gN) : Option (gS × gM × gN) := if g_is σ 7 7 = true then b_X7_init_64 σ (g_up M 7 8 0) N else none
noncomputable def b_X7_init_53 (σ : gS) (M : gM) (N : gN) : Option (gS × gM × gN) := if g_is σ 7 7 = true then b_X7_init_59 σ (g_up M 7 7 12) N else none
noncomputable def b_X7_init_48 (σ : gS) (M : gM) (N : gN) : Option (gS × gM × gN) := if g_is σ 7 7 = true then b_X7_init_53 σ (g_up M 7 6 0) N else none
noncomputable def b_X7_init_43 (σ : gS) (M : gM) (N : gN) : Option (gS × gM × gN) := if g_is σ 7 7 = true then b_X7_init_48 σ (g_up M 7 5 0) N else none
noncomputable def b_X7_init_38 (σ : gS) (M : gM) (N : gN) : Option (gS × gM × gN) := if g_is σ 7 7 = true then b_X7_init_43 σ (g_up M 7 4 0) N else none
noncomputable def b_X7_init_29 (σ : gS) (M : gM) (N : gN) : Option (gS × gM × gN) := if g_fr σ 11 = true then if g_is (g_nS σ 11 14 400) 7 7 = true then b_X7_init_38 (g_pS (g_nS σ 11 14 400) 7 3 11) (g_z M 11 0) (g_z N 11 0) else none else none
noncomputable def b_X7_init_20 (σ : gS) (M : gM) (N : gN) : Option (gS × gM × gN) := if g_fr σ 10 = true then if g_is (g_nS σ 10 14 400) 7 7 = true then b_X7_init_29 (g_pS (g_nS σ 10 14 400) 7 2 10) (g_z M 10 0) (g_z N 10 0) else none else none
noncomputable def b_X7_init_12 (σ : gS) (M : gM) (N : gN) : Option (gS × gM × gN) := if g_fr σ 9 = true then if g_is (g_nS σ 9 14 36) 7 7 = true then b_X7_init_20 (g_pS (g_nS σ 9 14 36) 7 1 9) (g_z M 9 0) (g_z N 9 0) else none else none
noncomputable def b_X7_init_0 (σ : gS) (M : gM) (N : gN) : Option (gS × gM × gN) := if g_is σ 7 7 = true then if g_fr σ 8 = true then if g_is (g_nS σ 8 14 12) 7 7 = true then b_X7_init_12 (g_pS (g_nS σ 8 14 12) 7 0 8) (g_z M 8 0) (g_z N 8 0) else none else none else none
set_option maxHeartbeats 4000000 in
set_option maxRecDepth 100000 in
theorem p_X7_init_74 {l : Launch} {E : gE} (J : J_X7_init E l) (σ : gS) (M : gM) (N : gN) : g_H E 4 848 74 [(0, vR 7)] [] (σ, M, N) (b_X7_init_74 σ M N) (eVSMN) := by
  unfold b_X7_init_74
  refine r_run J 2 (pc' := 76) (lv' := [(0, vR 7)]) (st' := [vI 0, vR 7]) rfl ?_
  refine r_chk (fun hs76 => ?_)
  refine r_putI J cls7 rfl (k := 11) (by decide) wf_7_48 rfl (Or.inl rfl) ⟨rfl, rfl⟩ (g_is_at hs76) ?_
  show g_H E 4 848 79 [(0, vR 7)] [] (σ, (g_up M 7 11 0), N) _ _
  exact r_vret J rfl rfl rfl (by decide) (by decide)
set_option maxHeartbeats 4000000 in
set_option maxRecDepth 100000 in
theorem p_X7_init_69 {l : Launch} {E : gE} (J : J_X7_init E l) (σ : gS) (M : gM) (N : gN) : g_H E 4 848 69 [(0, vR 7)] [] (σ, M, N) (b_X7_init_69 σ M N) (eVSMN) := by
  unfold b_X7_init_69
  refine r_run J 2 (pc' := 71) (lv' := [(0, vR 7)]) (st' := [vI 0, vR 7]) rfl ?_
  refine r_chk (fun hs71 => ?_)
  refine r_putI J cls7 rfl (k := 10) (by decide) wf_7_45 rfl (Or.inl rfl) ⟨rfl, rfl⟩ (g_is_at hs71) ?_
  show g_H E 4 848 74 [(0, vR 7)] [] (σ, (g_up M 7 10 0), N) _ _
  exact p_X7_init_74 J σ (g_up M 7 10 0) N
set_option maxHeartbeats 4000000 in
set_option maxRecDepth 100000 in
theorem p_X7_init_64 {l : Launch} {E : gE} (J : J_X7_init E l) (σ : gS) (M : gM) (N : gN) : g_H E 4 848 64 [(0, vR 7)] [] (σ, M, N) (b_X7_init_64 σ M N) (eVSMN) := by
  unfold b_X7_init_64
  refine r_run J 2 (pc' := 66) (lv' := [(0, vR 7)]) (st' := [vI 0, vR 7]) rfl ?_
  refine r_chk (fun hs66 => ?_)
  refine r_putI J cls7 rfl (k := 9) (by decide) wf_7_42 rfl (Or.inl rfl) ⟨rfl, rfl⟩ (g_is_at hs66) ?_
  show g_H E 4 848 69 [(0, vR 7)] [] (σ, (g_up M 7 9 0), N) _ _
  exact p_X7_init_69 J σ (g_up M 7 9 0) N
set_option maxHeartbeats 4000000 in
set_option maxRecDepth 100000 in
theorem p_X7_init_59 {l : Launch} {E : gE} (J : J_X7_init E l) (σ : gS) (M : gM) (N : gN) : g_H E 4 848 59 [(0, vR 7)] [] (σ, M, N) (b_X7_init_59 σ M N) (eVSMN) := by
  unfold b_X7_init_59
  refine r_run J 2 (pc' := 61) (lv' := [(0, vR 7)]) (st' := [vI 0, vR 7]) rfl ?_
  refine r_chk (fun hs61 => ?_)
  refine r_putI J cls7 rfl (k := 8) (by decide) wf_7_39 rfl (Or.inl rfl) ⟨rfl, rfl⟩ (g_is_at hs61) ?_
  show g_H E 4 848 64 [(0, vR 7)] [] (σ, (g_up M 7 8 0), N) _ _
  exact p_X7_init_64 J σ (g_up M 7 8 0) N
set_option maxHeartbeats 4000000 in
set_option maxRecDepth 100000 in
theorem p_X7_init_53 {l : Launch} {E : gE} (J : J_X7_init E l) (σ : gS) (M : gM) (N : gN) : g_H E 4 848 53 [(0, vR 7)] [] (σ, M, N) (b_X7_init_53 σ M N) (eVSMN) := by
  unfold b_X7_init_53
  refine r_run J 2 (pc' := 56) (lv' := [(0, vR 7)]) (st' := [vI 12, vR 7]) rfl ?_
  refine r_chk (fun hs56 => ?_)
  refine r_putI J cls7 rfl (k := 7) (by decide) wf_7_36 rfl (Or.inl rfl) ⟨rfl, rfl⟩ (g_is_at hs56) ?_
  show g_H E 4 848 59 [(0, vR 7)] [] (σ, (g_up M 7 7 12), N) _ _
  exact p_X7_init_59 J σ (g_up M 7 7 12) N
set_option maxHeartbeats 4000000 in
set_option maxRecDepth 100000 in
theorem p_X7_init_48 {l : Launch} {E : gE} (J : J_X7_init E l) (σ : gS) (M : gM) (N : gN) : g_H E 4 848 48 [(0, vR 7)] [] (σ, M, N) (b_X7_init_48 σ M N) (eVSMN) := by
  unfold b_X7_init_48
  refine r_run J 2 (pc' := 50) (lv' := [(0, vR 7)]) (st' := [vI 0, vR 7]) rfl ?_
  refine r_chk (fun hs50 => ?_)
  refine r_putI J cls7 rfl (k := 6) (by decide) wf_7_33 rfl (Or.inl rfl) ⟨rfl, rfl⟩ (g_is_at hs50) ?_
  show g_H E 4 848 53 [(0, vR 7)] [] (σ, (g_up M 7 6 0), N) _ _
  exact p_X7_init_53 J σ (g_up M 7 6 0) N
set_option maxHeartbeats 4000000 in
set_option maxRecDepth 100000 in
theorem p_X7_init_43 {l : Launch} {E : gE} (J : J_X7_init E l) (σ : gS) (M : gM) (N : gN) : g_H E 4 848 43 [(0, vR 7)] [] (σ, M, N) (b_X7_init_43 σ M N) (eVSMN) := by
  unfold b_X7_init_43
  refine r_run J 2 (pc' := 45) (lv' := [(0, vR 7)]) (st' := [vI 0, vR 7]) rfl ?_
  refine r_chk (fun hs45 => ?_)
  refine r_putI J cls7 rfl (k := 5) (by decide) wf_7_30 rfl (Or.inl rfl) ⟨rfl, rfl⟩ (g_is_at hs45) ?_
  show g_H E 4 848 48 [(0, vR 7)] [] (σ, (g_up M 7 5 0), N) _ _
  exact p_X7_init_48 J σ (g_up M 7 5 0) N
set_option maxHeartbeats 4000000 in
set_option maxRecDepth 100000 in
theorem p_X7_init_38 {l : Launch} {E : gE} (J : J_X7_init E l) (σ : gS) (M : gM) (N : gN) : g_H E 4 848 38 [(0, vR 7)] [] (σ, M, N) (b_X7_init_38 σ M N) (eVSMN) := by
  unfold b_X7_init_38
  refine r_run J 2 (pc' := 40) (lv' := [(0, vR 7)]) (st' := [vI 0, vR 7]) rfl ?_
  refine r_chk (fun hs40 => ?_)
  refine r_putI J cls7 rfl (k := 4) (by decide) wf_7_26 rfl (Or.inl rfl) ⟨rfl, rfl⟩ (g_is_at hs40) ?_
  show g_H E 4 848 43 [(0, vR 7)] [] (σ, (g_up M 7 4 0), N) _ _
  exact p_X7_init_43 J σ (g_up M 7 4 0) N
set_option maxHeartbeats 4000000 in
set_option maxRecDepth 100000 in
theorem p_X7_init_29 {l : Launch} {E : gE} (J : J_X7_init E l) (σ : gS) (M : gM) (N : gN) : g_H E 3 448 29 [(0, vR 7)] [] (σ, M, N) (b_X7_init_29 σ M N) (eVSMN) := by
  unfold b_X7_init_29
  refine r_run J 2 (pc' := 33) (lv' := [(0, vR 7)]) (st' := [vI 400, vR 7]) rfl ?_
  refine r_chk (fun hf33 => ?_)
  refine r_newI J (B := 400) rfl wa_int (by decide) rfl (Nat.le_refl _) (by decide) (g_fr_0 hf33) (g_fr_n hf33) (by decide) (by decide) ?_
  show g_H E 4 848 35 [(0, vR 7)] [vR 11, vR 7] ((g_nS σ 11 14 400), (g_z M 11 0), (g_z N 11 0)) _ _
  refine r_chk (fun hs35 => ?_)
  refine r_putR J cls7 rfl (k := 3) (t := 14) (by decide) wf_7_23 rfl rfl (Or.inr ⟨rfl, rfl, rfl⟩) (g_is_at hs35) (Or.inr ⟨_, (g_nS_at σ 11 14 400)⟩) ?_
  show g_H E 4 848 38 [(0, vR 7)] [] ((g_pS (g_nS σ 11 14 400) 7 3 11), (g_z M 11 0), (g_z N 11 0)) _ _
  exact p_X7_init_38 J (g_pS (g_nS σ 11 14 400) 7 3 11) (g_z M 11 0) (g_z N 11 0)
set_option maxHeartbeats 4000000 in
set_option maxRecDepth 100000 in
theorem p_X7_init_20 {l : Launch} {E : gE} (J : J_X7_init E l) (σ : gS) (M : gM) (N : gN) : g_H E 2 48 20 [(0, vR 7)] [] (σ, M, N) (b_X7_init_20 σ M N) (eVSMN) := by
  unfold b_X7_init_20
  refine r_run J 2 (pc' := 24) (lv' := [(0, vR 7)]) (st' := [vI 400, vR 7]) rfl ?_
  refine r_chk (fun hf24 => ?_)
  refine r_newI J (B := 400) rfl wa_int (by decide) rfl (Nat.le_refl _) (by decide) (g_fr_0 hf24) (g_fr_n hf24) (by decide) (by decide) ?_
  show g_H E 3 448 26 [(0, vR 7)] [vR 10, vR 7] ((g_nS σ 10 14 400), (g_z M 10 0), (g_z N 10 0)) _ _
  refine r_chk (fun hs26 => ?_)
  refine r_putR J cls7 rfl (k := 2) (t := 14) (by decide) wf_7_20 rfl rfl (Or.inr ⟨rfl, rfl, rfl⟩) (g_is_at hs26) (Or.inr ⟨_, (g_nS_at σ 10 14 400)⟩) ?_
  show g_H E 3 448 29 [(0, vR 7)] [] ((g_pS (g_nS σ 10 14 400) 7 2 10), (g_z M 10 0), (g_z N 10 0)) _ _
  exact p_X7_init_29 J (g_pS (g_nS σ 10 14 400) 7 2 10) (g_z M 10 0) (g_z N 10 0)
set_option maxHeartbeats 4000000 in
set_option maxRecDepth 100000 in
theorem p_X7_init_12 {l : Launch} {E : gE} (J : J_X7_init E l) (σ : gS) (M : gM) (N : gN) : g_H E 1 12 12 [(0, vR 7)] [] (σ, M, N) (b_X7_init_12 σ M N) (eVSMN) := by
  unfold b_X7_init_12
  refine r_run J 2 (pc' := 15) (lv' := [(0, vR 7)]) (st' := [vI 36, vR 7]) rfl ?_
  refine r_chk (fun hf15 => ?_)
  refine r_newI J (B := 36) rfl wa_int (by decide) rfl (Nat.le_refl _) (by decide) (g_fr_0 hf15) (g_fr_n hf15) (by decide) (by decide) ?_
  show g_H E 2 48 17 [(0, vR 7)] [vR 9, vR 7] ((g_nS σ 9 14 36), (g_z M 9 0), (g_z N 9 0)) _ _
  refine r_chk (fun hs17 => ?_)
  refine r_putR J cls7 rfl (k := 1) (t := 14) (by decide) wf_7_17 rfl rfl (Or.inr ⟨rfl, rfl, rfl⟩) (g_is_at hs17) (Or.inr ⟨_, (g_nS_at σ 9 14 36)⟩) ?_
  show g_H E 2 48 20 [(0, vR 7)] [] ((g_pS (g_nS σ 9 14 36) 7 1 9), (g_z M 9 0), (g_z N 9 0)) _ _
  exact p_X7_init_20 J (g_pS (g_nS σ 9 14 36) 7 1 9) (g_z M 9 0) (g_z N 9 0)
set_option maxHeartbeats 4000000 in
set_option maxRecDepth 100000 in
theorem p_X7_init_0 {l : Launch} {E : gE} (J : J_X7_init E l) (σ : gS) (M : gM) (N : gN) : g_H E 0 0 0 [(0, vR 7)] [] (σ, M, N) (b_X7_init_0 σ M N) (eVSMN) := by
  unfold b_X7_init_0
  refine r_run J 1 (pc' := 1) (lv' := [(0, vR 7)]) (st' := [vR 7]) rfl ?_
  refine r_chk (fun hs1 => ?_)
  refine r_objI J (by rw [(g_is_at hs1)]; exact Option.some_ne_none _) wm_7_3 w_obj rfl ⟨by decide, Nat.le_of_ble_eq_true rfl⟩ ?_
  refine r_run J 2 (pc' := 7) (lv' := [(0, vR 7)]) (st' := [vI 12, vR 7]) rfl ?_
  refine r_chk (fun hf7 => ?_)
  refine r_newI J (B := 12) rfl wa_int (by decide) rfl (Nat.le_refl _) (by decide) (g_fr_0 hf7) (g_fr_n hf7) (by decide) (by decide) ?_
  show g_H E 1 12 9 [(0, vR 7)] [vR 8, vR 7] ((g_nS σ 8 14 12), (g_z M 8 0), (g_z N 8 0)) _ _
  refine r_chk (fun hs9 => ?_)
  refine r_putR J cls7 rfl (k := 0) (t := 14) (by decide) wf_7_11 rfl rfl (Or.inr ⟨rfl, rfl, rfl⟩) (g_is_at hs9) (Or.inr ⟨_, (g_nS_at σ 8 14 12)⟩) ?_
  show g_H E 1 12 12 [(0, vR 7)] [] ((g_pS (g_nS σ 8 14 12) 7 0 8), (g_z M 8 0), (g_z N 8 0)) _ _
  exact p_X7_init_12 J (g_pS (g_nS σ 8 14 12) 7 0 8) (g_z M 8 0) (g_z N 8 0)
noncomputable def f_X7_init (σ : gS) (M : gM) (N : gN) : Option (gS × gM × gN) := b_X7_init_0 σ M N
theorem c_X7_init {l : Launch} (σ : gS) (M : gM) (N : gN) (r : gS × gM × gN) (h : f_X7_init σ M N = some r) : g_Ct l yX7_init cX7_init 1 none 1 4 848 [vR 7] (σ, M, N) (eVSMN r) :=
  g_Ct.of tb_X7_init (by decide +kernel) tk_X7_init (Nat.le_of_ble_eq_true rfl) (fun E J => p_X7_init_0 J σ M N r h)
def tb_X7_take : gT := [(0, .bipush 56, 2, 56), (2, .istore_n 3, 1, 0), (3, .iload_n 3, 1, 0), (4, .ifCond .lt 55, 3, 0), (7, .lload_n 1, 1, 0), (8, .iload_n 3, 1, 0), (9, .lushr, 1, 0), (10, .l2i, 1, 0), (11, .sipush 255, 3, 255), (14, .iand, 1, 0), (15, .istore 4, 2, 0), (17, .iload 4, 2, 0), (19, .ifCond .eq 34, 3, 0), (22, .aload_n 0, 1, 0), (23, .getfield 26, 3, 0), (26, .sipush 400, 3, 400), (29, .if_icmp .ge 24, 3, 0), (32, .aload_n 0, 1, 0), (33, .getfield 23, 3, 0), (36, .aload_n 0, 1, 0), (37, .getfield 26, 3, 0), (40, .iload 4, 2, 0), (42, .iastore, 1, 0), (43, .aload_n 0, 1, 0), (44, .dup, 1, 0), (45, .getfield 26, 3, 0), (48, .iconst 1, 1, 1), (49, .iadd, 1, 0), (50, .putfield 26, 3, 0), (53, .iinc 3 (-8), 3, (-8)), (56, .goto (-53), 3, 0), (59, .return_, 1, 0)]
set_option maxRecDepth 100000 in
theorem tk_X7_take : g_okT cX7_take tb_X7_take = true := by decide +kernel
abbrev J_X7_take (E : gE) (l : Launch) : Prop := g_J E cX7_take RX7 "take" none 5 tb_X7_take 1 0 0 l
noncomputable def b_X7_take_53 (k3 : Int64 → Int32 → gS → gM → Option (gM)) (y1 : Int64) (x3 : Int32) (σ : gS) (M : gM) : Option (gM) := k3 y1 (x3 + (-8)) σ M
noncomputable def l_X7_take_3 : Nat → Int64 → Int32 → gS → gM → Option (gM)
  | 0, _, _, _, _ => none
  | n + 1, y1, x3, σ, M => if x3 < (0 : Int32) then some M else if ((((y1.toUInt64 >>> (x3.toInt64.toUInt64 &&& Int64.toUInt64 63)).toInt64).toInt32) &&& (255 : Int32)) = (0 : Int32) then b_X7_take_53 (fun y1 x3 σ M => l_X7_take_3 n y1 x3 σ M) y1 x3 σ M else if (M 7 4) < (400 : Int32) then if g_in (M 7 4) 400 = true then b_X7_take_53 (fun y1 x3 σ M => l_X7_take_3 n y1 x3 σ M) y1 x3 σ (g_up (g_up M 11 ((M 7 4).toNatClampNeg) ((((y1.toUInt64 >>> (x3.toInt64.toUInt64 &&& Int64.toUInt64 63)).toInt64).toInt32) &&& (255 : Int32))) 7 4 (((g_up M 11 ((M 7 4).toNatClampNeg) ((((y1.toUInt64 >>> (x3.toInt64.toUInt64 &&& Int64.toUInt64 63)).toInt64).toInt32) &&& (255 : Int32))) 7 4) + (1 : Int32))) else none else b_X7_take_53 (fun y1 x3 σ M => l_X7_take_3 n y1 x3 σ M) y1 x3 σ M
noncomputable def b_X7_take_0 (y1 : Int64) (σ : gS) (M : gM) : Option (gM) := l_X7_take_3 g_FU y1 56 σ M
set_option maxHeartbeats 4000000 in
set_option maxRecDepth 100000 in
theorem p_X7_take_53 {l : Launch} {E : gE} (J : J_X7_take E l) {k3 : Int64 → Int32 → gS → gM → Option (gM)} (H3 : ∀ (y1 : Int64) (x3 : Int32) (σ : gS) (M : gM) (N : gN) (_ : g_layC σ), g_H E 0 0 3 [(0, vR 7), (1, vL y1), (3, vI x3)] [] (σ, M, N) (k3 y1 x3 σ M) (eVM σ N)) (y1 : Int64) (x3 : Int32) (σ : gS) (M : gM) (N : gN) (hL : g_layC σ) : g_H E 0 0 53 [(0, vR 7), (1, vL y1), (3, vI x3)] [] (σ, M, N) (b_X7_take_53 k3 y1 x3 σ M) (eVM σ N) := by
  unfold b_X7_take_53
  refine r_run J 2 (pc' := 3) (lv' := [(3, vI (x3 + (-8))), (0, vR 7), (1, vL y1)]) (st' := []) rfl ?_
  refine r_sub [1, 2, 0] (lv' := [(0, vR 7), (1, vL y1), (3, vI (x3 + (-8)))]) rfl ?_
  exact H3 y1 (x3 + (-8)) σ M N hL
set_option maxHeartbeats 4000000 in
set_option maxRecDepth 100000 in
theorem p_X7_take_3 {l : Launch} {E : gE} (J : J_X7_take E l) : ∀ (n : Nat) (y1 : Int64) (x3 : Int32) (σ : gS) (M : gM) (N : gN) (hL : g_layC σ), g_H E 0 0 3 [(0, vR 7), (1, vL y1), (3, vI x3)] [] (σ, M, N) (l_X7_take_3 n y1 x3 σ M) (eVM σ N) := by
  intro n
  induction n with
  | zero => intros; exact h_none
  | succ n ih =>
    intro y1 x3 σ M N hL
    rw [l_X7_take_3]
    refine r_run J 1 (pc' := 4) (lv' := [(0, vR 7), (1, vL y1), (3, vI x3)]) (st' := [vI x3]) rfl ?_
    refine r_if_lt J (tgt := 59) rfl (by decide) (fun c4 => ?_) (fun c4 => ?_)
    · exact r_vret J rfl rfl rfl (by decide) (by decide)
    · refine r_run J 8 (pc' := 19) (lv' := [(4, vI ((((y1.toUInt64 >>> (x3.toInt64.toUInt64 &&& Int64.toUInt64 63)).toInt64).toInt32) &&& (255 : Int32))), (0, vR 7), (1, vL y1), (3, vI x3)]) (st' := [vI ((((y1.toUInt64 >>> (x3.toInt64.toUInt64 &&& Int64.toUInt64 63)).toInt64).toInt32) &&& (255 : Int32))]) rfl ?_
      refine r_if_eq J (tgt := 53) rfl (by decide) (fun c19 => ?_) (fun c19 => ?_)
      · refine r_sub [1, 2, 3] (lv' := [(0, vR 7), (1, vL y1), (3, vI x3)]) rfl ?_
        exact p_X7_take_53 J ih y1 x3 σ M N hL
      · refine r_run J 1 (pc' := 23) (lv' := [(4, vI ((((y1.toUInt64 >>> (x3.toInt64.toUInt64 &&& Int64.toUInt64 63)).toInt64).toInt32) &&& (255 : Int32))), (0, vR 7), (1, vL y1), (3, vI x3)]) (st' := [vR 7]) rfl ?_
        refine r_getI J cls7 rfl (k := 4) (by decide) wf_7_26 rfl (ly_7 hL) ?_
        show g_H E 0 0 26 [(4, vI ((((y1.toUInt64 >>> (x3.toInt64.toUInt64 &&& Int64.toUInt64 63)).toInt64).toInt32) &&& (255 : Int32))), (0, vR 7), (1, vL y1), (3, vI x3)] [vI (M 7 4)] (σ, M, N) _ _
        refine r_run J 1 (pc' := 29) (lv' := [(4, vI ((((y1.toUInt64 >>> (x3.toInt64.toUInt64 &&& Int64.toUInt64 63)).toInt64).toInt32) &&& (255 : Int32))), (0, vR 7), (1, vL y1), (3, vI x3)]) (st' := [vI 400, vI (M 7 4)]) rfl ?_
        refine r_icmp_ge J (tgt := 53) rfl (by decide) (fun c29 => ?_) (fun c29 => ?_)
        · refine r_run J 1 (pc' := 33) (lv' := [(4, vI ((((y1.toUInt64 >>> (x3.toInt64.toUInt64 &&& Int64.toUInt64 63)).toInt64).toInt32) &&& (255 : Int32))), (0, vR 7), (1, vL y1), (3, vI x3)]) (st' := [vR 7]) rfl ?_
          refine r_getR J cls7 rfl (k := 3) (t := 14) (by decide) wf_7_23 rfl rfl (ly_7 hL) (lr_7_3 hL) (fun _ => ?_)
          show g_H E 0 0 36 [(4, vI ((((y1.toUInt64 >>> (x3.toInt64.toUInt64 &&& Int64.toUInt64 63)).toInt64).toInt32) &&& (255 : Int32))), (0, vR 7), (1, vL y1), (3, vI x3)] [vR 11] (σ, M, N) _ _
          refine r_run J 1 (pc' := 37) (lv' := [(4, vI ((((y1.toUInt64 >>> (x3.toInt64.toUInt64 &&& Int64.toUInt64 63)).toInt64).toInt32) &&& (255 : Int32))), (0, vR 7), (1, vL y1), (3, vI x3)]) (st' := [vR 7, vR 11]) rfl ?_
          refine r_getI J cls7 rfl (k := 4) (by decide) wf_7_26 rfl (ly_7 hL) ?_
          show g_H E 0 0 40 [(4, vI ((((y1.toUInt64 >>> (x3.toInt64.toUInt64 &&& Int64.toUInt64 63)).toInt64).toInt32) &&& (255 : Int32))), (0, vR 7), (1, vL y1), (3, vI x3)] [vI (M 7 4), vR 11] (σ, M, N) _ _
          refine r_run J 1 (pc' := 42) (lv' := [(4, vI ((((y1.toUInt64 >>> (x3.toInt64.toUInt64 &&& Int64.toUInt64 63)).toInt64).toInt32) &&& (255 : Int32))), (0, vR 7), (1, vL y1), (3, vI x3)]) (st' := [vI ((((y1.toUInt64 >>> (x3.toInt64.toUInt64 &&& Int64.toUInt64 63)).toInt64).toInt32) &&& (255 : Int32)), vI (M 7 4), vR 11]) rfl ?_
          refine r_iast J rfl (ly_11 hL) (fun i42 => ?_)
          show g_H E 0 0 43 [(4, vI ((((y1.toUInt64 >>> (x3.toInt64.toUInt64 &&& Int64.toUInt64 63)).toInt64).toInt32) &&& (255 : Int32))), (0, vR 7), (1, vL y1), (3, vI x3)] [] (σ, (g_up M 11 ((M 7 4).toNatClampNeg) ((((y1.toUInt64 >>> (x3.toInt64.toUInt64 &&& Int64.toUInt64 63)).toInt64).toInt32) &&& (255 : Int32))), N) _ _
          refine r_run J 2 (pc' := 45) (lv' := [(4, vI ((((y1.toUInt64 >>> (x3.toInt64.toUInt64 &&& Int64.toUInt64 63)).toInt64).toInt32) &&& (255 : Int32))), (0, vR 7), (1, vL y1), (3, vI x3)]) (st' := [vR 7, vR 7]) rfl ?_
          refine r_getI J cls7 rfl (k := 4) (by decide) wf_7_26 rfl (ly_7 hL) ?_
          show g_H E 0 0 48 [(4, vI ((((y1.toUInt64 >>> (x3.toInt64.toUInt64 &&& Int64.toUInt64 63)).toInt64).toInt32) &&& (255 : Int32))), (0, vR 7), (1, vL y1), (3, vI x3)] [vI ((g_up M 11 ((M 7 4).toNatClampNeg) ((((y1.toUInt64 >>> (x3.toInt64.toUInt64 &&& Int64.toUInt64 63)).toInt64).toInt32) &&& (255 : Int32))) 7 4), vR 7] (σ, (g_up M 11 ((M 7 4).toNatClampNeg) ((((y1.toUInt64 >>> (x3.toInt64.toUInt64 &&& Int64.toUInt64 63)).toInt64).toInt32) &&& (255 : Int32))), N) _ _
          refine r_run J 2 (pc' := 50) (lv' := [(4, vI ((((y1.toUInt64 >>> (x3.toInt64.toUInt64 &&& Int64.toUInt64 63)).toInt64).toInt32) &&& (255 : Int32))), (0, vR 7), (1, vL y1), (3, vI x3)]) (st' := [vI (((g_up M 11 ((M 7 4).toNatClampNeg) ((((y1.toUInt64 >>> (x3.toInt64.toUInt64 &&& Int64.toUInt64 63)).toInt64).toInt32) &&& (255 : Int32))) 7 4) + (1 : Int32)), vR 7]) rfl ?_
          refine r_putI J cls7 rfl (k := 4) (by decide) wf_7_26 rfl (Or.inl rfl) ⟨rfl, rfl⟩ (ly_7 hL) ?_
          show g_H E 0 0 53 [(4, vI ((((y1.toUInt64 >>> (x3.toInt64.toUInt64 &&& Int64.toUInt64 63)).toInt64).toInt32) &&& (255 : Int32))), (0, vR 7), (1, vL y1), (3, vI x3)] [] (σ, (g_up (g_up M 11 ((M 7 4).toNatClampNeg) ((((y1.toUInt64 >>> (x3.toInt64.toUInt64 &&& Int64.toUInt64 63)).toInt64).toInt32) &&& (255 : Int32))) 7 4 (((g_up M 11 ((M 7 4).toNatClampNeg) ((((y1.toUInt64 >>> (x3.toInt64.toUInt64 &&& Int64.toUInt64 63)).toInt64).toInt32) &&& (255 : Int32))) 7 4) + (1 : Int32))), N) _ _
          refine r_sub [1, 2, 3] (lv' := [(0, vR 7), (1, vL y1), (3, vI x3)]) rfl ?_
          exact p_X7_take_53 J ih y1 x3 σ (g_up (g_up M 11 ((M 7 4).toNatClampNeg) ((((y1.toUInt64 >>> (x3.toInt64.toUInt64 &&& Int64.toUInt64 63)).toInt64).toInt32) &&& (255 : Int32))) 7 4 (((g_up M 11 ((M 7 4).toNatClampNeg) ((((y1.toUInt64 >>> (x3.toInt64.toUInt64 &&& Int64.toUInt64 63)).toInt64).toInt32) &&& (255 : Int32))) 7 4) + (1 : Int32))) N hL
        · refine r_sub [1, 2, 3] (lv' := [(0, vR 7), (1, vL y1), (3, vI x3)]) rfl ?_
          exact p_X7_take_53 J ih y1 x3 σ M N hL
set_option maxHeartbeats 4000000 in
set_option maxRecDepth 100000 in
theorem p_X7_take_0 {l : Launch} {E : gE} (J : J_X7_take E l) (y1 : Int64) (σ : gS) (M : gM) (N : gN) (hL : g_layC σ) : g_H E 0 0 0 [(0, vR 7), (1, vL y1)] [] (σ, M, N) (b_X7_take_0 y1 σ M) (eVM σ N) := by
  unfold b_X7_take_0
  refine r_run J 2 (pc' := 3) (lv' := [(3, vI 56), (0, vR 7), (1, vL y1)]) (st' := []) rfl ?_
  refine r_sub [1, 2, 0] (lv' := [(0, vR 7), (1, vL y1), (3, vI 56)]) rfl ?_
  exact p_X7_take_3 J g_FU y1 56 σ M N hL
noncomputable def f_X7_take (y1 : Int64) (σ : gS) (M : gM) : Option (gM) := b_X7_take_0 y1 σ M
theorem c_X7_take {l : Launch} (y1 : Int64) (σ : gS) (M : gM) (N : gN) (hL : g_layC σ) (r : gM) (h : f_X7_take y1 σ M = some r) : g_Ct l yX7_take cX7_take 5 none 1 0 0 [vR 7, vL y1] (σ, M, N) (eVM σ N r) :=
  g_Ct.of tb_X7_take (by decide +kernel) tk_X7_take (Nat.le_of_ble_eq_true rfl) (fun E J => p_X7_take_0 J y1 σ M N hL r h)
def tb_X7_refuse : gT := [(0, .aload_n 0, 1, 0), (1, .aload_n 0, 1, 0), (2, .getfield 39, 3, 0), (5, .bipush 10, 2, 10), (7, .imul, 1, 0), (8, .iload_n 1, 1, 0), (9, .iadd, 1, 0), (10, .putfield 48, 3, 0), (13, .iconst 0, 1, 0), (14, .ireturn, 1, 0)]
set_option maxRecDepth 100000 in
theorem tk_X7_refuse : g_okT cX7_refuse tb_X7_refuse = true := by decide +kernel
abbrev J_X7_refuse (E : gE) (l : Launch) : Prop := g_J E cX7_refuse RX7 "refuse" (some .boolean) 2 tb_X7_refuse 1 0 0 l
noncomputable def b_X7_refuse_0 (x1 : Int32) (σ : gS) (M : gM) : Option (Int32 × gM) := some (0, (g_up M 7 11 (((M 7 8) * (10 : Int32)) + x1)))
set_option maxHeartbeats 4000000 in
set_option maxRecDepth 100000 in
theorem p_X7_refuse_0 {l : Launch} {E : gE} (J : J_X7_refuse E l) (x1 : Int32) (σ : gS) (M : gM) (N : gN) (hL : g_layC σ) : g_H E 0 0 0 [(0, vR 7), (1, vI x1)] [] (σ, M, N) (b_X7_refuse_0 x1 σ M) (eIM σ N) := by
  unfold b_X7_refuse_0
  refine r_run J 2 (pc' := 2) (lv' := [(0, vR 7), (1, vI x1)]) (st' := [vR 7, vR 7]) rfl ?_
  refine r_getI J cls7 rfl (k := 8) (by decide) wf_7_39 rfl (ly_7 hL) ?_
  show g_H E 0 0 5 [(0, vR 7), (1, vI x1)] [vI (M 7 8), vR 7] (σ, M, N) _ _
  refine r_run J 4 (pc' := 10) (lv' := [(0, vR 7), (1, vI x1)]) (st' := [vI (((M 7 8) * (10 : Int32)) + x1), vR 7]) rfl ?_
  refine r_putI J cls7 rfl (k := 11) (by decide) wf_7_48 rfl (Or.inl rfl) ⟨rfl, rfl⟩ (ly_7 hL) ?_
  show g_H E 0 0 13 [(0, vR 7), (1, vI x1)] [] (σ, (g_up M 7 11 (((M 7 8) * (10 : Int32)) + x1)), N) _ _
  refine r_run J 1 (pc' := 14) (lv' := [(0, vR 7), (1, vI x1)]) (st' := [vI 0]) rfl ?_
  exact r_iret J rfl rfl rfl rfl (by decide) (by decide)
noncomputable def f_X7_refuse (x1 : Int32) (σ : gS) (M : gM) : Option (Int32 × gM) := b_X7_refuse_0 x1 σ M
theorem c_X7_refuse {l : Launch} (x1 : Int32) (σ : gS) (M : gM) (N : gN) (hL : g_layC σ) (r : Int32 × gM) (h : f_X7_refuse x1 σ M = some r) : g_Ct l yX7_refuse cX7_refuse 2 (some .boolean) 1 0 0 [vR 7, vI x1] (σ, M, N) (eIM σ N r) :=
  g_Ct.of tb_X7_refuse (by decide +kernel) tk_X7_refuse (Nat.le_of_ble_eq_true rfl) (fun E J => p_X7_refuse_0 J x1 σ M N hL r h)
def tb_X7_write : gT := [(0, .aload_n 0, 1, 0), (1, .getfield 33, 3, 0), (4, .sipush 400, 3, 400), (7, .if_icmp .ge 23, 3, 0), (10, .aload_n 0, 1, 0), (11, .getfield 20, 3, 0), (14, .aload_n 0, 1, 0), (15, .getfield 33, 3, 0), (18, .iload_n 1, 1, 0), (19, .iastore, 1, 0), (20, .aload_n 0, 1, 0), (21, .dup, 1, 0), (22, .getfield 33, 3, 0), (25, .iconst 1, 1, 1), (26, .iadd, 1, 0), (27, .putfield 33, 3, 0), (30, .return_, 1, 0)]
set_option maxRecDepth 100000 in
theorem tk_X7_write : g_okT cX7_write tb_X7_write = true := by decide +kernel
abbrev J_X7_write (E : gE) (l : Launch) : Prop := g_J E cX7_write RX7 "write" none 2 tb_X7_write 1 0 0 l
noncomputable def b_X7_write_0 (x1 : Int32) (σ : gS) (M : gM) : Option (gM) := if (M 7 6) < (400 : Int32) then if g_in (M 7 6) 400 = true then some (g_up (g_up M 10 ((M 7 6).toNatClampNeg) x1) 7 6 (((g_up M 10 ((M 7 6).toNatClampNeg) x1) 7 6) + (1 : Int32))) else none else some M
set_option maxHeartbeats 4000000 in
set_option maxRecDepth 100000 in
theorem p_X7_write_0 {l : Launch} {E : gE} (J : J_X7_write E l) (x1 : Int32) (σ : gS) (M : gM) (N : gN) (hL : g_layC σ) : g_H E 0 0 0 [(0, vR 7), (1, vI x1)] [] (σ, M, N) (b_X7_write_0 x1 σ M) (eVM σ N) := by
  unfold b_X7_write_0
  refine r_run J 1 (pc' := 1) (lv' := [(0, vR 7), (1, vI x1)]) (st' := [vR 7]) rfl ?_
  refine r_getI J cls7 rfl (k := 6) (by decide) wf_7_33 rfl (ly_7 hL) ?_
  show g_H E 0 0 4 [(0, vR 7), (1, vI x1)] [vI (M 7 6)] (σ, M, N) _ _
  refine r_run J 1 (pc' := 7) (lv' := [(0, vR 7), (1, vI x1)]) (st' := [vI 400, vI (M 7 6)]) rfl ?_
  refine r_icmp_ge J (tgt := 30) rfl (by decide) (fun c7 => ?_) (fun c7 => ?_)
  · refine r_run J 1 (pc' := 11) (lv' := [(0, vR 7), (1, vI x1)]) (st' := [vR 7]) rfl ?_
    refine r_getR J cls7 rfl (k := 2) (t := 14) (by decide) wf_7_20 rfl rfl (ly_7 hL) (lr_7_2 hL) (fun _ => ?_)
    show g_H E 0 0 14 [(0, vR 7), (1, vI x1)] [vR 10] (σ, M, N) _ _
    refine r_run J 1 (pc' := 15) (lv' := [(0, vR 7), (1, vI x1)]) (st' := [vR 7, vR 10]) rfl ?_
    refine r_getI J cls7 rfl (k := 6) (by decide) wf_7_33 rfl (ly_7 hL) ?_
    show g_H E 0 0 18 [(0, vR 7), (1, vI x1)] [vI (M 7 6), vR 10] (σ, M, N) _ _
    refine r_run J 1 (pc' := 19) (lv' := [(0, vR 7), (1, vI x1)]) (st' := [vI x1, vI (M 7 6), vR 10]) rfl ?_
    refine r_iast J rfl (ly_10 hL) (fun i19 => ?_)
    show g_H E 0 0 20 [(0, vR 7), (1, vI x1)] [] (σ, (g_up M 10 ((M 7 6).toNatClampNeg) x1), N) _ _
    refine r_run J 2 (pc' := 22) (lv' := [(0, vR 7), (1, vI x1)]) (st' := [vR 7, vR 7]) rfl ?_
    refine r_getI J cls7 rfl (k := 6) (by decide) wf_7_33 rfl (ly_7 hL) ?_
    show g_H E 0 0 25 [(0, vR 7), (1, vI x1)] [vI ((g_up M 10 ((M 7 6).toNatClampNeg) x1) 7 6), vR 7] (σ, (g_up M 10 ((M 7 6).toNatClampNeg) x1), N) _ _
    refine r_run J 2 (pc' := 27) (lv' := [(0, vR 7), (1, vI x1)]) (st' := [vI (((g_up M 10 ((M 7 6).toNatClampNeg) x1) 7 6) + (1 : Int32)), vR 7]) rfl ?_
    refine r_putI J cls7 rfl (k := 6) (by decide) wf_7_33 rfl (Or.inl rfl) ⟨rfl, rfl⟩ (ly_7 hL) ?_
    show g_H E 0 0 30 [(0, vR 7), (1, vI x1)] [] (σ, (g_up (g_up M 10 ((M 7 6).toNatClampNeg) x1) 7 6 (((g_up M 10 ((M 7 6).toNatClampNeg) x1) 7 6) + (1 : Int32))), N) _ _
    exact r_vret J rfl rfl rfl (by decide) (by decide)
  · exact r_vret J rfl rfl rfl (by decide) (by decide)
noncomputable def f_X7_write (x1 : Int32) (σ : gS) (M : gM) : Option (gM) := b_X7_write_0 x1 σ M
theorem c_X7_write {l : Launch} (x1 : Int32) (σ : gS) (M : gM) (N : gN) (hL : g_layC σ) (r : gM) (h : f_X7_write x1 σ M = some r) : g_Ct l yX7_write cX7_write 2 none 1 0 0 [vR 7, vI x1] (σ, M, N) (eVM σ N r) :=
  g_Ct.of tb_X7_write (by decide +kernel) tk_X7_write (Nat.le_of_ble_eq_true rfl) (fun E J => p_X7_write_0 J x1 σ M N hL r h)
def tb_X7_isBlank : gT := [(0, .iload_n 0, 1, 0), (1, .bipush 32, 2, 32), (3, .if_icmp .eq 9, 3, 0), (6, .iload_n 0, 1, 0), (7, .bipush 10, 2, 10), (9, .if_icmp .ne 7, 3, 0), (12, .iconst 1, 1, 1), (13, .goto 4, 3, 0), (16, .iconst 0, 1, 0), (17, .ireturn, 1, 0)]
set_option maxRecDepth 100000 in
theorem tk_X7_isBlank : g_okT cX7_isBlank tb_X7_isBlank = true := by decide +kernel
abbrev J_X7_isBlank (E : gE) (l : Launch) : Prop := g_J E cX7_isBlank RX7 "isBlank" (some .boolean) 1 tb_X7_isBlank 1 0 0 l
noncomputable def b_X7_isBlank_12 : Option (Int32) := some 1
noncomputable def b_X7_isBlank_0 (x0 : Int32) : Option (Int32) := if x0 = (32 : Int32) then b_X7_isBlank_12  else if x0 = (10 : Int32) then b_X7_isBlank_12  else some 0
set_option maxHeartbeats 4000000 in
set_option maxRecDepth 100000 in
theorem p_X7_isBlank_12 {l : Launch} {E : gE} (J : J_X7_isBlank E l) (σ : gS) (M : gM) (N : gN) (hL : g_layC σ) : g_H E 0 0 12 [] [] (σ, M, N) (b_X7_isBlank_12) (eI σ M N) := by
  unfold b_X7_isBlank_12
  refine r_run J 2 (pc' := 17) (lv' := []) (st' := [vI 1]) rfl ?_
  exact r_iret J rfl rfl rfl rfl (by decide) (by decide)
set_option maxHeartbeats 4000000 in
set_option maxRecDepth 100000 in
theorem p_X7_isBlank_0 {l : Launch} {E : gE} (J : J_X7_isBlank E l) (x0 : Int32) (σ : gS) (M : gM) (N : gN) (hL : g_layC σ) : g_H E 0 0 0 [(0, vI x0)] [] (σ, M, N) (b_X7_isBlank_0 x0) (eI σ M N) := by
  unfold b_X7_isBlank_0
  refine r_run J 2 (pc' := 3) (lv' := [(0, vI x0)]) (st' := [vI 32, vI x0]) rfl ?_
  refine r_icmp_eq J (tgt := 12) rfl (by decide) (fun c3 => ?_) (fun c3 => ?_)
  · refine r_sub [] (lv' := []) rfl ?_
    exact p_X7_isBlank_12 J σ M N hL
  · refine r_run J 2 (pc' := 9) (lv' := [(0, vI x0)]) (st' := [vI 10, vI x0]) rfl ?_
    refine r_icmp_ne J (tgt := 16) rfl (by decide) (fun c9 => ?_) (fun c9 => ?_)
    · refine r_sub [] (lv' := []) rfl ?_
      exact p_X7_isBlank_12 J σ M N hL
    · refine r_run J 1 (pc' := 17) (lv' := [(0, vI x0)]) (st' := [vI 0]) rfl ?_
      exact r_iret J rfl rfl rfl rfl (by decide) (by decide)
noncomputable def f_X7_isBlank (x0 : Int32) : Option (Int32) := b_X7_isBlank_0 x0
theorem c_X7_isBlank {l : Launch} (x0 : Int32) (σ : gS) (M : gM) (N : gN) (hL : g_layC σ) (r : Int32) (h : f_X7_isBlank x0 = some r) : g_Ct l yX7_isBlank cX7_isBlank 1 (some .boolean) 1 0 0 [vI x0] (σ, M, N) (eI σ M N r) :=
  g_Ct.of tb_X7_isBlank (by decide +kernel) tk_X7_isBlank (Nat.le_of_ble_eq_true rfl) (fun E J => p_X7_isBlank_0 J x0 σ M N hL r h)
def tb_X7_isLetter : gT := [(0, .iload_n 0, 1, 0), (1, .bipush 97, 2, 97), (3, .if_icmp .lt 13, 3, 0), (6, .iload_n 0, 1, 0), (7, .bipush 122, 2, 122), (9, .if_icmp .gt 7, 3, 0), (12, .iconst 1, 1, 1), (13, .goto 4, 3, 0), (16, .iconst 0, 1, 0), (17, .ireturn, 1, 0)]
set_option maxRecDepth 100000 in
theorem tk_X7_isLetter : g_okT cX7_isLetter tb_X7_isLetter = true := by decide +kernel
abbrev J_X7_isLetter (E : gE) (l : Launch) : Prop := g_J E cX7_isLetter RX7 "isLetter" (some .boolean) 1 tb_X7_isLetter 1 0 0 l
noncomputable def b_X7_isLetter_0 (x0 : Int32) : Option (Int32) := if x0 < (97 : Int32) then some 0 else if (122 : Int32) < x0 then some 0 else some 1
set_option maxHeartbeats 4000000 in
set_option maxRecDepth 100000 in
theorem p_X7_isLetter_0 {l : Launch} {E : gE} (J : J_X7_isLetter E l) (x0 : Int32) (σ : gS) (M : gM) (N : gN) (hL : g_layC σ) : g_H E 0 0 0 [(0, vI x0)] [] (σ, M, N) (b_X7_isLetter_0 x0) (eI σ M N) := by
  unfold b_X7_isLetter_0
  refine r_run J 2 (pc' := 3) (lv' := [(0, vI x0)]) (st' := [vI 97, vI x0]) rfl ?_
  refine r_icmp_lt J (tgt := 16) rfl (by decide) (fun c3 => ?_) (fun c3 => ?_)
  · refine r_run J 1 (pc' := 17) (lv' := [(0, vI x0)]) (st' := [vI 0]) rfl ?_
    exact r_iret J rfl rfl rfl rfl (by decide) (by decide)
  · refine r_run J 2 (pc' := 9) (lv' := [(0, vI x0)]) (st' := [vI 122, vI x0]) rfl ?_
    refine r_icmp_gt J (tgt := 16) rfl (by decide) (fun c9 => ?_) (fun c9 => ?_)
    · refine r_run J 1 (pc' := 17) (lv' := [(0, vI x0)]) (st' := [vI 0]) rfl ?_
      exact r_iret J rfl rfl rfl rfl (by decide) (by decide)
    · refine r_run J 2 (pc' := 17) (lv' := [(0, vI x0)]) (st' := [vI 1]) rfl ?_
      exact r_iret J rfl rfl rfl rfl (by decide) (by decide)
noncomputable def f_X7_isLetter (x0 : Int32) : Option (Int32) := b_X7_isLetter_0 x0
theorem c_X7_isLetter {l : Launch} (x0 : Int32) (σ : gS) (M : gM) (N : gN) (hL : g_layC σ) (r : Int32) (h : f_X7_isLetter x0 = some r) : g_Ct l yX7_isLetter cX7_isLetter 1 (some .boolean) 1 0 0 [vI x0] (σ, M, N) (eI σ M N r) :=
  g_Ct.of tb_X7_isLetter (by decide +kernel) tk_X7_isLetter (Nat.le_of_ble_eq_true rfl) (fun E J => p_X7_isLetter_0 J x0 σ M N hL r h)
def tb_X7_isDigit : gT := [(0, .iload_n 0, 1, 0), (1, .bipush 48, 2, 48), (3, .if_icmp .lt 13, 3, 0), (6, .iload_n 0, 1, 0), (7, .bipush 57, 2, 57), (9, .if_icmp .gt 7, 3, 0), (12, .iconst 1, 1, 1), (13, .goto 4, 3, 0), (16, .iconst 0, 1, 0), (17, .ireturn, 1, 0)]
set_option maxRecDepth 100000 in
theorem tk_X7_isDigit : g_okT cX7_isDigit tb_X7_isDigit = true := by decide +kernel
abbrev J_X7_isDigit (E : gE) (l : Launch) : Prop := g_J E cX7_isDigit RX7 "isDigit" (some .boolean) 1 tb_X7_isDigit 1 0 0 l
noncomputable def b_X7_isDigit_0 (x0 : Int32) : Option (Int32) := if x0 < (48 : Int32) then some 0 else if (57 : Int32) < x0 then some 0 else some 1
set_option maxHeartbeats 4000000 in
set_option maxRecDepth 100000 in
theorem p_X7_isDigit_0 {l : Launch} {E : gE} (J : J_X7_isDigit E l) (x0 : Int32) (σ : gS) (M : gM) (N : gN) (hL : g_layC σ) : g_H E 0 0 0 [(0, vI x0)] [] (σ, M, N) (b_X7_isDigit_0 x0) (eI σ M N) := by
  unfold b_X7_isDigit_0
  refine r_run J 2 (pc' := 3) (lv' := [(0, vI x0)]) (st' := [vI 48, vI x0]) rfl ?_
  refine r_icmp_lt J (tgt := 16) rfl (by decide) (fun c3 => ?_) (fun c3 => ?_)
  · refine r_run J 1 (pc' := 17) (lv' := [(0, vI x0)]) (st' := [vI 0]) rfl ?_
    exact r_iret J rfl rfl rfl rfl (by decide) (by decide)
  · refine r_run J 2 (pc' := 9) (lv' := [(0, vI x0)]) (st' := [vI 57, vI x0]) rfl ?_
    refine r_icmp_gt J (tgt := 16) rfl (by decide) (fun c9 => ?_) (fun c9 => ?_)
    · refine r_run J 1 (pc' := 17) (lv' := [(0, vI x0)]) (st' := [vI 0]) rfl ?_
      exact r_iret J rfl rfl rfl rfl (by decide) (by decide)
    · refine r_run J 2 (pc' := 17) (lv' := [(0, vI x0)]) (st' := [vI 1]) rfl ?_
      exact r_iret J rfl rfl rfl rfl (by decide) (by decide)
noncomputable def f_X7_isDigit (x0 : Int32) : Option (Int32) := b_X7_isDigit_0 x0
theorem c_X7_isDigit {l : Launch} (x0 : Int32) (σ : gS) (M : gM) (N : gN) (hL : g_layC σ) (r : Int32) (h : f_X7_isDigit x0 = some r) : g_Ct l yX7_isDigit cX7_isDigit 1 (some .boolean) 1 0 0 [vI x0] (σ, M, N) (eI σ M N r) :=
  g_Ct.of tb_X7_isDigit (by decide +kernel) tk_X7_isDigit (Nat.le_of_ble_eq_true rfl) (fun E J => p_X7_isDigit_0 J x0 σ M N hL r h)
def tb_X7_isSign : gT := [(0, .iload_n 0, 1, 0), (1, .tableswitch 105 40 61 #[103, 103, 105, 103, 105, 103, 105, 105, 105, 105, 105, 105, 105, 105, 105, 105, 105, 105, 105, 103, 103, 103], 103, 0), (104, .iconst 1, 1, 1), (105, .ireturn, 1, 0), (106, .iconst 0, 1, 0), (107, .ireturn, 1, 0)]
set_option maxRecDepth 100000 in
theorem tk_X7_isSign : g_okT cX7_isSign tb_X7_isSign = true := by decide +kernel
abbrev J_X7_isSign (E : gE) (l : Launch) : Prop := g_J E cX7_isSign RX7 "isSign" (some .boolean) 1 tb_X7_isSign 1 0 0 l
noncomputable def b_X7_isSign_0 (x0 : Int32) : Option (Int32) := if x0 = 40 then some 1 else if x0 = 41 then some 1 else if x0 = 43 then some 1 else if x0 = 45 then some 1 else if x0 = 59 then some 1 else if x0 = 60 then some 1 else if x0 = 61 then some 1 else some 0
set_option maxHeartbeats 4000000 in
set_option maxRecDepth 100000 in
theorem p_X7_isSign_0 {l : Launch} {E : gE} (J : J_X7_isSign E l) (x0 : Int32) (σ : gS) (M : gM) (N : gN) (hL : g_layC σ) : g_H E 0 0 0 [(0, vI x0)] [] (σ, M, N) (b_X7_isSign_0 x0) (eI σ M N) := by
  unfold b_X7_isSign_0
  refine r_run J 1 (pc' := 1) (lv' := [(0, vI x0)]) (st' := [vI x0]) rfl ?_
  refine r_table J [(40, 104), (41, 104), (42, 106), (43, 104), (44, 106), (45, 104), (46, 106), (47, 106), (48, 106), (49, 106), (50, 106), (51, 106), (52, 106), (53, 106), (54, 106), (55, 106), (56, 106), (57, 106), (58, 106), (59, 104), (60, 104), (61, 104)] (d := 106) rfl (by decide +kernel) (List.forall_mem_cons.mpr ⟨fun hc => ?_, List.forall_mem_cons.mpr ⟨fun hc => ?_, List.forall_mem_cons.mpr ⟨fun hc => ?_, List.forall_mem_cons.mpr ⟨fun hc => ?_, List.forall_mem_cons.mpr ⟨fun hc => ?_, List.forall_mem_cons.mpr ⟨fun hc => ?_, List.forall_mem_cons.mpr ⟨fun hc => ?_, List.forall_mem_cons.mpr ⟨fun hc => ?_, List.forall_mem_cons.mpr ⟨fun hc => ?_, List.forall_mem_cons.mpr ⟨fun hc => ?_, List.forall_mem_cons.mpr ⟨fun hc => ?_, List.forall_mem_cons.mpr ⟨fun hc => ?_, List.forall_mem_cons.mpr ⟨fun hc => ?_, List.forall_mem_cons.mpr ⟨fun hc => ?_, List.forall_mem_cons.mpr ⟨fun hc => ?_, List.forall_mem_cons.mpr ⟨fun hc => ?_, List.forall_mem_cons.mpr ⟨fun hc => ?_, List.forall_mem_cons.mpr ⟨fun hc => ?_, List.forall_mem_cons.mpr ⟨fun hc => ?_, List.forall_mem_cons.mpr ⟨fun hc => ?_, List.forall_mem_cons.mpr ⟨fun hc => ?_, List.forall_mem_cons.mpr ⟨fun hc => ?_, fun _ h => absurd h List.not_mem_nil⟩⟩⟩⟩⟩⟩⟩⟩⟩⟩⟩⟩⟩⟩⟩⟩⟩⟩⟩⟩⟩⟩) (fun hd => ?_)
  · rw [if_pos hc]
    refine r_run J 1 (pc' := 105) (lv' := [(0, vI x0)]) (st' := [vI 1]) rfl ?_
    exact r_iret J rfl rfl rfl rfl (by decide) (by decide)
  · rw [if_neg (by rw [hc]; decide), if_pos hc]
    refine r_run J 1 (pc' := 105) (lv' := [(0, vI x0)]) (st' := [vI 1]) rfl ?_
    exact r_iret J rfl rfl rfl rfl (by decide) (by decide)
  · rw [if_neg (by rw [hc]; decide), if_neg (by rw [hc]; decide), if_neg (by rw [hc]; decide), if_neg (by rw [hc]; decide), if_neg (by rw [hc]; decide), if_neg (by rw [hc]; decide), if_neg (by rw [hc]; decide)]
    refine r_run J 1 (pc' := 107) (lv' := [(0, vI x0)]) (st' := [vI 0]) rfl ?_
    exact r_iret J rfl rfl rfl rfl (by decide) (by decide)
  · rw [if_neg (by rw [hc]; decide), if_neg (by rw [hc]; decide), if_pos hc]
    refine r_run J 1 (pc' := 105) (lv' := [(0, vI x0)]) (st' := [vI 1]) rfl ?_
    exact r_iret J rfl rfl rfl rfl (by decide) (by decide)
  · rw [if_neg (by rw [hc]; decide), if_neg (by rw [hc]; decide), if_neg (by rw [hc]; decide), if_neg (by rw [hc]; decide), if_neg (by rw [hc]; decide), if_neg (by rw [hc]; decide), if_neg (by rw [hc]; decide)]
    refine r_run J 1 (pc' := 107) (lv' := [(0, vI x0)]) (st' := [vI 0]) rfl ?_
    exact r_iret J rfl rfl rfl rfl (by decide) (by decide)
  · rw [if_neg (by rw [hc]; decide), if_neg (by rw [hc]; decide), if_neg (by rw [hc]; decide), if_pos hc]
    refine r_run J 1 (pc' := 105) (lv' := [(0, vI x0)]) (st' := [vI 1]) rfl ?_
    exact r_iret J rfl rfl rfl rfl (by decide) (by decide)
  · rw [if_neg (by rw [hc]; decide), if_neg (by rw [hc]; decide), if_neg (by rw [hc]; decide), if_neg (by rw [hc]; decide), if_neg (by rw [hc]; decide), if_neg (by rw [hc]; decide), if_neg (by rw [hc]; decide)]
    refine r_run J 1 (pc' := 107) (lv' := [(0, vI x0)]) (st' := [vI 0]) rfl ?_
    exact r_iret J rfl rfl rfl rfl (by decide) (by decide)
  · rw [if_neg (by rw [hc]; decide), if_neg (by rw [hc]; decide), if_neg (by rw [hc]; decide), if_neg (by rw [hc]; decide), if_neg (by rw [hc]; decide), if_neg (by rw [hc]; decide), if_neg (by rw [hc]; decide)]
    refine r_run J 1 (pc' := 107) (lv' := [(0, vI x0)]) (st' := [vI 0]) rfl ?_
    exact r_iret J rfl rfl rfl rfl (by decide) (by decide)
  · rw [if_neg (by rw [hc]; decide), if_neg (by rw [hc]; decide), if_neg (by rw [hc]; decide), if_neg (by rw [hc]; decide), if_neg (by rw [hc]; decide), if_neg (by rw [hc]; decide), if_neg (by rw [hc]; decide)]
    refine r_run J 1 (pc' := 107) (lv' := [(0, vI x0)]) (st' := [vI 0]) rfl ?_
    exact r_iret J rfl rfl rfl rfl (by decide) (by decide)
  · rw [if_neg (by rw [hc]; decide), if_neg (by rw [hc]; decide), if_neg (by rw [hc]; decide), if_neg (by rw [hc]; decide), if_neg (by rw [hc]; decide), if_neg (by rw [hc]; decide), if_neg (by rw [hc]; decide)]
    refine r_run J 1 (pc' := 107) (lv' := [(0, vI x0)]) (st' := [vI 0]) rfl ?_
    exact r_iret J rfl rfl rfl rfl (by decide) (by decide)
  · rw [if_neg (by rw [hc]; decide), if_neg (by rw [hc]; decide), if_neg (by rw [hc]; decide), if_neg (by rw [hc]; decide), if_neg (by rw [hc]; decide), if_neg (by rw [hc]; decide), if_neg (by rw [hc]; decide)]
    refine r_run J 1 (pc' := 107) (lv' := [(0, vI x0)]) (st' := [vI 0]) rfl ?_
    exact r_iret J rfl rfl rfl rfl (by decide) (by decide)
  · rw [if_neg (by rw [hc]; decide), if_neg (by rw [hc]; decide), if_neg (by rw [hc]; decide), if_neg (by rw [hc]; decide), if_neg (by rw [hc]; decide), if_neg (by rw [hc]; decide), if_neg (by rw [hc]; decide)]
    refine r_run J 1 (pc' := 107) (lv' := [(0, vI x0)]) (st' := [vI 0]) rfl ?_
    exact r_iret J rfl rfl rfl rfl (by decide) (by decide)
  · rw [if_neg (by rw [hc]; decide), if_neg (by rw [hc]; decide), if_neg (by rw [hc]; decide), if_neg (by rw [hc]; decide), if_neg (by rw [hc]; decide), if_neg (by rw [hc]; decide), if_neg (by rw [hc]; decide)]
    refine r_run J 1 (pc' := 107) (lv' := [(0, vI x0)]) (st' := [vI 0]) rfl ?_
    exact r_iret J rfl rfl rfl rfl (by decide) (by decide)
  · rw [if_neg (by rw [hc]; decide), if_neg (by rw [hc]; decide), if_neg (by rw [hc]; decide), if_neg (by rw [hc]; decide), if_neg (by rw [hc]; decide), if_neg (by rw [hc]; decide), if_neg (by rw [hc]; decide)]
    refine r_run J 1 (pc' := 107) (lv' := [(0, vI x0)]) (st' := [vI 0]) rfl ?_
    exact r_iret J rfl rfl rfl rfl (by decide) (by decide)
  · rw [if_neg (by rw [hc]; decide), if_neg (by rw [hc]; decide), if_neg (by rw [hc]; decide), if_neg (by rw [hc]; decide), if_neg (by rw [hc]; decide), if_neg (by rw [hc]; decide), if_neg (by rw [hc]; decide)]
    refine r_run J 1 (pc' := 107) (lv' := [(0, vI x0)]) (st' := [vI 0]) rfl ?_
    exact r_iret J rfl rfl rfl rfl (by decide) (by decide)
  · rw [if_neg (by rw [hc]; decide), if_neg (by rw [hc]; decide), if_neg (by rw [hc]; decide), if_neg (by rw [hc]; decide), if_neg (by rw [hc]; decide), if_neg (by rw [hc]; decide), if_neg (by rw [hc]; decide)]
    refine r_run J 1 (pc' := 107) (lv' := [(0, vI x0)]) (st' := [vI 0]) rfl ?_
    exact r_iret J rfl rfl rfl rfl (by decide) (by decide)
  · rw [if_neg (by rw [hc]; decide), if_neg (by rw [hc]; decide), if_neg (by rw [hc]; decide), if_neg (by rw [hc]; decide), if_neg (by rw [hc]; decide), if_neg (by rw [hc]; decide), if_neg (by rw [hc]; decide)]
    refine r_run J 1 (pc' := 107) (lv' := [(0, vI x0)]) (st' := [vI 0]) rfl ?_
    exact r_iret J rfl rfl rfl rfl (by decide) (by decide)
  · rw [if_neg (by rw [hc]; decide), if_neg (by rw [hc]; decide), if_neg (by rw [hc]; decide), if_neg (by rw [hc]; decide), if_neg (by rw [hc]; decide), if_neg (by rw [hc]; decide), if_neg (by rw [hc]; decide)]
    refine r_run J 1 (pc' := 107) (lv' := [(0, vI x0)]) (st' := [vI 0]) rfl ?_
    exact r_iret J rfl rfl rfl rfl (by decide) (by decide)
  · rw [if_neg (by rw [hc]; decide), if_neg (by rw [hc]; decide), if_neg (by rw [hc]; decide), if_neg (by rw [hc]; decide), if_neg (by rw [hc]; decide), if_neg (by rw [hc]; decide), if_neg (by rw [hc]; decide)]
    refine r_run J 1 (pc' := 107) (lv' := [(0, vI x0)]) (st' := [vI 0]) rfl ?_
    exact r_iret J rfl rfl rfl rfl (by decide) (by decide)
  · rw [if_neg (by rw [hc]; decide), if_neg (by rw [hc]; decide), if_neg (by rw [hc]; decide), if_neg (by rw [hc]; decide), if_pos hc]
    refine r_run J 1 (pc' := 105) (lv' := [(0, vI x0)]) (st' := [vI 1]) rfl ?_
    exact r_iret J rfl rfl rfl rfl (by decide) (by decide)
  · rw [if_neg (by rw [hc]; decide), if_neg (by rw [hc]; decide), if_neg (by rw [hc]; decide), if_neg (by rw [hc]; decide), if_neg (by rw [hc]; decide), if_pos hc]
    refine r_run J 1 (pc' := 105) (lv' := [(0, vI x0)]) (st' := [vI 1]) rfl ?_
    exact r_iret J rfl rfl rfl rfl (by decide) (by decide)
  · rw [if_neg (by rw [hc]; decide), if_neg (by rw [hc]; decide), if_neg (by rw [hc]; decide), if_neg (by rw [hc]; decide), if_neg (by rw [hc]; decide), if_neg (by rw [hc]; decide), if_pos hc]
    refine r_run J 1 (pc' := 105) (lv' := [(0, vI x0)]) (st' := [vI 1]) rfl ?_
    exact r_iret J rfl rfl rfl rfl (by decide) (by decide)
  · rw [if_neg (hd _ (List.mem_of_getElem? (i := 0) rfl)), if_neg (hd _ (List.mem_of_getElem? (i := 1) rfl)), if_neg (hd _ (List.mem_of_getElem? (i := 3) rfl)), if_neg (hd _ (List.mem_of_getElem? (i := 5) rfl)), if_neg (hd _ (List.mem_of_getElem? (i := 19) rfl)), if_neg (hd _ (List.mem_of_getElem? (i := 20) rfl)), if_neg (hd _ (List.mem_of_getElem? (i := 21) rfl))]
    refine r_run J 1 (pc' := 107) (lv' := [(0, vI x0)]) (st' := [vI 0]) rfl ?_
    exact r_iret J rfl rfl rfl rfl (by decide) (by decide)
noncomputable def f_X7_isSign (x0 : Int32) : Option (Int32) := b_X7_isSign_0 x0
theorem c_X7_isSign {l : Launch} (x0 : Int32) (σ : gS) (M : gM) (N : gN) (hL : g_layC σ) (r : Int32) (h : f_X7_isSign x0 = some r) : g_Ct l yX7_isSign cX7_isSign 1 (some .boolean) 1 0 0 [vI x0] (σ, M, N) (eI σ M N r) :=
  g_Ct.of tb_X7_isSign (by decide +kernel) tk_X7_isSign (Nat.le_of_ble_eq_true rfl) (fun E J => p_X7_isSign_0 J x0 σ M N hL r h)
def tb_X7_takeNumber : gT := [(0, .aload_n 0, 1, 0), (1, .iconst 0, 1, 0), (2, .putfield 45, 3, 0), (5, .aload_n 0, 1, 0), (6, .getfield 42, 3, 0), (9, .aload_n 0, 1, 0), (10, .getfield 26, 3, 0), (13, .if_icmp .ge 68, 3, 0), (16, .aload_n 0, 1, 0), (17, .getfield 23, 3, 0), (20, .aload_n 0, 1, 0), (21, .getfield 42, 3, 0), (24, .iaload, 1, 0), (25, .invokestatic 90, 3, 0), (28, .ifCond .eq 53, 3, 0), (31, .aload_n 0, 1, 0), (32, .getfield 42, 3, 0), (35, .aload_n 0, 1, 0), (36, .getfield 39, 3, 0), (39, .isub, 1, 0), (40, .iconst 4, 1, 4), (41, .if_icmp .ge 27, 3, 0), (44, .aload_n 0, 1, 0), (45, .aload_n 0, 1, 0), (46, .getfield 45, 3, 0), (49, .bipush 10, 2, 10), (51, .imul, 1, 0), (52, .aload_n 0, 1, 0), (53, .getfield 23, 3, 0), (56, .aload_n 0, 1, 0), (57, .getfield 42, 3, 0), (60, .iaload, 1, 0), (61, .iadd, 1, 0), (62, .bipush 48, 2, 48), (64, .isub, 1, 0), (65, .putfield 45, 3, 0), (68, .aload_n 0, 1, 0), (69, .dup, 1, 0), (70, .getfield 42, 3, 0), (73, .iconst 1, 1, 1), (74, .iadd, 1, 0), (75, .putfield 42, 3, 0), (78, .goto (-73), 3, 0), (81, .aload_n 0, 1, 0), (82, .aload_n 0, 1, 0), (83, .getfield 42, 3, 0), (86, .aload_n 0, 1, 0), (87, .getfield 39, 3, 0), (90, .isub, 1, 0), (91, .iconst 4, 1, 4), (92, .if_icmp .le 8, 3, 0), (95, .bipush 13, 2, 13), (97, .goto 5, 3, 0), (100, .bipush 11, 2, 11), (102, .putfield 36, 3, 0), (105, .return_, 1, 0)]
set_option maxRecDepth 100000 in
theorem tk_X7_takeNumber : g_okT cX7_takeNumber tb_X7_takeNumber = true := by decide +kernel
abbrev J_X7_takeNumber (E : gE) (l : Launch) : Prop := g_J E cX7_takeNumber RX7 "takeNumber" none 1 tb_X7_takeNumber 2 0 0 l
noncomputable def b_X7_takeNumber_102 (sx0 : Int32) (σ : gS) (M : gM) : Option (gM) := some (g_up M 7 7 sx0)
noncomputable def b_X7_takeNumber_81 (σ : gS) (M : gM) : Option (gM) := if (4 : Int32) < ((M 7 9) - (M 7 8)) then b_X7_takeNumber_102 13 σ M else b_X7_takeNumber_102 11 σ M
noncomputable def b_X7_takeNumber_68 (k5 : gS → gM → Option (gM)) (σ : gS) (M : gM) : Option (gM) := k5 σ (g_up M 7 9 ((M 7 9) + (1 : Int32)))
noncomputable def l_X7_takeNumber_5 : Nat → gS → gM → Option (gM)
  | 0, _, _ => none
  | n + 1, σ, M => if (M 7 9) < (M 7 4) then if g_in (M 7 9) 400 = true then (f_X7_isDigit (M 11 (M 7 9).toNatClampNeg)).bind fun q25 => if q25 = (0 : Int32) then b_X7_takeNumber_81 σ M else if ((M 7 9) - (M 7 8)) < (4 : Int32) then if g_in (M 7 9) 400 = true then b_X7_takeNumber_68 (fun σ M => l_X7_takeNumber_5 n σ M) σ (g_up M 7 10 ((((M 7 10) * (10 : Int32)) + (M 11 (M 7 9).toNatClampNeg)) - (48 : Int32))) else none else b_X7_takeNumber_68 (fun σ M => l_X7_takeNumber_5 n σ M) σ M else none else b_X7_takeNumber_81 σ M
noncomputable def b_X7_takeNumber_0 (σ : gS) (M : gM) : Option (gM) := l_X7_takeNumber_5 g_FU σ (g_up M 7 10 0)
set_option maxHeartbeats 4000000 in
set_option maxRecDepth 100000 in
theorem p_X7_takeNumber_102 {l : Launch} {E : gE} (J : J_X7_takeNumber E l) (sx0 : Int32) (σ : gS) (M : gM) (N : gN) (hL : g_layC σ) : g_H E 0 0 102 [] [vI sx0, vR 7] (σ, M, N) (b_X7_takeNumber_102 sx0 σ M) (eVM σ N) := by
  unfold b_X7_takeNumber_102
  refine r_putI J cls7 rfl (k := 7) (by decide) wf_7_36 rfl (Or.inl rfl) ⟨rfl, rfl⟩ (ly_7 hL) ?_
  show g_H E 0 0 105 [] [] (σ, (g_up M 7 7 sx0), N) _ _
  exact r_vret J rfl rfl rfl (by decide) (by decide)
set_option maxHeartbeats 4000000 in
set_option maxRecDepth 100000 in
theorem p_X7_takeNumber_81 {l : Launch} {E : gE} (J : J_X7_takeNumber E l) (σ : gS) (M : gM) (N : gN) (hL : g_layC σ) : g_H E 0 0 81 [(0, vR 7)] [] (σ, M, N) (b_X7_takeNumber_81 σ M) (eVM σ N) := by
  unfold b_X7_takeNumber_81
  refine r_run J 2 (pc' := 83) (lv' := [(0, vR 7)]) (st' := [vR 7, vR 7]) rfl ?_
  refine r_getI J cls7 rfl (k := 9) (by decide) wf_7_42 rfl (ly_7 hL) ?_
  show g_H E 0 0 86 [(0, vR 7)] [vI (M 7 9), vR 7] (σ, M, N) _ _
  refine r_run J 1 (pc' := 87) (lv' := [(0, vR 7)]) (st' := [vR 7, vI (M 7 9), vR 7]) rfl ?_
  refine r_getI J cls7 rfl (k := 8) (by decide) wf_7_39 rfl (ly_7 hL) ?_
  show g_H E 0 0 90 [(0, vR 7)] [vI (M 7 8), vI (M 7 9), vR 7] (σ, M, N) _ _
  refine r_run J 2 (pc' := 92) (lv' := [(0, vR 7)]) (st' := [vI 4, vI ((M 7 9) - (M 7 8)), vR 7]) rfl ?_
  refine r_icmp_le J (tgt := 100) rfl (by decide) (fun c92 => ?_) (fun c92 => ?_)
  · refine r_run J 2 (pc' := 102) (lv' := [(0, vR 7)]) (st' := [vI 13, vR 7]) rfl ?_
    refine r_sub [] (lv' := []) rfl ?_
    exact p_X7_takeNumber_102 J 13 σ M N hL
  · refine r_run J 1 (pc' := 102) (lv' := [(0, vR 7)]) (st' := [vI 11, vR 7]) rfl ?_
    refine r_sub [] (lv' := []) rfl ?_
    exact p_X7_takeNumber_102 J 11 σ M N hL
set_option maxHeartbeats 4000000 in
set_option maxRecDepth 100000 in
theorem p_X7_takeNumber_68 {l : Launch} {E : gE} (J : J_X7_takeNumber E l) {k5 : gS → gM → Option (gM)} (H5 : ∀ (σ : gS) (M : gM) (N : gN) (_ : g_layC σ), g_H E 0 0 5 [(0, vR 7)] [] (σ, M, N) (k5 σ M) (eVM σ N)) (σ : gS) (M : gM) (N : gN) (hL : g_layC σ) : g_H E 0 0 68 [(0, vR 7)] [] (σ, M, N) (b_X7_takeNumber_68 k5 σ M) (eVM σ N) := by
  unfold b_X7_takeNumber_68
  refine r_run J 2 (pc' := 70) (lv' := [(0, vR 7)]) (st' := [vR 7, vR 7]) rfl ?_
  refine r_getI J cls7 rfl (k := 9) (by decide) wf_7_42 rfl (ly_7 hL) ?_
  show g_H E 0 0 73 [(0, vR 7)] [vI (M 7 9), vR 7] (σ, M, N) _ _
  refine r_run J 2 (pc' := 75) (lv' := [(0, vR 7)]) (st' := [vI ((M 7 9) + (1 : Int32)), vR 7]) rfl ?_
  refine r_putI J cls7 rfl (k := 9) (by decide) wf_7_42 rfl (Or.inl rfl) ⟨rfl, rfl⟩ (ly_7 hL) ?_
  show g_H E 0 0 78 [(0, vR 7)] [] (σ, (g_up M 7 9 ((M 7 9) + (1 : Int32))), N) _ _
  refine r_run J 1 (pc' := 5) (lv' := [(0, vR 7)]) (st' := []) rfl ?_
  exact H5 σ (g_up M 7 9 ((M 7 9) + (1 : Int32))) N hL
set_option maxHeartbeats 4000000 in
set_option maxRecDepth 100000 in
theorem p_X7_takeNumber_5 {l : Launch} {E : gE} (J : J_X7_takeNumber E l) : ∀ (n : Nat) (σ : gS) (M : gM) (N : gN) (hL : g_layC σ), g_H E 0 0 5 [(0, vR 7)] [] (σ, M, N) (l_X7_takeNumber_5 n σ M) (eVM σ N) := by
  intro n
  induction n with
  | zero => intros; exact h_none
  | succ n ih =>
    intro σ M N hL
    rw [l_X7_takeNumber_5]
    refine r_run J 1 (pc' := 6) (lv' := [(0, vR 7)]) (st' := [vR 7]) rfl ?_
    refine r_getI J cls7 rfl (k := 9) (by decide) wf_7_42 rfl (ly_7 hL) ?_
    show g_H E 0 0 9 [(0, vR 7)] [vI (M 7 9)] (σ, M, N) _ _
    refine r_run J 1 (pc' := 10) (lv' := [(0, vR 7)]) (st' := [vR 7, vI (M 7 9)]) rfl ?_
    refine r_getI J cls7 rfl (k := 4) (by decide) wf_7_26 rfl (ly_7 hL) ?_
    show g_H E 0 0 13 [(0, vR 7)] [vI (M 7 4), vI (M 7 9)] (σ, M, N) _ _
    refine r_icmp_ge J (tgt := 81) rfl (by decide) (fun c13 => ?_) (fun c13 => ?_)
    · refine r_run J 1 (pc' := 17) (lv' := [(0, vR 7)]) (st' := [vR 7]) rfl ?_
      refine r_getR J cls7 rfl (k := 3) (t := 14) (by decide) wf_7_23 rfl rfl (ly_7 hL) (lr_7_3 hL) (fun _ => ?_)
      show g_H E 0 0 20 [(0, vR 7)] [vR 11] (σ, M, N) _ _
      refine r_run J 1 (pc' := 21) (lv' := [(0, vR 7)]) (st' := [vR 7, vR 11]) rfl ?_
      refine r_getI J cls7 rfl (k := 9) (by decide) wf_7_42 rfl (ly_7 hL) ?_
      show g_H E 0 0 24 [(0, vR 7)] [vI (M 7 9), vR 11] (σ, M, N) _ _
      refine r_iald J rfl (ly_11 hL) (fun i24 => ?_)
      show g_H E 0 0 25 [(0, vR 7)] [vI (M 11 (M 7 9).toNatClampNeg)] (σ, M, N) _ _
      refine r_callS J (As := [vI (M 11 (M 7 9).toNatClampNeg)]) (st := []) (fun r hr => c_X7_isDigit (M 11 (M 7 9).toNatClampNeg) σ M N hL r hr) wm_7_90 wy_X7_isDigit wd_X7_isDigit ⟨by decide, by decide, by decide, by decide, Nat.le_of_ble_eq_true rfl⟩ rfl rfl (fun q25 hq25 => ?_)
      show g_H E 0 0 28 [(0, vR 7)] [vI q25] (σ, M, N) _ _
      refine r_if_eq J (tgt := 81) rfl (by decide) (fun c28 => ?_) (fun c28 => ?_)
      · exact p_X7_takeNumber_81 J σ M N hL
      · refine r_run J 1 (pc' := 32) (lv' := [(0, vR 7)]) (st' := [vR 7]) rfl ?_
        refine r_getI J cls7 rfl (k := 9) (by decide) wf_7_42 rfl (ly_7 hL) ?_
        show g_H E 0 0 35 [(0, vR 7)] [vI (M 7 9)] (σ, M, N) _ _
        refine r_run J 1 (pc' := 36) (lv' := [(0, vR 7)]) (st' := [vR 7, vI (M 7 9)]) rfl ?_
        refine r_getI J cls7 rfl (k := 8) (by decide) wf_7_39 rfl (ly_7 hL) ?_
        show g_H E 0 0 39 [(0, vR 7)] [vI (M 7 8), vI (M 7 9)] (σ, M, N) _ _
        refine r_run J 2 (pc' := 41) (lv' := [(0, vR 7)]) (st' := [vI 4, vI ((M 7 9) - (M 7 8))]) rfl ?_
        refine r_icmp_ge J (tgt := 68) rfl (by decide) (fun c41 => ?_) (fun c41 => ?_)
        · refine r_run J 2 (pc' := 46) (lv' := [(0, vR 7)]) (st' := [vR 7, vR 7]) rfl ?_
          refine r_getI J cls7 rfl (k := 10) (by decide) wf_7_45 rfl (ly_7 hL) ?_
          show g_H E 0 0 49 [(0, vR 7)] [vI (M 7 10), vR 7] (σ, M, N) _ _
          refine r_run J 3 (pc' := 53) (lv' := [(0, vR 7)]) (st' := [vR 7, vI ((M 7 10) * (10 : Int32)), vR 7]) rfl ?_
          refine r_getR J cls7 rfl (k := 3) (t := 14) (by decide) wf_7_23 rfl rfl (ly_7 hL) (lr_7_3 hL) (fun _ => ?_)
          show g_H E 0 0 56 [(0, vR 7)] [vR 11, vI ((M 7 10) * (10 : Int32)), vR 7] (σ, M, N) _ _
          refine r_run J 1 (pc' := 57) (lv' := [(0, vR 7)]) (st' := [vR 7, vR 11, vI ((M 7 10) * (10 : Int32)), vR 7]) rfl ?_
          refine r_getI J cls7 rfl (k := 9) (by decide) wf_7_42 rfl (ly_7 hL) ?_
          show g_H E 0 0 60 [(0, vR 7)] [vI (M 7 9), vR 11, vI ((M 7 10) * (10 : Int32)), vR 7] (σ, M, N) _ _
          refine r_iald J rfl (ly_11 hL) (fun i60 => ?_)
          show g_H E 0 0 61 [(0, vR 7)] [vI (M 11 (M 7 9).toNatClampNeg), vI ((M 7 10) * (10 : Int32)), vR 7] (σ, M, N) _ _
          refine r_run J 3 (pc' := 65) (lv' := [(0, vR 7)]) (st' := [vI ((((M 7 10) * (10 : Int32)) + (M 11 (M 7 9).toNatClampNeg)) - (48 : Int32)), vR 7]) rfl ?_
          refine r_putI J cls7 rfl (k := 10) (by decide) wf_7_45 rfl (Or.inl rfl) ⟨rfl, rfl⟩ (ly_7 hL) ?_
          show g_H E 0 0 68 [(0, vR 7)] [] (σ, (g_up M 7 10 ((((M 7 10) * (10 : Int32)) + (M 11 (M 7 9).toNatClampNeg)) - (48 : Int32))), N) _ _
          exact p_X7_takeNumber_68 J ih σ (g_up M 7 10 ((((M 7 10) * (10 : Int32)) + (M 11 (M 7 9).toNatClampNeg)) - (48 : Int32))) N hL
        · exact p_X7_takeNumber_68 J ih σ M N hL
    · exact p_X7_takeNumber_81 J σ M N hL
set_option maxHeartbeats 4000000 in
set_option maxRecDepth 100000 in
theorem p_X7_takeNumber_0 {l : Launch} {E : gE} (J : J_X7_takeNumber E l) (σ : gS) (M : gM) (N : gN) (hL : g_layC σ) : g_H E 0 0 0 [(0, vR 7)] [] (σ, M, N) (b_X7_takeNumber_0 σ M) (eVM σ N) := by
  unfold b_X7_takeNumber_0
  refine r_run J 2 (pc' := 2) (lv' := [(0, vR 7)]) (st' := [vI 0, vR 7]) rfl ?_
  refine r_putI J cls7 rfl (k := 10) (by decide) wf_7_45 rfl (Or.inl rfl) ⟨rfl, rfl⟩ (ly_7 hL) ?_
  show g_H E 0 0 5 [(0, vR 7)] [] (σ, (g_up M 7 10 0), N) _ _
  exact p_X7_takeNumber_5 J g_FU σ (g_up M 7 10 0) N hL
noncomputable def f_X7_takeNumber (σ : gS) (M : gM) : Option (gM) := b_X7_takeNumber_0 σ M
theorem c_X7_takeNumber {l : Launch} (σ : gS) (M : gM) (N : gN) (hL : g_layC σ) (r : gM) (h : f_X7_takeNumber σ M = some r) : g_Ct l yX7_takeNumber cX7_takeNumber 1 none 2 0 0 [vR 7] (σ, M, N) (eVM σ N r) :=
  g_Ct.of tb_X7_takeNumber (by decide +kernel) tk_X7_takeNumber (Nat.le_of_ble_eq_true rfl) (fun E J => p_X7_takeNumber_0 J σ M N hL r h)
def tb_X8_init : gT := [(0, .aload_n 0, 1, 0), (1, .invokespecial 1, 3, 0), (4, .aload_n 0, 1, 0), (5, .iconst 1, 1, 1), (6, .putfield 7, 3, 0), (9, .aload_n 0, 1, 0), (10, .iload_n 1, 1, 0), (11, .putfield 13, 3, 0), (14, .aload_n 0, 1, 0), (15, .iload_n 2, 1, 0), (16, .putfield 17, 3, 0), (19, .aload_n 0, 1, 0), (20, .iload_n 3, 1, 0), (21, .putfield 20, 3, 0), (24, .return_, 1, 0)]
set_option maxRecDepth 100000 in
theorem tk_X8_init : g_okT cX8_init tb_X8_init = true := by decide +kernel
abbrev J_X8_init (E : gE) (l : Launch) : Prop := g_J E cX8_init RX8 "<init>" none 4 tb_X8_init 1 0 0 l
noncomputable def b_X8_init_19 (r0 : Nat) (x3 : Int32) (σ : gS) (M : gM) : Option (gM) := if g_is σ r0 8 = true then some (g_up M r0 2 x3) else none
noncomputable def b_X8_init_0 (r0 : Nat) (x1 : Int32) (x2 : Int32) (x3 : Int32) (σ : gS) (M : gM) : Option (gM) := if g_is σ r0 8 = true then if g_b x2 = true then b_X8_init_19 r0 x3 σ (g_up (g_up (g_up M r0 3 1) r0 0 x1) r0 1 x2) else none else none
set_option maxHeartbeats 4000000 in
set_option maxRecDepth 100000 in
theorem p_X8_init_19 {l : Launch} {E : gE} (J : J_X8_init E l) (r0 : Nat) (x3 : Int32) (σ : gS) (M : gM) (N : gN) : g_H E 0 0 19 [(0, vR r0), (3, vI x3)] [] (σ, M, N) (b_X8_init_19 r0 x3 σ M) (eVM σ N) := by
  unfold b_X8_init_19
  refine r_run J 2 (pc' := 21) (lv' := [(0, vR r0), (3, vI x3)]) (st' := [vI x3, vR r0]) rfl ?_
  refine r_chk (fun hs21 => ?_)
  refine r_putI J cls8 rfl (k := 2) (by decide) wf_8_20 rfl (Or.inr ⟨rfl, rfl, rfl⟩) ⟨rfl, rfl⟩ (g_is_at hs21) ?_
  show g_H E 0 0 24 [(0, vR r0), (3, vI x3)] [] (σ, (g_up M r0 2 x3), N) _ _
  exact r_vret J rfl rfl rfl (by decide) (by decide)
set_option maxHeartbeats 4000000 in
set_option maxRecDepth 100000 in
theorem p_X8_init_0 {l : Launch} {E : gE} (J : J_X8_init E l) (r0 : Nat) (x1 : Int32) (x2 : Int32) (x3 : Int32) (σ : gS) (M : gM) (N : gN) : g_H E 0 0 0 [(0, vR r0), (1, vI x1), (2, vI x2), (3, vI x3)] [] (σ, M, N) (b_X8_init_0 r0 x1 x2 x3 σ M) (eVM σ N) := by
  unfold b_X8_init_0
  refine r_run J 1 (pc' := 1) (lv' := [(0, vR r0), (1, vI x1), (2, vI x2), (3, vI x3)]) (st' := [vR r0]) rfl ?_
  refine r_chk (fun hs1 => ?_)
  refine r_objI J (by rw [(g_is_at hs1)]; exact Option.some_ne_none _) wm_8_1 w_obj rfl ⟨by decide, Nat.le_of_ble_eq_true rfl⟩ ?_
  refine r_run J 2 (pc' := 6) (lv' := [(0, vR r0), (1, vI x1), (2, vI x2), (3, vI x3)]) (st' := [vI 1, vR r0]) rfl ?_
  refine r_putI J cls8 rfl (k := 3) (by decide) wf_8_7 rfl (Or.inl rfl) ⟨rfl, rfl⟩ (g_is_at hs1) ?_
  show g_H E 0 0 9 [(0, vR r0), (1, vI x1), (2, vI x2), (3, vI x3)] [] (σ, (g_up M r0 3 1), N) _ _
  refine r_run J 2 (pc' := 11) (lv' := [(0, vR r0), (1, vI x1), (2, vI x2), (3, vI x3)]) (st' := [vI x1, vR r0]) rfl ?_
  refine r_putI J cls8 rfl (k := 0) (by decide) wf_8_13 rfl (Or.inr ⟨rfl, rfl, rfl⟩) ⟨rfl, rfl⟩ (g_is_at hs1) ?_
  show g_H E 0 0 14 [(0, vR r0), (1, vI x1), (2, vI x2), (3, vI x3)] [] (σ, (g_up (g_up M r0 3 1) r0 0 x1), N) _ _
  refine r_run J 2 (pc' := 16) (lv' := [(0, vR r0), (1, vI x1), (2, vI x2), (3, vI x3)]) (st' := [vI x2, vR r0]) rfl ?_
  refine r_chk (fun hb16 => ?_)
  refine r_putI J cls8 rfl (k := 1) (by decide) wf_8_17 rfl (Or.inr ⟨rfl, rfl, rfl⟩) (g_b_fit hb16) (g_is_at hs1) ?_
  show g_H E 0 0 19 [(0, vR r0), (1, vI x1), (2, vI x2), (3, vI x3)] [] (σ, (g_up (g_up (g_up M r0 3 1) r0 0 x1) r0 1 x2), N) _ _
  refine r_sub [0, 3] (lv' := [(0, vR r0), (3, vI x3)]) rfl ?_
  exact p_X8_init_19 J r0 x3 σ (g_up (g_up (g_up M r0 3 1) r0 0 x1) r0 1 x2) N
noncomputable def f_X8_init (r0 : Nat) (x1 : Int32) (x2 : Int32) (x3 : Int32) (σ : gS) (M : gM) : Option (gM) := b_X8_init_0 r0 x1 x2 x3 σ M
theorem c_X8_init {l : Launch} (r0 : Nat) (x1 : Int32) (x2 : Int32) (x3 : Int32) (σ : gS) (M : gM) (N : gN) (r : gM) (h : f_X8_init r0 x1 x2 x3 σ M = some r) : g_Ct l yX8_init cX8_init 4 none 1 0 0 [vR r0, vI x1, vI x2, vI x3] (σ, M, N) (eVM σ N r) :=
  g_Ct.of tb_X8_init (by decide +kernel) tk_X8_init (Nat.le_of_ble_eq_true rfl) (fun E J => p_X8_init_0 J r0 x1 x2 x3 σ M N r h)
def tb_X9_init : gT := [(0, .aload_n 0, 1, 0), (1, .invokespecial 3, 3, 0), (4, .aload_n 0, 1, 0), (5, .bipush 10, 2, 10), (7, .newarray .int, 2, 0), (9, .putfield 9, 3, 0), (12, .aload_n 0, 1, 0), (13, .iconst 0, 1, 0), (14, .putfield 15, 3, 0), (17, .aload_n 0, 1, 0), (18, .iconst 0, 1, 0), (19, .putfield 19, 3, 0), (22, .aload_n 0, 1, 0), (23, .bipush 10, 2, 10), (25, .newarray .int, 2, 0), (27, .putfield 22, 3, 0), (30, .aload_n 0, 1, 0), (31, .bipush 10, 2, 10), (33, .newarray .int, 2, 0), (35, .putfield 25, 3, 0), (38, .aload_n 0, 1, 0), (39, .bipush 10, 2, 10), (41, .newarray .int, 2, 0), (43, .putfield 28, 3, 0), (46, .aload_n 0, 1, 0), (47, .bipush 10, 2, 10), (49, .newarray .boolean, 2, 0), (51, .putfield 31, 3, 0), (54, .aload_n 0, 1, 0), (55, .bipush 10, 2, 10), (57, .anewarray 35, 3, 0), (60, .putfield 37, 3, 0), (63, .aload_n 0, 1, 0), (64, .bipush 10, 2, 10), (66, .newarray .int, 2, 0), (68, .putfield 41, 3, 0), (71, .aload_n 0, 1, 0), (72, .iconst 0, 1, 0), (73, .putfield 44, 3, 0), (76, .aload_n 0, 1, 0), (77, .iconst 0, 1, 0), (78, .putfield 47, 3, 0), (81, .aload_n 0, 1, 0), (82, .iconst 0, 1, 0), (83, .putfield 50, 3, 0), (86, .aload_n 0, 1, 0), (87, .iconst 2, 1, 2), (88, .putfield 53, 3, 0), (91, .aload_n 0, 1, 0), (92, .iconst 0, 1, 0), (93, .newarray .int, 2, 0), (95, .putfield 56, 3, 0), (98, .return_, 1, 0)]
set_option maxRecDepth 100000 in
theorem tk_X9_init : g_okT cX9_init tb_X9_init = true := by decide +kernel
abbrev J_X9_init (E : gE) (l : Launch) : Prop := g_J E cX9_init RX9 "<init>" none 1 tb_X9_init 1 8 70 l
noncomputable def b_X9_init_91 (σ : gS) (M : gM) (N : gN) : Option (gS × gM × gN) := if g_fr σ 36 = true then if g_is (g_nS σ 36 14 0) 12 9 = true then some ((g_pS (g_nS σ 36 14 0) 12 13 36), (g_z M 36 0), (g_z N 36 0)) else none else none
noncomputable def b_X9_init_86 (σ : gS) (M : gM) (N : gN) : Option (gS × gM × gN) := if g_is σ 12 9 = true then b_X9_init_91 σ (g_up M 12 12 2) N else none
noncomputable def b_X9_init_81 (σ : gS) (M : gM) (N : gN) : Option (gS × gM × gN) := if g_is σ 12 9 = true then b_X9_init_86 σ (g_up M 12 11 0) N else none
noncomputable def b_X9_init_76 (σ : gS) (M : gM) (N : gN) : Option (gS × gM × gN) := if g_is σ 12 9 = true then b_X9_init_81 σ (g_up M 12 10 0) N else none
noncomputable def b_X9_init_71 (σ : gS) (M : gM) (N : gN) : Option (gS × gM × gN) := if g_is σ 12 9 = true then b_X9_init_76 σ (g_up M 12 9 0) N else none
noncomputable def b_X9_init_63 (σ : gS) (M : gM) (N : gN) : Option (gS × gM × gN) := if g_fr σ 19 = true then if g_is (g_nS σ 19 14 10) 12 9 = true then b_X9_init_71 (g_pS (g_nS σ 19 14 10) 12 8 19) (g_z M 19 0) (g_z N 19 0) else none else none
noncomputable def b_X9_init_54 (σ : gS) (M : gM) (N : gN) : Option (gS × gM × gN) := if g_fr σ 18 = true then if g_is (g_nS σ 18 18 10) 12 9 = true then b_X9_init_63 (g_pS (g_nS σ 18 18 10) 12 7 18) (g_z M 18 0) (g_z N 18 0) else none else none
noncomputable def b_X9_init_46 (σ : gS) (M : gM) (N : gN) : Option (gS × gM × gN) := if g_fr σ 17 = true then if g_is (g_nS σ 17 15 10) 12 9 = true then b_X9_init_54 (g_pS (g_nS σ 17 15 10) 12 6 17) (g_z M 17 0) (g_z N 17 0) else none else none
noncomputable def b_X9_init_38 (σ : gS) (M : gM) (N : gN) : Option (gS × gM × gN) := if g_fr σ 16 = true then if g_is (g_nS σ 16 14 10) 12 9 = true then b_X9_init_46 (g_pS (g_nS σ 16 14 10) 12 5 16) (g_z M 16 0) (g_z N 16 0) else none else none
noncomputable def b_X9_init_30 (σ : gS) (M : gM) (N : gN) : Option (gS × gM × gN) := if g_fr σ 15 = true then if g_is (g_nS σ 15 14 10) 12 9 = true then b_X9_init_38 (g_pS (g_nS σ 15 14 10) 12 4 15) (g_z M 15 0) (g_z N 15 0) else none else none
noncomputable def b_X9_init_22 (σ : gS) (M : gM) (N : gN) : Option (gS × gM × gN) := if g_fr σ 14 = true then if g_is (g_nS σ 14 14 10) 12 9 = true then b_X9_init_30 (g_pS (g_nS σ 14 14 10) 12 3 14) (g_z M 14 0) (g_z N 14 0) else none else none
noncomputable def b_X9_init_17 (σ : gS) (M : gM) (N : gN) : Option (gS × gM × gN) := if g_is σ 12 9 = true then b_X9_init_22 σ (g_up M 12 2 0) N else none
noncomputable def b_X9_init_12 (σ : gS) (M : gM) (N : gN) : Option (gS × gM × gN) := if g_is σ 12 9 = true then b_X9_init_17 σ (g_up M 12 1 0) N else none
noncomputable def b_X9_init_0 (σ : gS) (M : gM) (N : gN) : Option (gS × gM × gN) := if g_is σ 12 9 = true then if g_fr σ 13 = true then if g_is (g_nS σ 13 14 10) 12 9 = true then b_X9_init_12 (g_pS (g_nS σ 13 14 10) 12 0 13) (g_z M 13 0) (g_z N 13 0) else none else none else none
set_option maxHeartbeats 4000000 in
set_option maxRecDepth 100000 in
theorem p_X9_init_91 {l : Launch} {E : gE} (J : J_X9_init E l) (σ : gS) (M : gM) (N : gN) : g_H E 7 70 91 [(0, vR 12)] [] (σ, M, N) (b_X9_init_91 σ M N) (eVSMN) := by
  unfold b_X9_init_91
  refine r_run J 2 (pc' := 93) (lv' := [(0, vR 12)]) (st' := [vI 0, vR 12]) rfl ?_
  refine r_chk (fun hf93 => ?_)
  refine r_newI J (B := 0) rfl wa_int (by decide) rfl (Nat.le_refl _) (by decide) (g_fr_0 hf93) (g_fr_n hf93) (by decide) (by decide) ?_
  show g_H E 8 70 95 [(0, vR 12)] [vR 36, vR 12] ((g_nS σ 36 14 0), (g_z M 36 0), (g_z N 36 0)) _ _
  refine r_chk (fun hs95 => ?_)
  refine r_putR J cls9 rfl (k := 13) (t := 14) (by decide) wf_9_56 rfl rfl (Or.inl rfl) (g_is_at hs95) (Or.inr ⟨_, (g_nS_at σ 36 14 0)⟩) ?_
  show g_H E 8 70 98 [(0, vR 12)] [] ((g_pS (g_nS σ 36 14 0) 12 13 36), (g_z M 36 0), (g_z N 36 0)) _ _
  exact r_vret J rfl rfl rfl (by decide) (by decide)
set_option maxHeartbeats 4000000 in
set_option maxRecDepth 100000 in
theorem p_X9_init_86 {l : Launch} {E : gE} (J : J_X9_init E l) (σ : gS) (M : gM) (N : gN) : g_H E 7 70 86 [(0, vR 12)] [] (σ, M, N) (b_X9_init_86 σ M N) (eVSMN) := by
  unfold b_X9_init_86
  refine r_run J 2 (pc' := 88) (lv' := [(0, vR 12)]) (st' := [vI 2, vR 12]) rfl ?_
  refine r_chk (fun hs88 => ?_)
  refine r_putI J cls9 rfl (k := 12) (by decide) wf_9_53 rfl (Or.inl rfl) ⟨rfl, rfl⟩ (g_is_at hs88) ?_
  show g_H E 7 70 91 [(0, vR 12)] [] (σ, (g_up M 12 12 2), N) _ _
  exact p_X9_init_91 J σ (g_up M 12 12 2) N
set_option maxHeartbeats 4000000 in
set_option maxRecDepth 100000 in
theorem p_X9_init_81 {l : Launch} {E : gE} (J : J_X9_init E l) (σ : gS) (M : gM) (N : gN) : g_H E 7 70 81 [(0, vR 12)] [] (σ, M, N) (b_X9_init_81 σ M N) (eVSMN) := by
  unfold b_X9_init_81
  refine r_run J 2 (pc' := 83) (lv' := [(0, vR 12)]) (st' := [vI 0, vR 12]) rfl ?_
  refine r_chk (fun hs83 => ?_)
  refine r_putI J cls9 rfl (k := 11) (by decide) wf_9_50 rfl (Or.inl rfl) ⟨rfl, rfl⟩ (g_is_at hs83) ?_
  show g_H E 7 70 86 [(0, vR 12)] [] (σ, (g_up M 12 11 0), N) _ _
  exact p_X9_init_86 J σ (g_up M 12 11 0) N
set_option maxHeartbeats 4000000 in
set_option maxRecDepth 100000 in
theorem p_X9_init_76 {l : Launch} {E : gE} (J : J_X9_init E l) (σ : gS) (M : gM) (N : gN) : g_H E 7 70 76 [(0, vR 12)] [] (σ, M, N) (b_X9_init_76 σ M N) (eVSMN) := by
  unfold b_X9_init_76
  refine r_run J 2 (pc' := 78) (lv' := [(0, vR 12)]) (st' := [vI 0, vR 12]) rfl ?_
  refine r_chk (fun hs78 => ?_)
  refine r_putI J cls9 rfl (k := 10) (by decide) wf_9_47 rfl (Or.inl rfl) ⟨rfl, rfl⟩ (g_is_at hs78) ?_
  show g_H E 7 70 81 [(0, vR 12)] [] (σ, (g_up M 12 10 0), N) _ _
  exact p_X9_init_81 J σ (g_up M 12 10 0) N
set_option maxHeartbeats 4000000 in
set_option maxRecDepth 100000 in
theorem p_X9_init_71 {l : Launch} {E : gE} (J : J_X9_init E l) (σ : gS) (M : gM) (N : gN) : g_H E 7 70 71 [(0, vR 12)] [] (σ, M, N) (b_X9_init_71 σ M N) (eVSMN) := by
  unfold b_X9_init_71
  refine r_run J 2 (pc' := 73) (lv' := [(0, vR 12)]) (st' := [vI 0, vR 12]) rfl ?_
  refine r_chk (fun hs73 => ?_)
  refine r_putI J cls9 rfl (k := 9) (by decide) wf_9_44 rfl (Or.inl rfl) ⟨rfl, rfl⟩ (g_is_at hs73) ?_
  show g_H E 7 70 76 [(0, vR 12)] [] (σ, (g_up M 12 9 0), N) _ _
  exact p_X9_init_76 J σ (g_up M 12 9 0) N
set_option maxHeartbeats 4000000 in
set_option maxRecDepth 100000 in
theorem p_X9_init_63 {l : Launch} {E : gE} (J : J_X9_init E l) (σ : gS) (M : gM) (N : gN) : g_H E 6 60 63 [(0, vR 12)] [] (σ, M, N) (b_X9_init_63 σ M N) (eVSMN) := by
  unfold b_X9_init_63
  refine r_run J 2 (pc' := 66) (lv' := [(0, vR 12)]) (st' := [vI 10, vR 12]) rfl ?_
  refine r_chk (fun hf66 => ?_)
  refine r_newI J (B := 10) rfl wa_int (by decide) rfl (Nat.le_refl _) (by decide) (g_fr_0 hf66) (g_fr_n hf66) (by decide) (by decide) ?_
  show g_H E 7 70 68 [(0, vR 12)] [vR 19, vR 12] ((g_nS σ 19 14 10), (g_z M 19 0), (g_z N 19 0)) _ _
  refine r_chk (fun hs68 => ?_)
  refine r_putR J cls9 rfl (k := 8) (t := 14) (by decide) wf_9_41 rfl rfl (Or.inr ⟨rfl, rfl, rfl⟩) (g_is_at hs68) (Or.inr ⟨_, (g_nS_at σ 19 14 10)⟩) ?_
  show g_H E 7 70 71 [(0, vR 12)] [] ((g_pS (g_nS σ 19 14 10) 12 8 19), (g_z M 19 0), (g_z N 19 0)) _ _
  exact p_X9_init_71 J (g_pS (g_nS σ 19 14 10) 12 8 19) (g_z M 19 0) (g_z N 19 0)
set_option maxHeartbeats 4000000 in
set_option maxRecDepth 100000 in
theorem p_X9_init_54 {l : Launch} {E : gE} (J : J_X9_init E l) (σ : gS) (M : gM) (N : gN) : g_H E 5 50 54 [(0, vR 12)] [] (σ, M, N) (b_X9_init_54 σ M N) (eVSMN) := by
  unfold b_X9_init_54
  refine r_run J 2 (pc' := 57) (lv' := [(0, vR 12)]) (st' := [vI 10, vR 12]) rfl ?_
  refine r_chk (fun hf57 => ?_)
  refine r_anew J (B := 10) (Or.inr (Or.inl ⟨rfl, rfl⟩)) rfl wk_9_35 (by decide) rfl (Nat.le_refl _) (by decide) (g_fr_0 hf57) (g_fr_n hf57) (by decide) (by decide) ?_
  show g_H E 6 60 60 [(0, vR 12)] [vR 18, vR 12] ((g_nS σ 18 18 10), (g_z M 18 0), (g_z N 18 0)) _ _
  refine r_chk (fun hs60 => ?_)
  refine r_putR J cls9 rfl (k := 7) (t := 18) (by decide) wf_9_37 rfl rfl (Or.inr ⟨rfl, rfl, rfl⟩) (g_is_at hs60) (Or.inr ⟨_, (g_nS_at σ 18 18 10)⟩) ?_
  show g_H E 6 60 63 [(0, vR 12)] [] ((g_pS (g_nS σ 18 18 10) 12 7 18), (g_z M 18 0), (g_z N 18 0)) _ _
  exact p_X9_init_63 J (g_pS (g_nS σ 18 18 10) 12 7 18) (g_z M 18 0) (g_z N 18 0)
set_option maxHeartbeats 4000000 in
set_option maxRecDepth 100000 in
theorem p_X9_init_46 {l : Launch} {E : gE} (J : J_X9_init E l) (σ : gS) (M : gM) (N : gN) : g_H E 4 40 46 [(0, vR 12)] [] (σ, M, N) (b_X9_init_46 σ M N) (eVSMN) := by
  unfold b_X9_init_46
  refine r_run J 2 (pc' := 49) (lv' := [(0, vR 12)]) (st' := [vI 10, vR 12]) rfl ?_
  refine r_chk (fun hf49 => ?_)
  refine r_newZ J (B := 10) rfl wa_boolean (by decide) rfl (Nat.le_refl _) (by decide) (g_fr_0 hf49) (g_fr_n hf49) (by decide) (by decide) ?_
  show g_H E 5 50 51 [(0, vR 12)] [vR 17, vR 12] ((g_nS σ 17 15 10), (g_z M 17 0), (g_z N 17 0)) _ _
  refine r_chk (fun hs51 => ?_)
  refine r_putR J cls9 rfl (k := 6) (t := 15) (by decide) wf_9_31 rfl rfl (Or.inr ⟨rfl, rfl, rfl⟩) (g_is_at hs51) (Or.inr ⟨_, (g_nS_at σ 17 15 10)⟩) ?_
  show g_H E 5 50 54 [(0, vR 12)] [] ((g_pS (g_nS σ 17 15 10) 12 6 17), (g_z M 17 0), (g_z N 17 0)) _ _
  exact p_X9_init_54 J (g_pS (g_nS σ 17 15 10) 12 6 17) (g_z M 17 0) (g_z N 17 0)
set_option maxHeartbeats 4000000 in
set_option maxRecDepth 100000 in
theorem p_X9_init_38 {l : Launch} {E : gE} (J : J_X9_init E l) (σ : gS) (M : gM) (N : gN) : g_H E 3 30 38 [(0, vR 12)] [] (σ, M, N) (b_X9_init_38 σ M N) (eVSMN) := by
  unfold b_X9_init_38
  refine r_run J 2 (pc' := 41) (lv' := [(0, vR 12)]) (st' := [vI 10, vR 12]) rfl ?_
  refine r_chk (fun hf41 => ?_)
  refine r_newI J (B := 10) rfl wa_int (by decide) rfl (Nat.le_refl _) (by decide) (g_fr_0 hf41) (g_fr_n hf41) (by decide) (by decide) ?_
  show g_H E 4 40 43 [(0, vR 12)] [vR 16, vR 12] ((g_nS σ 16 14 10), (g_z M 16 0), (g_z N 16 0)) _ _
  refine r_chk (fun hs43 => ?_)
  refine r_putR J cls9 rfl (k := 5) (t := 14) (by decide) wf_9_28 rfl rfl (Or.inr ⟨rfl, rfl, rfl⟩) (g_is_at hs43) (Or.inr ⟨_, (g_nS_at σ 16 14 10)⟩) ?_
  show g_H E 4 40 46 [(0, vR 12)] [] ((g_pS (g_nS σ 16 14 10) 12 5 16), (g_z M 16 0), (g_z N 16 0)) _ _
  exact p_X9_init_46 J (g_pS (g_nS σ 16 14 10) 12 5 16) (g_z M 16 0) (g_z N 16 0)
set_option maxHeartbeats 4000000 in
set_option maxRecDepth 100000 in
theorem p_X9_init_30 {l : Launch} {E : gE} (J : J_X9_init E l) (σ : gS) (M : gM) (N : gN) : g_H E 2 20 30 [(0, vR 12)] [] (σ, M, N) (b_X9_init_30 σ M N) (eVSMN) := by
  unfold b_X9_init_30
  refine r_run J 2 (pc' := 33) (lv' := [(0, vR 12)]) (st' := [vI 10, vR 12]) rfl ?_
  refine r_chk (fun hf33 => ?_)
  refine r_newI J (B := 10) rfl wa_int (by decide) rfl (Nat.le_refl _) (by decide) (g_fr_0 hf33) (g_fr_n hf33) (by decide) (by decide) ?_
  show g_H E 3 30 35 [(0, vR 12)] [vR 15, vR 12] ((g_nS σ 15 14 10), (g_z M 15 0), (g_z N 15 0)) _ _
  refine r_chk (fun hs35 => ?_)
  refine r_putR J cls9 rfl (k := 4) (t := 14) (by decide) wf_9_25 rfl rfl (Or.inr ⟨rfl, rfl, rfl⟩) (g_is_at hs35) (Or.inr ⟨_, (g_nS_at σ 15 14 10)⟩) ?_
  show g_H E 3 30 38 [(0, vR 12)] [] ((g_pS (g_nS σ 15 14 10) 12 4 15), (g_z M 15 0), (g_z N 15 0)) _ _
  exact p_X9_init_38 J (g_pS (g_nS σ 15 14 10) 12 4 15) (g_z M 15 0) (g_z N 15 0)
set_option maxHeartbeats 4000000 in
set_option maxRecDepth 100000 in
theorem p_X9_init_22 {l : Launch} {E : gE} (J : J_X9_init E l) (σ : gS) (M : gM) (N : gN) : g_H E 1 10 22 [(0, vR 12)] [] (σ, M, N) (b_X9_init_22 σ M N) (eVSMN) := by
  unfold b_X9_init_22
  refine r_run J 2 (pc' := 25) (lv' := [(0, vR 12)]) (st' := [vI 10, vR 12]) rfl ?_
  refine r_chk (fun hf25 => ?_)
  refine r_newI J (B := 10) rfl wa_int (by decide) rfl (Nat.le_refl _) (by decide) (g_fr_0 hf25) (g_fr_n hf25) (by decide) (by decide) ?_
  show g_H E 2 20 27 [(0, vR 12)] [vR 14, vR 12] ((g_nS σ 14 14 10), (g_z M 14 0), (g_z N 14 0)) _ _
  refine r_chk (fun hs27 => ?_)
  refine r_putR J cls9 rfl (k := 3) (t := 14) (by decide) wf_9_22 rfl rfl (Or.inr ⟨rfl, rfl, rfl⟩) (g_is_at hs27) (Or.inr ⟨_, (g_nS_at σ 14 14 10)⟩) ?_
  show g_H E 2 20 30 [(0, vR 12)] [] ((g_pS (g_nS σ 14 14 10) 12 3 14), (g_z M 14 0), (g_z N 14 0)) _ _
  exact p_X9_init_30 J (g_pS (g_nS σ 14 14 10) 12 3 14) (g_z M 14 0) (g_z N 14 0)
set_option maxHeartbeats 4000000 in
set_option maxRecDepth 100000 in
theorem p_X9_init_17 {l : Launch} {E : gE} (J : J_X9_init E l) (σ : gS) (M : gM) (N : gN) : g_H E 1 10 17 [(0, vR 12)] [] (σ, M, N) (b_X9_init_17 σ M N) (eVSMN) := by
  unfold b_X9_init_17
  refine r_run J 2 (pc' := 19) (lv' := [(0, vR 12)]) (st' := [vI 0, vR 12]) rfl ?_
  refine r_chk (fun hs19 => ?_)
  refine r_putI J cls9 rfl (k := 2) (by decide) wf_9_19 rfl (Or.inl rfl) ⟨rfl, rfl⟩ (g_is_at hs19) ?_
  show g_H E 1 10 22 [(0, vR 12)] [] (σ, (g_up M 12 2 0), N) _ _
  exact p_X9_init_22 J σ (g_up M 12 2 0) N
set_option maxHeartbeats 4000000 in
set_option maxRecDepth 100000 in
theorem p_X9_init_12 {l : Launch} {E : gE} (J : J_X9_init E l) (σ : gS) (M : gM) (N : gN) : g_H E 1 10 12 [(0, vR 12)] [] (σ, M, N) (b_X9_init_12 σ M N) (eVSMN) := by
  unfold b_X9_init_12
  refine r_run J 2 (pc' := 14) (lv' := [(0, vR 12)]) (st' := [vI 0, vR 12]) rfl ?_
  refine r_chk (fun hs14 => ?_)
  refine r_putI J cls9 rfl (k := 1) (by decide) wf_9_15 rfl (Or.inl rfl) ⟨rfl, rfl⟩ (g_is_at hs14) ?_
  show g_H E 1 10 17 [(0, vR 12)] [] (σ, (g_up M 12 1 0), N) _ _
  exact p_X9_init_17 J σ (g_up M 12 1 0) N
set_option maxHeartbeats 4000000 in
set_option maxRecDepth 100000 in
theorem p_X9_init_0 {l : Launch} {E : gE} (J : J_X9_init E l) (σ : gS) (M : gM) (N : gN) : g_H E 0 0 0 [(0, vR 12)] [] (σ, M, N) (b_X9_init_0 σ M N) (eVSMN) := by
  unfold b_X9_init_0
  refine r_run J 1 (pc' := 1) (lv' := [(0, vR 12)]) (st' := [vR 12]) rfl ?_
  refine r_chk (fun hs1 => ?_)
  refine r_objI J (by rw [(g_is_at hs1)]; exact Option.some_ne_none _) wm_9_3 w_obj rfl ⟨by decide, Nat.le_of_ble_eq_true rfl⟩ ?_
  refine r_run J 2 (pc' := 7) (lv' := [(0, vR 12)]) (st' := [vI 10, vR 12]) rfl ?_
  refine r_chk (fun hf7 => ?_)
  refine r_newI J (B := 10) rfl wa_int (by decide) rfl (Nat.le_refl _) (by decide) (g_fr_0 hf7) (g_fr_n hf7) (by decide) (by decide) ?_
  show g_H E 1 10 9 [(0, vR 12)] [vR 13, vR 12] ((g_nS σ 13 14 10), (g_z M 13 0), (g_z N 13 0)) _ _
  refine r_chk (fun hs9 => ?_)
  refine r_putR J cls9 rfl (k := 0) (t := 14) (by decide) wf_9_9 rfl rfl (Or.inr ⟨rfl, rfl, rfl⟩) (g_is_at hs9) (Or.inr ⟨_, (g_nS_at σ 13 14 10)⟩) ?_
  show g_H E 1 10 12 [(0, vR 12)] [] ((g_pS (g_nS σ 13 14 10) 12 0 13), (g_z M 13 0), (g_z N 13 0)) _ _
  exact p_X9_init_12 J (g_pS (g_nS σ 13 14 10) 12 0 13) (g_z M 13 0) (g_z N 13 0)
noncomputable def f_X9_init (σ : gS) (M : gM) (N : gN) : Option (gS × gM × gN) := b_X9_init_0 σ M N
theorem c_X9_init {l : Launch} (σ : gS) (M : gM) (N : gN) (r : gS × gM × gN) (h : f_X9_init σ M N = some r) : g_Ct l yX9_init cX9_init 1 none 1 8 70 [vR 12] (σ, M, N) (eVSMN r) :=
  g_Ct.of tb_X9_init (by decide +kernel) tk_X9_init (Nat.le_of_ble_eq_true rfl) (fun E J => p_X9_init_0 J σ M N r h)
def tb_X9_gatherGuests : gT := [(0, .aload_n 0, 1, 0), (1, .iconst 0, 1, 0), (2, .putfield 44, 3, 0), (5, .iconst 0, 1, 0), (6, .istore_n 3, 1, 0), (7, .iload_n 3, 1, 0), (8, .aload_n 1, 1, 0), (9, .getfield 91, 3, 0), (12, .if_icmp .ge 77, 3, 0), (15, .aload_n 1, 1, 0), (16, .getfield 96, 3, 0), (19, .iload_n 3, 1, 0), (20, .aaload, 1, 0), (21, .aload_n 2, 1, 0), (22, .getfield 100, 3, 0), (25, .invokevirtual 103, 3, 0), (28, .ifCond .eq 55, 3, 0), (31, .aload_n 0, 1, 0), (32, .getfield 22, 3, 0), (35, .aload_n 0, 1, 0), (36, .getfield 44, 3, 0), (39, .iload_n 3, 1, 0), (40, .iastore, 1, 0), (41, .aload_n 0, 1, 0), (42, .getfield 25, 3, 0), (45, .aload_n 0, 1, 0), (46, .getfield 44, 3, 0), (49, .aload_n 2, 1, 0), (50, .iload_n 3, 1, 0), (51, .invokevirtual 74, 3, 0), (54, .iastore, 1, 0), (55, .aload_n 0, 1, 0), (56, .getfield 31, 3, 0), (59, .aload_n 0, 1, 0), (60, .getfield 44, 3, 0), (63, .aload_n 1, 1, 0), (64, .getfield 96, 3, 0), (67, .iload_n 3, 1, 0), (68, .aaload, 1, 0), (69, .getfield 109, 3, 0), (72, .bastore, 1, 0), (73, .aload_n 0, 1, 0), (74, .dup, 1, 0), (75, .getfield 44, 3, 0), (78, .iconst 1, 1, 1), (79, .iadd, 1, 0), (80, .putfield 44, 3, 0), (83, .iinc 3 1, 3, 1), (86, .goto (-79), 3, 0), (89, .iconst 0, 1, 0), (90, .istore_n 3, 1, 0), (91, .iload_n 3, 1, 0), (92, .aload_n 0, 1, 0), (93, .getfield 44, 3, 0), (96, .if_icmp .ge 64, 3, 0), (99, .aload_n 0, 1, 0), (100, .getfield 28, 3, 0), (103, .iload_n 3, 1, 0), (104, .iconst 0, 1, 0), (105, .iastore, 1, 0), (106, .iconst 0, 1, 0), (107, .istore 4, 2, 0), (109, .iload 4, 2, 0), (111, .iload_n 3, 1, 0), (112, .if_icmp .ge 42, 3, 0), (115, .aload_n 1, 1, 0), (116, .aload_n 0, 1, 0), (117, .getfield 22, 3, 0), (120, .iload_n 3, 1, 0), (121, .iaload, 1, 0), (122, .aload_n 0, 1, 0), (123, .getfield 22, 3, 0), (126, .iload 4, 2, 0), (128, .iaload, 1, 0), (129, .invokevirtual 113, 3, 0), (132, .ifCond .eq 16, 3, 0), (135, .aload_n 0, 1, 0), (136, .getfield 28, 3, 0), (139, .iload_n 3, 1, 0), (140, .dup2, 1, 0), (141, .iaload, 1, 0), (142, .iconst 1, 1, 1), (143, .iload 4, 2, 0), (145, .ishl, 1, 0), (146, .ior, 1, 0), (147, .iastore, 1, 0), (148, .iinc 4 1, 3, 1), (151, .goto (-42), 3, 0), (154, .iinc 3 1, 3, 1), (157, .goto (-66), 3, 0), (160, .return_, 1, 0)]
set_option maxRecDepth 100000 in
theorem tk_X9_gatherGuests : g_okT cX9_gatherGuests tb_X9_gatherGuests = true := by decide +kernel
abbrev J_X9_gatherGuests (E : gE) (l : Launch) : Prop := g_J E cX9_gatherGuests RX9 "gatherGuests" none 5 tb_X9_gatherGuests 3 0 0 l
noncomputable def b_X9_gatherGuests_148 (k91 : Int32 → gS → gM → Option (gM)) (k109 : Int32 → Int32 → gS → gM → Option (gM)) (x3 : Int32) (x4 : Int32) (σ : gS) (M : gM) : Option (gM) := k109 x3 (x4 + 1) σ M
noncomputable def l_X9_gatherGuests_109 (k91 : Int32 → gS → gM → Option (gM)) : Nat → Int32 → Int32 → gS → gM → Option (gM)
  | 0, _, _, _, _ => none
  | n + 1, x3, x4, σ, M => if x4 < x3 then if g_in x3 10 = true then if g_in x4 10 = true then (f_X5_mayShare (M 14 x3.toNatClampNeg) (M 14 x4.toNatClampNeg) σ M).bind fun q129 => if q129 = (0 : Int32) then b_X9_gatherGuests_148 k91 (fun x3 x4 σ M => l_X9_gatherGuests_109 k91 n x3 x4 σ M) x3 x4 σ M else if g_in x3 10 = true then if g_in x3 10 = true then b_X9_gatherGuests_148 k91 (fun x3 x4 σ M => l_X9_gatherGuests_109 k91 n x3 x4 σ M) x3 x4 σ (g_up M 16 (x3.toNatClampNeg) ((M 16 x3.toNatClampNeg) ||| ((1 : Int32) <<< (x4 &&& 31)))) else none else none else none else none else k91 (x3 + 1) σ M
noncomputable def l_X9_gatherGuests_91 : Nat → Int32 → gS → gM → Option (gM)
  | 0, _, _, _ => none
  | n + 1, x3, σ, M => if x3 < (M 12 9) then if g_in x3 10 = true then l_X9_gatherGuests_109 (fun x3 σ M => l_X9_gatherGuests_91 n x3 σ M) g_FU x3 0 σ (g_up M 16 (x3.toNatClampNeg) 0) else none else some M
noncomputable def b_X9_gatherGuests_83 (k7 : Nat → Int32 → gS → gM → Option (gM)) (r2 : Nat) (x3 : Int32) (σ : gS) (M : gM) : Option (gM) := k7 r2 (x3 + 1) σ M
noncomputable def b_X9_gatherGuests_73 (k7 : Nat → Int32 → gS → gM → Option (gM)) (r2 : Nat) (x3 : Int32) (σ : gS) (M : gM) : Option (gM) := b_X9_gatherGuests_83 k7 r2 x3 σ (g_up M 12 9 ((M 12 9) + (1 : Int32)))
noncomputable def l_X9_gatherGuests_7 : Nat → Nat → Int32 → gS → gM → Option (gM)
  | 0, _, _, _, _ => none
  | n + 1, r2, x3, σ, M => if x3 < (M 2 1) then if g_in x3 10 = true then if g_is σ r2 10 = true then if g_is σ (σ.2 3 x3.toNatClampNeg) 6 = true then (f_X6_isThereIn (σ.2 3 x3.toNatClampNeg) (M r2 0) σ M).bind fun q25 => if q25 = (0 : Int32) then b_X9_gatherGuests_83 (fun r2 x3 σ M => l_X9_gatherGuests_7 n r2 x3 σ M) r2 x3 σ M else if g_in (M 12 9) 10 = true then (f_X10_roomOfGuest r2 x3 σ (g_up M 14 ((M 12 9).toNatClampNeg) x3)).bind fun q51 => if g_in ((g_up M 14 ((M 12 9).toNatClampNeg) x3) 12 9) 10 = true then if g_in x3 10 = true then if g_in ((g_up (g_up M 14 ((M 12 9).toNatClampNeg) x3) 15 (((g_up M 14 ((M 12 9).toNatClampNeg) x3) 12 9).toNatClampNeg) q51) 12 9) 10 = true then b_X9_gatherGuests_73 (fun r2 x3 σ M => l_X9_gatherGuests_7 n r2 x3 σ M) r2 x3 σ (g_up (g_up (g_up M 14 ((M 12 9).toNatClampNeg) x3) 15 (((g_up M 14 ((M 12 9).toNatClampNeg) x3) 12 9).toNatClampNeg) q51) 17 (((g_up (g_up M 14 ((M 12 9).toNatClampNeg) x3) 15 (((g_up M 14 ((M 12 9).toNatClampNeg) x3) 12 9).toNatClampNeg) q51) 12 9).toNatClampNeg) (vp_nar .boolean ((g_up (g_up M 14 ((M 12 9).toNatClampNeg) x3) 15 (((g_up M 14 ((M 12 9).toNatClampNeg) x3) 12 9).toNatClampNeg) q51) (σ.2 3 x3.toNatClampNeg) 2))) else none else none else none else none else none else none else none else l_X9_gatherGuests_91 g_FU 0 σ M
noncomputable def b_X9_gatherGuests_0 (r2 : Nat) (σ : gS) (M : gM) : Option (gM) := l_X9_gatherGuests_7 g_FU r2 0 σ (g_up M 12 9 0)
set_option maxHeartbeats 4000000 in
set_option maxRecDepth 100000 in
theorem p_X9_gatherGuests_148 {l : Launch} {E : gE} (J : J_X9_gatherGuests E l) {k91 : Int32 → gS → gM → Option (gM)} (H91 : ∀ (x3 : Int32) (σ : gS) (M : gM) (N : gN) (_ : g_layC σ), g_H E 0 0 91 [(0, vR 12), (1, vR 2), (3, vI x3)] [] (σ, M, N) (k91 x3 σ M) (eVM σ N)) {k109 : Int32 → Int32 → gS → gM → Option (gM)} (H109 : ∀ (x3 : Int32) (x4 : Int32) (σ : gS) (M : gM) (N : gN) (_ : g_layC σ), g_H E 0 0 109 [(0, vR 12), (1, vR 2), (3, vI x3), (4, vI x4)] [] (σ, M, N) (k109 x3 x4 σ M) (eVM σ N)) (x3 : Int32) (x4 : Int32) (σ : gS) (M : gM) (N : gN) (hL : g_layC σ) : g_H E 0 0 148 [(0, vR 12), (1, vR 2), (3, vI x3), (4, vI x4)] [] (σ, M, N) (b_X9_gatherGuests_148 k91 k109 x3 x4 σ M) (eVM σ N) := by
  unfold b_X9_gatherGuests_148
  refine r_run J 2 (pc' := 109) (lv' := [(4, vI (x4 + 1)), (0, vR 12), (1, vR 2), (3, vI x3)]) (st' := []) rfl ?_
  refine r_sub [1, 2, 3, 0] (lv' := [(0, vR 12), (1, vR 2), (3, vI x3), (4, vI (x4 + 1))]) rfl ?_
  exact H109 x3 (x4 + 1) σ M N hL
set_option maxHeartbeats 4000000 in
set_option maxRecDepth 100000 in
theorem p_X9_gatherGuests_109 {l : Launch} {E : gE} (J : J_X9_gatherGuests E l) {k91 : Int32 → gS → gM → Option (gM)} (H91 : ∀ (x3 : Int32) (σ : gS) (M : gM) (N : gN) (_ : g_layC σ), g_H E 0 0 91 [(0, vR 12), (1, vR 2), (3, vI x3)] [] (σ, M, N) (k91 x3 σ M) (eVM σ N)) : ∀ (n : Nat) (x3 : Int32) (x4 : Int32) (σ : gS) (M : gM) (N : gN) (hL : g_layC σ), g_H E 0 0 109 [(0, vR 12), (1, vR 2), (3, vI x3), (4, vI x4)] [] (σ, M, N) (l_X9_gatherGuests_109 k91 n x3 x4 σ M) (eVM σ N) := by
  intro n
  induction n with
  | zero => intros; exact h_none
  | succ n ih =>
    intro x3 x4 σ M N hL
    rw [l_X9_gatherGuests_109]
    refine r_run J 2 (pc' := 112) (lv' := [(0, vR 12), (1, vR 2), (3, vI x3), (4, vI x4)]) (st' := [vI x3, vI x4]) rfl ?_
    refine r_icmp_ge J (tgt := 154) rfl (by decide) (fun c112 => ?_) (fun c112 => ?_)
    · refine r_run J 2 (pc' := 117) (lv' := [(0, vR 12), (1, vR 2), (3, vI x3), (4, vI x4)]) (st' := [vR 12, vR 2]) rfl ?_
      refine r_getR J cls9 rfl (k := 3) (t := 14) (by decide) wf_9_22 rfl rfl (ly_12 hL) (lr_12_3 hL) (fun _ => ?_)
      show g_H E 0 0 120 [(0, vR 12), (1, vR 2), (3, vI x3), (4, vI x4)] [vR 14, vR 2] (σ, M, N) _ _
      refine r_run J 1 (pc' := 121) (lv' := [(0, vR 12), (1, vR 2), (3, vI x3), (4, vI x4)]) (st' := [vI x3, vR 14, vR 2]) rfl ?_
      refine r_iald J rfl (ly_14 hL) (fun i121 => ?_)
      show g_H E 0 0 122 [(0, vR 12), (1, vR 2), (3, vI x3), (4, vI x4)] [vI (M 14 x3.toNatClampNeg), vR 2] (σ, M, N) _ _
      refine r_run J 1 (pc' := 123) (lv' := [(0, vR 12), (1, vR 2), (3, vI x3), (4, vI x4)]) (st' := [vR 12, vI (M 14 x3.toNatClampNeg), vR 2]) rfl ?_
      refine r_getR J cls9 rfl (k := 3) (t := 14) (by decide) wf_9_22 rfl rfl (ly_12 hL) (lr_12_3 hL) (fun _ => ?_)
      show g_H E 0 0 126 [(0, vR 12), (1, vR 2), (3, vI x3), (4, vI x4)] [vR 14, vI (M 14 x3.toNatClampNeg), vR 2] (σ, M, N) _ _
      refine r_run J 1 (pc' := 128) (lv' := [(0, vR 12), (1, vR 2), (3, vI x3), (4, vI x4)]) (st' := [vI x4, vR 14, vI (M 14 x3.toNatClampNeg), vR 2]) rfl ?_
      refine r_iald J rfl (ly_14 hL) (fun i128 => ?_)
      show g_H E 0 0 129 [(0, vR 12), (1, vR 2), (3, vI x3), (4, vI x4)] [vI (M 14 x4.toNatClampNeg), vI (M 14 x3.toNatClampNeg), vR 2] (σ, M, N) _ _
      refine r_callV J (As := [vI (M 14 x3.toNatClampNeg), vI (M 14 x4.toNatClampNeg)]) (st := []) (fun r hr => c_X5_mayShare (M 14 x3.toNatClampNeg) (M 14 x4.toNatClampNeg) σ M N hL r hr) cls5 (ly_2 hL) wm_9_113 wy_X5_mayShare wd_X5_mayShare ⟨by decide, by decide, by decide, by decide, Nat.le_of_ble_eq_true rfl⟩ rfl rfl (fun q129 hq129 => ?_)
      show g_H E 0 0 132 [(0, vR 12), (1, vR 2), (3, vI x3), (4, vI x4)] [vI q129] (σ, M, N) _ _
      refine r_if_eq J (tgt := 148) rfl (by decide) (fun c132 => ?_) (fun c132 => ?_)
      · exact p_X9_gatherGuests_148 J H91 ih x3 x4 σ M N hL
      · refine r_run J 1 (pc' := 136) (lv' := [(0, vR 12), (1, vR 2), (3, vI x3), (4, vI x4)]) (st' := [vR 12]) rfl ?_
        refine r_getR J cls9 rfl (k := 5) (t := 14) (by decide) wf_9_28 rfl rfl (ly_12 hL) (lr_12_5 hL) (fun _ => ?_)
        show g_H E 0 0 139 [(0, vR 12), (1, vR 2), (3, vI x3), (4, vI x4)] [vR 16] (σ, M, N) _ _
        refine r_run J 2 (pc' := 141) (lv' := [(0, vR 12), (1, vR 2), (3, vI x3), (4, vI x4)]) (st' := [vI x3, vR 16, vI x3, vR 16]) rfl ?_
        refine r_iald J rfl (ly_16 hL) (fun i141 => ?_)
        show g_H E 0 0 142 [(0, vR 12), (1, vR 2), (3, vI x3), (4, vI x4)] [vI (M 16 x3.toNatClampNeg), vI x3, vR 16] (σ, M, N) _ _
        refine r_run J 4 (pc' := 147) (lv' := [(0, vR 12), (1, vR 2), (3, vI x3), (4, vI x4)]) (st' := [vI ((M 16 x3.toNatClampNeg) ||| ((1 : Int32) <<< (x4 &&& 31))), vI x3, vR 16]) rfl ?_
        refine r_iast J rfl (ly_16 hL) (fun i147 => ?_)
        show g_H E 0 0 148 [(0, vR 12), (1, vR 2), (3, vI x3), (4, vI x4)] [] (σ, (g_up M 16 (x3.toNatClampNeg) ((M 16 x3.toNatClampNeg) ||| ((1 : Int32) <<< (x4 &&& 31)))), N) _ _
        exact p_X9_gatherGuests_148 J H91 ih x3 x4 σ (g_up M 16 (x3.toNatClampNeg) ((M 16 x3.toNatClampNeg) ||| ((1 : Int32) <<< (x4 &&& 31)))) N hL
    · refine r_run J 2 (pc' := 91) (lv' := [(3, vI (x3 + 1)), (0, vR 12), (1, vR 2), (4, vI x4)]) (st' := []) rfl ?_
      refine r_sub [1, 2, 0] (lv' := [(0, vR 12), (1, vR 2), (3, vI (x3 + 1))]) rfl ?_
      exact H91 (x3 + 1) σ M N hL
set_option maxHeartbeats 4000000 in
set_option maxRecDepth 100000 in
theorem p_X9_gatherGuests_91 {l : Launch} {E : gE} (J : J_X9_gatherGuests E l) : ∀ (n : Nat) (x3 : Int32) (σ : gS) (M : gM) (N : gN) (hL : g_layC σ), g_H E 0 0 91 [(0, vR 12), (1, vR 2), (3, vI x3)] [] (σ, M, N) (l_X9_gatherGuests_91 n x3 σ M) (eVM σ N) := by
  intro n
  induction n with
  | zero => intros; exact h_none
  | succ n ih =>
    intro x3 σ M N hL
    rw [l_X9_gatherGuests_91]
    refine r_run J 2 (pc' := 93) (lv' := [(0, vR 12), (1, vR 2), (3, vI x3)]) (st' := [vR 12, vI x3]) rfl ?_
    refine r_getI J cls9 rfl (k := 9) (by decide) wf_9_44 rfl (ly_12 hL) ?_
    show g_H E 0 0 96 [(0, vR 12), (1, vR 2), (3, vI x3)] [vI (M 12 9), vI x3] (σ, M, N) _ _
    refine r_icmp_ge J (tgt := 160) rfl (by decide) (fun c96 => ?_) (fun c96 => ?_)
    · refine r_run J 1 (pc' := 100) (lv' := [(0, vR 12), (1, vR 2), (3, vI x3)]) (st' := [vR 12]) rfl ?_
      refine r_getR J cls9 rfl (k := 5) (t := 14) (by decide) wf_9_28 rfl rfl (ly_12 hL) (lr_12_5 hL) (fun _ => ?_)
      show g_H E 0 0 103 [(0, vR 12), (1, vR 2), (3, vI x3)] [vR 16] (σ, M, N) _ _
      refine r_run J 2 (pc' := 105) (lv' := [(0, vR 12), (1, vR 2), (3, vI x3)]) (st' := [vI 0, vI x3, vR 16]) rfl ?_
      refine r_iast J rfl (ly_16 hL) (fun i105 => ?_)
      show g_H E 0 0 106 [(0, vR 12), (1, vR 2), (3, vI x3)] [] (σ, (g_up M 16 (x3.toNatClampNeg) 0), N) _ _
      refine r_run J 2 (pc' := 109) (lv' := [(4, vI 0), (0, vR 12), (1, vR 2), (3, vI x3)]) (st' := []) rfl ?_
      refine r_sub [1, 2, 3, 0] (lv' := [(0, vR 12), (1, vR 2), (3, vI x3), (4, vI 0)]) rfl ?_
      exact p_X9_gatherGuests_109 J ih g_FU x3 0 σ (g_up M 16 (x3.toNatClampNeg) 0) N hL
    · exact r_vret J rfl rfl rfl (by decide) (by decide)
set_option maxHeartbeats 4000000 in
set_option maxRecDepth 100000 in
theorem p_X9_gatherGuests_83 {l : Launch} {E : gE} (J : J_X9_gatherGuests E l) {k7 : Nat → Int32 → gS → gM → Option (gM)} (H7 : ∀ (r2 : Nat) (x3 : Int32) (σ : gS) (M : gM) (N : gN) (_ : g_layC σ), g_H E 0 0 7 [(0, vR 12), (1, vR 2), (2, vR r2), (3, vI x3)] [] (σ, M, N) (k7 r2 x3 σ M) (eVM σ N)) (r2 : Nat) (x3 : Int32) (σ : gS) (M : gM) (N : gN) (hL : g_layC σ) : g_H E 0 0 83 [(0, vR 12), (1, vR 2), (2, vR r2), (3, vI x3)] [] (σ, M, N) (b_X9_gatherGuests_83 k7 r2 x3 σ M) (eVM σ N) := by
  unfold b_X9_gatherGuests_83
  refine r_run J 2 (pc' := 7) (lv' := [(3, vI (x3 + 1)), (0, vR 12), (1, vR 2), (2, vR r2)]) (st' := []) rfl ?_
  refine r_sub [1, 2, 3, 0] (lv' := [(0, vR 12), (1, vR 2), (2, vR r2), (3, vI (x3 + 1))]) rfl ?_
  exact H7 r2 (x3 + 1) σ M N hL
set_option maxHeartbeats 4000000 in
set_option maxRecDepth 100000 in
theorem p_X9_gatherGuests_73 {l : Launch} {E : gE} (J : J_X9_gatherGuests E l) {k7 : Nat → Int32 → gS → gM → Option (gM)} (H7 : ∀ (r2 : Nat) (x3 : Int32) (σ : gS) (M : gM) (N : gN) (_ : g_layC σ), g_H E 0 0 7 [(0, vR 12), (1, vR 2), (2, vR r2), (3, vI x3)] [] (σ, M, N) (k7 r2 x3 σ M) (eVM σ N)) (r2 : Nat) (x3 : Int32) (σ : gS) (M : gM) (N : gN) (hL : g_layC σ) : g_H E 0 0 73 [(0, vR 12), (1, vR 2), (2, vR r2), (3, vI x3)] [] (σ, M, N) (b_X9_gatherGuests_73 k7 r2 x3 σ M) (eVM σ N) := by
  unfold b_X9_gatherGuests_73
  refine r_run J 2 (pc' := 75) (lv' := [(0, vR 12), (1, vR 2), (2, vR r2), (3, vI x3)]) (st' := [vR 12, vR 12]) rfl ?_
  refine r_getI J cls9 rfl (k := 9) (by decide) wf_9_44 rfl (ly_12 hL) ?_
  show g_H E 0 0 78 [(0, vR 12), (1, vR 2), (2, vR r2), (3, vI x3)] [vI (M 12 9), vR 12] (σ, M, N) _ _
  refine r_run J 2 (pc' := 80) (lv' := [(0, vR 12), (1, vR 2), (2, vR r2), (3, vI x3)]) (st' := [vI ((M 12 9) + (1 : Int32)), vR 12]) rfl ?_
  refine r_putI J cls9 rfl (k := 9) (by decide) wf_9_44 rfl (Or.inl rfl) ⟨rfl, rfl⟩ (ly_12 hL) ?_
  show g_H E 0 0 83 [(0, vR 12), (1, vR 2), (2, vR r2), (3, vI x3)] [] (σ, (g_up M 12 9 ((M 12 9) + (1 : Int32))), N) _ _
  exact p_X9_gatherGuests_83 J H7 r2 x3 σ (g_up M 12 9 ((M 12 9) + (1 : Int32))) N hL
set_option maxHeartbeats 4000000 in
set_option maxRecDepth 100000 in
theorem p_X9_gatherGuests_7 {l : Launch} {E : gE} (J : J_X9_gatherGuests E l) : ∀ (n : Nat) (r2 : Nat) (x3 : Int32) (σ : gS) (M : gM) (N : gN) (hL : g_layC σ), g_H E 0 0 7 [(0, vR 12), (1, vR 2), (2, vR r2), (3, vI x3)] [] (σ, M, N) (l_X9_gatherGuests_7 n r2 x3 σ M) (eVM σ N) := by
  intro n
  induction n with
  | zero => intros; exact h_none
  | succ n ih =>
    intro r2 x3 σ M N hL
    rw [l_X9_gatherGuests_7]
    refine r_run J 2 (pc' := 9) (lv' := [(0, vR 12), (1, vR 2), (2, vR r2), (3, vI x3)]) (st' := [vR 2, vI x3]) rfl ?_
    refine r_getI J cls5 rfl (k := 1) (by decide) wf_9_91 rfl (ly_2 hL) ?_
    show g_H E 0 0 12 [(0, vR 12), (1, vR 2), (2, vR r2), (3, vI x3)] [vI (M 2 1), vI x3] (σ, M, N) _ _
    refine r_icmp_ge J (tgt := 89) rfl (by decide) (fun c12 => ?_) (fun c12 => ?_)
    · refine r_run J 1 (pc' := 16) (lv' := [(0, vR 12), (1, vR 2), (2, vR r2), (3, vI x3)]) (st' := [vR 2]) rfl ?_
      refine r_getR J cls5 rfl (k := 0) (t := 17) (by decide) wf_9_96 rfl rfl (ly_2 hL) (lr_2_0 hL) (fun _ => ?_)
      show g_H E 0 0 19 [(0, vR 12), (1, vR 2), (2, vR r2), (3, vI x3)] [vR 3] (σ, M, N) _ _
      refine r_run J 1 (pc' := 20) (lv' := [(0, vR 12), (1, vR 2), (2, vR r2), (3, vI x3)]) (st' := [vI x3, vR 3]) rfl ?_
      refine r_aald J rfl (Or.inl ⟨rfl, rfl⟩) (ly_3 hL) (fun i20 _ => ?_)
      show g_H E 0 0 21 [(0, vR 12), (1, vR 2), (2, vR r2), (3, vI x3)] [vR (σ.2 3 x3.toNatClampNeg)] (σ, M, N) _ _
      refine r_run J 1 (pc' := 22) (lv' := [(0, vR 12), (1, vR 2), (2, vR r2), (3, vI x3)]) (st' := [vR r2, vR (σ.2 3 x3.toNatClampNeg)]) rfl ?_
      refine r_chk (fun hs22 => ?_)
      refine r_getI J cls10 rfl (k := 0) (by decide) wf_9_100 rfl (g_is_at hs22) ?_
      show g_H E 0 0 25 [(0, vR 12), (1, vR 2), (2, vR r2), (3, vI x3)] [vI (M r2 0), vR (σ.2 3 x3.toNatClampNeg)] (σ, M, N) _ _
      refine r_chk (fun hs25 => ?_)
      refine r_callV J (As := [vI (M r2 0)]) (st := []) (fun r hr => c_X6_isThereIn (σ.2 3 x3.toNatClampNeg) (M r2 0) σ M N hL r hr) cls6 (g_is_at hs25) wm_9_103 wy_X6_isThereIn wd_X6_isThereIn ⟨by decide, by decide, by decide, by decide, Nat.le_of_ble_eq_true rfl⟩ rfl rfl (fun q25 hq25 => ?_)
      show g_H E 0 0 28 [(0, vR 12), (1, vR 2), (2, vR r2), (3, vI x3)] [vI q25] (σ, M, N) _ _
      refine r_if_eq J (tgt := 83) rfl (by decide) (fun c28 => ?_) (fun c28 => ?_)
      · exact p_X9_gatherGuests_83 J ih r2 x3 σ M N hL
      · refine r_run J 1 (pc' := 32) (lv' := [(0, vR 12), (1, vR 2), (2, vR r2), (3, vI x3)]) (st' := [vR 12]) rfl ?_
        refine r_getR J cls9 rfl (k := 3) (t := 14) (by decide) wf_9_22 rfl rfl (ly_12 hL) (lr_12_3 hL) (fun _ => ?_)
        show g_H E 0 0 35 [(0, vR 12), (1, vR 2), (2, vR r2), (3, vI x3)] [vR 14] (σ, M, N) _ _
        refine r_run J 1 (pc' := 36) (lv' := [(0, vR 12), (1, vR 2), (2, vR r2), (3, vI x3)]) (st' := [vR 12, vR 14]) rfl ?_
        refine r_getI J cls9 rfl (k := 9) (by decide) wf_9_44 rfl (ly_12 hL) ?_
        show g_H E 0 0 39 [(0, vR 12), (1, vR 2), (2, vR r2), (3, vI x3)] [vI (M 12 9), vR 14] (σ, M, N) _ _
        refine r_run J 1 (pc' := 40) (lv' := [(0, vR 12), (1, vR 2), (2, vR r2), (3, vI x3)]) (st' := [vI x3, vI (M 12 9), vR 14]) rfl ?_
        refine r_iast J rfl (ly_14 hL) (fun i40 => ?_)
        show g_H E 0 0 41 [(0, vR 12), (1, vR 2), (2, vR r2), (3, vI x3)] [] (σ, (g_up M 14 ((M 12 9).toNatClampNeg) x3), N) _ _
        refine r_run J 1 (pc' := 42) (lv' := [(0, vR 12), (1, vR 2), (2, vR r2), (3, vI x3)]) (st' := [vR 12]) rfl ?_
        refine r_getR J cls9 rfl (k := 4) (t := 14) (by decide) wf_9_25 rfl rfl (ly_12 hL) (lr_12_4 hL) (fun _ => ?_)
        show g_H E 0 0 45 [(0, vR 12), (1, vR 2), (2, vR r2), (3, vI x3)] [vR 15] (σ, (g_up M 14 ((M 12 9).toNatClampNeg) x3), N) _ _
        refine r_run J 1 (pc' := 46) (lv' := [(0, vR 12), (1, vR 2), (2, vR r2), (3, vI x3)]) (st' := [vR 12, vR 15]) rfl ?_
        refine r_getI J cls9 rfl (k := 9) (by decide) wf_9_44 rfl (ly_12 hL) ?_
        show g_H E 0 0 49 [(0, vR 12), (1, vR 2), (2, vR r2), (3, vI x3)] [vI ((g_up M 14 ((M 12 9).toNatClampNeg) x3) 12 9), vR 15] (σ, (g_up M 14 ((M 12 9).toNatClampNeg) x3), N) _ _
        refine r_run J 2 (pc' := 51) (lv' := [(0, vR 12), (1, vR 2), (2, vR r2), (3, vI x3)]) (st' := [vI x3, vR r2, vI ((g_up M 14 ((M 12 9).toNatClampNeg) x3) 12 9), vR 15]) rfl ?_
        refine r_callV J (As := [vI x3]) (st := [vI ((g_up M 14 ((M 12 9).toNatClampNeg) x3) 12 9), vR 15]) (fun r hr => c_X10_roomOfGuest r2 x3 σ (g_up M 14 ((M 12 9).toNatClampNeg) x3) N hL r hr) cls10 (g_is_at hs22) wm_9_74 wy_X10_roomOfGuest wd_X10_roomOfGuest ⟨by decide, by decide, by decide, by decide, Nat.le_of_ble_eq_true rfl⟩ rfl rfl (fun q51 hq51 => ?_)
        show g_H E 0 0 54 [(0, vR 12), (1, vR 2), (2, vR r2), (3, vI x3)] [vI q51, vI ((g_up M 14 ((M 12 9).toNatClampNeg) x3) 12 9), vR 15] (σ, (g_up M 14 ((M 12 9).toNatClampNeg) x3), N) _ _
        refine r_iast J rfl (ly_15 hL) (fun i54 => ?_)
        show g_H E 0 0 55 [(0, vR 12), (1, vR 2), (2, vR r2), (3, vI x3)] [] (σ, (g_up (g_up M 14 ((M 12 9).toNatClampNeg) x3) 15 (((g_up M 14 ((M 12 9).toNatClampNeg) x3) 12 9).toNatClampNeg) q51), N) _ _
        refine r_run J 1 (pc' := 56) (lv' := [(0, vR 12), (1, vR 2), (2, vR r2), (3, vI x3)]) (st' := [vR 12]) rfl ?_
        refine r_getR J cls9 rfl (k := 6) (t := 15) (by decide) wf_9_31 rfl rfl (ly_12 hL) (lr_12_6 hL) (fun _ => ?_)
        show g_H E 0 0 59 [(0, vR 12), (1, vR 2), (2, vR r2), (3, vI x3)] [vR 17] (σ, (g_up (g_up M 14 ((M 12 9).toNatClampNeg) x3) 15 (((g_up M 14 ((M 12 9).toNatClampNeg) x3) 12 9).toNatClampNeg) q51), N) _ _
        refine r_run J 1 (pc' := 60) (lv' := [(0, vR 12), (1, vR 2), (2, vR r2), (3, vI x3)]) (st' := [vR 12, vR 17]) rfl ?_
        refine r_getI J cls9 rfl (k := 9) (by decide) wf_9_44 rfl (ly_12 hL) ?_
        show g_H E 0 0 63 [(0, vR 12), (1, vR 2), (2, vR r2), (3, vI x3)] [vI ((g_up (g_up M 14 ((M 12 9).toNatClampNeg) x3) 15 (((g_up M 14 ((M 12 9).toNatClampNeg) x3) 12 9).toNatClampNeg) q51) 12 9), vR 17] (σ, (g_up (g_up M 14 ((M 12 9).toNatClampNeg) x3) 15 (((g_up M 14 ((M 12 9).toNatClampNeg) x3) 12 9).toNatClampNeg) q51), N) _ _
        refine r_run J 1 (pc' := 64) (lv' := [(0, vR 12), (1, vR 2), (2, vR r2), (3, vI x3)]) (st' := [vR 2, vI ((g_up (g_up M 14 ((M 12 9).toNatClampNeg) x3) 15 (((g_up M 14 ((M 12 9).toNatClampNeg) x3) 12 9).toNatClampNeg) q51) 12 9), vR 17]) rfl ?_
        refine r_getR J cls5 rfl (k := 0) (t := 17) (by decide) wf_9_96 rfl rfl (ly_2 hL) (lr_2_0 hL) (fun _ => ?_)
        show g_H E 0 0 67 [(0, vR 12), (1, vR 2), (2, vR r2), (3, vI x3)] [vR 3, vI ((g_up (g_up M 14 ((M 12 9).toNatClampNeg) x3) 15 (((g_up M 14 ((M 12 9).toNatClampNeg) x3) 12 9).toNatClampNeg) q51) 12 9), vR 17] (σ, (g_up (g_up M 14 ((M 12 9).toNatClampNeg) x3) 15 (((g_up M 14 ((M 12 9).toNatClampNeg) x3) 12 9).toNatClampNeg) q51), N) _ _
        refine r_run J 1 (pc' := 68) (lv' := [(0, vR 12), (1, vR 2), (2, vR r2), (3, vI x3)]) (st' := [vI x3, vR 3, vI ((g_up (g_up M 14 ((M 12 9).toNatClampNeg) x3) 15 (((g_up M 14 ((M 12 9).toNatClampNeg) x3) 12 9).toNatClampNeg) q51) 12 9), vR 17]) rfl ?_
        refine r_aald J rfl (Or.inl ⟨rfl, rfl⟩) (ly_3 hL) (fun i68 _ => ?_)
        show g_H E 0 0 69 [(0, vR 12), (1, vR 2), (2, vR r2), (3, vI x3)] [vR (σ.2 3 x3.toNatClampNeg), vI ((g_up (g_up M 14 ((M 12 9).toNatClampNeg) x3) 15 (((g_up M 14 ((M 12 9).toNatClampNeg) x3) 12 9).toNatClampNeg) q51) 12 9), vR 17] (σ, (g_up (g_up M 14 ((M 12 9).toNatClampNeg) x3) 15 (((g_up M 14 ((M 12 9).toNatClampNeg) x3) 12 9).toNatClampNeg) q51), N) _ _
        refine r_getI J cls6 rfl (k := 2) (by decide) wf_9_109 rfl (g_is_at hs25) ?_
        show g_H E 0 0 72 [(0, vR 12), (1, vR 2), (2, vR r2), (3, vI x3)] [vI ((g_up (g_up M 14 ((M 12 9).toNatClampNeg) x3) 15 (((g_up M 14 ((M 12 9).toNatClampNeg) x3) 12 9).toNatClampNeg) q51) (σ.2 3 x3.toNatClampNeg) 2), vI ((g_up (g_up M 14 ((M 12 9).toNatClampNeg) x3) 15 (((g_up M 14 ((M 12 9).toNatClampNeg) x3) 12 9).toNatClampNeg) q51) 12 9), vR 17] (σ, (g_up (g_up M 14 ((M 12 9).toNatClampNeg) x3) 15 (((g_up M 14 ((M 12 9).toNatClampNeg) x3) 12 9).toNatClampNeg) q51), N) _ _
        refine r_zast J rfl (ly_17 hL) (fun i72 => ?_)
        show g_H E 0 0 73 [(0, vR 12), (1, vR 2), (2, vR r2), (3, vI x3)] [] (σ, (g_up (g_up (g_up M 14 ((M 12 9).toNatClampNeg) x3) 15 (((g_up M 14 ((M 12 9).toNatClampNeg) x3) 12 9).toNatClampNeg) q51) 17 (((g_up (g_up M 14 ((M 12 9).toNatClampNeg) x3) 15 (((g_up M 14 ((M 12 9).toNatClampNeg) x3) 12 9).toNatClampNeg) q51) 12 9).toNatClampNeg) (vp_nar .boolean ((g_up (g_up M 14 ((M 12 9).toNatClampNeg) x3) 15 (((g_up M 14 ((M 12 9).toNatClampNeg) x3) 12 9).toNatClampNeg) q51) (σ.2 3 x3.toNatClampNeg) 2))), N) _ _
        exact p_X9_gatherGuests_73 J ih r2 x3 σ (g_up (g_up (g_up M 14 ((M 12 9).toNatClampNeg) x3) 15 (((g_up M 14 ((M 12 9).toNatClampNeg) x3) 12 9).toNatClampNeg) q51) 17 (((g_up (g_up M 14 ((M 12 9).toNatClampNeg) x3) 15 (((g_up M 14 ((M 12 9).toNatClampNeg) x3) 12 9).toNatClampNeg) q51) 12 9).toNatClampNeg) (vp_nar .boolean ((g_up (g_up M 14 ((M 12 9).toNatClampNeg) x3) 15 (((g_up M 14 ((M 12 9).toNatClampNeg) x3) 12 9).toNatClampNeg) q51) (σ.2 3 x3.toNatClampNeg) 2))) N hL
    · refine r_run J 2 (pc' := 91) (lv' := [(3, vI 0), (0, vR 12), (1, vR 2), (2, vR r2)]) (st' := []) rfl ?_
      refine r_sub [1, 2, 0] (lv' := [(0, vR 12), (1, vR 2), (3, vI 0)]) rfl ?_
      exact p_X9_gatherGuests_91 J g_FU 0 σ M N hL
set_option maxHeartbeats 4000000 in
set_option maxRecDepth 100000 in
theorem p_X9_gatherGuests_0 {l : Launch} {E : gE} (J : J_X9_gatherGuests E l) (r2 : Nat) (σ : gS) (M : gM) (N : gN) (hL : g_layC σ) : g_H E 0 0 0 [(0, vR 12), (1, vR 2), (2, vR r2)] [] (σ, M, N) (b_X9_gatherGuests_0 r2 σ M) (eVM σ N) := by
  unfold b_X9_gatherGuests_0
  refine r_run J 2 (pc' := 2) (lv' := [(0, vR 12), (1, vR 2), (2, vR r2)]) (st' := [vI 0, vR 12]) rfl ?_
  refine r_putI J cls9 rfl (k := 9) (by decide) wf_9_44 rfl (Or.inl rfl) ⟨rfl, rfl⟩ (ly_12 hL) ?_
  show g_H E 0 0 5 [(0, vR 12), (1, vR 2), (2, vR r2)] [] (σ, (g_up M 12 9 0), N) _ _
  refine r_run J 2 (pc' := 7) (lv' := [(3, vI 0), (0, vR 12), (1, vR 2), (2, vR r2)]) (st' := []) rfl ?_
  refine r_sub [1, 2, 3, 0] (lv' := [(0, vR 12), (1, vR 2), (2, vR r2), (3, vI 0)]) rfl ?_
  exact p_X9_gatherGuests_7 J g_FU r2 0 σ (g_up M 12 9 0) N hL
noncomputable def f_X9_gatherGuests (r2 : Nat) (σ : gS) (M : gM) : Option (gM) := b_X9_gatherGuests_0 r2 σ M
theorem c_X9_gatherGuests {l : Launch} (r2 : Nat) (σ : gS) (M : gM) (N : gN) (hL : g_layC σ) (r : gM) (h : f_X9_gatherGuests r2 σ M = some r) : g_Ct l yX9_gatherGuests cX9_gatherGuests 5 none 3 0 0 [vR 12, vR 2, vR r2] (σ, M, N) (eVM σ N r) :=
  g_Ct.of tb_X9_gatherGuests (by decide +kernel) tk_X9_gatherGuests (Nat.le_of_ble_eq_true rfl) (fun E J => p_X9_gatherGuests_0 J r2 σ M N hL r h)
def tb_X9_gatherRooms : gT := [(0, .aload_n 0, 1, 0), (1, .iconst 0, 1, 0), (2, .putfield 47, 3, 0), (5, .aload_n 0, 1, 0), (6, .iconst 0, 1, 0), (7, .putfield 50, 3, 0), (10, .iconst 0, 1, 0), (11, .istore_n 2, 1, 0), (12, .iload_n 2, 1, 0), (13, .aload_n 1, 1, 0), (14, .getfield 117, 3, 0), (17, .if_icmp .ge 77, 3, 0), (20, .aload_n 1, 1, 0), (21, .getfield 118, 3, 0), (24, .iload_n 2, 1, 0), (25, .aaload, 1, 0), (26, .getfield 119, 3, 0), (29, .ifCond .eq 59, 3, 0), (32, .aload_n 0, 1, 0), (33, .getfield 37, 3, 0), (36, .aload_n 0, 1, 0), (37, .getfield 47, 3, 0), (40, .aload_n 1, 1, 0), (41, .getfield 118, 3, 0), (44, .iload_n 2, 1, 0), (45, .aaload, 1, 0), (46, .aastore, 1, 0), (47, .aload_n 0, 1, 0), (48, .getfield 41, 3, 0), (51, .aload_n 0, 1, 0), (52, .getfield 47, 3, 0), (55, .iload_n 2, 1, 0), (56, .iastore, 1, 0), (57, .aload_n 0, 1, 0), (58, .dup, 1, 0), (59, .getfield 50, 3, 0), (62, .aload_n 0, 1, 0), (63, .getfield 37, 3, 0), (66, .aload_n 0, 1, 0), (67, .getfield 47, 3, 0), (70, .aaload, 1, 0), (71, .getfield 122, 3, 0), (74, .iadd, 1, 0), (75, .putfield 50, 3, 0), (78, .aload_n 0, 1, 0), (79, .dup, 1, 0), (80, .getfield 47, 3, 0), (83, .iconst 1, 1, 1), (84, .iadd, 1, 0), (85, .putfield 47, 3, 0), (88, .iinc 2 1, 3, 1), (91, .goto (-79), 3, 0), (94, .return_, 1, 0)]
set_option maxRecDepth 100000 in
theorem tk_X9_gatherRooms : g_okT cX9_gatherRooms tb_X9_gatherRooms = true := by decide +kernel
abbrev J_X9_gatherRooms (E : gE) (l : Launch) : Prop := g_J E cX9_gatherRooms RX9 "gatherRooms" none 3 tb_X9_gatherRooms 1 0 0 l
noncomputable def b_X9_gatherRooms_88 (k12 : Nat → Int32 → gS → gM → Option (gS × gM)) (r1 : Nat) (x2 : Int32) (σ : gS) (M : gM) : Option (gS × gM) := k12 r1 (x2 + 1) σ M
noncomputable def b_X9_gatherRooms_78 (k12 : Nat → Int32 → gS → gM → Option (gS × gM)) (r1 : Nat) (x2 : Int32) (σ : gS) (M : gM) : Option (gS × gM) := b_X9_gatherRooms_88 k12 r1 x2 σ (g_up M 12 10 ((M 12 10) + (1 : Int32)))
noncomputable def l_X9_gatherRooms_12 : Nat → Nat → Int32 → gS → gM → Option (gS × gM)
  | 0, _, _, _, _ => none
  | n + 1, r1, x2, σ, M => if g_is σ r1 10 = true then if x2 < (M r1 6) then if g_is σ (σ.2 r1 3) 18 = true then if g_in x2 (g_ln σ (σ.2 r1 3)) = true then if g_is σ (σ.2 (σ.2 r1 3) x2.toNatClampNeg) 8 = true then if (M (σ.2 (σ.2 r1 3) x2.toNatClampNeg) 3) = (0 : Int32) then b_X9_gatherRooms_88 (fun r1 x2 σ M => l_X9_gatherRooms_12 n r1 x2 σ M) r1 x2 σ M else if g_in x2 (g_ln σ (σ.2 r1 3)) = true then if g_in (M 12 10) 10 = true then if g_layCB (g_pS σ 18 ((M 12 10).toNatClampNeg) (σ.2 (σ.2 r1 3) x2.toNatClampNeg)) = true then if g_in (M 12 10) 10 = true then if g_in ((g_up M 19 ((M 12 10).toNatClampNeg) x2) 12 10) 10 = true then if g_is (g_pS σ 18 ((M 12 10).toNatClampNeg) (σ.2 (σ.2 r1 3) x2.toNatClampNeg)) ((g_pS σ 18 ((M 12 10).toNatClampNeg) (σ.2 (σ.2 r1 3) x2.toNatClampNeg)).2 18 ((g_up M 19 ((M 12 10).toNatClampNeg) x2) 12 10).toNatClampNeg) 8 = true then b_X9_gatherRooms_78 (fun r1 x2 σ M => l_X9_gatherRooms_12 n r1 x2 σ M) r1 x2 (g_pS σ 18 ((M 12 10).toNatClampNeg) (σ.2 (σ.2 r1 3) x2.toNatClampNeg)) (g_up (g_up M 19 ((M 12 10).toNatClampNeg) x2) 12 11 (((g_up M 19 ((M 12 10).toNatClampNeg) x2) 12 11) + ((g_up M 19 ((M 12 10).toNatClampNeg) x2) ((g_pS σ 18 ((M 12 10).toNatClampNeg) (σ.2 (σ.2 r1 3) x2.toNatClampNeg)).2 18 ((g_up M 19 ((M 12 10).toNatClampNeg) x2) 12 10).toNatClampNeg) 0))) else none else none else none else none else none else none else none else none else none else some (σ, M) else none
noncomputable def b_X9_gatherRooms_0 (r1 : Nat) (σ : gS) (M : gM) : Option (gS × gM) := l_X9_gatherRooms_12 g_FU r1 0 σ (g_up (g_up M 12 10 0) 12 11 0)
set_option maxHeartbeats 4000000 in
set_option maxRecDepth 100000 in
theorem p_X9_gatherRooms_88 {l : Launch} {E : gE} (J : J_X9_gatherRooms E l) {k12 : Nat → Int32 → gS → gM → Option (gS × gM)} (H12 : ∀ (r1 : Nat) (x2 : Int32) (σ : gS) (M : gM) (N : gN) (_ : g_layC σ), g_H E 0 0 12 [(0, vR 12), (1, vR r1), (2, vI x2)] [] (σ, M, N) (k12 r1 x2 σ M) (eVSM N)) (r1 : Nat) (x2 : Int32) (σ : gS) (M : gM) (N : gN) (hL : g_layC σ) : g_H E 0 0 88 [(0, vR 12), (1, vR r1), (2, vI x2)] [] (σ, M, N) (b_X9_gatherRooms_88 k12 r1 x2 σ M) (eVSM N) := by
  unfold b_X9_gatherRooms_88
  refine r_run J 2 (pc' := 12) (lv' := [(2, vI (x2 + 1)), (0, vR 12), (1, vR r1)]) (st' := []) rfl ?_
  refine r_sub [1, 2, 0] (lv' := [(0, vR 12), (1, vR r1), (2, vI (x2 + 1))]) rfl ?_
  exact H12 r1 (x2 + 1) σ M N hL
set_option maxHeartbeats 4000000 in
set_option maxRecDepth 100000 in
theorem p_X9_gatherRooms_78 {l : Launch} {E : gE} (J : J_X9_gatherRooms E l) {k12 : Nat → Int32 → gS → gM → Option (gS × gM)} (H12 : ∀ (r1 : Nat) (x2 : Int32) (σ : gS) (M : gM) (N : gN) (_ : g_layC σ), g_H E 0 0 12 [(0, vR 12), (1, vR r1), (2, vI x2)] [] (σ, M, N) (k12 r1 x2 σ M) (eVSM N)) (r1 : Nat) (x2 : Int32) (σ : gS) (M : gM) (N : gN) (hL : g_layC σ) : g_H E 0 0 78 [(0, vR 12), (1, vR r1), (2, vI x2)] [] (σ, M, N) (b_X9_gatherRooms_78 k12 r1 x2 σ M) (eVSM N) := by
  unfold b_X9_gatherRooms_78
  refine r_run J 2 (pc' := 80) (lv' := [(0, vR 12), (1, vR r1), (2, vI x2)]) (st' := [vR 12, vR 12]) rfl ?_
  refine r_getI J cls9 rfl (k := 10) (by decide) wf_9_47 rfl (ly_12 hL) ?_
  show g_H E 0 0 83 [(0, vR 12), (1, vR r1), (2, vI x2)] [vI (M 12 10), vR 12] (σ, M, N) _ _
  refine r_run J 2 (pc' := 85) (lv' := [(0, vR 12), (1, vR r1), (2, vI x2)]) (st' := [vI ((M 12 10) + (1 : Int32)), vR 12]) rfl ?_
  refine r_putI J cls9 rfl (k := 10) (by decide) wf_9_47 rfl (Or.inl rfl) ⟨rfl, rfl⟩ (ly_12 hL) ?_
  show g_H E 0 0 88 [(0, vR 12), (1, vR r1), (2, vI x2)] [] (σ, (g_up M 12 10 ((M 12 10) + (1 : Int32))), N) _ _
  exact p_X9_gatherRooms_88 J H12 r1 x2 σ (g_up M 12 10 ((M 12 10) + (1 : Int32))) N hL
set_option maxHeartbeats 4000000 in
set_option maxRecDepth 100000 in
theorem p_X9_gatherRooms_12 {l : Launch} {E : gE} (J : J_X9_gatherRooms E l) : ∀ (n : Nat) (r1 : Nat) (x2 : Int32) (σ : gS) (M : gM) (N : gN) (hL : g_layC σ), g_H E 0 0 12 [(0, vR 12), (1, vR r1), (2, vI x2)] [] (σ, M, N) (l_X9_gatherRooms_12 n r1 x2 σ M) (eVSM N) := by
  intro n
  induction n with
  | zero => intros; exact h_none
  | succ n ih =>
    intro r1 x2 σ M N hL
    rw [l_X9_gatherRooms_12]
    refine r_run J 2 (pc' := 14) (lv' := [(0, vR 12), (1, vR r1), (2, vI x2)]) (st' := [vR r1, vI x2]) rfl ?_
    refine r_chk (fun hs14 => ?_)
    refine r_getI J cls10 rfl (k := 6) (by decide) wf_9_117 rfl (g_is_at hs14) ?_
    show g_H E 0 0 17 [(0, vR 12), (1, vR r1), (2, vI x2)] [vI (M r1 6), vI x2] (σ, M, N) _ _
    refine r_icmp_ge J (tgt := 94) rfl (by decide) (fun c17 => ?_) (fun c17 => ?_)
    · refine r_run J 1 (pc' := 21) (lv' := [(0, vR 12), (1, vR r1), (2, vI x2)]) (st' := [vR r1]) rfl ?_
      refine r_getR J cls10 rfl (k := 3) (t := 18) (by decide) wf_9_118 rfl rfl (g_is_at hs14) rfl (fun _ => ?_)
      show g_H E 0 0 24 [(0, vR 12), (1, vR r1), (2, vI x2)] [vR (σ.2 r1 3)] (σ, M, N) _ _
      refine r_run J 1 (pc' := 25) (lv' := [(0, vR 12), (1, vR r1), (2, vI x2)]) (st' := [vI x2, vR (σ.2 r1 3)]) rfl ?_
      refine r_chk (fun hs25 => ?_)
      refine r_aald J rfl (Or.inr (Or.inl ⟨rfl, rfl⟩)) (g_is_at hs25) (fun i25 _ => ?_)
      show g_H E 0 0 26 [(0, vR 12), (1, vR r1), (2, vI x2)] [vR (σ.2 (σ.2 r1 3) x2.toNatClampNeg)] (σ, M, N) _ _
      refine r_chk (fun hs26 => ?_)
      refine r_getI J cls8 rfl (k := 3) (by decide) wf_9_119 rfl (g_is_at hs26) ?_
      show g_H E 0 0 29 [(0, vR 12), (1, vR r1), (2, vI x2)] [vI (M (σ.2 (σ.2 r1 3) x2.toNatClampNeg) 3)] (σ, M, N) _ _
      refine r_if_eq J (tgt := 88) rfl (by decide) (fun c29 => ?_) (fun c29 => ?_)
      · exact p_X9_gatherRooms_88 J ih r1 x2 σ M N hL
      · refine r_run J 1 (pc' := 33) (lv' := [(0, vR 12), (1, vR r1), (2, vI x2)]) (st' := [vR 12]) rfl ?_
        refine r_getR J cls9 rfl (k := 7) (t := 18) (by decide) wf_9_37 rfl rfl (ly_12 hL) (lr_12_7 hL) (fun _ => ?_)
        show g_H E 0 0 36 [(0, vR 12), (1, vR r1), (2, vI x2)] [vR 18] (σ, M, N) _ _
        refine r_run J 1 (pc' := 37) (lv' := [(0, vR 12), (1, vR r1), (2, vI x2)]) (st' := [vR 12, vR 18]) rfl ?_
        refine r_getI J cls9 rfl (k := 10) (by decide) wf_9_47 rfl (ly_12 hL) ?_
        show g_H E 0 0 40 [(0, vR 12), (1, vR r1), (2, vI x2)] [vI (M 12 10), vR 18] (σ, M, N) _ _
        refine r_run J 1 (pc' := 41) (lv' := [(0, vR 12), (1, vR r1), (2, vI x2)]) (st' := [vR r1, vI (M 12 10), vR 18]) rfl ?_
        refine r_getR J cls10 rfl (k := 3) (t := 18) (by decide) wf_9_118 rfl rfl (g_is_at hs14) rfl (fun _ => ?_)
        show g_H E 0 0 44 [(0, vR 12), (1, vR r1), (2, vI x2)] [vR (σ.2 r1 3), vI (M 12 10), vR 18] (σ, M, N) _ _
        refine r_run J 1 (pc' := 45) (lv' := [(0, vR 12), (1, vR r1), (2, vI x2)]) (st' := [vI x2, vR (σ.2 r1 3), vI (M 12 10), vR 18]) rfl ?_
        refine r_aald J rfl (Or.inr (Or.inl ⟨rfl, rfl⟩)) (g_is_at hs25) (fun i45 _ => ?_)
        show g_H E 0 0 46 [(0, vR 12), (1, vR r1), (2, vI x2)] [vR (σ.2 (σ.2 r1 3) x2.toNatClampNeg), vI (M 12 10), vR 18] (σ, M, N) _ _
        refine r_aast J rfl (Or.inr (Or.inl ⟨rfl, rfl⟩)) (ly_18 hL) (g_is_at hs26) cls8 (fun i46 => ?_)
        show g_H E 0 0 47 [(0, vR 12), (1, vR r1), (2, vI x2)] [] ((g_pS σ 18 ((M 12 10).toNatClampNeg) (σ.2 (σ.2 r1 3) x2.toNatClampNeg)), M, N) _ _
        refine r_chk (fun hl47 => ?_)
        refine r_run J 1 (pc' := 48) (lv' := [(0, vR 12), (1, vR r1), (2, vI x2)]) (st' := [vR 12]) rfl ?_
        refine r_getR J cls9 rfl (k := 8) (t := 14) (by decide) wf_9_41 rfl rfl (ly_12 (g_layC.of hl47)) (lr_12_8 (g_layC.of hl47)) (fun _ => ?_)
        show g_H E 0 0 51 [(0, vR 12), (1, vR r1), (2, vI x2)] [vR 19] ((g_pS σ 18 ((M 12 10).toNatClampNeg) (σ.2 (σ.2 r1 3) x2.toNatClampNeg)), M, N) _ _
        refine r_run J 1 (pc' := 52) (lv' := [(0, vR 12), (1, vR r1), (2, vI x2)]) (st' := [vR 12, vR 19]) rfl ?_
        refine r_getI J cls9 rfl (k := 10) (by decide) wf_9_47 rfl (ly_12 (g_layC.of hl47)) ?_
        show g_H E 0 0 55 [(0, vR 12), (1, vR r1), (2, vI x2)] [vI (M 12 10), vR 19] ((g_pS σ 18 ((M 12 10).toNatClampNeg) (σ.2 (σ.2 r1 3) x2.toNatClampNeg)), M, N) _ _
        refine r_run J 1 (pc' := 56) (lv' := [(0, vR 12), (1, vR r1), (2, vI x2)]) (st' := [vI x2, vI (M 12 10), vR 19]) rfl ?_
        refine r_iast J rfl (ly_19 (g_layC.of hl47)) (fun i56 => ?_)
        show g_H E 0 0 57 [(0, vR 12), (1, vR r1), (2, vI x2)] [] ((g_pS σ 18 ((M 12 10).toNatClampNeg) (σ.2 (σ.2 r1 3) x2.toNatClampNeg)), (g_up M 19 ((M 12 10).toNatClampNeg) x2), N) _ _
        refine r_run J 2 (pc' := 59) (lv' := [(0, vR 12), (1, vR r1), (2, vI x2)]) (st' := [vR 12, vR 12]) rfl ?_
        refine r_getI J cls9 rfl (k := 11) (by decide) wf_9_50 rfl (ly_12 (g_layC.of hl47)) ?_
        show g_H E 0 0 62 [(0, vR 12), (1, vR r1), (2, vI x2)] [vI ((g_up M 19 ((M 12 10).toNatClampNeg) x2) 12 11), vR 12] ((g_pS σ 18 ((M 12 10).toNatClampNeg) (σ.2 (σ.2 r1 3) x2.toNatClampNeg)), (g_up M 19 ((M 12 10).toNatClampNeg) x2), N) _ _
        refine r_run J 1 (pc' := 63) (lv' := [(0, vR 12), (1, vR r1), (2, vI x2)]) (st' := [vR 12, vI ((g_up M 19 ((M 12 10).toNatClampNeg) x2) 12 11), vR 12]) rfl ?_
        refine r_getR J cls9 rfl (k := 7) (t := 18) (by decide) wf_9_37 rfl rfl (ly_12 (g_layC.of hl47)) (lr_12_7 (g_layC.of hl47)) (fun _ => ?_)
        show g_H E 0 0 66 [(0, vR 12), (1, vR r1), (2, vI x2)] [vR 18, vI ((g_up M 19 ((M 12 10).toNatClampNeg) x2) 12 11), vR 12] ((g_pS σ 18 ((M 12 10).toNatClampNeg) (σ.2 (σ.2 r1 3) x2.toNatClampNeg)), (g_up M 19 ((M 12 10).toNatClampNeg) x2), N) _ _
        refine r_run J 1 (pc' := 67) (lv' := [(0, vR 12), (1, vR r1), (2, vI x2)]) (st' := [vR 12, vR 18, vI ((g_up M 19 ((M 12 10).toNatClampNeg) x2) 12 11), vR 12]) rfl ?_
        refine r_getI J cls9 rfl (k := 10) (by decide) wf_9_47 rfl (ly_12 (g_layC.of hl47)) ?_
        show g_H E 0 0 70 [(0, vR 12), (1, vR r1), (2, vI x2)] [vI ((g_up M 19 ((M 12 10).toNatClampNeg) x2) 12 10), vR 18, vI ((g_up M 19 ((M 12 10).toNatClampNeg) x2) 12 11), vR 12] ((g_pS σ 18 ((M 12 10).toNatClampNeg) (σ.2 (σ.2 r1 3) x2.toNatClampNeg)), (g_up M 19 ((M 12 10).toNatClampNeg) x2), N) _ _
        refine r_aald J rfl (Or.inr (Or.inl ⟨rfl, rfl⟩)) (ly_18 (g_layC.of hl47)) (fun i70 _ => ?_)
        show g_H E 0 0 71 [(0, vR 12), (1, vR r1), (2, vI x2)] [vR ((g_pS σ 18 ((M 12 10).toNatClampNeg) (σ.2 (σ.2 r1 3) x2.toNatClampNeg)).2 18 ((g_up M 19 ((M 12 10).toNatClampNeg) x2) 12 10).toNatClampNeg), vI ((g_up M 19 ((M 12 10).toNatClampNeg) x2) 12 11), vR 12] ((g_pS σ 18 ((M 12 10).toNatClampNeg) (σ.2 (σ.2 r1 3) x2.toNatClampNeg)), (g_up M 19 ((M 12 10).toNatClampNeg) x2), N) _ _
        refine r_chk (fun hs71 => ?_)
        refine r_getI J cls8 rfl (k := 0) (by decide) wf_9_122 rfl (g_is_at hs71) ?_
        show g_H E 0 0 74 [(0, vR 12), (1, vR r1), (2, vI x2)] [vI ((g_up M 19 ((M 12 10).toNatClampNeg) x2) ((g_pS σ 18 ((M 12 10).toNatClampNeg) (σ.2 (σ.2 r1 3) x2.toNatClampNeg)).2 18 ((g_up M 19 ((M 12 10).toNatClampNeg) x2) 12 10).toNatClampNeg) 0), vI ((g_up M 19 ((M 12 10).toNatClampNeg) x2) 12 11), vR 12] ((g_pS σ 18 ((M 12 10).toNatClampNeg) (σ.2 (σ.2 r1 3) x2.toNatClampNeg)), (g_up M 19 ((M 12 10).toNatClampNeg) x2), N) _ _
        refine r_run J 1 (pc' := 75) (lv' := [(0, vR 12), (1, vR r1), (2, vI x2)]) (st' := [vI (((g_up M 19 ((M 12 10).toNatClampNeg) x2) 12 11) + ((g_up M 19 ((M 12 10).toNatClampNeg) x2) ((g_pS σ 18 ((M 12 10).toNatClampNeg) (σ.2 (σ.2 r1 3) x2.toNatClampNeg)).2 18 ((g_up M 19 ((M 12 10).toNatClampNeg) x2) 12 10).toNatClampNeg) 0)), vR 12]) rfl ?_
        refine r_putI J cls9 rfl (k := 11) (by decide) wf_9_50 rfl (Or.inl rfl) ⟨rfl, rfl⟩ (ly_12 (g_layC.of hl47)) ?_
        show g_H E 0 0 78 [(0, vR 12), (1, vR r1), (2, vI x2)] [] ((g_pS σ 18 ((M 12 10).toNatClampNeg) (σ.2 (σ.2 r1 3) x2.toNatClampNeg)), (g_up (g_up M 19 ((M 12 10).toNatClampNeg) x2) 12 11 (((g_up M 19 ((M 12 10).toNatClampNeg) x2) 12 11) + ((g_up M 19 ((M 12 10).toNatClampNeg) x2) ((g_pS σ 18 ((M 12 10).toNatClampNeg) (σ.2 (σ.2 r1 3) x2.toNatClampNeg)).2 18 ((g_up M 19 ((M 12 10).toNatClampNeg) x2) 12 10).toNatClampNeg) 0))), N) _ _
        exact p_X9_gatherRooms_78 J ih r1 x2 (g_pS σ 18 ((M 12 10).toNatClampNeg) (σ.2 (σ.2 r1 3) x2.toNatClampNeg)) (g_up (g_up M 19 ((M 12 10).toNatClampNeg) x2) 12 11 (((g_up M 19 ((M 12 10).toNatClampNeg) x2) 12 11) + ((g_up M 19 ((M 12 10).toNatClampNeg) x2) ((g_pS σ 18 ((M 12 10).toNatClampNeg) (σ.2 (σ.2 r1 3) x2.toNatClampNeg)).2 18 ((g_up M 19 ((M 12 10).toNatClampNeg) x2) 12 10).toNatClampNeg) 0))) N (g_layC.of hl47)
    · exact r_vret J rfl rfl rfl (by decide) (by decide)
set_option maxHeartbeats 4000000 in
set_option maxRecDepth 100000 in
theorem p_X9_gatherRooms_0 {l : Launch} {E : gE} (J : J_X9_gatherRooms E l) (r1 : Nat) (σ : gS) (M : gM) (N : gN) (hL : g_layC σ) : g_H E 0 0 0 [(0, vR 12), (1, vR r1)] [] (σ, M, N) (b_X9_gatherRooms_0 r1 σ M) (eVSM N) := by
  unfold b_X9_gatherRooms_0
  refine r_run J 2 (pc' := 2) (lv' := [(0, vR 12), (1, vR r1)]) (st' := [vI 0, vR 12]) rfl ?_
  refine r_putI J cls9 rfl (k := 10) (by decide) wf_9_47 rfl (Or.inl rfl) ⟨rfl, rfl⟩ (ly_12 hL) ?_
  show g_H E 0 0 5 [(0, vR 12), (1, vR r1)] [] (σ, (g_up M 12 10 0), N) _ _
  refine r_run J 2 (pc' := 7) (lv' := [(0, vR 12), (1, vR r1)]) (st' := [vI 0, vR 12]) rfl ?_
  refine r_putI J cls9 rfl (k := 11) (by decide) wf_9_50 rfl (Or.inl rfl) ⟨rfl, rfl⟩ (ly_12 hL) ?_
  show g_H E 0 0 10 [(0, vR 12), (1, vR r1)] [] (σ, (g_up (g_up M 12 10 0) 12 11 0), N) _ _
  refine r_run J 2 (pc' := 12) (lv' := [(2, vI 0), (0, vR 12), (1, vR r1)]) (st' := []) rfl ?_
  refine r_sub [1, 2, 0] (lv' := [(0, vR 12), (1, vR r1), (2, vI 0)]) rfl ?_
  exact p_X9_gatherRooms_12 J g_FU r1 0 σ (g_up (g_up M 12 10 0) 12 11 0) N hL
noncomputable def f_X9_gatherRooms (r1 : Nat) (σ : gS) (M : gM) : Option (gS × gM) := b_X9_gatherRooms_0 r1 σ M
theorem c_X9_gatherRooms {l : Launch} (r1 : Nat) (σ : gS) (M : gM) (N : gN) (hL : g_layC σ) (r : gS × gM) (h : f_X9_gatherRooms r1 σ M = some r) : g_Ct l yX9_gatherRooms cX9_gatherRooms 3 none 1 0 0 [vR 12, vR r1] (σ, M, N) (eVSM N r) :=
  g_Ct.of tb_X9_gatherRooms (by decide +kernel) tk_X9_gatherRooms (Nat.le_of_ble_eq_true rfl) (fun E J => p_X9_gatherRooms_0 J r1 σ M N hL r h)
def tb_X9_movesOf : gT := [(0, .aload_n 0, 1, 0), (1, .getfield 25, 3, 0), (4, .iload_n 2, 1, 0), (5, .iaload, 1, 0), (6, .iconst (-1), 1, (-1)), (7, .if_icmp .eq 22, 3, 0), (10, .aload_n 0, 1, 0), (11, .getfield 25, 3, 0), (14, .iload_n 2, 1, 0), (15, .iaload, 1, 0), (16, .aload_n 0, 1, 0), (17, .getfield 41, 3, 0), (20, .iload_n 1, 1, 0), (21, .iaload, 1, 0), (22, .if_icmp .eq 7, 3, 0), (25, .iconst 1, 1, 1), (26, .goto 4, 3, 0), (29, .iconst 0, 1, 0), (30, .ireturn, 1, 0)]
set_option maxRecDepth 100000 in
theorem tk_X9_movesOf : g_okT cX9_movesOf tb_X9_movesOf = true := by decide +kernel
abbrev J_X9_movesOf (E : gE) (l : Launch) : Prop := g_J E cX9_movesOf RX9 "movesOf" (some .int) 3 tb_X9_movesOf 1 0 0 l
noncomputable def b_X9_movesOf_0 (x1 : Int32) (x2 : Int32) (σ : gS) (M : gM) : Option (Int32) := if g_in x2 10 = true then if (M 15 x2.toNatClampNeg) = (-1 : Int32) then some 0 else if g_in x2 10 = true then if g_in x1 10 = true then if (M 15 x2.toNatClampNeg) = (M 19 x1.toNatClampNeg) then some 0 else some 1 else none else none else none
set_option maxHeartbeats 4000000 in
set_option maxRecDepth 100000 in
theorem p_X9_movesOf_0 {l : Launch} {E : gE} (J : J_X9_movesOf E l) (x1 : Int32) (x2 : Int32) (σ : gS) (M : gM) (N : gN) (hL : g_layC σ) : g_H E 0 0 0 [(0, vR 12), (1, vI x1), (2, vI x2)] [] (σ, M, N) (b_X9_movesOf_0 x1 x2 σ M) (eI σ M N) := by
  unfold b_X9_movesOf_0
  refine r_run J 1 (pc' := 1) (lv' := [(0, vR 12), (1, vI x1), (2, vI x2)]) (st' := [vR 12]) rfl ?_
  refine r_getR J cls9 rfl (k := 4) (t := 14) (by decide) wf_9_25 rfl rfl (ly_12 hL) (lr_12_4 hL) (fun _ => ?_)
  show g_H E 0 0 4 [(0, vR 12), (1, vI x1), (2, vI x2)] [vR 15] (σ, M, N) _ _
  refine r_run J 1 (pc' := 5) (lv' := [(0, vR 12), (1, vI x1), (2, vI x2)]) (st' := [vI x2, vR 15]) rfl ?_
  refine r_iald J rfl (ly_15 hL) (fun i5 => ?_)
  show g_H E 0 0 6 [(0, vR 12), (1, vI x1), (2, vI x2)] [vI (M 15 x2.toNatClampNeg)] (σ, M, N) _ _
  refine r_run J 1 (pc' := 7) (lv' := [(0, vR 12), (1, vI x1), (2, vI x2)]) (st' := [vI (-1), vI (M 15 x2.toNatClampNeg)]) rfl ?_
  refine r_icmp_eq J (tgt := 29) rfl (by decide) (fun c7 => ?_) (fun c7 => ?_)
  · refine r_run J 1 (pc' := 30) (lv' := [(0, vR 12), (1, vI x1), (2, vI x2)]) (st' := [vI 0]) rfl ?_
    exact r_iret J rfl rfl rfl rfl (by decide) (by decide)
  · refine r_run J 1 (pc' := 11) (lv' := [(0, vR 12), (1, vI x1), (2, vI x2)]) (st' := [vR 12]) rfl ?_
    refine r_getR J cls9 rfl (k := 4) (t := 14) (by decide) wf_9_25 rfl rfl (ly_12 hL) (lr_12_4 hL) (fun _ => ?_)
    show g_H E 0 0 14 [(0, vR 12), (1, vI x1), (2, vI x2)] [vR 15] (σ, M, N) _ _
    refine r_run J 1 (pc' := 15) (lv' := [(0, vR 12), (1, vI x1), (2, vI x2)]) (st' := [vI x2, vR 15]) rfl ?_
    refine r_iald J rfl (ly_15 hL) (fun i15 => ?_)
    show g_H E 0 0 16 [(0, vR 12), (1, vI x1), (2, vI x2)] [vI (M 15 x2.toNatClampNeg)] (σ, M, N) _ _
    refine r_run J 1 (pc' := 17) (lv' := [(0, vR 12), (1, vI x1), (2, vI x2)]) (st' := [vR 12, vI (M 15 x2.toNatClampNeg)]) rfl ?_
    refine r_getR J cls9 rfl (k := 8) (t := 14) (by decide) wf_9_41 rfl rfl (ly_12 hL) (lr_12_8 hL) (fun _ => ?_)
    show g_H E 0 0 20 [(0, vR 12), (1, vI x1), (2, vI x2)] [vR 19, vI (M 15 x2.toNatClampNeg)] (σ, M, N) _ _
    refine r_run J 1 (pc' := 21) (lv' := [(0, vR 12), (1, vI x1), (2, vI x2)]) (st' := [vI x1, vR 19, vI (M 15 x2.toNatClampNeg)]) rfl ?_
    refine r_iald J rfl (ly_19 hL) (fun i21 => ?_)
    show g_H E 0 0 22 [(0, vR 12), (1, vI x1), (2, vI x2)] [vI (M 19 x1.toNatClampNeg), vI (M 15 x2.toNatClampNeg)] (σ, M, N) _ _
    refine r_icmp_eq J (tgt := 29) rfl (by decide) (fun c22 => ?_) (fun c22 => ?_)
    · refine r_run J 1 (pc' := 30) (lv' := [(0, vR 12), (1, vI x1), (2, vI x2)]) (st' := [vI 0]) rfl ?_
      exact r_iret J rfl rfl rfl rfl (by decide) (by decide)
    · refine r_run J 2 (pc' := 30) (lv' := [(0, vR 12), (1, vI x1), (2, vI x2)]) (st' := [vI 1]) rfl ?_
      exact r_iret J rfl rfl rfl rfl (by decide) (by decide)
noncomputable def f_X9_movesOf (x1 : Int32) (x2 : Int32) (σ : gS) (M : gM) : Option (Int32) := b_X9_movesOf_0 x1 x2 σ M
theorem c_X9_movesOf {l : Launch} (x1 : Int32) (x2 : Int32) (σ : gS) (M : gM) (N : gN) (hL : g_layC σ) (r : Int32) (h : f_X9_movesOf x1 x2 σ M = some r) : g_Ct l yX9_movesOf cX9_movesOf 3 (some .int) 1 0 0 [vR 12, vI x1, vI x2] (σ, M, N) (eI σ M N r) :=
  g_Ct.of tb_X9_movesOf (by decide +kernel) tk_X9_movesOf (Nat.le_of_ble_eq_true rfl) (fun E J => p_X9_movesOf_0 J x1 x2 σ M N hL r h)
def tb_X9_weightOf : gT := [(0, .aload_n 0, 1, 0), (1, .getfield 37, 3, 0), (4, .iload_n 1, 1, 0), (5, .aaload, 1, 0), (6, .astore 4, 2, 0), (8, .aload 4, 2, 0), (10, .getfield 141, 3, 0), (13, .ifCond .ne 24, 3, 0), (16, .aload_n 0, 1, 0), (17, .getfield 31, 3, 0), (20, .iload_n 2, 1, 0), (21, .baload, 1, 0), (22, .ifCond .ne 12, 3, 0), (25, .aload_n 0, 1, 0), (26, .getfield 31, 3, 0), (29, .iload_n 3, 1, 0), (30, .baload, 1, 0), (31, .ifCond .eq 6, 3, 0), (34, .ldc 70, 2, 0), (36, .ireturn, 1, 0), (37, .iload_n 2, 1, 0), (38, .iload_n 3, 1, 0), (39, .if_icmp .eq 28, 3, 0), (42, .aload 4, 2, 0), (44, .getfield 122, 3, 0), (47, .iconst 2, 1, 2), (48, .if_icmp .lt 16, 3, 0), (51, .aload_n 0, 1, 0), (52, .getfield 28, 3, 0), (55, .iload_n 2, 1, 0), (56, .iaload, 1, 0), (57, .iload_n 3, 1, 0), (58, .ishr, 1, 0), (59, .iconst 1, 1, 1), (60, .iand, 1, 0), (61, .ifCond .ne 6, 3, 0), (64, .ldc 70, 2, 0), (66, .ireturn, 1, 0), (67, .aload_n 0, 1, 0), (68, .iload_n 1, 1, 0), (69, .iload_n 2, 1, 0), (70, .invokevirtual 142, 3, 0), (73, .istore 5, 2, 0), (75, .iload_n 2, 1, 0), (76, .iload_n 3, 1, 0), (77, .if_icmp .eq 14, 3, 0), (80, .iload 5, 2, 0), (82, .aload_n 0, 1, 0), (83, .iload_n 1, 1, 0), (84, .iload_n 3, 1, 0), (85, .invokevirtual 142, 3, 0), (88, .iadd, 1, 0), (89, .istore 5, 2, 0), (91, .aload_n 0, 1, 0), (92, .getfield 53, 3, 0), (95, .lookupswitch 48 #[(0, 25), (1, 36)], 25, 0), (120, .aload 4, 2, 0), (122, .getfield 145, 3, 0), (125, .iconst 4, 1, 4), (126, .ishl, 1, 0), (127, .iload 5, 2, 0), (129, .ior, 1, 0), (130, .ireturn, 1, 0), (131, .iload 5, 2, 0), (133, .bipush 14, 2, 14), (135, .ishl, 1, 0), (136, .aload 4, 2, 0), (138, .getfield 145, 3, 0), (141, .ior, 1, 0), (142, .ireturn, 1, 0), (143, .iconst 0, 1, 0), (144, .ireturn, 1, 0)]
set_option maxRecDepth 100000 in
theorem tk_X9_weightOf : g_okT cX9_weightOf tb_X9_weightOf = true := by decide +kernel
abbrev J_X9_weightOf (E : gE) (l : Launch) : Prop := g_J E cX9_weightOf RX9 "weightOf" (some .int) 6 tb_X9_weightOf 2 0 0 l
noncomputable def b_X9_weightOf_91 (r4 : Nat) (x5 : Int32) (σ : gS) (M : gM) : Option (Int32) := if (M 12 12) = 0 then if g_is σ r4 8 = true then some (((M r4 2) <<< ((4 : Int32) &&& 31)) ||| x5) else none else if (M 12 12) = 1 then if g_is σ r4 8 = true then some ((x5 <<< ((14 : Int32) &&& 31)) ||| (M r4 2)) else none else some 0
noncomputable def b_X9_weightOf_67 (x1 : Int32) (x2 : Int32) (x3 : Int32) (r4 : Nat) (σ : gS) (M : gM) : Option (Int32) := (f_X9_movesOf x1 x2 σ M).bind fun q70 => if x2 = x3 then b_X9_weightOf_91 r4 q70 σ M else (f_X9_movesOf x1 x3 σ M).bind fun q85 => b_X9_weightOf_91 r4 (q70 + q85) σ M
noncomputable def b_X9_weightOf_64 (σ : gS) (M : gM) : Option (Int32) := some 268435456
noncomputable def b_X9_weightOf_37 (x1 : Int32) (x2 : Int32) (x3 : Int32) (r4 : Nat) (σ : gS) (M : gM) : Option (Int32) := if x2 = x3 then b_X9_weightOf_67 x1 x2 x3 r4 σ M else if g_is σ r4 8 = true then if (M r4 0) < (2 : Int32) then b_X9_weightOf_64 σ M else if g_in x2 10 = true then if (((M 16 x2.toNatClampNeg) >>> (x3 &&& 31)) &&& (1 : Int32)) = (0 : Int32) then b_X9_weightOf_64 σ M else b_X9_weightOf_67 x1 x2 x3 r4 σ M else none else none
noncomputable def b_X9_weightOf_34 (σ : gS) (M : gM) : Option (Int32) := some 268435456
noncomputable def b_X9_weightOf_0 (x1 : Int32) (x2 : Int32) (x3 : Int32) (σ : gS) (M : gM) : Option (Int32) := if g_in x1 10 = true then if g_is σ (σ.2 18 x1.toNatClampNeg) 8 = true then if (M (σ.2 18 x1.toNatClampNeg) 1) = (0 : Int32) then if g_in x2 10 = true then if (M 17 x2.toNatClampNeg) = (0 : Int32) then if g_in x3 10 = true then if (M 17 x3.toNatClampNeg) = (0 : Int32) then b_X9_weightOf_37 x1 x2 x3 (σ.2 18 x1.toNatClampNeg) σ M else b_X9_weightOf_34 σ M else none else b_X9_weightOf_34 σ M else none else b_X9_weightOf_37 x1 x2 x3 (σ.2 18 x1.toNatClampNeg) σ M else none else none
set_option maxHeartbeats 4000000 in
set_option maxRecDepth 100000 in
theorem p_X9_weightOf_91 {l : Launch} {E : gE} (J : J_X9_weightOf E l) (r4 : Nat) (x5 : Int32) (σ : gS) (M : gM) (N : gN) (hL : g_layC σ) : g_H E 0 0 91 [(0, vR 12), (4, vR r4), (5, vI x5)] [] (σ, M, N) (b_X9_weightOf_91 r4 x5 σ M) (eI σ M N) := by
  unfold b_X9_weightOf_91
  refine r_run J 1 (pc' := 92) (lv' := [(0, vR 12), (4, vR r4), (5, vI x5)]) (st' := [vR 12]) rfl ?_
  refine r_getI J cls9 rfl (k := 12) (by decide) wf_9_53 rfl (ly_12 hL) ?_
  show g_H E 0 0 95 [(0, vR 12), (4, vR r4), (5, vI x5)] [vI (M 12 12)] (σ, M, N) _ _
  refine r_lookup J [(0, 120), (1, 131)] (d := 143) rfl (by decide +kernel) (List.forall_mem_cons.mpr ⟨fun hc => ?_, List.forall_mem_cons.mpr ⟨fun hc => ?_, fun _ h => absurd h List.not_mem_nil⟩⟩) (fun hd => ?_)
  · rw [if_pos hc]
    refine r_run J 1 (pc' := 122) (lv' := [(0, vR 12), (4, vR r4), (5, vI x5)]) (st' := [vR r4]) rfl ?_
    refine r_chk (fun hs122 => ?_)
    refine r_getI J cls8 rfl (k := 2) (by decide) wf_9_145 rfl (g_is_at hs122) ?_
    show g_H E 0 0 125 [(0, vR 12), (4, vR r4), (5, vI x5)] [vI (M r4 2)] (σ, M, N) _ _
    refine r_run J 4 (pc' := 130) (lv' := [(0, vR 12), (4, vR r4), (5, vI x5)]) (st' := [vI (((M r4 2) <<< ((4 : Int32) &&& 31)) ||| x5)]) rfl ?_
    exact r_iret J rfl rfl rfl rfl (by decide) (by decide)
  · rw [if_neg (by rw [hc]; decide), if_pos hc]
    refine r_run J 4 (pc' := 138) (lv' := [(0, vR 12), (4, vR r4), (5, vI x5)]) (st' := [vR r4, vI (x5 <<< ((14 : Int32) &&& 31))]) rfl ?_
    refine r_chk (fun hs138 => ?_)
    refine r_getI J cls8 rfl (k := 2) (by decide) wf_9_145 rfl (g_is_at hs138) ?_
    show g_H E 0 0 141 [(0, vR 12), (4, vR r4), (5, vI x5)] [vI (M r4 2), vI (x5 <<< ((14 : Int32) &&& 31))] (σ, M, N) _ _
    refine r_run J 1 (pc' := 142) (lv' := [(0, vR 12), (4, vR r4), (5, vI x5)]) (st' := [vI ((x5 <<< ((14 : Int32) &&& 31)) ||| (M r4 2))]) rfl ?_
    exact r_iret J rfl rfl rfl rfl (by decide) (by decide)
  · rw [if_neg (hd _ (List.mem_of_getElem? (i := 0) rfl)), if_neg (hd _ (List.mem_of_getElem? (i := 1) rfl))]
    refine r_run J 1 (pc' := 144) (lv' := [(0, vR 12), (4, vR r4), (5, vI x5)]) (st' := [vI 0]) rfl ?_
    exact r_iret J rfl rfl rfl rfl (by decide) (by decide)
set_option maxHeartbeats 4000000 in
set_option maxRecDepth 100000 in
theorem p_X9_weightOf_67 {l : Launch} {E : gE} (J : J_X9_weightOf E l) (x1 : Int32) (x2 : Int32) (x3 : Int32) (r4 : Nat) (σ : gS) (M : gM) (N : gN) (hL : g_layC σ) : g_H E 0 0 67 [(0, vR 12), (1, vI x1), (2, vI x2), (3, vI x3), (4, vR r4)] [] (σ, M, N) (b_X9_weightOf_67 x1 x2 x3 r4 σ M) (eI σ M N) := by
  unfold b_X9_weightOf_67
  refine r_run J 3 (pc' := 70) (lv' := [(0, vR 12), (1, vI x1), (2, vI x2), (3, vI x3), (4, vR r4)]) (st' := [vI x2, vI x1, vR 12]) rfl ?_
  refine r_callV J (As := [vI x1, vI x2]) (st := []) (fun r hr => c_X9_movesOf x1 x2 σ M N hL r hr) cls9 (ly_12 hL) wm_9_142 wy_X9_movesOf wd_X9_movesOf ⟨by decide, by decide, by decide, by decide, Nat.le_of_ble_eq_true rfl⟩ rfl rfl (fun q70 hq70 => ?_)
  show g_H E 0 0 73 [(0, vR 12), (1, vI x1), (2, vI x2), (3, vI x3), (4, vR r4)] [vI q70] (σ, M, N) _ _
  refine r_run J 3 (pc' := 77) (lv' := [(5, vI q70), (0, vR 12), (1, vI x1), (2, vI x2), (3, vI x3), (4, vR r4)]) (st' := [vI x3, vI x2]) rfl ?_
  refine r_icmp_eq J (tgt := 91) rfl (by decide) (fun c77 => ?_) (fun c77 => ?_)
  · refine r_sub [1, 5, 0] (lv' := [(0, vR 12), (4, vR r4), (5, vI q70)]) rfl ?_
    exact p_X9_weightOf_91 J r4 q70 σ M N hL
  · refine r_run J 4 (pc' := 85) (lv' := [(5, vI q70), (0, vR 12), (1, vI x1), (2, vI x2), (3, vI x3), (4, vR r4)]) (st' := [vI x3, vI x1, vR 12, vI q70]) rfl ?_
    refine r_callV J (As := [vI x1, vI x3]) (st := [vI q70]) (fun r hr => c_X9_movesOf x1 x3 σ M N hL r hr) cls9 (ly_12 hL) wm_9_142 wy_X9_movesOf wd_X9_movesOf ⟨by decide, by decide, by decide, by decide, Nat.le_of_ble_eq_true rfl⟩ rfl rfl (fun q85 hq85 => ?_)
    show g_H E 0 0 88 [(5, vI q70), (0, vR 12), (1, vI x1), (2, vI x2), (3, vI x3), (4, vR r4)] [vI q85, vI q70] (σ, M, N) _ _
    refine r_run J 2 (pc' := 91) (lv' := [(5, vI (q70 + q85)), (0, vR 12), (1, vI x1), (2, vI x2), (3, vI x3), (4, vR r4)]) (st' := []) rfl ?_
    refine r_sub [1, 5, 0] (lv' := [(0, vR 12), (4, vR r4), (5, vI (q70 + q85))]) rfl ?_
    exact p_X9_weightOf_91 J r4 (q70 + q85) σ M N hL
set_option maxHeartbeats 4000000 in
set_option maxRecDepth 100000 in
theorem p_X9_weightOf_64 {l : Launch} {E : gE} (J : J_X9_weightOf E l) (σ : gS) (M : gM) (N : gN) (hL : g_layC σ) : g_H E 0 0 64 [] [] (σ, M, N) (b_X9_weightOf_64 σ M) (eI σ M N) := by
  unfold b_X9_weightOf_64
  refine r_ldc J rfl wc_9_70 ?_
  exact r_iret J rfl rfl rfl rfl (by decide) (by decide)
set_option maxHeartbeats 4000000 in
set_option maxRecDepth 100000 in
theorem p_X9_weightOf_37 {l : Launch} {E : gE} (J : J_X9_weightOf E l) (x1 : Int32) (x2 : Int32) (x3 : Int32) (r4 : Nat) (σ : gS) (M : gM) (N : gN) (hL : g_layC σ) : g_H E 0 0 37 [(0, vR 12), (1, vI x1), (2, vI x2), (3, vI x3), (4, vR r4)] [] (σ, M, N) (b_X9_weightOf_37 x1 x2 x3 r4 σ M) (eI σ M N) := by
  unfold b_X9_weightOf_37
  refine r_run J 2 (pc' := 39) (lv' := [(0, vR 12), (1, vI x1), (2, vI x2), (3, vI x3), (4, vR r4)]) (st' := [vI x3, vI x2]) rfl ?_
  refine r_icmp_eq J (tgt := 67) rfl (by decide) (fun c39 => ?_) (fun c39 => ?_)
  · exact p_X9_weightOf_67 J x1 x2 x3 r4 σ M N hL
  · refine r_run J 1 (pc' := 44) (lv' := [(0, vR 12), (1, vI x1), (2, vI x2), (3, vI x3), (4, vR r4)]) (st' := [vR r4]) rfl ?_
    refine r_chk (fun hs44 => ?_)
    refine r_getI J cls8 rfl (k := 0) (by decide) wf_9_122 rfl (g_is_at hs44) ?_
    show g_H E 0 0 47 [(0, vR 12), (1, vI x1), (2, vI x2), (3, vI x3), (4, vR r4)] [vI (M r4 0)] (σ, M, N) _ _
    refine r_run J 1 (pc' := 48) (lv' := [(0, vR 12), (1, vI x1), (2, vI x2), (3, vI x3), (4, vR r4)]) (st' := [vI 2, vI (M r4 0)]) rfl ?_
    refine r_icmp_lt J (tgt := 64) rfl (by decide) (fun c48 => ?_) (fun c48 => ?_)
    · refine r_sub [] (lv' := []) rfl ?_
      exact p_X9_weightOf_64 J σ M N hL
    · refine r_run J 1 (pc' := 52) (lv' := [(0, vR 12), (1, vI x1), (2, vI x2), (3, vI x3), (4, vR r4)]) (st' := [vR 12]) rfl ?_
      refine r_getR J cls9 rfl (k := 5) (t := 14) (by decide) wf_9_28 rfl rfl (ly_12 hL) (lr_12_5 hL) (fun _ => ?_)
      show g_H E 0 0 55 [(0, vR 12), (1, vI x1), (2, vI x2), (3, vI x3), (4, vR r4)] [vR 16] (σ, M, N) _ _
      refine r_run J 1 (pc' := 56) (lv' := [(0, vR 12), (1, vI x1), (2, vI x2), (3, vI x3), (4, vR r4)]) (st' := [vI x2, vR 16]) rfl ?_
      refine r_iald J rfl (ly_16 hL) (fun i56 => ?_)
      show g_H E 0 0 57 [(0, vR 12), (1, vI x1), (2, vI x2), (3, vI x3), (4, vR r4)] [vI (M 16 x2.toNatClampNeg)] (σ, M, N) _ _
      refine r_run J 4 (pc' := 61) (lv' := [(0, vR 12), (1, vI x1), (2, vI x2), (3, vI x3), (4, vR r4)]) (st' := [vI (((M 16 x2.toNatClampNeg) >>> (x3 &&& 31)) &&& (1 : Int32))]) rfl ?_
      refine r_if_ne J (tgt := 67) rfl (by decide) (fun c61 => ?_) (fun c61 => ?_)
      · refine r_sub [] (lv' := []) rfl ?_
        exact p_X9_weightOf_64 J σ M N hL
      · exact p_X9_weightOf_67 J x1 x2 x3 r4 σ M N hL
set_option maxHeartbeats 4000000 in
set_option maxRecDepth 100000 in
theorem p_X9_weightOf_34 {l : Launch} {E : gE} (J : J_X9_weightOf E l) (σ : gS) (M : gM) (N : gN) (hL : g_layC σ) : g_H E 0 0 34 [] [] (σ, M, N) (b_X9_weightOf_34 σ M) (eI σ M N) := by
  unfold b_X9_weightOf_34
  refine r_ldc J rfl wc_9_70 ?_
  exact r_iret J rfl rfl rfl rfl (by decide) (by decide)
set_option maxHeartbeats 4000000 in
set_option maxRecDepth 100000 in
theorem p_X9_weightOf_0 {l : Launch} {E : gE} (J : J_X9_weightOf E l) (x1 : Int32) (x2 : Int32) (x3 : Int32) (σ : gS) (M : gM) (N : gN) (hL : g_layC σ) : g_H E 0 0 0 [(0, vR 12), (1, vI x1), (2, vI x2), (3, vI x3)] [] (σ, M, N) (b_X9_weightOf_0 x1 x2 x3 σ M) (eI σ M N) := by
  unfold b_X9_weightOf_0
  refine r_run J 1 (pc' := 1) (lv' := [(0, vR 12), (1, vI x1), (2, vI x2), (3, vI x3)]) (st' := [vR 12]) rfl ?_
  refine r_getR J cls9 rfl (k := 7) (t := 18) (by decide) wf_9_37 rfl rfl (ly_12 hL) (lr_12_7 hL) (fun _ => ?_)
  show g_H E 0 0 4 [(0, vR 12), (1, vI x1), (2, vI x2), (3, vI x3)] [vR 18] (σ, M, N) _ _
  refine r_run J 1 (pc' := 5) (lv' := [(0, vR 12), (1, vI x1), (2, vI x2), (3, vI x3)]) (st' := [vI x1, vR 18]) rfl ?_
  refine r_aald J rfl (Or.inr (Or.inl ⟨rfl, rfl⟩)) (ly_18 hL) (fun i5 _ => ?_)
  show g_H E 0 0 6 [(0, vR 12), (1, vI x1), (2, vI x2), (3, vI x3)] [vR (σ.2 18 x1.toNatClampNeg)] (σ, M, N) _ _
  refine r_run J 2 (pc' := 10) (lv' := [(4, vR (σ.2 18 x1.toNatClampNeg)), (0, vR 12), (1, vI x1), (2, vI x2), (3, vI x3)]) (st' := [vR (σ.2 18 x1.toNatClampNeg)]) rfl ?_
  refine r_chk (fun hs10 => ?_)
  refine r_getI J cls8 rfl (k := 1) (by decide) wf_9_141 rfl (g_is_at hs10) ?_
  show g_H E 0 0 13 [(4, vR (σ.2 18 x1.toNatClampNeg)), (0, vR 12), (1, vI x1), (2, vI x2), (3, vI x3)] [vI (M (σ.2 18 x1.toNatClampNeg) 1)] (σ, M, N) _ _
  refine r_if_ne J (tgt := 37) rfl (by decide) (fun c13 => ?_) (fun c13 => ?_)
  · refine r_run J 1 (pc' := 17) (lv' := [(4, vR (σ.2 18 x1.toNatClampNeg)), (0, vR 12), (1, vI x1), (2, vI x2), (3, vI x3)]) (st' := [vR 12]) rfl ?_
    refine r_getR J cls9 rfl (k := 6) (t := 15) (by decide) wf_9_31 rfl rfl (ly_12 hL) (lr_12_6 hL) (fun _ => ?_)
    show g_H E 0 0 20 [(4, vR (σ.2 18 x1.toNatClampNeg)), (0, vR 12), (1, vI x1), (2, vI x2), (3, vI x3)] [vR 17] (σ, M, N) _ _
    refine r_run J 1 (pc' := 21) (lv' := [(4, vR (σ.2 18 x1.toNatClampNeg)), (0, vR 12), (1, vI x1), (2, vI x2), (3, vI x3)]) (st' := [vI x2, vR 17]) rfl ?_
    refine r_zald J rfl (ly_17 hL) (fun i21 => ?_)
    show g_H E 0 0 22 [(4, vR (σ.2 18 x1.toNatClampNeg)), (0, vR 12), (1, vI x1), (2, vI x2), (3, vI x3)] [vI (M 17 x2.toNatClampNeg)] (σ, M, N) _ _
    refine r_if_ne J (tgt := 34) rfl (by decide) (fun c22 => ?_) (fun c22 => ?_)
    · refine r_run J 1 (pc' := 26) (lv' := [(4, vR (σ.2 18 x1.toNatClampNeg)), (0, vR 12), (1, vI x1), (2, vI x2), (3, vI x3)]) (st' := [vR 12]) rfl ?_
      refine r_getR J cls9 rfl (k := 6) (t := 15) (by decide) wf_9_31 rfl rfl (ly_12 hL) (lr_12_6 hL) (fun _ => ?_)
      show g_H E 0 0 29 [(4, vR (σ.2 18 x1.toNatClampNeg)), (0, vR 12), (1, vI x1), (2, vI x2), (3, vI x3)] [vR 17] (σ, M, N) _ _
      refine r_run J 1 (pc' := 30) (lv' := [(4, vR (σ.2 18 x1.toNatClampNeg)), (0, vR 12), (1, vI x1), (2, vI x2), (3, vI x3)]) (st' := [vI x3, vR 17]) rfl ?_
      refine r_zald J rfl (ly_17 hL) (fun i30 => ?_)
      show g_H E 0 0 31 [(4, vR (σ.2 18 x1.toNatClampNeg)), (0, vR 12), (1, vI x1), (2, vI x2), (3, vI x3)] [vI (M 17 x3.toNatClampNeg)] (σ, M, N) _ _
      refine r_if_eq J (tgt := 37) rfl (by decide) (fun c31 => ?_) (fun c31 => ?_)
      · refine r_sub [1, 2, 3, 4, 0] (lv' := [(0, vR 12), (1, vI x1), (2, vI x2), (3, vI x3), (4, vR (σ.2 18 x1.toNatClampNeg))]) rfl ?_
        exact p_X9_weightOf_37 J x1 x2 x3 (σ.2 18 x1.toNatClampNeg) σ M N hL
      · refine r_sub [] (lv' := []) rfl ?_
        exact p_X9_weightOf_34 J σ M N hL
    · refine r_sub [] (lv' := []) rfl ?_
      exact p_X9_weightOf_34 J σ M N hL
  · refine r_sub [1, 2, 3, 4, 0] (lv' := [(0, vR 12), (1, vI x1), (2, vI x2), (3, vI x3), (4, vR (σ.2 18 x1.toNatClampNeg))]) rfl ?_
    exact p_X9_weightOf_37 J x1 x2 x3 (σ.2 18 x1.toNatClampNeg) σ M N hL
noncomputable def f_X9_weightOf (x1 : Int32) (x2 : Int32) (x3 : Int32) (σ : gS) (M : gM) : Option (Int32) := b_X9_weightOf_0 x1 x2 x3 σ M
theorem c_X9_weightOf {l : Launch} (x1 : Int32) (x2 : Int32) (x3 : Int32) (σ : gS) (M : gM) (N : gN) (hL : g_layC σ) (r : Int32) (h : f_X9_weightOf x1 x2 x3 σ M = some r) : g_Ct l yX9_weightOf cX9_weightOf 6 (some .int) 2 0 0 [vR 12, vI x1, vI x2, vI x3] (σ, M, N) (eI σ M N r) :=
  g_Ct.of tb_X9_weightOf (by decide +kernel) tk_X9_weightOf (Nat.le_of_ble_eq_true rfl) (fun E J => p_X9_weightOf_0 J x1 x2 x3 σ M N hL r h)
