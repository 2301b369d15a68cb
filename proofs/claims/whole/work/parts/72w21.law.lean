/-! The law's own methods. -/
def yL_bill : MethodName := ⟨R_law, "bill", "(LTourRooms;I[J)I"⟩
def yL_owes : MethodName := ⟨R_law, "owes", "(LTourRooms;I[J)I"⟩
abbrev cL_bill : ByteArray := method_3_code
abbrev cL_owes : ByteArray := method_4_code
theorem g_J.tab {E : gE} {cc : ByteArray} {own nm : String} {ret : Option FieldType} {nL : Nat} {tab tab' : gT} {rk mc ms : Nat} {l : Launch} (J : g_J E cc own nm ret nL tab rk mc ms l) (h : g_okT cc tab' = true) : g_J E cc own nm ret nL tab' rk mc ms l := ⟨J.1, J.2.1, h, J.2.2.2⟩
def tb_L_bill : gT := [(0, .aload_n 2, 1, 0), (1, .iconst 0, 1, 0), (2, .aload_n 0, 1, 0), (3, .iload_n 1, 1, 0), (4, .invokevirtual 7, 3, 0), (7, .i2l, 1, 0), (8, .lastore, 1, 0), (9, .goto 6, 3, 0), (12, .astore_n 3, 1, 0), (13, .iconst 1, 1, 1), (14, .ireturn, 1, 0), (15, .iconst 0, 1, 0), (16, .ireturn, 1, 0)]
theorem tk_L_bill : g_okT cL_bill tb_L_bill = true := by decide +kernel
set_option maxRecDepth 100000 in
theorem wm_L_158 : Cond.methodLink R_law 158 yL_bill ∈ g_tb := g_tb_5 142 (by decide +kernel) (by decide +kernel)
theorem wd_L_bill : yL_bill.cls ≠ "java/lang/invoke/MethodHandle" ∧ yL_bill.cls ≠ "java/lang/invoke/VarHandle" ∧ (parseMethodDescriptor yL_bill.desc).map (fun d => d.parameters.length) = some 3 := by decide +kernel
set_option maxRecDepth 100000 in
theorem wy_L_bill : Cond.static yL_bill ∈ g_tb ∧ Cond.initialized yL_bill.cls ∈ g_tb ∧ Cond.codeWith yL_bill cL_bill 4 (some .int) [(0, 9, 12, 13)] ∈ g_tb := by decide +kernel
set_option maxHeartbeats 4000000 in
set_option maxRecDepth 100000 in
theorem c_L_bill {l : Launch} (hl : l.stackTraces = false) (x1 : Int32) (σ : gS) (M : gM) (N : gN) (hL : g_layL σ) (r : Int32 × gN) (h : f_L_bill x1 σ M N = some r) : g_CtH l yL_bill cL_bill 4 (some .int) [(0, 9, 12, 13)] 8 1 6 [vR 1, vI x1, vR 39] (σ, M, N) (eIN σ M r) := by
  refine g_CtH.of tb_L_bill (by decide +kernel) tk_L_bill (Nat.le_of_ble_eq_true rfl) (fun E J hX => ?_)
  unfold f_L_bill at h
  cases hq : f_X11_bill x1 σ M with
  | none => rw [hq] at h; cases h
  | some q =>
    rw [hq] at h
    cases q with
    | none =>
      have h : some (1, N) = some r := h
      have k : g_H E 0 0 0 [(0, vR 1), (1, vI x1), (2, vR 39)] [] (σ, M, N) (some ((1 : Int32), N)) (eIN σ M) := by
        refine r_run J 4 (pc' := 4) (lv' := [(0, vR 1), (1, vI x1), (2, vR 39)]) (st' := [vI x1, vR 1, vI 0, vR 39]) rfl ?_
        exact r_callVT J hX (As := [vI x1]) (st := [vI 0, vR 39]) (t_X11_bill x1 σ M N hL.1 hl hq) cls11 (ly_1 hL.1) wm_L_7 th_kL wy_X11_bill wd_X11_bill ⟨by decide, by decide, by decide, by decide, Nat.le_of_ble_eq_true rfl⟩ rfl (by decide) rfl (by decide) rfl rfl rfl rfl rfl
      exact k r h
    | some v =>
      have h : some ((0 : Int32), g_up N 39 ((0 : Int32).toNatClampNeg) v.toInt64) = some r := h
      have k : g_H E 0 0 0 [(0, vR 1), (1, vI x1), (2, vR 39)] [] (σ, M, N) ((some v).bind fun q => if g_in (0 : Int32) 1 = true then some ((0 : Int32), g_up N 39 ((0 : Int32).toNatClampNeg) q.toInt64) else none) (eIN σ M) := by
        refine r_run J 4 (pc' := 4) (lv' := [(0, vR 1), (1, vI x1), (2, vR 39)]) (st' := [vI x1, vR 1, vI 0, vR 39]) rfl ?_
        refine r_callV J (As := [vI x1]) (st := [vI 0, vR 39]) (fun r hr => c_X11_bill x1 σ M N hL.1 hl r (by cases hr; exact hq)) cls11 (ly_1 hL.1) wm_L_7 wy_X11_bill wd_X11_bill ⟨by decide, by decide, by decide, by decide, Nat.le_of_ble_eq_true rfl⟩ rfl rfl (fun q4 hq4 => ?_)
        show g_H E 1 6 7 [(0, vR 1), (1, vI x1), (2, vR 39)] [vI q4, vI 0, vR 39] (σ, M, N) _ _
        refine r_run J 1 (pc' := 8) (lv' := [(0, vR 1), (1, vI x1), (2, vR 39)]) (st' := [vL q4.toInt64, vI 0, vR 39]) rfl ?_
        refine r_last J rfl hL.2.2 (fun i8 => ?_)
        show g_H E 1 6 9 [(0, vR 1), (1, vI x1), (2, vR 39)] [] (σ, M, (g_up N 39 ((0 : Int32).toNatClampNeg) q4.toInt64)) _ _
        refine r_run J 2 (pc' := 16) (lv' := [(0, vR 1), (1, vI x1), (2, vR 39)]) (st' := [vI 0]) rfl ?_
        exact r_iret J rfl rfl rfl rfl (by decide) (by decide)
      exact k r h
def tb_L_owes : gT := [(0, .aload_n 2, 1, 0), (1, .iconst 0, 1, 0), (2, .aload_n 0, 1, 0), (3, .iload_n 1, 1, 0), (4, .invokevirtual 15, 3, 0), (7, .i2l, 1, 0), (8, .lastore, 1, 0), (9, .goto 6, 3, 0), (12, .astore_n 3, 1, 0), (13, .iconst 1, 1, 1), (14, .ireturn, 1, 0), (15, .iconst 0, 1, 0), (16, .ireturn, 1, 0)]
theorem tk_L_owes : g_okT cL_owes tb_L_owes = true := by decide +kernel
set_option maxRecDepth 100000 in
theorem wm_L_167 : Cond.methodLink R_law 167 yL_owes ∈ g_tb := g_tb_5 215 (by decide +kernel) (by decide +kernel)
theorem wd_L_owes : yL_owes.cls ≠ "java/lang/invoke/MethodHandle" ∧ yL_owes.cls ≠ "java/lang/invoke/VarHandle" ∧ (parseMethodDescriptor yL_owes.desc).map (fun d => d.parameters.length) = some 3 := by decide +kernel
set_option maxRecDepth 100000 in
theorem wy_L_owes : Cond.static yL_owes ∈ g_tb ∧ Cond.initialized yL_owes.cls ∈ g_tb ∧ Cond.codeWith yL_owes cL_owes 4 (some .int) [(0, 9, 12, 13)] ∈ g_tb := by decide +kernel
set_option maxHeartbeats 4000000 in
set_option maxRecDepth 100000 in
theorem c_L_owes {l : Launch} (hl : l.stackTraces = false) (x1 : Int32) (σ : gS) (M : gM) (N : gN) (hL : g_layL σ) (r : Int32 × gN) (h : f_L_owes x1 σ M N = some r) : g_CtH l yL_owes cL_owes 4 (some .int) [(0, 9, 12, 13)] 8 1 6 [vR 1, vI x1, vR 39] (σ, M, N) (eIN σ M r) := by
  refine g_CtH.of tb_L_owes (by decide +kernel) tk_L_owes (Nat.le_of_ble_eq_true rfl) (fun E J hX => ?_)
  unfold f_L_owes at h
  cases hq : f_X11_owes x1 σ M with
  | none => rw [hq] at h; cases h
  | some q =>
    rw [hq] at h
    cases q with
    | none =>
      have h : some (1, N) = some r := h
      have k : g_H E 0 0 0 [(0, vR 1), (1, vI x1), (2, vR 39)] [] (σ, M, N) (some ((1 : Int32), N)) (eIN σ M) := by
        refine r_run J 4 (pc' := 4) (lv' := [(0, vR 1), (1, vI x1), (2, vR 39)]) (st' := [vI x1, vR 1, vI 0, vR 39]) rfl ?_
        exact r_callVT J hX (As := [vI x1]) (st := [vI 0, vR 39]) (t_X11_owes x1 σ M N hL.1 hl hq) cls11 (ly_1 hL.1) wm_L_15 th_kL wy_X11_owes wd_X11_owes ⟨by decide, by decide, by decide, by decide, Nat.le_of_ble_eq_true rfl⟩ rfl (by decide) rfl (by decide) rfl rfl rfl rfl rfl
      exact k r h
    | some v =>
      have h : some ((0 : Int32), g_up N 39 ((0 : Int32).toNatClampNeg) v.toInt64) = some r := h
      have k : g_H E 0 0 0 [(0, vR 1), (1, vI x1), (2, vR 39)] [] (σ, M, N) ((some v).bind fun q => if g_in (0 : Int32) 1 = true then some ((0 : Int32), g_up N 39 ((0 : Int32).toNatClampNeg) q.toInt64) else none) (eIN σ M) := by
        refine r_run J 4 (pc' := 4) (lv' := [(0, vR 1), (1, vI x1), (2, vR 39)]) (st' := [vI x1, vR 1, vI 0, vR 39]) rfl ?_
        refine r_callV J (As := [vI x1]) (st := [vI 0, vR 39]) (fun r hr => c_X11_owes x1 σ M N hL.1 hl r (by cases hr; exact hq)) cls11 (ly_1 hL.1) wm_L_15 wy_X11_owes wd_X11_owes ⟨by decide, by decide, by decide, by decide, Nat.le_of_ble_eq_true rfl⟩ rfl rfl (fun q4 hq4 => ?_)
        show g_H E 1 6 7 [(0, vR 1), (1, vI x1), (2, vR 39)] [vI q4, vI 0, vR 39] (σ, M, N) _ _
        refine r_run J 1 (pc' := 8) (lv' := [(0, vR 1), (1, vI x1), (2, vR 39)]) (st' := [vL q4.toInt64, vI 0, vR 39]) rfl ?_
        refine r_last J rfl hL.2.2 (fun i8 => ?_)
        show g_H E 1 6 9 [(0, vR 1), (1, vI x1), (2, vR 39)] [] (σ, M, (g_up N 39 ((0 : Int32).toNatClampNeg) q4.toInt64)) _ _
        refine r_run J 2 (pc' := 16) (lv' := [(0, vR 1), (1, vI x1), (2, vR 39)]) (st' := [vI 0]) rfl ?_
        exact r_iret J rfl rfl rfl rfl (by decide) (by decide)
      exact k r h
abbrev J_L_law (E : gE) (l : Launch) : Prop := g_J E code R_law "law" (some .boolean) 7 [] 1400 601024 7293034 l
