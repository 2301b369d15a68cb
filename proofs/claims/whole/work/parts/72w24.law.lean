def tb_L_law_558 : gT := [(558, .invokevirtual 46, 3, 0), (561, .aload_n 2, 1, 0), (562, .aload_n 0, 1, 0), (563, .iload 4, 2, 0), (565, .iconst 1, 1, 1), (566, .iadd, 1, 0), (567, .iaload, 1, 0), (568, .aload_n 0, 1, 0), (569, .iload 4, 2, 0), (571, .iconst 2, 1, 2), (572, .iadd, 1, 0), (573, .iaload, 1, 0), (574, .aload_n 0, 1, 0), (575, .iload 4, 2, 0), (577, .iconst 3, 1, 3), (578, .iadd, 1, 0), (579, .iaload, 1, 0), (580, .ifCond .eq 7, 3, 0), (583, .iconst 1, 1, 1), (584, .goto 4, 3, 0), (587, .iconst 0, 1, 0)]
set_option maxRecDepth 100000 in
theorem tk_L_law_558 : g_okT code tb_L_law_558 = true := by decide +kernel
set_option maxHeartbeats 4000000 in
set_option maxRecDepth 100000 in
theorem p_L_law_558 {l : Launch} {E : gE} {L : Nat} {xs : Nat → Int32} (J0 : J_L_law E l) (hXs : g_Xs E L xs) (hl : l.stackTraces = false) {ce0 sl0 : Nat} (hce : ce0 + 9 ≤ 601024) (hsl : sl0 + 11264 ≤ 7293034) {k23 : Int32 → Nat → (Nat → Int32) → gS → gM → gN → Option (Int32 × gS × gM × gN)} (H23 : ∀ (x4 : Int32) (σ : gS) (M : gM) (N : gN) (_ : g_layL σ), g_H E (ce0 + 9) (sl0 + 11264) 23 [(0, vE 300), (1, vR 1), (2, vR 40), (3, vR 39), (4, vI x4)] [] (σ, M, N) (k23 x4 L xs σ M N) eISMN) (x4 : Int32) (sx0 : Int32) (sx1 : Int32) (sx2 : Int32) (σ : gS) (M : gM) (N : gN) (hL : g_layL σ) : g_H E ce0 sl0 558 [(0, vE 300), (1, vR 1), (2, vR 40), (3, vR 39), (4, vI x4)] [vI sx0, vI sx1, vI sx2, vR 1] (σ, M, N) (b_L_law_558 k23 x4 sx0 sx1 sx2 L xs σ M N) eISMN := by
  have J := g_J.tab J0 tk_L_law_558
  unfold b_L_law_558
  refine r_callV J (As := [vI sx2, vI sx1, vI sx0]) (st := []) (fun r hr => c_X11_absent sx2 sx1 sx0 σ M N (hL).1 r hr) cls11 (ly_1 (hL).1) wm_L_46 wy_X11_absent wd_X11_absent ⟨by decide, by decide, by omega, by omega, Nat.le_of_ble_eq_true rfl⟩ rfl rfl (fun q558 hq558 => ?_)
  show g_H E ce0 sl0 561 [(0, vE 300), (1, vR 1), (2, vR 40), (3, vR 39), (4, vI x4)] [vI q558.1] (σ, q558.2, N) _ _
  refine r_run J 5 (pc' := 567) (lv' := [(0, vE 300), (1, vR 1), (2, vR 40), (3, vR 39), (4, vI x4)]) (st' := [vI (x4 + (1 : Int32)), vE 300, vR 40, vI q558.1]) rfl ?_
  refine r_xld J hXs rfl (fun i567 => ?_)
  show g_H E ce0 sl0 568 [(0, vE 300), (1, vR 1), (2, vR 40), (3, vR 39), (4, vI x4)] [vI (xs (x4 + (1 : Int32)).toNatClampNeg), vR 40, vI q558.1] (σ, q558.2, N) _ _
  refine r_run J 4 (pc' := 573) (lv' := [(0, vE 300), (1, vR 1), (2, vR 40), (3, vR 39), (4, vI x4)]) (st' := [vI (x4 + (2 : Int32)), vE 300, vI (xs (x4 + (1 : Int32)).toNatClampNeg), vR 40, vI q558.1]) rfl ?_
  refine r_xld J hXs rfl (fun i573 => ?_)
  show g_H E ce0 sl0 574 [(0, vE 300), (1, vR 1), (2, vR 40), (3, vR 39), (4, vI x4)] [vI (xs (x4 + (2 : Int32)).toNatClampNeg), vI (xs (x4 + (1 : Int32)).toNatClampNeg), vR 40, vI q558.1] (σ, q558.2, N) _ _
  refine r_run J 4 (pc' := 579) (lv' := [(0, vE 300), (1, vR 1), (2, vR 40), (3, vR 39), (4, vI x4)]) (st' := [vI (x4 + (3 : Int32)), vE 300, vI (xs (x4 + (2 : Int32)).toNatClampNeg), vI (xs (x4 + (1 : Int32)).toNatClampNeg), vR 40, vI q558.1]) rfl ?_
  refine r_xld J hXs rfl (fun i579 => ?_)
  show g_H E ce0 sl0 580 [(0, vE 300), (1, vR 1), (2, vR 40), (3, vR 39), (4, vI x4)] [vI (xs (x4 + (3 : Int32)).toNatClampNeg), vI (xs (x4 + (2 : Int32)).toNatClampNeg), vI (xs (x4 + (1 : Int32)).toNatClampNeg), vR 40, vI q558.1] (σ, q558.2, N) _ _
  refine r_if_eq J (tgt := 587) rfl (by decide) (fun c580 => ?_) (fun c580 => ?_)
  · refine r_run J 1 (pc' := 588) (lv' := [(0, vE 300), (1, vR 1), (2, vR 40), (3, vR 39), (4, vI x4)]) (st' := [vI 0, vI (xs (x4 + (2 : Int32)).toNatClampNeg), vI (xs (x4 + (1 : Int32)).toNatClampNeg), vR 40, vI q558.1]) rfl ?_
    exact p_L_law_588 J0 hXs hl hce hsl H23 x4 0 (xs (x4 + (2 : Int32)).toNatClampNeg) (xs (x4 + (1 : Int32)).toNatClampNeg) q558.1 σ q558.2 N hL
  · refine r_run J 2 (pc' := 588) (lv' := [(0, vE 300), (1, vR 1), (2, vR 40), (3, vR 39), (4, vI x4)]) (st' := [vI 1, vI (xs (x4 + (2 : Int32)).toNatClampNeg), vI (xs (x4 + (1 : Int32)).toNatClampNeg), vR 40, vI q558.1]) rfl ?_
    exact p_L_law_588 J0 hXs hl hce hsl H23 x4 1 (xs (x4 + (2 : Int32)).toNatClampNeg) (xs (x4 + (1 : Int32)).toNatClampNeg) q558.1 σ q558.2 N hL
def tb_L_law_531 : gT := [(531, .aload_n 1, 1, 0), (532, .aload_n 0, 1, 0), (533, .iload 4, 2, 0), (535, .iconst 1, 1, 1), (536, .iadd, 1, 0), (537, .iaload, 1, 0), (538, .aload_n 0, 1, 0), (539, .iload 4, 2, 0), (541, .iconst 2, 1, 2), (542, .iadd, 1, 0), (543, .iaload, 1, 0), (544, .aload_n 0, 1, 0), (545, .iload 4, 2, 0), (547, .iconst 3, 1, 3), (548, .iadd, 1, 0), (549, .iaload, 1, 0), (550, .ifCond .eq 7, 3, 0), (553, .iconst 1, 1, 1), (554, .goto 4, 3, 0), (557, .iconst 0, 1, 0)]
set_option maxRecDepth 100000 in
theorem tk_L_law_531 : g_okT code tb_L_law_531 = true := by decide +kernel
set_option maxHeartbeats 4000000 in
set_option maxRecDepth 100000 in
theorem p_L_law_531 {l : Launch} {E : gE} {L : Nat} {xs : Nat → Int32} (J0 : J_L_law E l) (hXs : g_Xs E L xs) (hl : l.stackTraces = false) {ce0 sl0 : Nat} (hce : ce0 + 9 ≤ 601024) (hsl : sl0 + 11264 ≤ 7293034) {k23 : Int32 → Nat → (Nat → Int32) → gS → gM → gN → Option (Int32 × gS × gM × gN)} (H23 : ∀ (x4 : Int32) (σ : gS) (M : gM) (N : gN) (_ : g_layL σ), g_H E (ce0 + 9) (sl0 + 11264) 23 [(0, vE 300), (1, vR 1), (2, vR 40), (3, vR 39), (4, vI x4)] [] (σ, M, N) (k23 x4 L xs σ M N) eISMN) (x4 : Int32) (σ : gS) (M : gM) (N : gN) (hL : g_layL σ) : g_H E ce0 sl0 531 [(0, vE 300), (1, vR 1), (2, vR 40), (3, vR 39), (4, vI x4)] [] (σ, M, N) (b_L_law_531 k23 x4 L xs σ M N) eISMN := by
  have J := g_J.tab J0 tk_L_law_531
  unfold b_L_law_531
  refine r_run J 5 (pc' := 537) (lv' := [(0, vE 300), (1, vR 1), (2, vR 40), (3, vR 39), (4, vI x4)]) (st' := [vI (x4 + (1 : Int32)), vE 300, vR 1]) rfl ?_
  refine r_xld J hXs rfl (fun i537 => ?_)
  show g_H E ce0 sl0 538 [(0, vE 300), (1, vR 1), (2, vR 40), (3, vR 39), (4, vI x4)] [vI (xs (x4 + (1 : Int32)).toNatClampNeg), vR 1] (σ, M, N) _ _
  refine r_run J 4 (pc' := 543) (lv' := [(0, vE 300), (1, vR 1), (2, vR 40), (3, vR 39), (4, vI x4)]) (st' := [vI (x4 + (2 : Int32)), vE 300, vI (xs (x4 + (1 : Int32)).toNatClampNeg), vR 1]) rfl ?_
  refine r_xld J hXs rfl (fun i543 => ?_)
  show g_H E ce0 sl0 544 [(0, vE 300), (1, vR 1), (2, vR 40), (3, vR 39), (4, vI x4)] [vI (xs (x4 + (2 : Int32)).toNatClampNeg), vI (xs (x4 + (1 : Int32)).toNatClampNeg), vR 1] (σ, M, N) _ _
  refine r_run J 4 (pc' := 549) (lv' := [(0, vE 300), (1, vR 1), (2, vR 40), (3, vR 39), (4, vI x4)]) (st' := [vI (x4 + (3 : Int32)), vE 300, vI (xs (x4 + (2 : Int32)).toNatClampNeg), vI (xs (x4 + (1 : Int32)).toNatClampNeg), vR 1]) rfl ?_
  refine r_xld J hXs rfl (fun i549 => ?_)
  show g_H E ce0 sl0 550 [(0, vE 300), (1, vR 1), (2, vR 40), (3, vR 39), (4, vI x4)] [vI (xs (x4 + (3 : Int32)).toNatClampNeg), vI (xs (x4 + (2 : Int32)).toNatClampNeg), vI (xs (x4 + (1 : Int32)).toNatClampNeg), vR 1] (σ, M, N) _ _
  refine r_if_eq J (tgt := 557) rfl (by decide) (fun c550 => ?_) (fun c550 => ?_)
  · refine r_run J 1 (pc' := 558) (lv' := [(0, vE 300), (1, vR 1), (2, vR 40), (3, vR 39), (4, vI x4)]) (st' := [vI 0, vI (xs (x4 + (2 : Int32)).toNatClampNeg), vI (xs (x4 + (1 : Int32)).toNatClampNeg), vR 1]) rfl ?_
    exact p_L_law_558 J0 hXs hl hce hsl H23 x4 0 (xs (x4 + (2 : Int32)).toNatClampNeg) (xs (x4 + (1 : Int32)).toNatClampNeg) σ M N hL
  · refine r_run J 2 (pc' := 558) (lv' := [(0, vE 300), (1, vR 1), (2, vR 40), (3, vR 39), (4, vI x4)]) (st' := [vI 1, vI (xs (x4 + (2 : Int32)).toNatClampNeg), vI (xs (x4 + (1 : Int32)).toNatClampNeg), vR 1]) rfl ?_
    exact p_L_law_558 J0 hXs hl hce hsl H23 x4 1 (xs (x4 + (2 : Int32)).toNatClampNeg) (xs (x4 + (1 : Int32)).toNatClampNeg) σ M N hL
def tb_L_law_506 : gT := [(506, .aload_n 1, 1, 0), (507, .aload_n 0, 1, 0), (508, .iload 4, 2, 0), (510, .iconst 1, 1, 1), (511, .iadd, 1, 0), (512, .iaload, 1, 0), (513, .invokevirtual 41, 3, 0), (516, .aload_n 2, 1, 0), (517, .aload_n 0, 1, 0), (518, .iload 4, 2, 0), (520, .iconst 1, 1, 1), (521, .iadd, 1, 0), (522, .iaload, 1, 0), (523, .invokevirtual 45, 3, 0), (526, .if_icmp .eq 1382, 3, 0), (529, .iconst 0, 1, 0), (530, .ireturn, 1, 0)]
set_option maxRecDepth 100000 in
theorem tk_L_law_506 : g_okT code tb_L_law_506 = true := by decide +kernel
set_option maxHeartbeats 4000000 in
set_option maxRecDepth 100000 in
theorem p_L_law_506 {l : Launch} {E : gE} {L : Nat} {xs : Nat → Int32} (J0 : J_L_law E l) (hXs : g_Xs E L xs) (hl : l.stackTraces = false) {ce0 sl0 : Nat} (hce : ce0 + 9 ≤ 601024) (hsl : sl0 + 11264 ≤ 7293034) {k23 : Int32 → Nat → (Nat → Int32) → gS → gM → gN → Option (Int32 × gS × gM × gN)} (H23 : ∀ (x4 : Int32) (σ : gS) (M : gM) (N : gN) (_ : g_layL σ), g_H E (ce0 + 9) (sl0 + 11264) 23 [(0, vE 300), (1, vR 1), (2, vR 40), (3, vR 39), (4, vI x4)] [] (σ, M, N) (k23 x4 L xs σ M N) eISMN) (x4 : Int32) (σ : gS) (M : gM) (N : gN) (hL : g_layL σ) : g_H E ce0 sl0 506 [(0, vE 300), (1, vR 1), (2, vR 40), (3, vR 39), (4, vI x4)] [] (σ, M, N) (b_L_law_506 k23 x4 L xs σ M N) eISMN := by
  have J := g_J.tab J0 tk_L_law_506
  unfold b_L_law_506
  refine r_run J 5 (pc' := 512) (lv' := [(0, vE 300), (1, vR 1), (2, vR 40), (3, vR 39), (4, vI x4)]) (st' := [vI (x4 + (1 : Int32)), vE 300, vR 1]) rfl ?_
  refine r_xld J hXs rfl (fun i512 => ?_)
  show g_H E ce0 sl0 513 [(0, vE 300), (1, vR 1), (2, vR 40), (3, vR 39), (4, vI x4)] [vI (xs (x4 + (1 : Int32)).toNatClampNeg), vR 1] (σ, M, N) _ _
  refine r_callV J (As := [vI (xs (x4 + (1 : Int32)).toNatClampNeg)]) (st := []) (fun r hr => c_X11_gone (xs (x4 + (1 : Int32)).toNatClampNeg) σ M N (hL).1 r hr) cls11 (ly_1 (hL).1) wm_L_41 wy_X11_gone wd_X11_gone ⟨by decide, by decide, by omega, by omega, Nat.le_of_ble_eq_true rfl⟩ rfl rfl (fun q513 hq513 => ?_)
  show g_H E ce0 sl0 516 [(0, vE 300), (1, vR 1), (2, vR 40), (3, vR 39), (4, vI x4)] [vI q513.1] (σ, q513.2, N) _ _
  refine r_run J 5 (pc' := 522) (lv' := [(0, vE 300), (1, vR 1), (2, vR 40), (3, vR 39), (4, vI x4)]) (st' := [vI (x4 + (1 : Int32)), vE 300, vR 40, vI q513.1]) rfl ?_
  refine r_xld J hXs rfl (fun i522 => ?_)
  show g_H E ce0 sl0 523 [(0, vE 300), (1, vR 1), (2, vR 40), (3, vR 39), (4, vI x4)] [vI (xs (x4 + (1 : Int32)).toNatClampNeg), vR 40, vI q513.1] (σ, q513.2, N) _ _
  refine r_callV J (As := [vI (xs (x4 + (1 : Int32)).toNatClampNeg)]) (st := [vI q513.1]) (fun r hr => c_X12_gone (xs (x4 + (1 : Int32)).toNatClampNeg) σ q513.2 N (hL).2.1 r hr) cls12 (ly_40 (hL).2.1) wm_L_45 wy_X12_gone wd_X12_gone ⟨by decide, by decide, by omega, by omega, Nat.le_of_ble_eq_true rfl⟩ rfl rfl (fun q523 hq523 => ?_)
  show g_H E ce0 sl0 526 [(0, vE 300), (1, vR 1), (2, vR 40), (3, vR 39), (4, vI x4)] [vI q523.1, vI q513.1] (σ, q523.2, N) _ _
  refine r_icmp_eq J (tgt := 1908) rfl (by decide) (fun c526 => ?_) (fun c526 => ?_)
  · refine r_widen (ce' := (ce0 + 9)) (sl' := (sl0 + 11264)) (by omega) (by omega) ?_
    exact p_L_law_1908 J0 hXs hl hce hsl H23 x4 σ q523.2 N hL
  · refine r_run J 1 (pc' := 530) (lv' := [(0, vE 300), (1, vR 1), (2, vR 40), (3, vR 39), (4, vI x4)]) (st' := [vI 0]) rfl ?_
    exact r_iret J rfl rfl rfl rfl (by omega) (by omega)
def tb_L_law_457 : gT := [(457, .aload_n 1, 1, 0), (458, .aload_n 0, 1, 0), (459, .iload 4, 2, 0), (461, .iconst 1, 1, 1), (462, .iadd, 1, 0), (463, .iaload, 1, 0), (464, .aload_n 0, 1, 0), (465, .iload 4, 2, 0), (467, .iconst 2, 1, 2), (468, .iadd, 1, 0), (469, .iaload, 1, 0), (470, .aload_n 0, 1, 0), (471, .iload 4, 2, 0), (473, .iconst 3, 1, 3), (474, .iadd, 1, 0), (475, .iaload, 1, 0), (476, .invokevirtual 36, 3, 0), (479, .aload_n 2, 1, 0), (480, .aload_n 0, 1, 0), (481, .iload 4, 2, 0), (483, .iconst 1, 1, 1), (484, .iadd, 1, 0), (485, .iaload, 1, 0), (486, .aload_n 0, 1, 0), (487, .iload 4, 2, 0), (489, .iconst 2, 1, 2), (490, .iadd, 1, 0), (491, .iaload, 1, 0), (492, .aload_n 0, 1, 0), (493, .iload 4, 2, 0), (495, .iconst 3, 1, 3), (496, .iadd, 1, 0), (497, .iaload, 1, 0), (498, .invokevirtual 40, 3, 0), (501, .if_icmp .eq 1407, 3, 0), (504, .iconst 0, 1, 0), (505, .ireturn, 1, 0)]
set_option maxRecDepth 100000 in
theorem tk_L_law_457 : g_okT code tb_L_law_457 = true := by decide +kernel
set_option maxHeartbeats 4000000 in
set_option maxRecDepth 100000 in
theorem p_L_law_457 {l : Launch} {E : gE} {L : Nat} {xs : Nat → Int32} (J0 : J_L_law E l) (hXs : g_Xs E L xs) (hl : l.stackTraces = false) {ce0 sl0 : Nat} (hce : ce0 + 9 ≤ 601024) (hsl : sl0 + 11264 ≤ 7293034) {k23 : Int32 → Nat → (Nat → Int32) → gS → gM → gN → Option (Int32 × gS × gM × gN)} (H23 : ∀ (x4 : Int32) (σ : gS) (M : gM) (N : gN) (_ : g_layL σ), g_H E (ce0 + 9) (sl0 + 11264) 23 [(0, vE 300), (1, vR 1), (2, vR 40), (3, vR 39), (4, vI x4)] [] (σ, M, N) (k23 x4 L xs σ M N) eISMN) (x4 : Int32) (σ : gS) (M : gM) (N : gN) (hL : g_layL σ) : g_H E ce0 sl0 457 [(0, vE 300), (1, vR 1), (2, vR 40), (3, vR 39), (4, vI x4)] [] (σ, M, N) (b_L_law_457 k23 x4 L xs σ M N) eISMN := by
  have J := g_J.tab J0 tk_L_law_457
  unfold b_L_law_457
  refine r_run J 5 (pc' := 463) (lv' := [(0, vE 300), (1, vR 1), (2, vR 40), (3, vR 39), (4, vI x4)]) (st' := [vI (x4 + (1 : Int32)), vE 300, vR 1]) rfl ?_
  refine r_xld J hXs rfl (fun i463 => ?_)
  show g_H E ce0 sl0 464 [(0, vE 300), (1, vR 1), (2, vR 40), (3, vR 39), (4, vI x4)] [vI (xs (x4 + (1 : Int32)).toNatClampNeg), vR 1] (σ, M, N) _ _
  refine r_run J 4 (pc' := 469) (lv' := [(0, vE 300), (1, vR 1), (2, vR 40), (3, vR 39), (4, vI x4)]) (st' := [vI (x4 + (2 : Int32)), vE 300, vI (xs (x4 + (1 : Int32)).toNatClampNeg), vR 1]) rfl ?_
  refine r_xld J hXs rfl (fun i469 => ?_)
  show g_H E ce0 sl0 470 [(0, vE 300), (1, vR 1), (2, vR 40), (3, vR 39), (4, vI x4)] [vI (xs (x4 + (2 : Int32)).toNatClampNeg), vI (xs (x4 + (1 : Int32)).toNatClampNeg), vR 1] (σ, M, N) _ _
  refine r_run J 4 (pc' := 475) (lv' := [(0, vE 300), (1, vR 1), (2, vR 40), (3, vR 39), (4, vI x4)]) (st' := [vI (x4 + (3 : Int32)), vE 300, vI (xs (x4 + (2 : Int32)).toNatClampNeg), vI (xs (x4 + (1 : Int32)).toNatClampNeg), vR 1]) rfl ?_
  refine r_xld J hXs rfl (fun i475 => ?_)
  show g_H E ce0 sl0 476 [(0, vE 300), (1, vR 1), (2, vR 40), (3, vR 39), (4, vI x4)] [vI (xs (x4 + (3 : Int32)).toNatClampNeg), vI (xs (x4 + (2 : Int32)).toNatClampNeg), vI (xs (x4 + (1 : Int32)).toNatClampNeg), vR 1] (σ, M, N) _ _
  refine r_callV J (As := [vI (xs (x4 + (1 : Int32)).toNatClampNeg), vI (xs (x4 + (2 : Int32)).toNatClampNeg), vI (xs (x4 + (3 : Int32)).toNatClampNeg)]) (st := []) (fun r hr => c_X11_stays (xs (x4 + (1 : Int32)).toNatClampNeg) (xs (x4 + (2 : Int32)).toNatClampNeg) (xs (x4 + (3 : Int32)).toNatClampNeg) σ M N (hL).1 r hr) cls11 (ly_1 (hL).1) wm_L_36 wy_X11_stays wd_X11_stays ⟨by decide, by decide, by omega, by omega, Nat.le_of_ble_eq_true rfl⟩ rfl rfl (fun q476 hq476 => ?_)
  show g_H E ce0 sl0 479 [(0, vE 300), (1, vR 1), (2, vR 40), (3, vR 39), (4, vI x4)] [vI q476.1] (σ, q476.2, N) _ _
  refine r_run J 5 (pc' := 485) (lv' := [(0, vE 300), (1, vR 1), (2, vR 40), (3, vR 39), (4, vI x4)]) (st' := [vI (x4 + (1 : Int32)), vE 300, vR 40, vI q476.1]) rfl ?_
  refine r_xld J hXs rfl (fun i485 => ?_)
  show g_H E ce0 sl0 486 [(0, vE 300), (1, vR 1), (2, vR 40), (3, vR 39), (4, vI x4)] [vI (xs (x4 + (1 : Int32)).toNatClampNeg), vR 40, vI q476.1] (σ, q476.2, N) _ _
  refine r_run J 4 (pc' := 491) (lv' := [(0, vE 300), (1, vR 1), (2, vR 40), (3, vR 39), (4, vI x4)]) (st' := [vI (x4 + (2 : Int32)), vE 300, vI (xs (x4 + (1 : Int32)).toNatClampNeg), vR 40, vI q476.1]) rfl ?_
  refine r_xld J hXs rfl (fun i491 => ?_)
  show g_H E ce0 sl0 492 [(0, vE 300), (1, vR 1), (2, vR 40), (3, vR 39), (4, vI x4)] [vI (xs (x4 + (2 : Int32)).toNatClampNeg), vI (xs (x4 + (1 : Int32)).toNatClampNeg), vR 40, vI q476.1] (σ, q476.2, N) _ _
  refine r_run J 4 (pc' := 497) (lv' := [(0, vE 300), (1, vR 1), (2, vR 40), (3, vR 39), (4, vI x4)]) (st' := [vI (x4 + (3 : Int32)), vE 300, vI (xs (x4 + (2 : Int32)).toNatClampNeg), vI (xs (x4 + (1 : Int32)).toNatClampNeg), vR 40, vI q476.1]) rfl ?_
  refine r_xld J hXs rfl (fun i497 => ?_)
  show g_H E ce0 sl0 498 [(0, vE 300), (1, vR 1), (2, vR 40), (3, vR 39), (4, vI x4)] [vI (xs (x4 + (3 : Int32)).toNatClampNeg), vI (xs (x4 + (2 : Int32)).toNatClampNeg), vI (xs (x4 + (1 : Int32)).toNatClampNeg), vR 40, vI q476.1] (σ, q476.2, N) _ _
  refine r_callV J (As := [vI (xs (x4 + (1 : Int32)).toNatClampNeg), vI (xs (x4 + (2 : Int32)).toNatClampNeg), vI (xs (x4 + (3 : Int32)).toNatClampNeg)]) (st := [vI q476.1]) (fun r hr => c_X12_stays (xs (x4 + (1 : Int32)).toNatClampNeg) (xs (x4 + (2 : Int32)).toNatClampNeg) (xs (x4 + (3 : Int32)).toNatClampNeg) σ q476.2 N (hL).2.1 r hr) cls12 (ly_40 (hL).2.1) wm_L_40 wy_X12_stays wd_X12_stays ⟨by decide, by decide, by omega, by omega, Nat.le_of_ble_eq_true rfl⟩ rfl rfl (fun q498 hq498 => ?_)
  show g_H E ce0 sl0 501 [(0, vE 300), (1, vR 1), (2, vR 40), (3, vR 39), (4, vI x4)] [vI q498.1, vI q476.1] (σ, q498.2, N) _ _
  refine r_icmp_eq J (tgt := 1908) rfl (by decide) (fun c501 => ?_) (fun c501 => ?_)
  · refine r_widen (ce' := (ce0 + 9)) (sl' := (sl0 + 11264)) (by omega) (by omega) ?_
    exact p_L_law_1908 J0 hXs hl hce hsl H23 x4 σ q498.2 N hL
  · refine r_run J 1 (pc' := 505) (lv' := [(0, vE 300), (1, vR 1), (2, vR 40), (3, vR 39), (4, vI x4)]) (st' := [vI 0]) rfl ?_
    exact r_iret J rfl rfl rfl rfl (by omega) (by omega)
def tb_L_law_449 : gT := [(449, .invokevirtual 35, 3, 0), (452, .if_icmp .eq 1456, 3, 0), (455, .iconst 0, 1, 0), (456, .ireturn, 1, 0)]
set_option maxRecDepth 100000 in
theorem tk_L_law_449 : g_okT code tb_L_law_449 = true := by decide +kernel
set_option maxHeartbeats 4000000 in
set_option maxRecDepth 100000 in
theorem p_L_law_449 {l : Launch} {E : gE} {L : Nat} {xs : Nat → Int32} (J0 : J_L_law E l) (hXs : g_Xs E L xs) (hl : l.stackTraces = false) {ce0 sl0 : Nat} (hce : ce0 + 9 ≤ 601024) (hsl : sl0 + 11264 ≤ 7293034) {k23 : Int32 → Nat → (Nat → Int32) → gS → gM → gN → Option (Int32 × gS × gM × gN)} (H23 : ∀ (x4 : Int32) (σ : gS) (M : gM) (N : gN) (_ : g_layL σ), g_H E (ce0 + 9) (sl0 + 11264) 23 [(0, vE 300), (1, vR 1), (2, vR 40), (3, vR 39), (4, vI x4)] [] (σ, M, N) (k23 x4 L xs σ M N) eISMN) (x4 : Int32) (sx0 : Int32) (sx1 : Int32) (sx2 : Int32) (sx4 : Int32) (σ : gS) (M : gM) (N : gN) (hL : g_layL σ) : g_H E ce0 sl0 449 [(0, vE 300), (1, vR 1), (2, vR 40), (3, vR 39), (4, vI x4)] [vI sx0, vI sx1, vI sx2, vR 40, vI sx4] (σ, M, N) (b_L_law_449 k23 x4 sx0 sx1 sx2 sx4 L xs σ M N) eISMN := by
  have J := g_J.tab J0 tk_L_law_449
  unfold b_L_law_449
  refine r_callV J (As := [vI sx2, vI sx1, vI sx0]) (st := [vI sx4]) (fun r hr => c_X12_bar sx2 sx1 sx0 σ M N (hL).2.1 r hr) cls12 (ly_40 (hL).2.1) wm_L_35 wy_X12_bar wd_X12_bar ⟨by decide, by decide, by omega, by omega, Nat.le_of_ble_eq_true rfl⟩ rfl rfl (fun q449 hq449 => ?_)
  show g_H E ce0 sl0 452 [(0, vE 300), (1, vR 1), (2, vR 40), (3, vR 39), (4, vI x4)] [vI q449.1, vI sx4] (σ, q449.2, N) _ _
  refine r_icmp_eq J (tgt := 1908) rfl (by decide) (fun c452 => ?_) (fun c452 => ?_)
  · refine r_widen (ce' := (ce0 + 9)) (sl' := (sl0 + 11264)) (by omega) (by omega) ?_
    exact p_L_law_1908 J0 hXs hl hce hsl H23 x4 σ q449.2 N hL
  · refine r_run J 1 (pc' := 456) (lv' := [(0, vE 300), (1, vR 1), (2, vR 40), (3, vR 39), (4, vI x4)]) (st' := [vI 0]) rfl ?_
    exact r_iret J rfl rfl rfl rfl (by omega) (by omega)
def tb_L_law_419 : gT := [(419, .invokevirtual 32, 3, 0), (422, .aload_n 2, 1, 0), (423, .aload_n 0, 1, 0), (424, .iload 4, 2, 0), (426, .iconst 1, 1, 1), (427, .iadd, 1, 0), (428, .iaload, 1, 0), (429, .aload_n 0, 1, 0), (430, .iload 4, 2, 0), (432, .iconst 2, 1, 2), (433, .iadd, 1, 0), (434, .iaload, 1, 0), (435, .aload_n 0, 1, 0), (436, .iload 4, 2, 0), (438, .iconst 3, 1, 3), (439, .iadd, 1, 0), (440, .iaload, 1, 0), (441, .ifCond .eq 7, 3, 0), (444, .iconst 1, 1, 1), (445, .goto 4, 3, 0), (448, .iconst 0, 1, 0)]
set_option maxRecDepth 100000 in
theorem tk_L_law_419 : g_okT code tb_L_law_419 = true := by decide +kernel
set_option maxHeartbeats 4000000 in
set_option maxRecDepth 100000 in
theorem p_L_law_419 {l : Launch} {E : gE} {L : Nat} {xs : Nat → Int32} (J0 : J_L_law E l) (hXs : g_Xs E L xs) (hl : l.stackTraces = false) {ce0 sl0 : Nat} (hce : ce0 + 9 ≤ 601024) (hsl : sl0 + 11264 ≤ 7293034) {k23 : Int32 → Nat → (Nat → Int32) → gS → gM → gN → Option (Int32 × gS × gM × gN)} (H23 : ∀ (x4 : Int32) (σ : gS) (M : gM) (N : gN) (_ : g_layL σ), g_H E (ce0 + 9) (sl0 + 11264) 23 [(0, vE 300), (1, vR 1), (2, vR 40), (3, vR 39), (4, vI x4)] [] (σ, M, N) (k23 x4 L xs σ M N) eISMN) (x4 : Int32) (sx0 : Int32) (sx1 : Int32) (sx2 : Int32) (σ : gS) (M : gM) (N : gN) (hL : g_layL σ) : g_H E ce0 sl0 419 [(0, vE 300), (1, vR 1), (2, vR 40), (3, vR 39), (4, vI x4)] [vI sx0, vI sx1, vI sx2, vR 1] (σ, M, N) (b_L_law_419 k23 x4 sx0 sx1 sx2 L xs σ M N) eISMN := by
  have J := g_J.tab J0 tk_L_law_419
  unfold b_L_law_419
  refine r_callV J (As := [vI sx2, vI sx1, vI sx0]) (st := []) (fun r hr => c_X11_bar sx2 sx1 sx0 σ M N (hL).1 r hr) cls11 (ly_1 (hL).1) wm_L_32 wy_X11_bar wd_X11_bar ⟨by decide, by decide, by omega, by omega, Nat.le_of_ble_eq_true rfl⟩ rfl rfl (fun q419 hq419 => ?_)
  show g_H E ce0 sl0 422 [(0, vE 300), (1, vR 1), (2, vR 40), (3, vR 39), (4, vI x4)] [vI q419.1] (σ, q419.2, N) _ _
  refine r_run J 5 (pc' := 428) (lv' := [(0, vE 300), (1, vR 1), (2, vR 40), (3, vR 39), (4, vI x4)]) (st' := [vI (x4 + (1 : Int32)), vE 300, vR 40, vI q419.1]) rfl ?_
  refine r_xld J hXs rfl (fun i428 => ?_)
  show g_H E ce0 sl0 429 [(0, vE 300), (1, vR 1), (2, vR 40), (3, vR 39), (4, vI x4)] [vI (xs (x4 + (1 : Int32)).toNatClampNeg), vR 40, vI q419.1] (σ, q419.2, N) _ _
  refine r_run J 4 (pc' := 434) (lv' := [(0, vE 300), (1, vR 1), (2, vR 40), (3, vR 39), (4, vI x4)]) (st' := [vI (x4 + (2 : Int32)), vE 300, vI (xs (x4 + (1 : Int32)).toNatClampNeg), vR 40, vI q419.1]) rfl ?_
  refine r_xld J hXs rfl (fun i434 => ?_)
  show g_H E ce0 sl0 435 [(0, vE 300), (1, vR 1), (2, vR 40), (3, vR 39), (4, vI x4)] [vI (xs (x4 + (2 : Int32)).toNatClampNeg), vI (xs (x4 + (1 : Int32)).toNatClampNeg), vR 40, vI q419.1] (σ, q419.2, N) _ _
  refine r_run J 4 (pc' := 440) (lv' := [(0, vE 300), (1, vR 1), (2, vR 40), (3, vR 39), (4, vI x4)]) (st' := [vI (x4 + (3 : Int32)), vE 300, vI (xs (x4 + (2 : Int32)).toNatClampNeg), vI (xs (x4 + (1 : Int32)).toNatClampNeg), vR 40, vI q419.1]) rfl ?_
  refine r_xld J hXs rfl (fun i440 => ?_)
  show g_H E ce0 sl0 441 [(0, vE 300), (1, vR 1), (2, vR 40), (3, vR 39), (4, vI x4)] [vI (xs (x4 + (3 : Int32)).toNatClampNeg), vI (xs (x4 + (2 : Int32)).toNatClampNeg), vI (xs (x4 + (1 : Int32)).toNatClampNeg), vR 40, vI q419.1] (σ, q419.2, N) _ _
  refine r_if_eq J (tgt := 448) rfl (by decide) (fun c441 => ?_) (fun c441 => ?_)
  · refine r_run J 1 (pc' := 449) (lv' := [(0, vE 300), (1, vR 1), (2, vR 40), (3, vR 39), (4, vI x4)]) (st' := [vI 0, vI (xs (x4 + (2 : Int32)).toNatClampNeg), vI (xs (x4 + (1 : Int32)).toNatClampNeg), vR 40, vI q419.1]) rfl ?_
    exact p_L_law_449 J0 hXs hl hce hsl H23 x4 0 (xs (x4 + (2 : Int32)).toNatClampNeg) (xs (x4 + (1 : Int32)).toNatClampNeg) q419.1 σ q419.2 N hL
  · refine r_run J 2 (pc' := 449) (lv' := [(0, vE 300), (1, vR 1), (2, vR 40), (3, vR 39), (4, vI x4)]) (st' := [vI 1, vI (xs (x4 + (2 : Int32)).toNatClampNeg), vI (xs (x4 + (1 : Int32)).toNatClampNeg), vR 40, vI q419.1]) rfl ?_
    exact p_L_law_449 J0 hXs hl hce hsl H23 x4 1 (xs (x4 + (2 : Int32)).toNatClampNeg) (xs (x4 + (1 : Int32)).toNatClampNeg) q419.1 σ q419.2 N hL
def tb_L_law_392 : gT := [(392, .aload_n 1, 1, 0), (393, .aload_n 0, 1, 0), (394, .iload 4, 2, 0), (396, .iconst 1, 1, 1), (397, .iadd, 1, 0), (398, .iaload, 1, 0), (399, .aload_n 0, 1, 0), (400, .iload 4, 2, 0), (402, .iconst 2, 1, 2), (403, .iadd, 1, 0), (404, .iaload, 1, 0), (405, .aload_n 0, 1, 0), (406, .iload 4, 2, 0), (408, .iconst 3, 1, 3), (409, .iadd, 1, 0), (410, .iaload, 1, 0), (411, .ifCond .eq 7, 3, 0), (414, .iconst 1, 1, 1), (415, .goto 4, 3, 0), (418, .iconst 0, 1, 0)]
set_option maxRecDepth 100000 in
theorem tk_L_law_392 : g_okT code tb_L_law_392 = true := by decide +kernel
set_option maxHeartbeats 4000000 in
set_option maxRecDepth 100000 in
theorem p_L_law_392 {l : Launch} {E : gE} {L : Nat} {xs : Nat → Int32} (J0 : J_L_law E l) (hXs : g_Xs E L xs) (hl : l.stackTraces = false) {ce0 sl0 : Nat} (hce : ce0 + 9 ≤ 601024) (hsl : sl0 + 11264 ≤ 7293034) {k23 : Int32 → Nat → (Nat → Int32) → gS → gM → gN → Option (Int32 × gS × gM × gN)} (H23 : ∀ (x4 : Int32) (σ : gS) (M : gM) (N : gN) (_ : g_layL σ), g_H E (ce0 + 9) (sl0 + 11264) 23 [(0, vE 300), (1, vR 1), (2, vR 40), (3, vR 39), (4, vI x4)] [] (σ, M, N) (k23 x4 L xs σ M N) eISMN) (x4 : Int32) (σ : gS) (M : gM) (N : gN) (hL : g_layL σ) : g_H E ce0 sl0 392 [(0, vE 300), (1, vR 1), (2, vR 40), (3, vR 39), (4, vI x4)] [] (σ, M, N) (b_L_law_392 k23 x4 L xs σ M N) eISMN := by
  have J := g_J.tab J0 tk_L_law_392
  unfold b_L_law_392
  refine r_run J 5 (pc' := 398) (lv' := [(0, vE 300), (1, vR 1), (2, vR 40), (3, vR 39), (4, vI x4)]) (st' := [vI (x4 + (1 : Int32)), vE 300, vR 1]) rfl ?_
  refine r_xld J hXs rfl (fun i398 => ?_)
  show g_H E ce0 sl0 399 [(0, vE 300), (1, vR 1), (2, vR 40), (3, vR 39), (4, vI x4)] [vI (xs (x4 + (1 : Int32)).toNatClampNeg), vR 1] (σ, M, N) _ _
  refine r_run J 4 (pc' := 404) (lv' := [(0, vE 300), (1, vR 1), (2, vR 40), (3, vR 39), (4, vI x4)]) (st' := [vI (x4 + (2 : Int32)), vE 300, vI (xs (x4 + (1 : Int32)).toNatClampNeg), vR 1]) rfl ?_
  refine r_xld J hXs rfl (fun i404 => ?_)
  show g_H E ce0 sl0 405 [(0, vE 300), (1, vR 1), (2, vR 40), (3, vR 39), (4, vI x4)] [vI (xs (x4 + (2 : Int32)).toNatClampNeg), vI (xs (x4 + (1 : Int32)).toNatClampNeg), vR 1] (σ, M, N) _ _
  refine r_run J 4 (pc' := 410) (lv' := [(0, vE 300), (1, vR 1), (2, vR 40), (3, vR 39), (4, vI x4)]) (st' := [vI (x4 + (3 : Int32)), vE 300, vI (xs (x4 + (2 : Int32)).toNatClampNeg), vI (xs (x4 + (1 : Int32)).toNatClampNeg), vR 1]) rfl ?_
  refine r_xld J hXs rfl (fun i410 => ?_)
  show g_H E ce0 sl0 411 [(0, vE 300), (1, vR 1), (2, vR 40), (3, vR 39), (4, vI x4)] [vI (xs (x4 + (3 : Int32)).toNatClampNeg), vI (xs (x4 + (2 : Int32)).toNatClampNeg), vI (xs (x4 + (1 : Int32)).toNatClampNeg), vR 1] (σ, M, N) _ _
  refine r_if_eq J (tgt := 418) rfl (by decide) (fun c411 => ?_) (fun c411 => ?_)
  · refine r_run J 1 (pc' := 419) (lv' := [(0, vE 300), (1, vR 1), (2, vR 40), (3, vR 39), (4, vI x4)]) (st' := [vI 0, vI (xs (x4 + (2 : Int32)).toNatClampNeg), vI (xs (x4 + (1 : Int32)).toNatClampNeg), vR 1]) rfl ?_
    exact p_L_law_419 J0 hXs hl hce hsl H23 x4 0 (xs (x4 + (2 : Int32)).toNatClampNeg) (xs (x4 + (1 : Int32)).toNatClampNeg) σ M N hL
  · refine r_run J 2 (pc' := 419) (lv' := [(0, vE 300), (1, vR 1), (2, vR 40), (3, vR 39), (4, vI x4)]) (st' := [vI 1, vI (xs (x4 + (2 : Int32)).toNatClampNeg), vI (xs (x4 + (1 : Int32)).toNatClampNeg), vR 1]) rfl ?_
    exact p_L_law_419 J0 hXs hl hce hsl H23 x4 1 (xs (x4 + (2 : Int32)).toNatClampNeg) (xs (x4 + (1 : Int32)).toNatClampNeg) σ M N hL
def tb_L_law_384 : gT := [(384, .invokevirtual 31, 3, 0), (387, .if_icmp .eq 1521, 3, 0), (390, .iconst 0, 1, 0), (391, .ireturn, 1, 0)]
set_option maxRecDepth 100000 in
theorem tk_L_law_384 : g_okT code tb_L_law_384 = true := by decide +kernel
set_option maxHeartbeats 4000000 in
set_option maxRecDepth 100000 in
theorem p_L_law_384 {l : Launch} {E : gE} {L : Nat} {xs : Nat → Int32} (J0 : J_L_law E l) (hXs : g_Xs E L xs) (hl : l.stackTraces = false) {ce0 sl0 : Nat} (hce : ce0 + 9 ≤ 601024) (hsl : sl0 + 11264 ≤ 7293034) {k23 : Int32 → Nat → (Nat → Int32) → gS → gM → gN → Option (Int32 × gS × gM × gN)} (H23 : ∀ (x4 : Int32) (σ : gS) (M : gM) (N : gN) (_ : g_layL σ), g_H E (ce0 + 9) (sl0 + 11264) 23 [(0, vE 300), (1, vR 1), (2, vR 40), (3, vR 39), (4, vI x4)] [] (σ, M, N) (k23 x4 L xs σ M N) eISMN) (x4 : Int32) (sx0 : Int32) (sx1 : Int32) (sx2 : Int32) (sx4 : Int32) (σ : gS) (M : gM) (N : gN) (hL : g_layL σ) : g_H E ce0 sl0 384 [(0, vE 300), (1, vR 1), (2, vR 40), (3, vR 39), (4, vI x4)] [vI sx0, vI sx1, vI sx2, vR 40, vI sx4] (σ, M, N) (b_L_law_384 k23 x4 sx0 sx1 sx2 sx4 L xs σ M N) eISMN := by
  have J := g_J.tab J0 tk_L_law_384
  unfold b_L_law_384
  refine r_callV J (As := [vI sx2, vI sx1, vI sx0]) (st := [vI sx4]) (fun r hr => c_X12_friends sx2 sx1 sx0 σ M N (hL).2.1 r hr) cls12 (ly_40 (hL).2.1) wm_L_31 wy_X12_friends wd_X12_friends ⟨by decide, by decide, by omega, by omega, Nat.le_of_ble_eq_true rfl⟩ rfl rfl (fun q384 hq384 => ?_)
  show g_H E ce0 sl0 387 [(0, vE 300), (1, vR 1), (2, vR 40), (3, vR 39), (4, vI x4)] [vI q384.1, vI sx4] (σ, q384.2, N) _ _
  refine r_icmp_eq J (tgt := 1908) rfl (by decide) (fun c387 => ?_) (fun c387 => ?_)
  · refine r_widen (ce' := (ce0 + 9)) (sl' := (sl0 + 11264)) (by omega) (by omega) ?_
    exact p_L_law_1908 J0 hXs hl hce hsl H23 x4 σ q384.2 N hL
  · refine r_run J 1 (pc' := 391) (lv' := [(0, vE 300), (1, vR 1), (2, vR 40), (3, vR 39), (4, vI x4)]) (st' := [vI 0]) rfl ?_
    exact r_iret J rfl rfl rfl rfl (by omega) (by omega)
def tb_L_law_354 : gT := [(354, .invokevirtual 27, 3, 0), (357, .aload_n 2, 1, 0), (358, .aload_n 0, 1, 0), (359, .iload 4, 2, 0), (361, .iconst 1, 1, 1), (362, .iadd, 1, 0), (363, .iaload, 1, 0), (364, .aload_n 0, 1, 0), (365, .iload 4, 2, 0), (367, .iconst 2, 1, 2), (368, .iadd, 1, 0), (369, .iaload, 1, 0), (370, .aload_n 0, 1, 0), (371, .iload 4, 2, 0), (373, .iconst 3, 1, 3), (374, .iadd, 1, 0), (375, .iaload, 1, 0), (376, .ifCond .eq 7, 3, 0), (379, .iconst 1, 1, 1), (380, .goto 4, 3, 0), (383, .iconst 0, 1, 0)]
set_option maxRecDepth 100000 in
theorem tk_L_law_354 : g_okT code tb_L_law_354 = true := by decide +kernel
set_option maxHeartbeats 4000000 in
set_option maxRecDepth 100000 in
theorem p_L_law_354 {l : Launch} {E : gE} {L : Nat} {xs : Nat → Int32} (J0 : J_L_law E l) (hXs : g_Xs E L xs) (hl : l.stackTraces = false) {ce0 sl0 : Nat} (hce : ce0 + 9 ≤ 601024) (hsl : sl0 + 11264 ≤ 7293034) {k23 : Int32 → Nat → (Nat → Int32) → gS → gM → gN → Option (Int32 × gS × gM × gN)} (H23 : ∀ (x4 : Int32) (σ : gS) (M : gM) (N : gN) (_ : g_layL σ), g_H E (ce0 + 9) (sl0 + 11264) 23 [(0, vE 300), (1, vR 1), (2, vR 40), (3, vR 39), (4, vI x4)] [] (σ, M, N) (k23 x4 L xs σ M N) eISMN) (x4 : Int32) (sx0 : Int32) (sx1 : Int32) (sx2 : Int32) (σ : gS) (M : gM) (N : gN) (hL : g_layL σ) : g_H E ce0 sl0 354 [(0, vE 300), (1, vR 1), (2, vR 40), (3, vR 39), (4, vI x4)] [vI sx0, vI sx1, vI sx2, vR 1] (σ, M, N) (b_L_law_354 k23 x4 sx0 sx1 sx2 L xs σ M N) eISMN := by
  have J := g_J.tab J0 tk_L_law_354
  unfold b_L_law_354
  refine r_callV J (As := [vI sx2, vI sx1, vI sx0]) (st := []) (fun r hr => c_X11_friends sx2 sx1 sx0 σ M N (hL).1 r hr) cls11 (ly_1 (hL).1) wm_L_27 wy_X11_friends wd_X11_friends ⟨by decide, by decide, by omega, by omega, Nat.le_of_ble_eq_true rfl⟩ rfl rfl (fun q354 hq354 => ?_)
  show g_H E ce0 sl0 357 [(0, vE 300), (1, vR 1), (2, vR 40), (3, vR 39), (4, vI x4)] [vI q354.1] (σ, q354.2, N) _ _
  refine r_run J 5 (pc' := 363) (lv' := [(0, vE 300), (1, vR 1), (2, vR 40), (3, vR 39), (4, vI x4)]) (st' := [vI (x4 + (1 : Int32)), vE 300, vR 40, vI q354.1]) rfl ?_
  refine r_xld J hXs rfl (fun i363 => ?_)
  show g_H E ce0 sl0 364 [(0, vE 300), (1, vR 1), (2, vR 40), (3, vR 39), (4, vI x4)] [vI (xs (x4 + (1 : Int32)).toNatClampNeg), vR 40, vI q354.1] (σ, q354.2, N) _ _
  refine r_run J 4 (pc' := 369) (lv' := [(0, vE 300), (1, vR 1), (2, vR 40), (3, vR 39), (4, vI x4)]) (st' := [vI (x4 + (2 : Int32)), vE 300, vI (xs (x4 + (1 : Int32)).toNatClampNeg), vR 40, vI q354.1]) rfl ?_
  refine r_xld J hXs rfl (fun i369 => ?_)
  show g_H E ce0 sl0 370 [(0, vE 300), (1, vR 1), (2, vR 40), (3, vR 39), (4, vI x4)] [vI (xs (x4 + (2 : Int32)).toNatClampNeg), vI (xs (x4 + (1 : Int32)).toNatClampNeg), vR 40, vI q354.1] (σ, q354.2, N) _ _
  refine r_run J 4 (pc' := 375) (lv' := [(0, vE 300), (1, vR 1), (2, vR 40), (3, vR 39), (4, vI x4)]) (st' := [vI (x4 + (3 : Int32)), vE 300, vI (xs (x4 + (2 : Int32)).toNatClampNeg), vI (xs (x4 + (1 : Int32)).toNatClampNeg), vR 40, vI q354.1]) rfl ?_
  refine r_xld J hXs rfl (fun i375 => ?_)
  show g_H E ce0 sl0 376 [(0, vE 300), (1, vR 1), (2, vR 40), (3, vR 39), (4, vI x4)] [vI (xs (x4 + (3 : Int32)).toNatClampNeg), vI (xs (x4 + (2 : Int32)).toNatClampNeg), vI (xs (x4 + (1 : Int32)).toNatClampNeg), vR 40, vI q354.1] (σ, q354.2, N) _ _
  refine r_if_eq J (tgt := 383) rfl (by decide) (fun c376 => ?_) (fun c376 => ?_)
  · refine r_run J 1 (pc' := 384) (lv' := [(0, vE 300), (1, vR 1), (2, vR 40), (3, vR 39), (4, vI x4)]) (st' := [vI 0, vI (xs (x4 + (2 : Int32)).toNatClampNeg), vI (xs (x4 + (1 : Int32)).toNatClampNeg), vR 40, vI q354.1]) rfl ?_
    exact p_L_law_384 J0 hXs hl hce hsl H23 x4 0 (xs (x4 + (2 : Int32)).toNatClampNeg) (xs (x4 + (1 : Int32)).toNatClampNeg) q354.1 σ q354.2 N hL
  · refine r_run J 2 (pc' := 384) (lv' := [(0, vE 300), (1, vR 1), (2, vR 40), (3, vR 39), (4, vI x4)]) (st' := [vI 1, vI (xs (x4 + (2 : Int32)).toNatClampNeg), vI (xs (x4 + (1 : Int32)).toNatClampNeg), vR 40, vI q354.1]) rfl ?_
    exact p_L_law_384 J0 hXs hl hce hsl H23 x4 1 (xs (x4 + (2 : Int32)).toNatClampNeg) (xs (x4 + (1 : Int32)).toNatClampNeg) q354.1 σ q354.2 N hL
def tb_L_law_327 : gT := [(327, .aload_n 1, 1, 0), (328, .aload_n 0, 1, 0), (329, .iload 4, 2, 0), (331, .iconst 1, 1, 1), (332, .iadd, 1, 0), (333, .iaload, 1, 0), (334, .aload_n 0, 1, 0), (335, .iload 4, 2, 0), (337, .iconst 2, 1, 2), (338, .iadd, 1, 0), (339, .iaload, 1, 0), (340, .aload_n 0, 1, 0), (341, .iload 4, 2, 0), (343, .iconst 3, 1, 3), (344, .iadd, 1, 0), (345, .iaload, 1, 0), (346, .ifCond .eq 7, 3, 0), (349, .iconst 1, 1, 1), (350, .goto 4, 3, 0), (353, .iconst 0, 1, 0)]
set_option maxRecDepth 100000 in
theorem tk_L_law_327 : g_okT code tb_L_law_327 = true := by decide +kernel
set_option maxHeartbeats 4000000 in
set_option maxRecDepth 100000 in
theorem p_L_law_327 {l : Launch} {E : gE} {L : Nat} {xs : Nat → Int32} (J0 : J_L_law E l) (hXs : g_Xs E L xs) (hl : l.stackTraces = false) {ce0 sl0 : Nat} (hce : ce0 + 9 ≤ 601024) (hsl : sl0 + 11264 ≤ 7293034) {k23 : Int32 → Nat → (Nat → Int32) → gS → gM → gN → Option (Int32 × gS × gM × gN)} (H23 : ∀ (x4 : Int32) (σ : gS) (M : gM) (N : gN) (_ : g_layL σ), g_H E (ce0 + 9) (sl0 + 11264) 23 [(0, vE 300), (1, vR 1), (2, vR 40), (3, vR 39), (4, vI x4)] [] (σ, M, N) (k23 x4 L xs σ M N) eISMN) (x4 : Int32) (σ : gS) (M : gM) (N : gN) (hL : g_layL σ) : g_H E ce0 sl0 327 [(0, vE 300), (1, vR 1), (2, vR 40), (3, vR 39), (4, vI x4)] [] (σ, M, N) (b_L_law_327 k23 x4 L xs σ M N) eISMN := by
  have J := g_J.tab J0 tk_L_law_327
  unfold b_L_law_327
  refine r_run J 5 (pc' := 333) (lv' := [(0, vE 300), (1, vR 1), (2, vR 40), (3, vR 39), (4, vI x4)]) (st' := [vI (x4 + (1 : Int32)), vE 300, vR 1]) rfl ?_
  refine r_xld J hXs rfl (fun i333 => ?_)
  show g_H E ce0 sl0 334 [(0, vE 300), (1, vR 1), (2, vR 40), (3, vR 39), (4, vI x4)] [vI (xs (x4 + (1 : Int32)).toNatClampNeg), vR 1] (σ, M, N) _ _
  refine r_run J 4 (pc' := 339) (lv' := [(0, vE 300), (1, vR 1), (2, vR 40), (3, vR 39), (4, vI x4)]) (st' := [vI (x4 + (2 : Int32)), vE 300, vI (xs (x4 + (1 : Int32)).toNatClampNeg), vR 1]) rfl ?_
  refine r_xld J hXs rfl (fun i339 => ?_)
  show g_H E ce0 sl0 340 [(0, vE 300), (1, vR 1), (2, vR 40), (3, vR 39), (4, vI x4)] [vI (xs (x4 + (2 : Int32)).toNatClampNeg), vI (xs (x4 + (1 : Int32)).toNatClampNeg), vR 1] (σ, M, N) _ _
  refine r_run J 4 (pc' := 345) (lv' := [(0, vE 300), (1, vR 1), (2, vR 40), (3, vR 39), (4, vI x4)]) (st' := [vI (x4 + (3 : Int32)), vE 300, vI (xs (x4 + (2 : Int32)).toNatClampNeg), vI (xs (x4 + (1 : Int32)).toNatClampNeg), vR 1]) rfl ?_
  refine r_xld J hXs rfl (fun i345 => ?_)
  show g_H E ce0 sl0 346 [(0, vE 300), (1, vR 1), (2, vR 40), (3, vR 39), (4, vI x4)] [vI (xs (x4 + (3 : Int32)).toNatClampNeg), vI (xs (x4 + (2 : Int32)).toNatClampNeg), vI (xs (x4 + (1 : Int32)).toNatClampNeg), vR 1] (σ, M, N) _ _
  refine r_if_eq J (tgt := 353) rfl (by decide) (fun c346 => ?_) (fun c346 => ?_)
  · refine r_run J 1 (pc' := 354) (lv' := [(0, vE 300), (1, vR 1), (2, vR 40), (3, vR 39), (4, vI x4)]) (st' := [vI 0, vI (xs (x4 + (2 : Int32)).toNatClampNeg), vI (xs (x4 + (1 : Int32)).toNatClampNeg), vR 1]) rfl ?_
    exact p_L_law_354 J0 hXs hl hce hsl H23 x4 0 (xs (x4 + (2 : Int32)).toNatClampNeg) (xs (x4 + (1 : Int32)).toNatClampNeg) σ M N hL
  · refine r_run J 2 (pc' := 354) (lv' := [(0, vE 300), (1, vR 1), (2, vR 40), (3, vR 39), (4, vI x4)]) (st' := [vI 1, vI (xs (x4 + (2 : Int32)).toNatClampNeg), vI (xs (x4 + (1 : Int32)).toNatClampNeg), vR 1]) rfl ?_
    exact p_L_law_354 J0 hXs hl hce hsl H23 x4 1 (xs (x4 + (2 : Int32)).toNatClampNeg) (xs (x4 + (1 : Int32)).toNatClampNeg) σ M N hL
def tb_L_law_300 : gT := [(300, .aload_n 0, 1, 0), (301, .iload 4, 2, 0), (303, .iconst 4, 1, 4), (304, .iadd, 1, 0), (305, .iaload, 1, 0), (306, .aload_n 0, 1, 0), (307, .iload 4, 2, 0), (309, .iconst 5, 1, 5), (310, .iadd, 1, 0), (311, .iaload, 1, 0), (312, .aload_n 0, 1, 0), (313, .iload 4, 2, 0), (315, .bipush 6, 2, 6), (317, .iadd, 1, 0), (318, .iaload, 1, 0), (319, .invokevirtual 26, 3, 0), (322, .if_icmp .eq 1586, 3, 0), (325, .iconst 0, 1, 0), (326, .ireturn, 1, 0)]
set_option maxRecDepth 100000 in
theorem tk_L_law_300 : g_okT code tb_L_law_300 = true := by decide +kernel
set_option maxHeartbeats 4000000 in
set_option maxRecDepth 100000 in
theorem p_L_law_300 {l : Launch} {E : gE} {L : Nat} {xs : Nat → Int32} (J0 : J_L_law E l) (hXs : g_Xs E L xs) (hl : l.stackTraces = false) {ce0 sl0 : Nat} (hce : ce0 + 9 ≤ 601024) (hsl : sl0 + 11264 ≤ 7293034) {k23 : Int32 → Nat → (Nat → Int32) → gS → gM → gN → Option (Int32 × gS × gM × gN)} (H23 : ∀ (x4 : Int32) (σ : gS) (M : gM) (N : gN) (_ : g_layL σ), g_H E (ce0 + 9) (sl0 + 11264) 23 [(0, vE 300), (1, vR 1), (2, vR 40), (3, vR 39), (4, vI x4)] [] (σ, M, N) (k23 x4 L xs σ M N) eISMN) (x4 : Int32) (sx0 : Int32) (sx1 : Int32) (sx2 : Int32) (sx4 : Int32) (σ : gS) (M : gM) (N : gN) (hL : g_layL σ) : g_H E (ce0 + 1) (sl0 + 11) 300 [(0, vE 300), (1, vR 1), (2, vR 40), (3, vR 39), (4, vI x4)] [vI sx0, vI sx1, vI sx2, vR 40, vI sx4] (σ, M, N) (b_L_law_300 k23 x4 sx0 sx1 sx2 sx4 L xs σ M N) eISMN := by
  have J := g_J.tab J0 tk_L_law_300
  unfold b_L_law_300
  refine r_run J 4 (pc' := 305) (lv' := [(0, vE 300), (1, vR 1), (2, vR 40), (3, vR 39), (4, vI x4)]) (st' := [vI (x4 + (4 : Int32)), vE 300, vI sx0, vI sx1, vI sx2, vR 40, vI sx4]) rfl ?_
  refine r_xld J hXs rfl (fun i305 => ?_)
  show g_H E (ce0 + 1) (sl0 + 11) 306 [(0, vE 300), (1, vR 1), (2, vR 40), (3, vR 39), (4, vI x4)] [vI (xs (x4 + (4 : Int32)).toNatClampNeg), vI sx0, vI sx1, vI sx2, vR 40, vI sx4] (σ, M, N) _ _
  refine r_run J 4 (pc' := 311) (lv' := [(0, vE 300), (1, vR 1), (2, vR 40), (3, vR 39), (4, vI x4)]) (st' := [vI (x4 + (5 : Int32)), vE 300, vI (xs (x4 + (4 : Int32)).toNatClampNeg), vI sx0, vI sx1, vI sx2, vR 40, vI sx4]) rfl ?_
  refine r_xld J hXs rfl (fun i311 => ?_)
  show g_H E (ce0 + 1) (sl0 + 11) 312 [(0, vE 300), (1, vR 1), (2, vR 40), (3, vR 39), (4, vI x4)] [vI (xs (x4 + (5 : Int32)).toNatClampNeg), vI (xs (x4 + (4 : Int32)).toNatClampNeg), vI sx0, vI sx1, vI sx2, vR 40, vI sx4] (σ, M, N) _ _
  refine r_run J 4 (pc' := 318) (lv' := [(0, vE 300), (1, vR 1), (2, vR 40), (3, vR 39), (4, vI x4)]) (st' := [vI (x4 + (6 : Int32)), vE 300, vI (xs (x4 + (5 : Int32)).toNatClampNeg), vI (xs (x4 + (4 : Int32)).toNatClampNeg), vI sx0, vI sx1, vI sx2, vR 40, vI sx4]) rfl ?_
  refine r_xld J hXs rfl (fun i318 => ?_)
  show g_H E (ce0 + 1) (sl0 + 11) 319 [(0, vE 300), (1, vR 1), (2, vR 40), (3, vR 39), (4, vI x4)] [vI (xs (x4 + (6 : Int32)).toNatClampNeg), vI (xs (x4 + (5 : Int32)).toNatClampNeg), vI (xs (x4 + (4 : Int32)).toNatClampNeg), vI sx0, vI sx1, vI sx2, vR 40, vI sx4] (σ, M, N) _ _
  refine r_callV J (As := [vI sx2, vI sx1, vI sx0, vI (xs (x4 + (4 : Int32)).toNatClampNeg), vI (xs (x4 + (5 : Int32)).toNatClampNeg), vI (xs (x4 + (6 : Int32)).toNatClampNeg)]) (st := [vI sx4]) (fun r hr => c_X12_person sx2 sx1 sx0 (xs (x4 + (4 : Int32)).toNatClampNeg) (xs (x4 + (5 : Int32)).toNatClampNeg) (xs (x4 + (6 : Int32)).toNatClampNeg) σ M N (hL).2.1 r hr) cls12 (ly_40 (hL).2.1) wm_L_26 wy_X12_person wd_X12_person ⟨by decide, by decide, by omega, by omega, Nat.le_of_ble_eq_true rfl⟩ rfl rfl (fun q319 hq319 => ?_)
  show g_H E (ce0 + 1) (sl0 + 11) 322 [(0, vE 300), (1, vR 1), (2, vR 40), (3, vR 39), (4, vI x4)] [vI q319.1, vI sx4] (σ, q319.2, N) _ _
  refine r_icmp_eq J (tgt := 1908) rfl (by decide) (fun c322 => ?_) (fun c322 => ?_)
  · refine r_widen (ce' := (ce0 + 9)) (sl' := (sl0 + 11264)) (by omega) (by omega) ?_
    exact p_L_law_1908 J0 hXs hl hce hsl H23 x4 σ q319.2 N hL
  · refine r_run J 1 (pc' := 326) (lv' := [(0, vE 300), (1, vR 1), (2, vR 40), (3, vR 39), (4, vI x4)]) (st' := [vI 0]) rfl ?_
    exact r_iret J rfl rfl rfl rfl (by omega) (by omega)
def tb_L_law_280 : gT := [(280, .aload_n 0, 1, 0), (281, .iload 4, 2, 0), (283, .iconst 2, 1, 2), (284, .iadd, 1, 0), (285, .iaload, 1, 0), (286, .aload_n 0, 1, 0), (287, .iload 4, 2, 0), (289, .iconst 3, 1, 3), (290, .iadd, 1, 0), (291, .iaload, 1, 0), (292, .ifCond .eq 7, 3, 0), (295, .iconst 1, 1, 1), (296, .goto 4, 3, 0), (299, .iconst 0, 1, 0)]
set_option maxRecDepth 100000 in
theorem tk_L_law_280 : g_okT code tb_L_law_280 = true := by decide +kernel
set_option maxHeartbeats 4000000 in
set_option maxRecDepth 100000 in
theorem p_L_law_280 {l : Launch} {E : gE} {L : Nat} {xs : Nat → Int32} (J0 : J_L_law E l) (hXs : g_Xs E L xs) (hl : l.stackTraces = false) {ce0 sl0 : Nat} (hce : ce0 + 9 ≤ 601024) (hsl : sl0 + 11264 ≤ 7293034) {k23 : Int32 → Nat → (Nat → Int32) → gS → gM → gN → Option (Int32 × gS × gM × gN)} (H23 : ∀ (x4 : Int32) (σ : gS) (M : gM) (N : gN) (_ : g_layL σ), g_H E (ce0 + 9) (sl0 + 11264) 23 [(0, vE 300), (1, vR 1), (2, vR 40), (3, vR 39), (4, vI x4)] [] (σ, M, N) (k23 x4 L xs σ M N) eISMN) (x4 : Int32) (sx0 : Int32) (sx2 : Int32) (σ : gS) (M : gM) (N : gN) (hL : g_layL σ) : g_H E (ce0 + 1) (sl0 + 11) 280 [(0, vE 300), (1, vR 1), (2, vR 40), (3, vR 39), (4, vI x4)] [vI sx0, vR 40, vI sx2] (σ, M, N) (b_L_law_280 k23 x4 sx0 sx2 L xs σ M N) eISMN := by
  have J := g_J.tab J0 tk_L_law_280
  unfold b_L_law_280
  refine r_run J 4 (pc' := 285) (lv' := [(0, vE 300), (1, vR 1), (2, vR 40), (3, vR 39), (4, vI x4)]) (st' := [vI (x4 + (2 : Int32)), vE 300, vI sx0, vR 40, vI sx2]) rfl ?_
  refine r_xld J hXs rfl (fun i285 => ?_)
  show g_H E (ce0 + 1) (sl0 + 11) 286 [(0, vE 300), (1, vR 1), (2, vR 40), (3, vR 39), (4, vI x4)] [vI (xs (x4 + (2 : Int32)).toNatClampNeg), vI sx0, vR 40, vI sx2] (σ, M, N) _ _
  refine r_run J 4 (pc' := 291) (lv' := [(0, vE 300), (1, vR 1), (2, vR 40), (3, vR 39), (4, vI x4)]) (st' := [vI (x4 + (3 : Int32)), vE 300, vI (xs (x4 + (2 : Int32)).toNatClampNeg), vI sx0, vR 40, vI sx2]) rfl ?_
  refine r_xld J hXs rfl (fun i291 => ?_)
  show g_H E (ce0 + 1) (sl0 + 11) 292 [(0, vE 300), (1, vR 1), (2, vR 40), (3, vR 39), (4, vI x4)] [vI (xs (x4 + (3 : Int32)).toNatClampNeg), vI (xs (x4 + (2 : Int32)).toNatClampNeg), vI sx0, vR 40, vI sx2] (σ, M, N) _ _
  refine r_if_eq J (tgt := 299) rfl (by decide) (fun c292 => ?_) (fun c292 => ?_)
  · refine r_run J 1 (pc' := 300) (lv' := [(0, vE 300), (1, vR 1), (2, vR 40), (3, vR 39), (4, vI x4)]) (st' := [vI 0, vI (xs (x4 + (2 : Int32)).toNatClampNeg), vI sx0, vR 40, vI sx2]) rfl ?_
    exact p_L_law_300 J0 hXs hl hce hsl H23 x4 0 (xs (x4 + (2 : Int32)).toNatClampNeg) sx0 sx2 σ M N hL
  · refine r_run J 2 (pc' := 300) (lv' := [(0, vE 300), (1, vR 1), (2, vR 40), (3, vR 39), (4, vI x4)]) (st' := [vI 1, vI (xs (x4 + (2 : Int32)).toNatClampNeg), vI sx0, vR 40, vI sx2]) rfl ?_
    exact p_L_law_300 J0 hXs hl hce hsl H23 x4 1 (xs (x4 + (2 : Int32)).toNatClampNeg) sx0 sx2 σ M N hL
def tb_L_law_243 : gT := [(243, .aload_n 0, 1, 0), (244, .iload 4, 2, 0), (246, .iconst 4, 1, 4), (247, .iadd, 1, 0), (248, .iaload, 1, 0), (249, .aload_n 0, 1, 0), (250, .iload 4, 2, 0), (252, .iconst 5, 1, 5), (253, .iadd, 1, 0), (254, .iaload, 1, 0), (255, .aload_n 0, 1, 0), (256, .iload 4, 2, 0), (258, .bipush 6, 2, 6), (260, .iadd, 1, 0), (261, .iaload, 1, 0), (262, .invokevirtual 22, 3, 0), (265, .aload_n 2, 1, 0), (266, .aload_n 0, 1, 0), (267, .iload 4, 2, 0), (269, .iconst 1, 1, 1), (270, .iadd, 1, 0), (271, .iaload, 1, 0), (272, .ifCond .eq 7, 3, 0), (275, .iconst 1, 1, 1), (276, .goto 4, 3, 0), (279, .iconst 0, 1, 0)]
set_option maxRecDepth 100000 in
theorem tk_L_law_243 : g_okT code tb_L_law_243 = true := by decide +kernel
set_option maxHeartbeats 4000000 in
set_option maxRecDepth 100000 in
theorem p_L_law_243 {l : Launch} {E : gE} {L : Nat} {xs : Nat → Int32} (J0 : J_L_law E l) (hXs : g_Xs E L xs) (hl : l.stackTraces = false) {ce0 sl0 : Nat} (hce : ce0 + 9 ≤ 601024) (hsl : sl0 + 11264 ≤ 7293034) {k23 : Int32 → Nat → (Nat → Int32) → gS → gM → gN → Option (Int32 × gS × gM × gN)} (H23 : ∀ (x4 : Int32) (σ : gS) (M : gM) (N : gN) (_ : g_layL σ), g_H E (ce0 + 9) (sl0 + 11264) 23 [(0, vE 300), (1, vR 1), (2, vR 40), (3, vR 39), (4, vI x4)] [] (σ, M, N) (k23 x4 L xs σ M N) eISMN) (x4 : Int32) (sx0 : Int32) (sx1 : Int32) (sx2 : Int32) (σ : gS) (M : gM) (N : gN) (hL : g_layL σ) : g_H E ce0 sl0 243 [(0, vE 300), (1, vR 1), (2, vR 40), (3, vR 39), (4, vI x4)] [vI sx0, vI sx1, vI sx2, vR 1] (σ, M, N) (b_L_law_243 k23 x4 sx0 sx1 sx2 L xs σ M N) eISMN := by
  have J := g_J.tab J0 tk_L_law_243
  unfold b_L_law_243
  refine r_run J 4 (pc' := 248) (lv' := [(0, vE 300), (1, vR 1), (2, vR 40), (3, vR 39), (4, vI x4)]) (st' := [vI (x4 + (4 : Int32)), vE 300, vI sx0, vI sx1, vI sx2, vR 1]) rfl ?_
  refine r_xld J hXs rfl (fun i248 => ?_)
  show g_H E ce0 sl0 249 [(0, vE 300), (1, vR 1), (2, vR 40), (3, vR 39), (4, vI x4)] [vI (xs (x4 + (4 : Int32)).toNatClampNeg), vI sx0, vI sx1, vI sx2, vR 1] (σ, M, N) _ _
  refine r_run J 4 (pc' := 254) (lv' := [(0, vE 300), (1, vR 1), (2, vR 40), (3, vR 39), (4, vI x4)]) (st' := [vI (x4 + (5 : Int32)), vE 300, vI (xs (x4 + (4 : Int32)).toNatClampNeg), vI sx0, vI sx1, vI sx2, vR 1]) rfl ?_
  refine r_xld J hXs rfl (fun i254 => ?_)
  show g_H E ce0 sl0 255 [(0, vE 300), (1, vR 1), (2, vR 40), (3, vR 39), (4, vI x4)] [vI (xs (x4 + (5 : Int32)).toNatClampNeg), vI (xs (x4 + (4 : Int32)).toNatClampNeg), vI sx0, vI sx1, vI sx2, vR 1] (σ, M, N) _ _
  refine r_run J 4 (pc' := 261) (lv' := [(0, vE 300), (1, vR 1), (2, vR 40), (3, vR 39), (4, vI x4)]) (st' := [vI (x4 + (6 : Int32)), vE 300, vI (xs (x4 + (5 : Int32)).toNatClampNeg), vI (xs (x4 + (4 : Int32)).toNatClampNeg), vI sx0, vI sx1, vI sx2, vR 1]) rfl ?_
  refine r_xld J hXs rfl (fun i261 => ?_)
  show g_H E ce0 sl0 262 [(0, vE 300), (1, vR 1), (2, vR 40), (3, vR 39), (4, vI x4)] [vI (xs (x4 + (6 : Int32)).toNatClampNeg), vI (xs (x4 + (5 : Int32)).toNatClampNeg), vI (xs (x4 + (4 : Int32)).toNatClampNeg), vI sx0, vI sx1, vI sx2, vR 1] (σ, M, N) _ _
  refine r_callV J (As := [vI sx2, vI sx1, vI sx0, vI (xs (x4 + (4 : Int32)).toNatClampNeg), vI (xs (x4 + (5 : Int32)).toNatClampNeg), vI (xs (x4 + (6 : Int32)).toNatClampNeg)]) (st := []) (fun r hr => c_X11_person sx2 sx1 sx0 (xs (x4 + (4 : Int32)).toNatClampNeg) (xs (x4 + (5 : Int32)).toNatClampNeg) (xs (x4 + (6 : Int32)).toNatClampNeg) σ M N (hL).1 r hr) cls11 (ly_1 (hL).1) wm_L_22 wy_X11_person wd_X11_person ⟨by decide, by decide, by omega, by omega, Nat.le_of_ble_eq_true rfl⟩ rfl rfl (fun q262 hq262 => ?_)
  show g_H E (ce0 + 1) (sl0 + 11) 265 [(0, vE 300), (1, vR 1), (2, vR 40), (3, vR 39), (4, vI x4)] [vI q262.1] (q262.2.1, q262.2.2.1, q262.2.2.2) _ _
  refine r_chk (fun hl265 => ?_)
  refine r_run J 5 (pc' := 271) (lv' := [(0, vE 300), (1, vR 1), (2, vR 40), (3, vR 39), (4, vI x4)]) (st' := [vI (x4 + (1 : Int32)), vE 300, vR 40, vI q262.1]) rfl ?_
  refine r_xld J hXs rfl (fun i271 => ?_)
  show g_H E (ce0 + 1) (sl0 + 11) 272 [(0, vE 300), (1, vR 1), (2, vR 40), (3, vR 39), (4, vI x4)] [vI (xs (x4 + (1 : Int32)).toNatClampNeg), vR 40, vI q262.1] (q262.2.1, q262.2.2.1, q262.2.2.2) _ _
  refine r_if_eq J (tgt := 279) rfl (by decide) (fun c272 => ?_) (fun c272 => ?_)
  · refine r_run J 1 (pc' := 280) (lv' := [(0, vE 300), (1, vR 1), (2, vR 40), (3, vR 39), (4, vI x4)]) (st' := [vI 0, vR 40, vI q262.1]) rfl ?_
    exact p_L_law_280 J0 hXs hl hce hsl H23 x4 0 q262.1 q262.2.1 q262.2.2.1 q262.2.2.2 (g_layL.of hl265)
  · refine r_run J 2 (pc' := 280) (lv' := [(0, vE 300), (1, vR 1), (2, vR 40), (3, vR 39), (4, vI x4)]) (st' := [vI 1, vR 40, vI q262.1]) rfl ?_
    exact p_L_law_280 J0 hXs hl hce hsl H23 x4 1 q262.1 q262.2.1 q262.2.2.1 q262.2.2.2 (g_layL.of hl265)
def tb_L_law_223 : gT := [(223, .aload_n 0, 1, 0), (224, .iload 4, 2, 0), (226, .iconst 2, 1, 2), (227, .iadd, 1, 0), (228, .iaload, 1, 0), (229, .aload_n 0, 1, 0), (230, .iload 4, 2, 0), (232, .iconst 3, 1, 3), (233, .iadd, 1, 0), (234, .iaload, 1, 0), (235, .ifCond .eq 7, 3, 0), (238, .iconst 1, 1, 1), (239, .goto 4, 3, 0), (242, .iconst 0, 1, 0)]
set_option maxRecDepth 100000 in
theorem tk_L_law_223 : g_okT code tb_L_law_223 = true := by decide +kernel
set_option maxHeartbeats 4000000 in
set_option maxRecDepth 100000 in
theorem p_L_law_223 {l : Launch} {E : gE} {L : Nat} {xs : Nat → Int32} (J0 : J_L_law E l) (hXs : g_Xs E L xs) (hl : l.stackTraces = false) {ce0 sl0 : Nat} (hce : ce0 + 9 ≤ 601024) (hsl : sl0 + 11264 ≤ 7293034) {k23 : Int32 → Nat → (Nat → Int32) → gS → gM → gN → Option (Int32 × gS × gM × gN)} (H23 : ∀ (x4 : Int32) (σ : gS) (M : gM) (N : gN) (_ : g_layL σ), g_H E (ce0 + 9) (sl0 + 11264) 23 [(0, vE 300), (1, vR 1), (2, vR 40), (3, vR 39), (4, vI x4)] [] (σ, M, N) (k23 x4 L xs σ M N) eISMN) (x4 : Int32) (sx0 : Int32) (σ : gS) (M : gM) (N : gN) (hL : g_layL σ) : g_H E ce0 sl0 223 [(0, vE 300), (1, vR 1), (2, vR 40), (3, vR 39), (4, vI x4)] [vI sx0, vR 1] (σ, M, N) (b_L_law_223 k23 x4 sx0 L xs σ M N) eISMN := by
  have J := g_J.tab J0 tk_L_law_223
  unfold b_L_law_223
  refine r_run J 4 (pc' := 228) (lv' := [(0, vE 300), (1, vR 1), (2, vR 40), (3, vR 39), (4, vI x4)]) (st' := [vI (x4 + (2 : Int32)), vE 300, vI sx0, vR 1]) rfl ?_
  refine r_xld J hXs rfl (fun i228 => ?_)
  show g_H E ce0 sl0 229 [(0, vE 300), (1, vR 1), (2, vR 40), (3, vR 39), (4, vI x4)] [vI (xs (x4 + (2 : Int32)).toNatClampNeg), vI sx0, vR 1] (σ, M, N) _ _
  refine r_run J 4 (pc' := 234) (lv' := [(0, vE 300), (1, vR 1), (2, vR 40), (3, vR 39), (4, vI x4)]) (st' := [vI (x4 + (3 : Int32)), vE 300, vI (xs (x4 + (2 : Int32)).toNatClampNeg), vI sx0, vR 1]) rfl ?_
  refine r_xld J hXs rfl (fun i234 => ?_)
  show g_H E ce0 sl0 235 [(0, vE 300), (1, vR 1), (2, vR 40), (3, vR 39), (4, vI x4)] [vI (xs (x4 + (3 : Int32)).toNatClampNeg), vI (xs (x4 + (2 : Int32)).toNatClampNeg), vI sx0, vR 1] (σ, M, N) _ _
  refine r_if_eq J (tgt := 242) rfl (by decide) (fun c235 => ?_) (fun c235 => ?_)
  · refine r_run J 1 (pc' := 243) (lv' := [(0, vE 300), (1, vR 1), (2, vR 40), (3, vR 39), (4, vI x4)]) (st' := [vI 0, vI (xs (x4 + (2 : Int32)).toNatClampNeg), vI sx0, vR 1]) rfl ?_
    exact p_L_law_243 J0 hXs hl hce hsl H23 x4 0 (xs (x4 + (2 : Int32)).toNatClampNeg) sx0 σ M N hL
  · refine r_run J 2 (pc' := 243) (lv' := [(0, vE 300), (1, vR 1), (2, vR 40), (3, vR 39), (4, vI x4)]) (st' := [vI 1, vI (xs (x4 + (2 : Int32)).toNatClampNeg), vI sx0, vR 1]) rfl ?_
    exact p_L_law_243 J0 hXs hl hce hsl H23 x4 1 (xs (x4 + (2 : Int32)).toNatClampNeg) sx0 σ M N hL
def tb_L_law_208 : gT := [(208, .aload_n 1, 1, 0), (209, .aload_n 0, 1, 0), (210, .iload 4, 2, 0), (212, .iconst 1, 1, 1), (213, .iadd, 1, 0), (214, .iaload, 1, 0), (215, .ifCond .eq 7, 3, 0), (218, .iconst 1, 1, 1), (219, .goto 4, 3, 0), (222, .iconst 0, 1, 0)]
set_option maxRecDepth 100000 in
theorem tk_L_law_208 : g_okT code tb_L_law_208 = true := by decide +kernel
set_option maxHeartbeats 4000000 in
set_option maxRecDepth 100000 in
theorem p_L_law_208 {l : Launch} {E : gE} {L : Nat} {xs : Nat → Int32} (J0 : J_L_law E l) (hXs : g_Xs E L xs) (hl : l.stackTraces = false) {ce0 sl0 : Nat} (hce : ce0 + 9 ≤ 601024) (hsl : sl0 + 11264 ≤ 7293034) {k23 : Int32 → Nat → (Nat → Int32) → gS → gM → gN → Option (Int32 × gS × gM × gN)} (H23 : ∀ (x4 : Int32) (σ : gS) (M : gM) (N : gN) (_ : g_layL σ), g_H E (ce0 + 9) (sl0 + 11264) 23 [(0, vE 300), (1, vR 1), (2, vR 40), (3, vR 39), (4, vI x4)] [] (σ, M, N) (k23 x4 L xs σ M N) eISMN) (x4 : Int32) (σ : gS) (M : gM) (N : gN) (hL : g_layL σ) : g_H E ce0 sl0 208 [(0, vE 300), (1, vR 1), (2, vR 40), (3, vR 39), (4, vI x4)] [] (σ, M, N) (b_L_law_208 k23 x4 L xs σ M N) eISMN := by
  have J := g_J.tab J0 tk_L_law_208
  unfold b_L_law_208
  refine r_run J 5 (pc' := 214) (lv' := [(0, vE 300), (1, vR 1), (2, vR 40), (3, vR 39), (4, vI x4)]) (st' := [vI (x4 + (1 : Int32)), vE 300, vR 1]) rfl ?_
  refine r_xld J hXs rfl (fun i214 => ?_)
  show g_H E ce0 sl0 215 [(0, vE 300), (1, vR 1), (2, vR 40), (3, vR 39), (4, vI x4)] [vI (xs (x4 + (1 : Int32)).toNatClampNeg), vR 1] (σ, M, N) _ _
  refine r_if_eq J (tgt := 222) rfl (by decide) (fun c215 => ?_) (fun c215 => ?_)
  · refine r_run J 1 (pc' := 223) (lv' := [(0, vE 300), (1, vR 1), (2, vR 40), (3, vR 39), (4, vI x4)]) (st' := [vI 0, vR 1]) rfl ?_
    exact p_L_law_223 J0 hXs hl hce hsl H23 x4 0 σ M N hL
  · refine r_run J 2 (pc' := 223) (lv' := [(0, vE 300), (1, vR 1), (2, vR 40), (3, vR 39), (4, vI x4)]) (st' := [vI 1, vR 1]) rfl ?_
    exact p_L_law_223 J0 hXs hl hce hsl H23 x4 1 σ M N hL
def tb_L_law_23 : gT := [(23, .iload 4, 2, 0), (25, .aload_n 0, 1, 0), (26, .arraylength, 1, 0), (27, .bipush 7, 2, 7), (29, .isub, 1, 0), (30, .if_icmp .gt 1884, 3, 0), (33, .aload_n 0, 1, 0), (34, .iload 4, 2, 0), (36, .iaload, 1, 0), (37, .bipush 63, 2, 63), (39, .iand, 1, 0), (40, .tableswitch 1868 0 37 #[168, 287, 352, 417, 466, 491, 556, 581, 606, 631, 656, 733, 782, 819, 832, 857, 882, 931, 1078, 1103, 1140, 1177, 1214, 1287, 1360, 1409, 1458, 1471, 1496, 1521, 1534, 1571, 1627, 1683, 1720, 1757, 1806, 1843], 168, 0), (1914, .iconst 1, 1, 1), (1915, .ireturn, 1, 0)]
set_option maxRecDepth 100000 in
theorem tk_L_law_23 : g_okT code tb_L_law_23 = true := by decide +kernel
set_option maxHeartbeats 4000000 in
set_option maxRecDepth 100000 in
theorem p_L_law_23 {l : Launch} {E : gE} {L : Nat} {xs : Nat → Int32} (J0 : J_L_law E l) (hXs : g_Xs E L xs) (hl : l.stackTraces = false) : ∀ (n k : Nat) (hk : n + k ≤ 513) (x4 : Int32) (σ : gS) (M : gM) (N : gN) (hL : g_layL σ), g_H E (85 + k * 9) (32562 + k * 11264) 23 [(0, vE 300), (1, vR 1), (2, vR 40), (3, vR 39), (4, vI x4)] [] (σ, M, N) (l_L_law_23 n x4 L xs σ M N) eISMN := by
  intro n
  induction n with
  | zero => intros; exact h_none
  | succ n ih =>
    intro k hk x4 σ M N hL
    have J := g_J.tab J0 tk_L_law_23
    have H23 := fun (x4 : Int32) (σ : gS) (M : gM) (N : gN) (hL : g_layL σ) => ih (k + 1) (by omega) x4 σ M N hL
    rw [show 85 + (k + 1) * 9 = 85 + k * 9 + 9 by omega, show 32562 + (k + 1) * 11264 = 32562 + k * 11264 + 11264 by omega] at H23
    have hce : 85 + k * 9 + 9 ≤ 601024 := by omega
    have hsl : 32562 + k * 11264 + 11264 ≤ 7293034 := by omega
    generalize 85 + k * 9 = ce0 at H23 hce ⊢
    generalize 32562 + k * 11264 = sl0 at H23 hsl ⊢
    rw [l_L_law_23]
    refine r_run J 2 (pc' := 26) (lv' := [(0, vE 300), (1, vR 1), (2, vR 40), (3, vR 39), (4, vI x4)]) (st' := [vE 300, vI x4]) rfl ?_
    refine r_xlen J hXs rfl ?_
    show g_H E ce0 sl0 27 [(0, vE 300), (1, vR 1), (2, vR 40), (3, vR 39), (4, vI x4)] [vI (Int32.ofNat L), vI x4] (σ, M, N) _ _
    refine r_run J 2 (pc' := 30) (lv' := [(0, vE 300), (1, vR 1), (2, vR 40), (3, vR 39), (4, vI x4)]) (st' := [vI ((Int32.ofNat L) - (7 : Int32)), vI x4]) rfl ?_
    refine r_icmp_gt J (tgt := 1914) rfl (by decide) (fun c30 => ?_) (fun c30 => ?_)
    · refine r_run J 1 (pc' := 1915) (lv' := [(0, vE 300), (1, vR 1), (2, vR 40), (3, vR 39), (4, vI x4)]) (st' := [vI 1]) rfl ?_
      exact r_iret J rfl rfl rfl rfl (by omega) (by omega)
    · refine r_run J 2 (pc' := 36) (lv' := [(0, vE 300), (1, vR 1), (2, vR 40), (3, vR 39), (4, vI x4)]) (st' := [vI x4, vE 300]) rfl ?_
      refine r_xld J hXs rfl (fun i36 => ?_)
      show g_H E ce0 sl0 37 [(0, vE 300), (1, vR 1), (2, vR 40), (3, vR 39), (4, vI x4)] [vI (xs x4.toNatClampNeg)] (σ, M, N) _ _
      refine r_run J 2 (pc' := 40) (lv' := [(0, vE 300), (1, vR 1), (2, vR 40), (3, vR 39), (4, vI x4)]) (st' := [vI ((xs x4.toNatClampNeg) &&& (63 : Int32))]) rfl ?_
      refine r_table J [(0, 208), (1, 327), (2, 392), (3, 457), (4, 506), (5, 531), (6, 596), (7, 621), (8, 646), (9, 671), (10, 696), (11, 773), (12, 822), (13, 859), (14, 872), (15, 897), (16, 922), (17, 971), (18, 1118), (19, 1143), (20, 1180), (21, 1217), (22, 1254), (23, 1327), (24, 1400), (25, 1449), (26, 1498), (27, 1511), (28, 1536), (29, 1561), (30, 1574), (31, 1611), (32, 1667), (33, 1723), (34, 1760), (35, 1797), (36, 1846), (37, 1883)] (d := 1908) rfl (by decide +kernel) (List.forall_mem_cons.mpr ⟨fun hc => ?_, List.forall_mem_cons.mpr ⟨fun hc => ?_, List.forall_mem_cons.mpr ⟨fun hc => ?_, List.forall_mem_cons.mpr ⟨fun hc => ?_, List.forall_mem_cons.mpr ⟨fun hc => ?_, List.forall_mem_cons.mpr ⟨fun hc => ?_, List.forall_mem_cons.mpr ⟨fun hc => ?_, List.forall_mem_cons.mpr ⟨fun hc => ?_, List.forall_mem_cons.mpr ⟨fun hc => ?_, List.forall_mem_cons.mpr ⟨fun hc => ?_, List.forall_mem_cons.mpr ⟨fun hc => ?_, List.forall_mem_cons.mpr ⟨fun hc => ?_, List.forall_mem_cons.mpr ⟨fun hc => ?_, List.forall_mem_cons.mpr ⟨fun hc => ?_, List.forall_mem_cons.mpr ⟨fun hc => ?_, List.forall_mem_cons.mpr ⟨fun hc => ?_, List.forall_mem_cons.mpr ⟨fun hc => ?_, List.forall_mem_cons.mpr ⟨fun hc => ?_, List.forall_mem_cons.mpr ⟨fun hc => ?_, List.forall_mem_cons.mpr ⟨fun hc => ?_, List.forall_mem_cons.mpr ⟨fun hc => ?_, List.forall_mem_cons.mpr ⟨fun hc => ?_, List.forall_mem_cons.mpr ⟨fun hc => ?_, List.forall_mem_cons.mpr ⟨fun hc => ?_, List.forall_mem_cons.mpr ⟨fun hc => ?_, List.forall_mem_cons.mpr ⟨fun hc => ?_, List.forall_mem_cons.mpr ⟨fun hc => ?_, List.forall_mem_cons.mpr ⟨fun hc => ?_, List.forall_mem_cons.mpr ⟨fun hc => ?_, List.forall_mem_cons.mpr ⟨fun hc => ?_, List.forall_mem_cons.mpr ⟨fun hc => ?_, List.forall_mem_cons.mpr ⟨fun hc => ?_, List.forall_mem_cons.mpr ⟨fun hc => ?_, List.forall_mem_cons.mpr ⟨fun hc => ?_, List.forall_mem_cons.mpr ⟨fun hc => ?_, List.forall_mem_cons.mpr ⟨fun hc => ?_, List.forall_mem_cons.mpr ⟨fun hc => ?_, List.forall_mem_cons.mpr ⟨fun hc => ?_, fun _ h => absurd h List.not_mem_nil⟩⟩⟩⟩⟩⟩⟩⟩⟩⟩⟩⟩⟩⟩⟩⟩⟩⟩⟩⟩⟩⟩⟩⟩⟩⟩⟩⟩⟩⟩⟩⟩⟩⟩⟩⟩⟩⟩) (fun hd => ?_)
      · rw [if_pos hc]
        exact p_L_law_208 J0 hXs hl hce hsl H23 x4 σ M N hL
      · rw [if_neg (by rw [hc]; decide), if_pos hc]
        exact p_L_law_327 J0 hXs hl hce hsl H23 x4 σ M N hL
      · rw [if_neg (by rw [hc]; decide), if_neg (by rw [hc]; decide), if_pos hc]
        exact p_L_law_392 J0 hXs hl hce hsl H23 x4 σ M N hL
      · rw [if_neg (by rw [hc]; decide), if_neg (by rw [hc]; decide), if_neg (by rw [hc]; decide), if_pos hc]
        exact p_L_law_457 J0 hXs hl hce hsl H23 x4 σ M N hL
      · rw [if_neg (by rw [hc]; decide), if_neg (by rw [hc]; decide), if_neg (by rw [hc]; decide), if_neg (by rw [hc]; decide), if_pos hc]
        exact p_L_law_506 J0 hXs hl hce hsl H23 x4 σ M N hL
      · rw [if_neg (by rw [hc]; decide), if_neg (by rw [hc]; decide), if_neg (by rw [hc]; decide), if_neg (by rw [hc]; decide), if_neg (by rw [hc]; decide), if_pos hc]
        exact p_L_law_531 J0 hXs hl hce hsl H23 x4 σ M N hL
      · rw [if_neg (by rw [hc]; decide), if_neg (by rw [hc]; decide), if_neg (by rw [hc]; decide), if_neg (by rw [hc]; decide), if_neg (by rw [hc]; decide), if_neg (by rw [hc]; decide), if_pos hc]
        exact p_L_law_596 J0 hXs hl hce hsl H23 x4 σ M N hL
      · rw [if_neg (by rw [hc]; decide), if_neg (by rw [hc]; decide), if_neg (by rw [hc]; decide), if_neg (by rw [hc]; decide), if_neg (by rw [hc]; decide), if_neg (by rw [hc]; decide), if_neg (by rw [hc]; decide), if_pos hc]
        exact p_L_law_621 J0 hXs hl hce hsl H23 x4 σ M N hL
      · rw [if_neg (by rw [hc]; decide), if_neg (by rw [hc]; decide), if_neg (by rw [hc]; decide), if_neg (by rw [hc]; decide), if_neg (by rw [hc]; decide), if_neg (by rw [hc]; decide), if_neg (by rw [hc]; decide), if_neg (by rw [hc]; decide), if_pos hc]
        exact p_L_law_646 J0 hXs hl hce hsl H23 x4 σ M N hL
      · rw [if_neg (by rw [hc]; decide), if_neg (by rw [hc]; decide), if_neg (by rw [hc]; decide), if_neg (by rw [hc]; decide), if_neg (by rw [hc]; decide), if_neg (by rw [hc]; decide), if_neg (by rw [hc]; decide), if_neg (by rw [hc]; decide), if_neg (by rw [hc]; decide), if_pos hc]
        exact p_L_law_671 J0 hXs hl hce hsl H23 x4 σ M N hL
      · rw [if_neg (by rw [hc]; decide), if_neg (by rw [hc]; decide), if_neg (by rw [hc]; decide), if_neg (by rw [hc]; decide), if_neg (by rw [hc]; decide), if_neg (by rw [hc]; decide), if_neg (by rw [hc]; decide), if_neg (by rw [hc]; decide), if_neg (by rw [hc]; decide), if_neg (by rw [hc]; decide), if_pos hc]
        exact p_L_law_696 J0 hXs hl hce hsl H23 x4 σ M N hL
      · rw [if_neg (by rw [hc]; decide), if_neg (by rw [hc]; decide), if_neg (by rw [hc]; decide), if_neg (by rw [hc]; decide), if_neg (by rw [hc]; decide), if_neg (by rw [hc]; decide), if_neg (by rw [hc]; decide), if_neg (by rw [hc]; decide), if_neg (by rw [hc]; decide), if_neg (by rw [hc]; decide), if_neg (by rw [hc]; decide), if_pos hc]
        exact p_L_law_773 J0 hXs hl hce hsl H23 x4 σ M N hL
      · rw [if_neg (by rw [hc]; decide), if_neg (by rw [hc]; decide), if_neg (by rw [hc]; decide), if_neg (by rw [hc]; decide), if_neg (by rw [hc]; decide), if_neg (by rw [hc]; decide), if_neg (by rw [hc]; decide), if_neg (by rw [hc]; decide), if_neg (by rw [hc]; decide), if_neg (by rw [hc]; decide), if_neg (by rw [hc]; decide), if_neg (by rw [hc]; decide), if_pos hc]
        exact p_L_law_822 J0 hXs hl hce hsl H23 x4 σ M N hL
      · rw [if_neg (by rw [hc]; decide), if_neg (by rw [hc]; decide), if_neg (by rw [hc]; decide), if_neg (by rw [hc]; decide), if_neg (by rw [hc]; decide), if_neg (by rw [hc]; decide), if_neg (by rw [hc]; decide), if_neg (by rw [hc]; decide), if_neg (by rw [hc]; decide), if_neg (by rw [hc]; decide), if_neg (by rw [hc]; decide), if_neg (by rw [hc]; decide), if_neg (by rw [hc]; decide), if_pos hc]
        exact p_L_law_859 J0 hXs hl hce hsl H23 x4 σ M N hL
      · rw [if_neg (by rw [hc]; decide), if_neg (by rw [hc]; decide), if_neg (by rw [hc]; decide), if_neg (by rw [hc]; decide), if_neg (by rw [hc]; decide), if_neg (by rw [hc]; decide), if_neg (by rw [hc]; decide), if_neg (by rw [hc]; decide), if_neg (by rw [hc]; decide), if_neg (by rw [hc]; decide), if_neg (by rw [hc]; decide), if_neg (by rw [hc]; decide), if_neg (by rw [hc]; decide), if_neg (by rw [hc]; decide), if_pos hc]
        exact p_L_law_872 J0 hXs hl hce hsl H23 x4 σ M N hL
      · rw [if_neg (by rw [hc]; decide), if_neg (by rw [hc]; decide), if_neg (by rw [hc]; decide), if_neg (by rw [hc]; decide), if_neg (by rw [hc]; decide), if_neg (by rw [hc]; decide), if_neg (by rw [hc]; decide), if_neg (by rw [hc]; decide), if_neg (by rw [hc]; decide), if_neg (by rw [hc]; decide), if_neg (by rw [hc]; decide), if_neg (by rw [hc]; decide), if_neg (by rw [hc]; decide), if_neg (by rw [hc]; decide), if_neg (by rw [hc]; decide), if_pos hc]
        exact p_L_law_897 J0 hXs hl hce hsl H23 x4 σ M N hL
      · rw [if_neg (by rw [hc]; decide), if_neg (by rw [hc]; decide), if_neg (by rw [hc]; decide), if_neg (by rw [hc]; decide), if_neg (by rw [hc]; decide), if_neg (by rw [hc]; decide), if_neg (by rw [hc]; decide), if_neg (by rw [hc]; decide), if_neg (by rw [hc]; decide), if_neg (by rw [hc]; decide), if_neg (by rw [hc]; decide), if_neg (by rw [hc]; decide), if_neg (by rw [hc]; decide), if_neg (by rw [hc]; decide), if_neg (by rw [hc]; decide), if_neg (by rw [hc]; decide), if_pos hc]
        exact p_L_law_922 J0 hXs hl hce hsl H23 x4 σ M N hL
      · rw [if_neg (by rw [hc]; decide), if_neg (by rw [hc]; decide), if_neg (by rw [hc]; decide), if_neg (by rw [hc]; decide), if_neg (by rw [hc]; decide), if_neg (by rw [hc]; decide), if_neg (by rw [hc]; decide), if_neg (by rw [hc]; decide), if_neg (by rw [hc]; decide), if_neg (by rw [hc]; decide), if_neg (by rw [hc]; decide), if_neg (by rw [hc]; decide), if_neg (by rw [hc]; decide), if_neg (by rw [hc]; decide), if_neg (by rw [hc]; decide), if_neg (by rw [hc]; decide), if_neg (by rw [hc]; decide), if_pos hc]
        exact p_L_law_971 J0 hXs hl hce hsl H23 x4 σ M N hL
      · rw [if_neg (by rw [hc]; decide), if_neg (by rw [hc]; decide), if_neg (by rw [hc]; decide), if_neg (by rw [hc]; decide), if_neg (by rw [hc]; decide), if_neg (by rw [hc]; decide), if_neg (by rw [hc]; decide), if_neg (by rw [hc]; decide), if_neg (by rw [hc]; decide), if_neg (by rw [hc]; decide), if_neg (by rw [hc]; decide), if_neg (by rw [hc]; decide), if_neg (by rw [hc]; decide), if_neg (by rw [hc]; decide), if_neg (by rw [hc]; decide), if_neg (by rw [hc]; decide), if_neg (by rw [hc]; decide), if_neg (by rw [hc]; decide), if_pos hc]
        exact p_L_law_1118 J0 hXs hl hce hsl H23 x4 σ M N hL
      · rw [if_neg (by rw [hc]; decide), if_neg (by rw [hc]; decide), if_neg (by rw [hc]; decide), if_neg (by rw [hc]; decide), if_neg (by rw [hc]; decide), if_neg (by rw [hc]; decide), if_neg (by rw [hc]; decide), if_neg (by rw [hc]; decide), if_neg (by rw [hc]; decide), if_neg (by rw [hc]; decide), if_neg (by rw [hc]; decide), if_neg (by rw [hc]; decide), if_neg (by rw [hc]; decide), if_neg (by rw [hc]; decide), if_neg (by rw [hc]; decide), if_neg (by rw [hc]; decide), if_neg (by rw [hc]; decide), if_neg (by rw [hc]; decide), if_neg (by rw [hc]; decide), if_pos hc]
        exact p_L_law_1143 J0 hXs hl hce hsl H23 x4 σ M N hL
      · rw [if_neg (by rw [hc]; decide), if_neg (by rw [hc]; decide), if_neg (by rw [hc]; decide), if_neg (by rw [hc]; decide), if_neg (by rw [hc]; decide), if_neg (by rw [hc]; decide), if_neg (by rw [hc]; decide), if_neg (by rw [hc]; decide), if_neg (by rw [hc]; decide), if_neg (by rw [hc]; decide), if_neg (by rw [hc]; decide), if_neg (by rw [hc]; decide), if_neg (by rw [hc]; decide), if_neg (by rw [hc]; decide), if_neg (by rw [hc]; decide), if_neg (by rw [hc]; decide), if_neg (by rw [hc]; decide), if_neg (by rw [hc]; decide), if_neg (by rw [hc]; decide), if_neg (by rw [hc]; decide), if_pos hc]
        exact p_L_law_1180 J0 hXs hl hce hsl H23 x4 σ M N hL
      · rw [if_neg (by rw [hc]; decide), if_neg (by rw [hc]; decide), if_neg (by rw [hc]; decide), if_neg (by rw [hc]; decide), if_neg (by rw [hc]; decide), if_neg (by rw [hc]; decide), if_neg (by rw [hc]; decide), if_neg (by rw [hc]; decide), if_neg (by rw [hc]; decide), if_neg (by rw [hc]; decide), if_neg (by rw [hc]; decide), if_neg (by rw [hc]; decide), if_neg (by rw [hc]; decide), if_neg (by rw [hc]; decide), if_neg (by rw [hc]; decide), if_neg (by rw [hc]; decide), if_neg (by rw [hc]; decide), if_neg (by rw [hc]; decide), if_neg (by rw [hc]; decide), if_neg (by rw [hc]; decide), if_neg (by rw [hc]; decide), if_pos hc]
        exact p_L_law_1217 J0 hXs hl hce hsl H23 x4 σ M N hL
      · rw [if_neg (by rw [hc]; decide), if_neg (by rw [hc]; decide), if_neg (by rw [hc]; decide), if_neg (by rw [hc]; decide), if_neg (by rw [hc]; decide), if_neg (by rw [hc]; decide), if_neg (by rw [hc]; decide), if_neg (by rw [hc]; decide), if_neg (by rw [hc]; decide), if_neg (by rw [hc]; decide), if_neg (by rw [hc]; decide), if_neg (by rw [hc]; decide), if_neg (by rw [hc]; decide), if_neg (by rw [hc]; decide), if_neg (by rw [hc]; decide), if_neg (by rw [hc]; decide), if_neg (by rw [hc]; decide), if_neg (by rw [hc]; decide), if_neg (by rw [hc]; decide), if_neg (by rw [hc]; decide), if_neg (by rw [hc]; decide), if_neg (by rw [hc]; decide), if_pos hc]
        exact p_L_law_1254 J0 hXs hl hce hsl H23 x4 σ M N hL
      · rw [if_neg (by rw [hc]; decide), if_neg (by rw [hc]; decide), if_neg (by rw [hc]; decide), if_neg (by rw [hc]; decide), if_neg (by rw [hc]; decide), if_neg (by rw [hc]; decide), if_neg (by rw [hc]; decide), if_neg (by rw [hc]; decide), if_neg (by rw [hc]; decide), if_neg (by rw [hc]; decide), if_neg (by rw [hc]; decide), if_neg (by rw [hc]; decide), if_neg (by rw [hc]; decide), if_neg (by rw [hc]; decide), if_neg (by rw [hc]; decide), if_neg (by rw [hc]; decide), if_neg (by rw [hc]; decide), if_neg (by rw [hc]; decide), if_neg (by rw [hc]; decide), if_neg (by rw [hc]; decide), if_neg (by rw [hc]; decide), if_neg (by rw [hc]; decide), if_neg (by rw [hc]; decide), if_pos hc]
        exact p_L_law_1327 J0 hXs hl hce hsl H23 x4 σ M N hL
      · rw [if_neg (by rw [hc]; decide), if_neg (by rw [hc]; decide), if_neg (by rw [hc]; decide), if_neg (by rw [hc]; decide), if_neg (by rw [hc]; decide), if_neg (by rw [hc]; decide), if_neg (by rw [hc]; decide), if_neg (by rw [hc]; decide), if_neg (by rw [hc]; decide), if_neg (by rw [hc]; decide), if_neg (by rw [hc]; decide), if_neg (by rw [hc]; decide), if_neg (by rw [hc]; decide), if_neg (by rw [hc]; decide), if_neg (by rw [hc]; decide), if_neg (by rw [hc]; decide), if_neg (by rw [hc]; decide), if_neg (by rw [hc]; decide), if_neg (by rw [hc]; decide), if_neg (by rw [hc]; decide), if_neg (by rw [hc]; decide), if_neg (by rw [hc]; decide), if_neg (by rw [hc]; decide), if_neg (by rw [hc]; decide), if_pos hc]
        exact p_L_law_1400 J0 hXs hl hce hsl H23 x4 σ M N hL
      · rw [if_neg (by rw [hc]; decide), if_neg (by rw [hc]; decide), if_neg (by rw [hc]; decide), if_neg (by rw [hc]; decide), if_neg (by rw [hc]; decide), if_neg (by rw [hc]; decide), if_neg (by rw [hc]; decide), if_neg (by rw [hc]; decide), if_neg (by rw [hc]; decide), if_neg (by rw [hc]; decide), if_neg (by rw [hc]; decide), if_neg (by rw [hc]; decide), if_neg (by rw [hc]; decide), if_neg (by rw [hc]; decide), if_neg (by rw [hc]; decide), if_neg (by rw [hc]; decide), if_neg (by rw [hc]; decide), if_neg (by rw [hc]; decide), if_neg (by rw [hc]; decide), if_neg (by rw [hc]; decide), if_neg (by rw [hc]; decide), if_neg (by rw [hc]; decide), if_neg (by rw [hc]; decide), if_neg (by rw [hc]; decide), if_neg (by rw [hc]; decide), if_pos hc]
        exact p_L_law_1449 J0 hXs hl hce hsl H23 x4 σ M N hL
      · rw [if_neg (by rw [hc]; decide), if_neg (by rw [hc]; decide), if_neg (by rw [hc]; decide), if_neg (by rw [hc]; decide), if_neg (by rw [hc]; decide), if_neg (by rw [hc]; decide), if_neg (by rw [hc]; decide), if_neg (by rw [hc]; decide), if_neg (by rw [hc]; decide), if_neg (by rw [hc]; decide), if_neg (by rw [hc]; decide), if_neg (by rw [hc]; decide), if_neg (by rw [hc]; decide), if_neg (by rw [hc]; decide), if_neg (by rw [hc]; decide), if_neg (by rw [hc]; decide), if_neg (by rw [hc]; decide), if_neg (by rw [hc]; decide), if_neg (by rw [hc]; decide), if_neg (by rw [hc]; decide), if_neg (by rw [hc]; decide), if_neg (by rw [hc]; decide), if_neg (by rw [hc]; decide), if_neg (by rw [hc]; decide), if_neg (by rw [hc]; decide), if_neg (by rw [hc]; decide), if_pos hc]
        exact p_L_law_1498 J0 hXs hl hce hsl H23 x4 σ M N hL
      · rw [if_neg (by rw [hc]; decide), if_neg (by rw [hc]; decide), if_neg (by rw [hc]; decide), if_neg (by rw [hc]; decide), if_neg (by rw [hc]; decide), if_neg (by rw [hc]; decide), if_neg (by rw [hc]; decide), if_neg (by rw [hc]; decide), if_neg (by rw [hc]; decide), if_neg (by rw [hc]; decide), if_neg (by rw [hc]; decide), if_neg (by rw [hc]; decide), if_neg (by rw [hc]; decide), if_neg (by rw [hc]; decide), if_neg (by rw [hc]; decide), if_neg (by rw [hc]; decide), if_neg (by rw [hc]; decide), if_neg (by rw [hc]; decide), if_neg (by rw [hc]; decide), if_neg (by rw [hc]; decide), if_neg (by rw [hc]; decide), if_neg (by rw [hc]; decide), if_neg (by rw [hc]; decide), if_neg (by rw [hc]; decide), if_neg (by rw [hc]; decide), if_neg (by rw [hc]; decide), if_neg (by rw [hc]; decide), if_pos hc]
        exact p_L_law_1511 J0 hXs hl hce hsl H23 x4 σ M N hL
      · rw [if_neg (by rw [hc]; decide), if_neg (by rw [hc]; decide), if_neg (by rw [hc]; decide), if_neg (by rw [hc]; decide), if_neg (by rw [hc]; decide), if_neg (by rw [hc]; decide), if_neg (by rw [hc]; decide), if_neg (by rw [hc]; decide), if_neg (by rw [hc]; decide), if_neg (by rw [hc]; decide), if_neg (by rw [hc]; decide), if_neg (by rw [hc]; decide), if_neg (by rw [hc]; decide), if_neg (by rw [hc]; decide), if_neg (by rw [hc]; decide), if_neg (by rw [hc]; decide), if_neg (by rw [hc]; decide), if_neg (by rw [hc]; decide), if_neg (by rw [hc]; decide), if_neg (by rw [hc]; decide), if_neg (by rw [hc]; decide), if_neg (by rw [hc]; decide), if_neg (by rw [hc]; decide), if_neg (by rw [hc]; decide), if_neg (by rw [hc]; decide), if_neg (by rw [hc]; decide), if_neg (by rw [hc]; decide), if_neg (by rw [hc]; decide), if_pos hc]
        exact p_L_law_1536 J0 hXs hl hce hsl H23 x4 σ M N hL
      · rw [if_neg (by rw [hc]; decide), if_neg (by rw [hc]; decide), if_neg (by rw [hc]; decide), if_neg (by rw [hc]; decide), if_neg (by rw [hc]; decide), if_neg (by rw [hc]; decide), if_neg (by rw [hc]; decide), if_neg (by rw [hc]; decide), if_neg (by rw [hc]; decide), if_neg (by rw [hc]; decide), if_neg (by rw [hc]; decide), if_neg (by rw [hc]; decide), if_neg (by rw [hc]; decide), if_neg (by rw [hc]; decide), if_neg (by rw [hc]; decide), if_neg (by rw [hc]; decide), if_neg (by rw [hc]; decide), if_neg (by rw [hc]; decide), if_neg (by rw [hc]; decide), if_neg (by rw [hc]; decide), if_neg (by rw [hc]; decide), if_neg (by rw [hc]; decide), if_neg (by rw [hc]; decide), if_neg (by rw [hc]; decide), if_neg (by rw [hc]; decide), if_neg (by rw [hc]; decide), if_neg (by rw [hc]; decide), if_neg (by rw [hc]; decide), if_neg (by rw [hc]; decide), if_pos hc]
        exact p_L_law_1561 J0 hXs hl hce hsl H23 x4 σ M N hL
      · rw [if_neg (by rw [hc]; decide), if_neg (by rw [hc]; decide), if_neg (by rw [hc]; decide), if_neg (by rw [hc]; decide), if_neg (by rw [hc]; decide), if_neg (by rw [hc]; decide), if_neg (by rw [hc]; decide), if_neg (by rw [hc]; decide), if_neg (by rw [hc]; decide), if_neg (by rw [hc]; decide), if_neg (by rw [hc]; decide), if_neg (by rw [hc]; decide), if_neg (by rw [hc]; decide), if_neg (by rw [hc]; decide), if_neg (by rw [hc]; decide), if_neg (by rw [hc]; decide), if_neg (by rw [hc]; decide), if_neg (by rw [hc]; decide), if_neg (by rw [hc]; decide), if_neg (by rw [hc]; decide), if_neg (by rw [hc]; decide), if_neg (by rw [hc]; decide), if_neg (by rw [hc]; decide), if_neg (by rw [hc]; decide), if_neg (by rw [hc]; decide), if_neg (by rw [hc]; decide), if_neg (by rw [hc]; decide), if_neg (by rw [hc]; decide), if_neg (by rw [hc]; decide), if_neg (by rw [hc]; decide), if_pos hc]
        exact p_L_law_1574 J0 hXs hl hce hsl H23 x4 σ M N hL
      · rw [if_neg (by rw [hc]; decide), if_neg (by rw [hc]; decide), if_neg (by rw [hc]; decide), if_neg (by rw [hc]; decide), if_neg (by rw [hc]; decide), if_neg (by rw [hc]; decide), if_neg (by rw [hc]; decide), if_neg (by rw [hc]; decide), if_neg (by rw [hc]; decide), if_neg (by rw [hc]; decide), if_neg (by rw [hc]; decide), if_neg (by rw [hc]; decide), if_neg (by rw [hc]; decide), if_neg (by rw [hc]; decide), if_neg (by rw [hc]; decide), if_neg (by rw [hc]; decide), if_neg (by rw [hc]; decide), if_neg (by rw [hc]; decide), if_neg (by rw [hc]; decide), if_neg (by rw [hc]; decide), if_neg (by rw [hc]; decide), if_neg (by rw [hc]; decide), if_neg (by rw [hc]; decide), if_neg (by rw [hc]; decide), if_neg (by rw [hc]; decide), if_neg (by rw [hc]; decide), if_neg (by rw [hc]; decide), if_neg (by rw [hc]; decide), if_neg (by rw [hc]; decide), if_neg (by rw [hc]; decide), if_neg (by rw [hc]; decide), if_pos hc]
        exact p_L_law_1611 J0 hXs hl hce hsl H23 x4 σ M N hL
      · rw [if_neg (by rw [hc]; decide), if_neg (by rw [hc]; decide), if_neg (by rw [hc]; decide), if_neg (by rw [hc]; decide), if_neg (by rw [hc]; decide), if_neg (by rw [hc]; decide), if_neg (by rw [hc]; decide), if_neg (by rw [hc]; decide), if_neg (by rw [hc]; decide), if_neg (by rw [hc]; decide), if_neg (by rw [hc]; decide), if_neg (by rw [hc]; decide), if_neg (by rw [hc]; decide), if_neg (by rw [hc]; decide), if_neg (by rw [hc]; decide), if_neg (by rw [hc]; decide), if_neg (by rw [hc]; decide), if_neg (by rw [hc]; decide), if_neg (by rw [hc]; decide), if_neg (by rw [hc]; decide), if_neg (by rw [hc]; decide), if_neg (by rw [hc]; decide), if_neg (by rw [hc]; decide), if_neg (by rw [hc]; decide), if_neg (by rw [hc]; decide), if_neg (by rw [hc]; decide), if_neg (by rw [hc]; decide), if_neg (by rw [hc]; decide), if_neg (by rw [hc]; decide), if_neg (by rw [hc]; decide), if_neg (by rw [hc]; decide), if_neg (by rw [hc]; decide), if_pos hc]
        exact p_L_law_1667 J0 hXs hl hce hsl H23 x4 σ M N hL
      · rw [if_neg (by rw [hc]; decide), if_neg (by rw [hc]; decide), if_neg (by rw [hc]; decide), if_neg (by rw [hc]; decide), if_neg (by rw [hc]; decide), if_neg (by rw [hc]; decide), if_neg (by rw [hc]; decide), if_neg (by rw [hc]; decide), if_neg (by rw [hc]; decide), if_neg (by rw [hc]; decide), if_neg (by rw [hc]; decide), if_neg (by rw [hc]; decide), if_neg (by rw [hc]; decide), if_neg (by rw [hc]; decide), if_neg (by rw [hc]; decide), if_neg (by rw [hc]; decide), if_neg (by rw [hc]; decide), if_neg (by rw [hc]; decide), if_neg (by rw [hc]; decide), if_neg (by rw [hc]; decide), if_neg (by rw [hc]; decide), if_neg (by rw [hc]; decide), if_neg (by rw [hc]; decide), if_neg (by rw [hc]; decide), if_neg (by rw [hc]; decide), if_neg (by rw [hc]; decide), if_neg (by rw [hc]; decide), if_neg (by rw [hc]; decide), if_neg (by rw [hc]; decide), if_neg (by rw [hc]; decide), if_neg (by rw [hc]; decide), if_neg (by rw [hc]; decide), if_neg (by rw [hc]; decide), if_pos hc]
        exact p_L_law_1723 J0 hXs hl hce hsl H23 x4 σ M N hL
      · rw [if_neg (by rw [hc]; decide), if_neg (by rw [hc]; decide), if_neg (by rw [hc]; decide), if_neg (by rw [hc]; decide), if_neg (by rw [hc]; decide), if_neg (by rw [hc]; decide), if_neg (by rw [hc]; decide), if_neg (by rw [hc]; decide), if_neg (by rw [hc]; decide), if_neg (by rw [hc]; decide), if_neg (by rw [hc]; decide), if_neg (by rw [hc]; decide), if_neg (by rw [hc]; decide), if_neg (by rw [hc]; decide), if_neg (by rw [hc]; decide), if_neg (by rw [hc]; decide), if_neg (by rw [hc]; decide), if_neg (by rw [hc]; decide), if_neg (by rw [hc]; decide), if_neg (by rw [hc]; decide), if_neg (by rw [hc]; decide), if_neg (by rw [hc]; decide), if_neg (by rw [hc]; decide), if_neg (by rw [hc]; decide), if_neg (by rw [hc]; decide), if_neg (by rw [hc]; decide), if_neg (by rw [hc]; decide), if_neg (by rw [hc]; decide), if_neg (by rw [hc]; decide), if_neg (by rw [hc]; decide), if_neg (by rw [hc]; decide), if_neg (by rw [hc]; decide), if_neg (by rw [hc]; decide), if_neg (by rw [hc]; decide), if_pos hc]
        exact p_L_law_1760 J0 hXs hl hce hsl H23 x4 σ M N hL
      · rw [if_neg (by rw [hc]; decide), if_neg (by rw [hc]; decide), if_neg (by rw [hc]; decide), if_neg (by rw [hc]; decide), if_neg (by rw [hc]; decide), if_neg (by rw [hc]; decide), if_neg (by rw [hc]; decide), if_neg (by rw [hc]; decide), if_neg (by rw [hc]; decide), if_neg (by rw [hc]; decide), if_neg (by rw [hc]; decide), if_neg (by rw [hc]; decide), if_neg (by rw [hc]; decide), if_neg (by rw [hc]; decide), if_neg (by rw [hc]; decide), if_neg (by rw [hc]; decide), if_neg (by rw [hc]; decide), if_neg (by rw [hc]; decide), if_neg (by rw [hc]; decide), if_neg (by rw [hc]; decide), if_neg (by rw [hc]; decide), if_neg (by rw [hc]; decide), if_neg (by rw [hc]; decide), if_neg (by rw [hc]; decide), if_neg (by rw [hc]; decide), if_neg (by rw [hc]; decide), if_neg (by rw [hc]; decide), if_neg (by rw [hc]; decide), if_neg (by rw [hc]; decide), if_neg (by rw [hc]; decide), if_neg (by rw [hc]; decide), if_neg (by rw [hc]; decide), if_neg (by rw [hc]; decide), if_neg (by rw [hc]; decide), if_neg (by rw [hc]; decide), if_pos hc]
        exact p_L_law_1797 J0 hXs hl hce hsl H23 x4 σ M N hL
      · rw [if_neg (by rw [hc]; decide), if_neg (by rw [hc]; decide), if_neg (by rw [hc]; decide), if_neg (by rw [hc]; decide), if_neg (by rw [hc]; decide), if_neg (by rw [hc]; decide), if_neg (by rw [hc]; decide), if_neg (by rw [hc]; decide), if_neg (by rw [hc]; decide), if_neg (by rw [hc]; decide), if_neg (by rw [hc]; decide), if_neg (by rw [hc]; decide), if_neg (by rw [hc]; decide), if_neg (by rw [hc]; decide), if_neg (by rw [hc]; decide), if_neg (by rw [hc]; decide), if_neg (by rw [hc]; decide), if_neg (by rw [hc]; decide), if_neg (by rw [hc]; decide), if_neg (by rw [hc]; decide), if_neg (by rw [hc]; decide), if_neg (by rw [hc]; decide), if_neg (by rw [hc]; decide), if_neg (by rw [hc]; decide), if_neg (by rw [hc]; decide), if_neg (by rw [hc]; decide), if_neg (by rw [hc]; decide), if_neg (by rw [hc]; decide), if_neg (by rw [hc]; decide), if_neg (by rw [hc]; decide), if_neg (by rw [hc]; decide), if_neg (by rw [hc]; decide), if_neg (by rw [hc]; decide), if_neg (by rw [hc]; decide), if_neg (by rw [hc]; decide), if_neg (by rw [hc]; decide), if_pos hc]
        exact p_L_law_1846 J0 hXs hl hce hsl H23 x4 σ M N hL
      · rw [if_neg (by rw [hc]; decide), if_neg (by rw [hc]; decide), if_neg (by rw [hc]; decide), if_neg (by rw [hc]; decide), if_neg (by rw [hc]; decide), if_neg (by rw [hc]; decide), if_neg (by rw [hc]; decide), if_neg (by rw [hc]; decide), if_neg (by rw [hc]; decide), if_neg (by rw [hc]; decide), if_neg (by rw [hc]; decide), if_neg (by rw [hc]; decide), if_neg (by rw [hc]; decide), if_neg (by rw [hc]; decide), if_neg (by rw [hc]; decide), if_neg (by rw [hc]; decide), if_neg (by rw [hc]; decide), if_neg (by rw [hc]; decide), if_neg (by rw [hc]; decide), if_neg (by rw [hc]; decide), if_neg (by rw [hc]; decide), if_neg (by rw [hc]; decide), if_neg (by rw [hc]; decide), if_neg (by rw [hc]; decide), if_neg (by rw [hc]; decide), if_neg (by rw [hc]; decide), if_neg (by rw [hc]; decide), if_neg (by rw [hc]; decide), if_neg (by rw [hc]; decide), if_neg (by rw [hc]; decide), if_neg (by rw [hc]; decide), if_neg (by rw [hc]; decide), if_neg (by rw [hc]; decide), if_neg (by rw [hc]; decide), if_neg (by rw [hc]; decide), if_neg (by rw [hc]; decide), if_neg (by rw [hc]; decide), if_pos hc]
        exact p_L_law_1883 J0 hXs hl hce hsl H23 x4 σ M N hL
      · rw [if_neg (hd _ (List.mem_of_getElem? (i := 0) rfl)), if_neg (hd _ (List.mem_of_getElem? (i := 1) rfl)), if_neg (hd _ (List.mem_of_getElem? (i := 2) rfl)), if_neg (hd _ (List.mem_of_getElem? (i := 3) rfl)), if_neg (hd _ (List.mem_of_getElem? (i := 4) rfl)), if_neg (hd _ (List.mem_of_getElem? (i := 5) rfl)), if_neg (hd _ (List.mem_of_getElem? (i := 6) rfl)), if_neg (hd _ (List.mem_of_getElem? (i := 7) rfl)), if_neg (hd _ (List.mem_of_getElem? (i := 8) rfl)), if_neg (hd _ (List.mem_of_getElem? (i := 9) rfl)), if_neg (hd _ (List.mem_of_getElem? (i := 10) rfl)), if_neg (hd _ (List.mem_of_getElem? (i := 11) rfl)), if_neg (hd _ (List.mem_of_getElem? (i := 12) rfl)), if_neg (hd _ (List.mem_of_getElem? (i := 13) rfl)), if_neg (hd _ (List.mem_of_getElem? (i := 14) rfl)), if_neg (hd _ (List.mem_of_getElem? (i := 15) rfl)), if_neg (hd _ (List.mem_of_getElem? (i := 16) rfl)), if_neg (hd _ (List.mem_of_getElem? (i := 17) rfl)), if_neg (hd _ (List.mem_of_getElem? (i := 18) rfl)), if_neg (hd _ (List.mem_of_getElem? (i := 19) rfl)), if_neg (hd _ (List.mem_of_getElem? (i := 20) rfl)), if_neg (hd _ (List.mem_of_getElem? (i := 21) rfl)), if_neg (hd _ (List.mem_of_getElem? (i := 22) rfl)), if_neg (hd _ (List.mem_of_getElem? (i := 23) rfl)), if_neg (hd _ (List.mem_of_getElem? (i := 24) rfl)), if_neg (hd _ (List.mem_of_getElem? (i := 25) rfl)), if_neg (hd _ (List.mem_of_getElem? (i := 26) rfl)), if_neg (hd _ (List.mem_of_getElem? (i := 27) rfl)), if_neg (hd _ (List.mem_of_getElem? (i := 28) rfl)), if_neg (hd _ (List.mem_of_getElem? (i := 29) rfl)), if_neg (hd _ (List.mem_of_getElem? (i := 30) rfl)), if_neg (hd _ (List.mem_of_getElem? (i := 31) rfl)), if_neg (hd _ (List.mem_of_getElem? (i := 32) rfl)), if_neg (hd _ (List.mem_of_getElem? (i := 33) rfl)), if_neg (hd _ (List.mem_of_getElem? (i := 34) rfl)), if_neg (hd _ (List.mem_of_getElem? (i := 35) rfl)), if_neg (hd _ (List.mem_of_getElem? (i := 36) rfl)), if_neg (hd _ (List.mem_of_getElem? (i := 37) rfl))]
        refine r_widen (ce' := (ce0 + 9)) (sl' := (sl0 + 11264)) (by omega) (by omega) ?_
        exact p_L_law_1908 J0 hXs hl hce hsl H23 x4 σ M N hL
def tb_L_law_20 : gT := [(20, .iconst 0, 1, 0), (21, .istore 4, 2, 0)]
set_option maxRecDepth 100000 in
theorem tk_L_law_20 : g_okT code tb_L_law_20 = true := by decide +kernel
set_option maxHeartbeats 4000000 in
set_option maxRecDepth 100000 in
theorem p_L_law_20 {l : Launch} {E : gE} {L : Nat} {xs : Nat → Int32} (J0 : J_L_law E l) (hXs : g_Xs E L xs) (hl : l.stackTraces = false) (σ : gS) (M : gM) (N : gN) (hL : g_layL σ) : g_H E 85 32562 20 [(0, vE 300), (1, vR 1), (2, vR 40), (3, vR 39)] [] (σ, M, N) (b_L_law_20 L xs σ M N) eISMN := by
  have J := g_J.tab J0 tk_L_law_20
  unfold b_L_law_20
  refine r_run J 2 (pc' := 23) (lv' := [(4, vI 0), (0, vE 300), (1, vR 1), (2, vR 40), (3, vR 39)]) (st' := []) rfl ?_
  refine r_sub [1, 2, 3, 4, 0] (lv' := [(0, vE 300), (1, vR 1), (2, vR 40), (3, vR 39), (4, vI 0)]) rfl ?_
  exact p_L_law_23 J0 hXs hl 513 0 (by decide) 0 σ M N hL
def tb_L_law_0 : gT := [(0, .new 8, 3, 0), (3, .dup, 1, 0), (4, .invokespecial 18, 3, 0), (7, .astore_n 1, 1, 0), (8, .new 19, 3, 0), (11, .dup, 1, 0), (12, .invokespecial 21, 3, 0), (15, .astore_n 2, 1, 0), (16, .iconst 1, 1, 1), (17, .newarray .long, 2, 0), (19, .astore_n 3, 1, 0)]
set_option maxRecDepth 100000 in
theorem tk_L_law_0 : g_okT code tb_L_law_0 = true := by decide +kernel
set_option maxHeartbeats 4000000 in
set_option maxRecDepth 100000 in
theorem p_L_law_0 {l : Launch} {E : gE} {L : Nat} {xs : Nat → Int32} (J0 : J_L_law E l) (hXs : g_Xs E L xs) (hl : l.stackTraces = false) (σ : gS) (M : gM) (N : gN) : g_H E 0 0 0 [(0, vE 300)] [] (σ, M, N) (b_L_law_0 L xs σ M N) eISMN := by
  have J := g_J.tab J0 tk_L_law_0
  unfold b_L_law_0
  refine r_chk (fun hf0 => ?_)
  refine r_new J cls11 rfl ⟨wk_L_8, wi_11⟩ df_11 (g_fr_0 hf0) (g_fr_n hf0) (by decide) (by decide) ?_
  show g_H E 1 15 3 [(0, vE 300)] [vR 1] ((g_nS σ 1 11 0), (g_z M 1 0), (g_z N 1 0)) _ _
  refine r_run J 1 (pc' := 4) (lv' := [(0, vE 300)]) (st' := [vR 1, vR 1]) rfl ?_
  refine r_callI J (As := []) (st := [vR 1]) (fun r hr => c_X11_init (g_nS σ 1 11 0) (g_z M 1 0) (g_z N 1 0) r hr) (by rw [(g_nS_at σ 1 11 0)]; exact Option.some_ne_none _) wm_L_18 wy_X11_init rfl wd_X11_init ⟨by decide, by decide, by omega, by omega, Nat.le_of_ble_eq_true rfl⟩ rfl rfl (fun q4 hq4 => ?_)
  show g_H E 38 3097 7 [(0, vE 300)] [vR 1] (q4.1, q4.2.1, q4.2.2) _ _
  refine r_run J 1 (pc' := 8) (lv' := [(1, vR 1), (0, vE 300)]) (st' := []) rfl ?_
  refine r_chk (fun hf8 => ?_)
  refine r_new J cls12 rfl ⟨wk_L_19, wi_12⟩ df_12 (g_fr_0 hf8) (g_fr_n hf8) (by decide) (by decide) ?_
  show g_H E 39 3175 11 [(1, vR 1), (0, vE 300)] [vR 40] ((g_nS q4.1 40 12 0), (g_z q4.2.1 40 0), (g_z q4.2.2 40 0)) _ _
  refine r_run J 1 (pc' := 12) (lv' := [(1, vR 1), (0, vE 300)]) (st' := [vR 40, vR 40]) rfl ?_
  refine r_callI J (As := []) (st := [vR 40]) (fun r hr => c_X12_init (g_nS q4.1 40 12 0) (g_z q4.2.1 40 0) (g_z q4.2.2 40 0) r hr) (by rw [(g_nS_at q4.1 40 12 0)]; exact Option.some_ne_none _) wm_L_21 wy_X12_init rfl wd_X12_init ⟨by decide, by decide, by omega, by omega, Nat.le_of_ble_eq_true rfl⟩ rfl rfl (fun q12 hq12 => ?_)
  show g_H E 84 32561 15 [(1, vR 1), (0, vE 300)] [vR 40] (q12.1, q12.2.1, q12.2.2) _ _
  refine r_run J 2 (pc' := 17) (lv' := [(2, vR 40), (1, vR 1), (0, vE 300)]) (st' := [vI 1]) rfl ?_
  refine r_chk (fun hf17 => ?_)
  refine r_newJ J (B := 1) rfl wa_long (by decide) rfl (Nat.le_refl _) (by decide) (g_fr_0 hf17) (g_fr_n hf17) (by decide) (by decide) ?_
  show g_H E 85 32562 19 [(2, vR 40), (1, vR 1), (0, vE 300)] [vR 39] ((g_nS q12.1 39 16 1), (g_z q12.2.1 39 0), (g_z q12.2.2 39 0)) _ _
  refine r_run J 1 (pc' := 20) (lv' := [(3, vR 39), (2, vR 40), (1, vR 1), (0, vE 300)]) (st' := []) rfl ?_
  refine r_chk (fun hlz => ?_)
  refine r_sub [3, 2, 1, 0] (lv' := [(0, vE 300), (1, vR 1), (2, vR 40), (3, vR 39)]) rfl ?_
  exact p_L_law_20 J0 hXs hl (g_nS q12.1 39 16 1) (g_z q12.2.1 39 0) (g_z q12.2.2 39 0) (g_layL.of hlz)
