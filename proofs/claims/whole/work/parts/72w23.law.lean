def tb_L_law_1217 : gT := [(1217, .aload_n 1, 1, 0), (1218, .aload_n 0, 1, 0), (1219, .iload 4, 2, 0), (1221, .iconst 1, 1, 1), (1222, .iadd, 1, 0), (1223, .iaload, 1, 0), (1224, .aload_n 0, 1, 0), (1225, .iload 4, 2, 0), (1227, .iconst 2, 1, 2), (1228, .iadd, 1, 0), (1229, .iaload, 1, 0), (1230, .invokevirtual 117, 3, 0), (1233, .aload_n 2, 1, 0), (1234, .aload_n 0, 1, 0), (1235, .iload 4, 2, 0), (1237, .iconst 1, 1, 1), (1238, .iadd, 1, 0), (1239, .iaload, 1, 0), (1240, .aload_n 0, 1, 0), (1241, .iload 4, 2, 0), (1243, .iconst 2, 1, 2), (1244, .iadd, 1, 0), (1245, .iaload, 1, 0), (1246, .invokevirtual 120, 3, 0), (1249, .if_icmp .eq 659, 3, 0), (1252, .iconst 0, 1, 0), (1253, .ireturn, 1, 0)]
set_option maxRecDepth 100000 in
theorem tk_L_law_1217 : g_okT code tb_L_law_1217 = true := by decide +kernel
set_option maxHeartbeats 4000000 in
set_option maxRecDepth 100000 in
theorem p_L_law_1217 {l : Launch} {E : gE} {L : Nat} {xs : Nat → Int32} (J0 : J_L_law E l) (hXs : g_Xs E L xs) (hl : l.stackTraces = false) {ce0 sl0 : Nat} (hce : ce0 + 9 ≤ 601024) (hsl : sl0 + 11264 ≤ 7293034) {k23 : Int32 → Nat → (Nat → Int32) → gS → gM → gN → Option (Int32 × gS × gM × gN)} (H23 : ∀ (x4 : Int32) (σ : gS) (M : gM) (N : gN) (_ : g_layL σ), g_H E (ce0 + 9) (sl0 + 11264) 23 [(0, vE 300), (1, vR 1), (2, vR 40), (3, vR 39), (4, vI x4)] [] (σ, M, N) (k23 x4 L xs σ M N) eISMN) (x4 : Int32) (σ : gS) (M : gM) (N : gN) (hL : g_layL σ) : g_H E ce0 sl0 1217 [(0, vE 300), (1, vR 1), (2, vR 40), (3, vR 39), (4, vI x4)] [] (σ, M, N) (b_L_law_1217 k23 x4 L xs σ M N) eISMN := by
  have J := g_J.tab J0 tk_L_law_1217
  unfold b_L_law_1217
  refine r_run J 5 (pc' := 1223) (lv' := [(0, vE 300), (1, vR 1), (2, vR 40), (3, vR 39), (4, vI x4)]) (st' := [vI (x4 + (1 : Int32)), vE 300, vR 1]) rfl ?_
  refine r_xld J hXs rfl (fun i1223 => ?_)
  show g_H E ce0 sl0 1224 [(0, vE 300), (1, vR 1), (2, vR 40), (3, vR 39), (4, vI x4)] [vI (xs (x4 + (1 : Int32)).toNatClampNeg), vR 1] (σ, M, N) _ _
  refine r_run J 4 (pc' := 1229) (lv' := [(0, vE 300), (1, vR 1), (2, vR 40), (3, vR 39), (4, vI x4)]) (st' := [vI (x4 + (2 : Int32)), vE 300, vI (xs (x4 + (1 : Int32)).toNatClampNeg), vR 1]) rfl ?_
  refine r_xld J hXs rfl (fun i1229 => ?_)
  show g_H E ce0 sl0 1230 [(0, vE 300), (1, vR 1), (2, vR 40), (3, vR 39), (4, vI x4)] [vI (xs (x4 + (2 : Int32)).toNatClampNeg), vI (xs (x4 + (1 : Int32)).toNatClampNeg), vR 1] (σ, M, N) _ _
  refine r_callV J (As := [vI (xs (x4 + (1 : Int32)).toNatClampNeg), vI (xs (x4 + (2 : Int32)).toNatClampNeg)]) (st := []) (fun r hr => c_X11_buy (xs (x4 + (1 : Int32)).toNatClampNeg) (xs (x4 + (2 : Int32)).toNatClampNeg) σ M N (hL).1 r hr) cls11 (ly_1 (hL).1) wm_L_117 wy_X11_buy wd_X11_buy ⟨by decide, by decide, by omega, by omega, Nat.le_of_ble_eq_true rfl⟩ rfl rfl (fun q1230 hq1230 => ?_)
  show g_H E ce0 sl0 1233 [(0, vE 300), (1, vR 1), (2, vR 40), (3, vR 39), (4, vI x4)] [vI q1230.1] (σ, q1230.2, N) _ _
  refine r_run J 5 (pc' := 1239) (lv' := [(0, vE 300), (1, vR 1), (2, vR 40), (3, vR 39), (4, vI x4)]) (st' := [vI (x4 + (1 : Int32)), vE 300, vR 40, vI q1230.1]) rfl ?_
  refine r_xld J hXs rfl (fun i1239 => ?_)
  show g_H E ce0 sl0 1240 [(0, vE 300), (1, vR 1), (2, vR 40), (3, vR 39), (4, vI x4)] [vI (xs (x4 + (1 : Int32)).toNatClampNeg), vR 40, vI q1230.1] (σ, q1230.2, N) _ _
  refine r_run J 4 (pc' := 1245) (lv' := [(0, vE 300), (1, vR 1), (2, vR 40), (3, vR 39), (4, vI x4)]) (st' := [vI (x4 + (2 : Int32)), vE 300, vI (xs (x4 + (1 : Int32)).toNatClampNeg), vR 40, vI q1230.1]) rfl ?_
  refine r_xld J hXs rfl (fun i1245 => ?_)
  show g_H E ce0 sl0 1246 [(0, vE 300), (1, vR 1), (2, vR 40), (3, vR 39), (4, vI x4)] [vI (xs (x4 + (2 : Int32)).toNatClampNeg), vI (xs (x4 + (1 : Int32)).toNatClampNeg), vR 40, vI q1230.1] (σ, q1230.2, N) _ _
  refine r_callV J (As := [vI (xs (x4 + (1 : Int32)).toNatClampNeg), vI (xs (x4 + (2 : Int32)).toNatClampNeg)]) (st := [vI q1230.1]) (fun r hr => c_X12_buy (xs (x4 + (1 : Int32)).toNatClampNeg) (xs (x4 + (2 : Int32)).toNatClampNeg) σ q1230.2 N (hL).2.1 r hr) cls12 (ly_40 (hL).2.1) wm_L_120 wy_X12_buy wd_X12_buy ⟨by decide, by decide, by omega, by omega, Nat.le_of_ble_eq_true rfl⟩ rfl rfl (fun q1246 hq1246 => ?_)
  show g_H E ce0 sl0 1249 [(0, vE 300), (1, vR 1), (2, vR 40), (3, vR 39), (4, vI x4)] [vI q1246.1, vI q1230.1] (σ, q1246.2.1, q1246.2.2) _ _
  refine r_icmp_eq J (tgt := 1908) rfl (by decide) (fun c1249 => ?_) (fun c1249 => ?_)
  · refine r_widen (ce' := (ce0 + 9)) (sl' := (sl0 + 11264)) (by omega) (by omega) ?_
    exact p_L_law_1908 J0 hXs hl hce hsl H23 x4 σ q1246.2.1 q1246.2.2 hL
  · refine r_run J 1 (pc' := 1253) (lv' := [(0, vE 300), (1, vR 1), (2, vR 40), (3, vR 39), (4, vI x4)]) (st' := [vI 0]) rfl ?_
    exact r_iret J rfl rfl rfl rfl (by omega) (by omega)
def tb_L_law_1180 : gT := [(1180, .aload_n 1, 1, 0), (1181, .aload_n 0, 1, 0), (1182, .iload 4, 2, 0), (1184, .iconst 1, 1, 1), (1185, .iadd, 1, 0), (1186, .iaload, 1, 0), (1187, .aload_n 0, 1, 0), (1188, .iload 4, 2, 0), (1190, .iconst 2, 1, 2), (1191, .iadd, 1, 0), (1192, .iaload, 1, 0), (1193, .invokevirtual 113, 3, 0), (1196, .aload_n 2, 1, 0), (1197, .aload_n 0, 1, 0), (1198, .iload 4, 2, 0), (1200, .iconst 1, 1, 1), (1201, .iadd, 1, 0), (1202, .iaload, 1, 0), (1203, .aload_n 0, 1, 0), (1204, .iload 4, 2, 0), (1206, .iconst 2, 1, 2), (1207, .iadd, 1, 0), (1208, .iaload, 1, 0), (1209, .invokevirtual 116, 3, 0), (1212, .if_icmp .eq 696, 3, 0), (1215, .iconst 0, 1, 0), (1216, .ireturn, 1, 0)]
set_option maxRecDepth 100000 in
theorem tk_L_law_1180 : g_okT code tb_L_law_1180 = true := by decide +kernel
set_option maxHeartbeats 4000000 in
set_option maxRecDepth 100000 in
theorem p_L_law_1180 {l : Launch} {E : gE} {L : Nat} {xs : Nat → Int32} (J0 : J_L_law E l) (hXs : g_Xs E L xs) (hl : l.stackTraces = false) {ce0 sl0 : Nat} (hce : ce0 + 9 ≤ 601024) (hsl : sl0 + 11264 ≤ 7293034) {k23 : Int32 → Nat → (Nat → Int32) → gS → gM → gN → Option (Int32 × gS × gM × gN)} (H23 : ∀ (x4 : Int32) (σ : gS) (M : gM) (N : gN) (_ : g_layL σ), g_H E (ce0 + 9) (sl0 + 11264) 23 [(0, vE 300), (1, vR 1), (2, vR 40), (3, vR 39), (4, vI x4)] [] (σ, M, N) (k23 x4 L xs σ M N) eISMN) (x4 : Int32) (σ : gS) (M : gM) (N : gN) (hL : g_layL σ) : g_H E ce0 sl0 1180 [(0, vE 300), (1, vR 1), (2, vR 40), (3, vR 39), (4, vI x4)] [] (σ, M, N) (b_L_law_1180 k23 x4 L xs σ M N) eISMN := by
  have J := g_J.tab J0 tk_L_law_1180
  unfold b_L_law_1180
  refine r_run J 5 (pc' := 1186) (lv' := [(0, vE 300), (1, vR 1), (2, vR 40), (3, vR 39), (4, vI x4)]) (st' := [vI (x4 + (1 : Int32)), vE 300, vR 1]) rfl ?_
  refine r_xld J hXs rfl (fun i1186 => ?_)
  show g_H E ce0 sl0 1187 [(0, vE 300), (1, vR 1), (2, vR 40), (3, vR 39), (4, vI x4)] [vI (xs (x4 + (1 : Int32)).toNatClampNeg), vR 1] (σ, M, N) _ _
  refine r_run J 4 (pc' := 1192) (lv' := [(0, vE 300), (1, vR 1), (2, vR 40), (3, vR 39), (4, vI x4)]) (st' := [vI (x4 + (2 : Int32)), vE 300, vI (xs (x4 + (1 : Int32)).toNatClampNeg), vR 1]) rfl ?_
  refine r_xld J hXs rfl (fun i1192 => ?_)
  show g_H E ce0 sl0 1193 [(0, vE 300), (1, vR 1), (2, vR 40), (3, vR 39), (4, vI x4)] [vI (xs (x4 + (2 : Int32)).toNatClampNeg), vI (xs (x4 + (1 : Int32)).toNatClampNeg), vR 1] (σ, M, N) _ _
  refine r_callV J (As := [vI (xs (x4 + (1 : Int32)).toNatClampNeg), vI (xs (x4 + (2 : Int32)).toNatClampNeg)]) (st := []) (fun r hr => c_X11_give (xs (x4 + (1 : Int32)).toNatClampNeg) (xs (x4 + (2 : Int32)).toNatClampNeg) σ M N (hL).1 r hr) cls11 (ly_1 (hL).1) wm_L_113 wy_X11_give wd_X11_give ⟨by decide, by decide, by omega, by omega, Nat.le_of_ble_eq_true rfl⟩ rfl rfl (fun q1193 hq1193 => ?_)
  show g_H E ce0 sl0 1196 [(0, vE 300), (1, vR 1), (2, vR 40), (3, vR 39), (4, vI x4)] [vI q1193.1] (σ, q1193.2, N) _ _
  refine r_run J 5 (pc' := 1202) (lv' := [(0, vE 300), (1, vR 1), (2, vR 40), (3, vR 39), (4, vI x4)]) (st' := [vI (x4 + (1 : Int32)), vE 300, vR 40, vI q1193.1]) rfl ?_
  refine r_xld J hXs rfl (fun i1202 => ?_)
  show g_H E ce0 sl0 1203 [(0, vE 300), (1, vR 1), (2, vR 40), (3, vR 39), (4, vI x4)] [vI (xs (x4 + (1 : Int32)).toNatClampNeg), vR 40, vI q1193.1] (σ, q1193.2, N) _ _
  refine r_run J 4 (pc' := 1208) (lv' := [(0, vE 300), (1, vR 1), (2, vR 40), (3, vR 39), (4, vI x4)]) (st' := [vI (x4 + (2 : Int32)), vE 300, vI (xs (x4 + (1 : Int32)).toNatClampNeg), vR 40, vI q1193.1]) rfl ?_
  refine r_xld J hXs rfl (fun i1208 => ?_)
  show g_H E ce0 sl0 1209 [(0, vE 300), (1, vR 1), (2, vR 40), (3, vR 39), (4, vI x4)] [vI (xs (x4 + (2 : Int32)).toNatClampNeg), vI (xs (x4 + (1 : Int32)).toNatClampNeg), vR 40, vI q1193.1] (σ, q1193.2, N) _ _
  refine r_callV J (As := [vI (xs (x4 + (1 : Int32)).toNatClampNeg), vI (xs (x4 + (2 : Int32)).toNatClampNeg)]) (st := [vI q1193.1]) (fun r hr => c_X12_give (xs (x4 + (1 : Int32)).toNatClampNeg) (xs (x4 + (2 : Int32)).toNatClampNeg) σ q1193.2 N (hL).2.1 r hr) cls12 (ly_40 (hL).2.1) wm_L_116 wy_X12_give wd_X12_give ⟨by decide, by decide, by omega, by omega, Nat.le_of_ble_eq_true rfl⟩ rfl rfl (fun q1209 hq1209 => ?_)
  show g_H E ce0 sl0 1212 [(0, vE 300), (1, vR 1), (2, vR 40), (3, vR 39), (4, vI x4)] [vI q1209.1, vI q1193.1] (σ, q1209.2.1, q1209.2.2) _ _
  refine r_icmp_eq J (tgt := 1908) rfl (by decide) (fun c1212 => ?_) (fun c1212 => ?_)
  · refine r_widen (ce' := (ce0 + 9)) (sl' := (sl0 + 11264)) (by omega) (by omega) ?_
    exact p_L_law_1908 J0 hXs hl hce hsl H23 x4 σ q1209.2.1 q1209.2.2 hL
  · refine r_run J 1 (pc' := 1216) (lv' := [(0, vE 300), (1, vR 1), (2, vR 40), (3, vR 39), (4, vI x4)]) (st' := [vI 0]) rfl ?_
    exact r_iret J rfl rfl rfl rfl (by omega) (by omega)
def tb_L_law_1143 : gT := [(1143, .aload_n 1, 1, 0), (1144, .aload_n 0, 1, 0), (1145, .iload 4, 2, 0), (1147, .iconst 1, 1, 1), (1148, .iadd, 1, 0), (1149, .iaload, 1, 0), (1150, .aload_n 0, 1, 0), (1151, .iload 4, 2, 0), (1153, .iconst 2, 1, 2), (1154, .iadd, 1, 0), (1155, .iaload, 1, 0), (1156, .invokevirtual 109, 3, 0), (1159, .aload_n 2, 1, 0), (1160, .aload_n 0, 1, 0), (1161, .iload 4, 2, 0), (1163, .iconst 1, 1, 1), (1164, .iadd, 1, 0), (1165, .iaload, 1, 0), (1166, .aload_n 0, 1, 0), (1167, .iload 4, 2, 0), (1169, .iconst 2, 1, 2), (1170, .iadd, 1, 0), (1171, .iaload, 1, 0), (1172, .invokevirtual 112, 3, 0), (1175, .if_icmp .eq 733, 3, 0), (1178, .iconst 0, 1, 0), (1179, .ireturn, 1, 0)]
set_option maxRecDepth 100000 in
theorem tk_L_law_1143 : g_okT code tb_L_law_1143 = true := by decide +kernel
set_option maxHeartbeats 4000000 in
set_option maxRecDepth 100000 in
theorem p_L_law_1143 {l : Launch} {E : gE} {L : Nat} {xs : Nat → Int32} (J0 : J_L_law E l) (hXs : g_Xs E L xs) (hl : l.stackTraces = false) {ce0 sl0 : Nat} (hce : ce0 + 9 ≤ 601024) (hsl : sl0 + 11264 ≤ 7293034) {k23 : Int32 → Nat → (Nat → Int32) → gS → gM → gN → Option (Int32 × gS × gM × gN)} (H23 : ∀ (x4 : Int32) (σ : gS) (M : gM) (N : gN) (_ : g_layL σ), g_H E (ce0 + 9) (sl0 + 11264) 23 [(0, vE 300), (1, vR 1), (2, vR 40), (3, vR 39), (4, vI x4)] [] (σ, M, N) (k23 x4 L xs σ M N) eISMN) (x4 : Int32) (σ : gS) (M : gM) (N : gN) (hL : g_layL σ) : g_H E ce0 sl0 1143 [(0, vE 300), (1, vR 1), (2, vR 40), (3, vR 39), (4, vI x4)] [] (σ, M, N) (b_L_law_1143 k23 x4 L xs σ M N) eISMN := by
  have J := g_J.tab J0 tk_L_law_1143
  unfold b_L_law_1143
  refine r_run J 5 (pc' := 1149) (lv' := [(0, vE 300), (1, vR 1), (2, vR 40), (3, vR 39), (4, vI x4)]) (st' := [vI (x4 + (1 : Int32)), vE 300, vR 1]) rfl ?_
  refine r_xld J hXs rfl (fun i1149 => ?_)
  show g_H E ce0 sl0 1150 [(0, vE 300), (1, vR 1), (2, vR 40), (3, vR 39), (4, vI x4)] [vI (xs (x4 + (1 : Int32)).toNatClampNeg), vR 1] (σ, M, N) _ _
  refine r_run J 4 (pc' := 1155) (lv' := [(0, vE 300), (1, vR 1), (2, vR 40), (3, vR 39), (4, vI x4)]) (st' := [vI (x4 + (2 : Int32)), vE 300, vI (xs (x4 + (1 : Int32)).toNatClampNeg), vR 1]) rfl ?_
  refine r_xld J hXs rfl (fun i1155 => ?_)
  show g_H E ce0 sl0 1156 [(0, vE 300), (1, vR 1), (2, vR 40), (3, vR 39), (4, vI x4)] [vI (xs (x4 + (2 : Int32)).toNatClampNeg), vI (xs (x4 + (1 : Int32)).toNatClampNeg), vR 1] (σ, M, N) _ _
  refine r_callV J (As := [vI (xs (x4 + (1 : Int32)).toNatClampNeg), vI (xs (x4 + (2 : Int32)).toNatClampNeg)]) (st := []) (fun r hr => c_X11_worth (xs (x4 + (1 : Int32)).toNatClampNeg) (xs (x4 + (2 : Int32)).toNatClampNeg) σ M N (hL).1 r hr) cls11 (ly_1 (hL).1) wm_L_109 wy_X11_worth wd_X11_worth ⟨by decide, by decide, by omega, by omega, Nat.le_of_ble_eq_true rfl⟩ rfl rfl (fun q1156 hq1156 => ?_)
  show g_H E ce0 sl0 1159 [(0, vE 300), (1, vR 1), (2, vR 40), (3, vR 39), (4, vI x4)] [vI q1156.1] (σ, q1156.2, N) _ _
  refine r_run J 5 (pc' := 1165) (lv' := [(0, vE 300), (1, vR 1), (2, vR 40), (3, vR 39), (4, vI x4)]) (st' := [vI (x4 + (1 : Int32)), vE 300, vR 40, vI q1156.1]) rfl ?_
  refine r_xld J hXs rfl (fun i1165 => ?_)
  show g_H E ce0 sl0 1166 [(0, vE 300), (1, vR 1), (2, vR 40), (3, vR 39), (4, vI x4)] [vI (xs (x4 + (1 : Int32)).toNatClampNeg), vR 40, vI q1156.1] (σ, q1156.2, N) _ _
  refine r_run J 4 (pc' := 1171) (lv' := [(0, vE 300), (1, vR 1), (2, vR 40), (3, vR 39), (4, vI x4)]) (st' := [vI (x4 + (2 : Int32)), vE 300, vI (xs (x4 + (1 : Int32)).toNatClampNeg), vR 40, vI q1156.1]) rfl ?_
  refine r_xld J hXs rfl (fun i1171 => ?_)
  show g_H E ce0 sl0 1172 [(0, vE 300), (1, vR 1), (2, vR 40), (3, vR 39), (4, vI x4)] [vI (xs (x4 + (2 : Int32)).toNatClampNeg), vI (xs (x4 + (1 : Int32)).toNatClampNeg), vR 40, vI q1156.1] (σ, q1156.2, N) _ _
  refine r_callV J (As := [vI (xs (x4 + (1 : Int32)).toNatClampNeg), vI (xs (x4 + (2 : Int32)).toNatClampNeg)]) (st := [vI q1156.1]) (fun r hr => c_X12_worth (xs (x4 + (1 : Int32)).toNatClampNeg) (xs (x4 + (2 : Int32)).toNatClampNeg) σ q1156.2 N (hL).2.1 r hr) cls12 (ly_40 (hL).2.1) wm_L_112 wy_X12_worth wd_X12_worth ⟨by decide, by decide, by omega, by omega, Nat.le_of_ble_eq_true rfl⟩ rfl rfl (fun q1172 hq1172 => ?_)
  show g_H E ce0 sl0 1175 [(0, vE 300), (1, vR 1), (2, vR 40), (3, vR 39), (4, vI x4)] [vI q1172.1, vI q1156.1] (σ, q1172.2.1, q1172.2.2) _ _
  refine r_icmp_eq J (tgt := 1908) rfl (by decide) (fun c1175 => ?_) (fun c1175 => ?_)
  · refine r_widen (ce' := (ce0 + 9)) (sl' := (sl0 + 11264)) (by omega) (by omega) ?_
    exact p_L_law_1908 J0 hXs hl hce hsl H23 x4 σ q1172.2.1 q1172.2.2 hL
  · refine r_run J 1 (pc' := 1179) (lv' := [(0, vE 300), (1, vR 1), (2, vR 40), (3, vR 39), (4, vI x4)]) (st' := [vI 0]) rfl ?_
    exact r_iret J rfl rfl rfl rfl (by omega) (by omega)
def tb_L_law_1118 : gT := [(1118, .aload_n 1, 1, 0), (1119, .aload_n 0, 1, 0), (1120, .iload 4, 2, 0), (1122, .iconst 1, 1, 1), (1123, .iadd, 1, 0), (1124, .iaload, 1, 0), (1125, .invokevirtual 105, 3, 0), (1128, .aload_n 2, 1, 0), (1129, .aload_n 0, 1, 0), (1130, .iload 4, 2, 0), (1132, .iconst 1, 1, 1), (1133, .iadd, 1, 0), (1134, .iaload, 1, 0), (1135, .invokevirtual 108, 3, 0), (1138, .if_icmp .eq 770, 3, 0), (1141, .iconst 0, 1, 0), (1142, .ireturn, 1, 0)]
set_option maxRecDepth 100000 in
theorem tk_L_law_1118 : g_okT code tb_L_law_1118 = true := by decide +kernel
set_option maxHeartbeats 4000000 in
set_option maxRecDepth 100000 in
theorem p_L_law_1118 {l : Launch} {E : gE} {L : Nat} {xs : Nat → Int32} (J0 : J_L_law E l) (hXs : g_Xs E L xs) (hl : l.stackTraces = false) {ce0 sl0 : Nat} (hce : ce0 + 9 ≤ 601024) (hsl : sl0 + 11264 ≤ 7293034) {k23 : Int32 → Nat → (Nat → Int32) → gS → gM → gN → Option (Int32 × gS × gM × gN)} (H23 : ∀ (x4 : Int32) (σ : gS) (M : gM) (N : gN) (_ : g_layL σ), g_H E (ce0 + 9) (sl0 + 11264) 23 [(0, vE 300), (1, vR 1), (2, vR 40), (3, vR 39), (4, vI x4)] [] (σ, M, N) (k23 x4 L xs σ M N) eISMN) (x4 : Int32) (σ : gS) (M : gM) (N : gN) (hL : g_layL σ) : g_H E ce0 sl0 1118 [(0, vE 300), (1, vR 1), (2, vR 40), (3, vR 39), (4, vI x4)] [] (σ, M, N) (b_L_law_1118 k23 x4 L xs σ M N) eISMN := by
  have J := g_J.tab J0 tk_L_law_1118
  unfold b_L_law_1118
  refine r_run J 5 (pc' := 1124) (lv' := [(0, vE 300), (1, vR 1), (2, vR 40), (3, vR 39), (4, vI x4)]) (st' := [vI (x4 + (1 : Int32)), vE 300, vR 1]) rfl ?_
  refine r_xld J hXs rfl (fun i1124 => ?_)
  show g_H E ce0 sl0 1125 [(0, vE 300), (1, vR 1), (2, vR 40), (3, vR 39), (4, vI x4)] [vI (xs (x4 + (1 : Int32)).toNatClampNeg), vR 1] (σ, M, N) _ _
  refine r_callV J (As := [vI (xs (x4 + (1 : Int32)).toNatClampNeg)]) (st := []) (fun r hr => c_X11_read (xs (x4 + (1 : Int32)).toNatClampNeg) σ M N (hL).1 r hr) cls11 (ly_1 (hL).1) wm_L_105 wy_X11_read wd_X11_read ⟨by decide, by decide, by omega, by omega, Nat.le_of_ble_eq_true rfl⟩ rfl rfl (fun q1125 hq1125 => ?_)
  show g_H E (ce0 + 1) (sl0 + 400) 1128 [(0, vE 300), (1, vR 1), (2, vR 40), (3, vR 39), (4, vI x4)] [vI q1125.1] (q1125.2.1, q1125.2.2.1, q1125.2.2.2) _ _
  refine r_chk (fun hl1128 => ?_)
  refine r_run J 5 (pc' := 1134) (lv' := [(0, vE 300), (1, vR 1), (2, vR 40), (3, vR 39), (4, vI x4)]) (st' := [vI (x4 + (1 : Int32)), vE 300, vR 40, vI q1125.1]) rfl ?_
  refine r_xld J hXs rfl (fun i1134 => ?_)
  show g_H E (ce0 + 1) (sl0 + 400) 1135 [(0, vE 300), (1, vR 1), (2, vR 40), (3, vR 39), (4, vI x4)] [vI (xs (x4 + (1 : Int32)).toNatClampNeg), vR 40, vI q1125.1] (q1125.2.1, q1125.2.2.1, q1125.2.2.2) _ _
  refine r_callV J (As := [vI (xs (x4 + (1 : Int32)).toNatClampNeg)]) (st := [vI q1125.1]) (fun r hr => c_X12_read (xs (x4 + (1 : Int32)).toNatClampNeg) q1125.2.1 q1125.2.2.1 q1125.2.2.2 ((g_layL.of hl1128)).2.1 r hr) cls12 (ly_40 ((g_layL.of hl1128)).2.1) wm_L_108 wy_X12_read wd_X12_read ⟨by decide, by decide, by omega, by omega, Nat.le_of_ble_eq_true rfl⟩ rfl rfl (fun q1135 hq1135 => ?_)
  show g_H E (ce0 + 1) (sl0 + 400) 1138 [(0, vE 300), (1, vR 1), (2, vR 40), (3, vR 39), (4, vI x4)] [vI q1135.1, vI q1125.1] (q1125.2.1, q1135.2.1, q1135.2.2) _ _
  refine r_icmp_eq J (tgt := 1908) rfl (by decide) (fun c1138 => ?_) (fun c1138 => ?_)
  · refine r_widen (ce' := (ce0 + 9)) (sl' := (sl0 + 11264)) (by omega) (by omega) ?_
    exact p_L_law_1908 J0 hXs hl hce hsl H23 x4 q1125.2.1 q1135.2.1 q1135.2.2 (g_layL.of hl1128)
  · refine r_run J 1 (pc' := 1142) (lv' := [(0, vE 300), (1, vR 1), (2, vR 40), (3, vR 39), (4, vI x4)]) (st' := [vI 0]) rfl ?_
    exact r_iret J rfl rfl rfl rfl (by omega) (by omega)
def tb_L_law_971 : gT := [(971, .aload_n 1, 1, 0), (972, .aload_n 0, 1, 0), (973, .iload 4, 2, 0), (975, .iconst 1, 1, 1), (976, .iadd, 1, 0), (977, .iaload, 1, 0), (978, .i2l, 1, 0), (979, .bipush 32, 2, 32), (981, .lshl, 1, 0), (982, .aload_n 0, 1, 0), (983, .iload 4, 2, 0), (985, .iconst 2, 1, 2), (986, .iadd, 1, 0), (987, .iaload, 1, 0), (988, .i2l, 1, 0), (989, .ldc2_w 98, 3, 0), (992, .land, 1, 0), (993, .lor, 1, 0), (994, .aload_n 0, 1, 0), (995, .iload 4, 2, 0), (997, .iconst 3, 1, 3), (998, .iadd, 1, 0), (999, .iaload, 1, 0), (1000, .i2l, 1, 0), (1001, .bipush 32, 2, 32), (1003, .lshl, 1, 0), (1004, .aload_n 0, 1, 0), (1005, .iload 4, 2, 0), (1007, .iconst 4, 1, 4), (1008, .iadd, 1, 0), (1009, .iaload, 1, 0), (1010, .i2l, 1, 0), (1011, .ldc2_w 98, 3, 0), (1014, .land, 1, 0), (1015, .lor, 1, 0), (1016, .aload_n 0, 1, 0), (1017, .iload 4, 2, 0), (1019, .iconst 5, 1, 5), (1020, .iadd, 1, 0), (1021, .iaload, 1, 0), (1022, .i2l, 1, 0), (1023, .bipush 32, 2, 32), (1025, .lshl, 1, 0), (1026, .aload_n 0, 1, 0), (1027, .iload 4, 2, 0), (1029, .bipush 6, 2, 6), (1031, .iadd, 1, 0), (1032, .iaload, 1, 0), (1033, .i2l, 1, 0), (1034, .ldc2_w 98, 3, 0), (1037, .land, 1, 0), (1038, .lor, 1, 0), (1039, .invokevirtual 100, 3, 0), (1042, .aload_n 2, 1, 0), (1043, .aload_n 0, 1, 0), (1044, .iload 4, 2, 0), (1046, .iconst 1, 1, 1), (1047, .iadd, 1, 0), (1048, .iaload, 1, 0), (1049, .i2l, 1, 0), (1050, .bipush 32, 2, 32), (1052, .lshl, 1, 0), (1053, .aload_n 0, 1, 0), (1054, .iload 4, 2, 0), (1056, .iconst 2, 1, 2), (1057, .iadd, 1, 0), (1058, .iaload, 1, 0), (1059, .i2l, 1, 0), (1060, .ldc2_w 98, 3, 0), (1063, .land, 1, 0), (1064, .lor, 1, 0), (1065, .aload_n 0, 1, 0), (1066, .iload 4, 2, 0), (1068, .iconst 3, 1, 3), (1069, .iadd, 1, 0), (1070, .iaload, 1, 0), (1071, .i2l, 1, 0), (1072, .bipush 32, 2, 32), (1074, .lshl, 1, 0), (1075, .aload_n 0, 1, 0), (1076, .iload 4, 2, 0), (1078, .iconst 4, 1, 4), (1079, .iadd, 1, 0), (1080, .iaload, 1, 0), (1081, .i2l, 1, 0), (1082, .ldc2_w 98, 3, 0), (1085, .land, 1, 0), (1086, .lor, 1, 0), (1087, .aload_n 0, 1, 0), (1088, .iload 4, 2, 0), (1090, .iconst 5, 1, 5), (1091, .iadd, 1, 0), (1092, .iaload, 1, 0), (1093, .i2l, 1, 0), (1094, .bipush 32, 2, 32), (1096, .lshl, 1, 0), (1097, .aload_n 0, 1, 0), (1098, .iload 4, 2, 0), (1100, .bipush 6, 2, 6), (1102, .iadd, 1, 0), (1103, .iaload, 1, 0), (1104, .i2l, 1, 0), (1105, .ldc2_w 98, 3, 0), (1108, .land, 1, 0), (1109, .lor, 1, 0), (1110, .invokevirtual 104, 3, 0), (1113, .if_icmp .eq 795, 3, 0), (1116, .iconst 0, 1, 0), (1117, .ireturn, 1, 0)]
set_option maxRecDepth 100000 in
theorem tk_L_law_971 : g_okT code tb_L_law_971 = true := by decide +kernel
set_option maxHeartbeats 4000000 in
set_option maxRecDepth 100000 in
theorem p_L_law_971 {l : Launch} {E : gE} {L : Nat} {xs : Nat → Int32} (J0 : J_L_law E l) (hXs : g_Xs E L xs) (hl : l.stackTraces = false) {ce0 sl0 : Nat} (hce : ce0 + 9 ≤ 601024) (hsl : sl0 + 11264 ≤ 7293034) {k23 : Int32 → Nat → (Nat → Int32) → gS → gM → gN → Option (Int32 × gS × gM × gN)} (H23 : ∀ (x4 : Int32) (σ : gS) (M : gM) (N : gN) (_ : g_layL σ), g_H E (ce0 + 9) (sl0 + 11264) 23 [(0, vE 300), (1, vR 1), (2, vR 40), (3, vR 39), (4, vI x4)] [] (σ, M, N) (k23 x4 L xs σ M N) eISMN) (x4 : Int32) (σ : gS) (M : gM) (N : gN) (hL : g_layL σ) : g_H E ce0 sl0 971 [(0, vE 300), (1, vR 1), (2, vR 40), (3, vR 39), (4, vI x4)] [] (σ, M, N) (b_L_law_971 k23 x4 L xs σ M N) eISMN := by
  have J := g_J.tab J0 tk_L_law_971
  unfold b_L_law_971
  refine r_run J 5 (pc' := 977) (lv' := [(0, vE 300), (1, vR 1), (2, vR 40), (3, vR 39), (4, vI x4)]) (st' := [vI (x4 + (1 : Int32)), vE 300, vR 1]) rfl ?_
  refine r_xld J hXs rfl (fun i977 => ?_)
  show g_H E ce0 sl0 978 [(0, vE 300), (1, vR 1), (2, vR 40), (3, vR 39), (4, vI x4)] [vI (xs (x4 + (1 : Int32)).toNatClampNeg), vR 1] (σ, M, N) _ _
  refine r_run J 7 (pc' := 987) (lv' := [(0, vE 300), (1, vR 1), (2, vR 40), (3, vR 39), (4, vI x4)]) (st' := [vI (x4 + (2 : Int32)), vE 300, vL (((xs (x4 + (1 : Int32)).toNatClampNeg).toInt64) <<< ((32 : Int32).toInt64 &&& 63)), vR 1]) rfl ?_
  refine r_xld J hXs rfl (fun i987 => ?_)
  show g_H E ce0 sl0 988 [(0, vE 300), (1, vR 1), (2, vR 40), (3, vR 39), (4, vI x4)] [vI (xs (x4 + (2 : Int32)).toNatClampNeg), vL (((xs (x4 + (1 : Int32)).toNatClampNeg).toInt64) <<< ((32 : Int32).toInt64 &&& 63)), vR 1] (σ, M, N) _ _
  refine r_run J 1 (pc' := 989) (lv' := [(0, vE 300), (1, vR 1), (2, vR 40), (3, vR 39), (4, vI x4)]) (st' := [vL (xs (x4 + (2 : Int32)).toNatClampNeg).toInt64, vL (((xs (x4 + (1 : Int32)).toNatClampNeg).toInt64) <<< ((32 : Int32).toInt64 &&& 63)), vR 1]) rfl ?_
  refine r_ldc2 J rfl wc_L_98 ?_
  refine r_run J 6 (pc' := 999) (lv' := [(0, vE 300), (1, vR 1), (2, vR 40), (3, vR 39), (4, vI x4)]) (st' := [vI (x4 + (3 : Int32)), vE 300, vL ((((xs (x4 + (1 : Int32)).toNatClampNeg).toInt64) <<< ((32 : Int32).toInt64 &&& 63)) ||| (((xs (x4 + (2 : Int32)).toNatClampNeg).toInt64) &&& 4294967295)), vR 1]) rfl ?_
  refine r_xld J hXs rfl (fun i999 => ?_)
  show g_H E ce0 sl0 1000 [(0, vE 300), (1, vR 1), (2, vR 40), (3, vR 39), (4, vI x4)] [vI (xs (x4 + (3 : Int32)).toNatClampNeg), vL ((((xs (x4 + (1 : Int32)).toNatClampNeg).toInt64) <<< ((32 : Int32).toInt64 &&& 63)) ||| (((xs (x4 + (2 : Int32)).toNatClampNeg).toInt64) &&& 4294967295)), vR 1] (σ, M, N) _ _
  refine r_run J 7 (pc' := 1009) (lv' := [(0, vE 300), (1, vR 1), (2, vR 40), (3, vR 39), (4, vI x4)]) (st' := [vI (x4 + (4 : Int32)), vE 300, vL (((xs (x4 + (3 : Int32)).toNatClampNeg).toInt64) <<< ((32 : Int32).toInt64 &&& 63)), vL ((((xs (x4 + (1 : Int32)).toNatClampNeg).toInt64) <<< ((32 : Int32).toInt64 &&& 63)) ||| (((xs (x4 + (2 : Int32)).toNatClampNeg).toInt64) &&& 4294967295)), vR 1]) rfl ?_
  refine r_xld J hXs rfl (fun i1009 => ?_)
  show g_H E ce0 sl0 1010 [(0, vE 300), (1, vR 1), (2, vR 40), (3, vR 39), (4, vI x4)] [vI (xs (x4 + (4 : Int32)).toNatClampNeg), vL (((xs (x4 + (3 : Int32)).toNatClampNeg).toInt64) <<< ((32 : Int32).toInt64 &&& 63)), vL ((((xs (x4 + (1 : Int32)).toNatClampNeg).toInt64) <<< ((32 : Int32).toInt64 &&& 63)) ||| (((xs (x4 + (2 : Int32)).toNatClampNeg).toInt64) &&& 4294967295)), vR 1] (σ, M, N) _ _
  refine r_run J 1 (pc' := 1011) (lv' := [(0, vE 300), (1, vR 1), (2, vR 40), (3, vR 39), (4, vI x4)]) (st' := [vL (xs (x4 + (4 : Int32)).toNatClampNeg).toInt64, vL (((xs (x4 + (3 : Int32)).toNatClampNeg).toInt64) <<< ((32 : Int32).toInt64 &&& 63)), vL ((((xs (x4 + (1 : Int32)).toNatClampNeg).toInt64) <<< ((32 : Int32).toInt64 &&& 63)) ||| (((xs (x4 + (2 : Int32)).toNatClampNeg).toInt64) &&& 4294967295)), vR 1]) rfl ?_
  refine r_ldc2 J rfl wc_L_98 ?_
  refine r_run J 6 (pc' := 1021) (lv' := [(0, vE 300), (1, vR 1), (2, vR 40), (3, vR 39), (4, vI x4)]) (st' := [vI (x4 + (5 : Int32)), vE 300, vL ((((xs (x4 + (3 : Int32)).toNatClampNeg).toInt64) <<< ((32 : Int32).toInt64 &&& 63)) ||| (((xs (x4 + (4 : Int32)).toNatClampNeg).toInt64) &&& 4294967295)), vL ((((xs (x4 + (1 : Int32)).toNatClampNeg).toInt64) <<< ((32 : Int32).toInt64 &&& 63)) ||| (((xs (x4 + (2 : Int32)).toNatClampNeg).toInt64) &&& 4294967295)), vR 1]) rfl ?_
  refine r_xld J hXs rfl (fun i1021 => ?_)
  show g_H E ce0 sl0 1022 [(0, vE 300), (1, vR 1), (2, vR 40), (3, vR 39), (4, vI x4)] [vI (xs (x4 + (5 : Int32)).toNatClampNeg), vL ((((xs (x4 + (3 : Int32)).toNatClampNeg).toInt64) <<< ((32 : Int32).toInt64 &&& 63)) ||| (((xs (x4 + (4 : Int32)).toNatClampNeg).toInt64) &&& 4294967295)), vL ((((xs (x4 + (1 : Int32)).toNatClampNeg).toInt64) <<< ((32 : Int32).toInt64 &&& 63)) ||| (((xs (x4 + (2 : Int32)).toNatClampNeg).toInt64) &&& 4294967295)), vR 1] (σ, M, N) _ _
  refine r_run J 7 (pc' := 1032) (lv' := [(0, vE 300), (1, vR 1), (2, vR 40), (3, vR 39), (4, vI x4)]) (st' := [vI (x4 + (6 : Int32)), vE 300, vL (((xs (x4 + (5 : Int32)).toNatClampNeg).toInt64) <<< ((32 : Int32).toInt64 &&& 63)), vL ((((xs (x4 + (3 : Int32)).toNatClampNeg).toInt64) <<< ((32 : Int32).toInt64 &&& 63)) ||| (((xs (x4 + (4 : Int32)).toNatClampNeg).toInt64) &&& 4294967295)), vL ((((xs (x4 + (1 : Int32)).toNatClampNeg).toInt64) <<< ((32 : Int32).toInt64 &&& 63)) ||| (((xs (x4 + (2 : Int32)).toNatClampNeg).toInt64) &&& 4294967295)), vR 1]) rfl ?_
  refine r_xld J hXs rfl (fun i1032 => ?_)
  show g_H E ce0 sl0 1033 [(0, vE 300), (1, vR 1), (2, vR 40), (3, vR 39), (4, vI x4)] [vI (xs (x4 + (6 : Int32)).toNatClampNeg), vL (((xs (x4 + (5 : Int32)).toNatClampNeg).toInt64) <<< ((32 : Int32).toInt64 &&& 63)), vL ((((xs (x4 + (3 : Int32)).toNatClampNeg).toInt64) <<< ((32 : Int32).toInt64 &&& 63)) ||| (((xs (x4 + (4 : Int32)).toNatClampNeg).toInt64) &&& 4294967295)), vL ((((xs (x4 + (1 : Int32)).toNatClampNeg).toInt64) <<< ((32 : Int32).toInt64 &&& 63)) ||| (((xs (x4 + (2 : Int32)).toNatClampNeg).toInt64) &&& 4294967295)), vR 1] (σ, M, N) _ _
  refine r_run J 1 (pc' := 1034) (lv' := [(0, vE 300), (1, vR 1), (2, vR 40), (3, vR 39), (4, vI x4)]) (st' := [vL (xs (x4 + (6 : Int32)).toNatClampNeg).toInt64, vL (((xs (x4 + (5 : Int32)).toNatClampNeg).toInt64) <<< ((32 : Int32).toInt64 &&& 63)), vL ((((xs (x4 + (3 : Int32)).toNatClampNeg).toInt64) <<< ((32 : Int32).toInt64 &&& 63)) ||| (((xs (x4 + (4 : Int32)).toNatClampNeg).toInt64) &&& 4294967295)), vL ((((xs (x4 + (1 : Int32)).toNatClampNeg).toInt64) <<< ((32 : Int32).toInt64 &&& 63)) ||| (((xs (x4 + (2 : Int32)).toNatClampNeg).toInt64) &&& 4294967295)), vR 1]) rfl ?_
  refine r_ldc2 J rfl wc_L_98 ?_
  refine r_run J 2 (pc' := 1039) (lv' := [(0, vE 300), (1, vR 1), (2, vR 40), (3, vR 39), (4, vI x4)]) (st' := [vL ((((xs (x4 + (5 : Int32)).toNatClampNeg).toInt64) <<< ((32 : Int32).toInt64 &&& 63)) ||| (((xs (x4 + (6 : Int32)).toNatClampNeg).toInt64) &&& 4294967295)), vL ((((xs (x4 + (3 : Int32)).toNatClampNeg).toInt64) <<< ((32 : Int32).toInt64 &&& 63)) ||| (((xs (x4 + (4 : Int32)).toNatClampNeg).toInt64) &&& 4294967295)), vL ((((xs (x4 + (1 : Int32)).toNatClampNeg).toInt64) <<< ((32 : Int32).toInt64 &&& 63)) ||| (((xs (x4 + (2 : Int32)).toNatClampNeg).toInt64) &&& 4294967295)), vR 1]) rfl ?_
  refine r_callV J (As := [vL ((((xs (x4 + (1 : Int32)).toNatClampNeg).toInt64) <<< ((32 : Int32).toInt64 &&& 63)) ||| (((xs (x4 + (2 : Int32)).toNatClampNeg).toInt64) &&& 4294967295)), vL ((((xs (x4 + (3 : Int32)).toNatClampNeg).toInt64) <<< ((32 : Int32).toInt64 &&& 63)) ||| (((xs (x4 + (4 : Int32)).toNatClampNeg).toInt64) &&& 4294967295)), vL ((((xs (x4 + (5 : Int32)).toNatClampNeg).toInt64) <<< ((32 : Int32).toInt64 &&& 63)) ||| (((xs (x4 + (6 : Int32)).toNatClampNeg).toInt64) &&& 4294967295))]) (st := []) (fun r hr => c_X11_feed ((((xs (x4 + (1 : Int32)).toNatClampNeg).toInt64) <<< ((32 : Int32).toInt64 &&& 63)) ||| (((xs (x4 + (2 : Int32)).toNatClampNeg).toInt64) &&& 4294967295)) ((((xs (x4 + (3 : Int32)).toNatClampNeg).toInt64) <<< ((32 : Int32).toInt64 &&& 63)) ||| (((xs (x4 + (4 : Int32)).toNatClampNeg).toInt64) &&& 4294967295)) ((((xs (x4 + (5 : Int32)).toNatClampNeg).toInt64) <<< ((32 : Int32).toInt64 &&& 63)) ||| (((xs (x4 + (6 : Int32)).toNatClampNeg).toInt64) &&& 4294967295)) σ M N (hL).1 r hr) cls11 (ly_1 (hL).1) wm_L_100 wy_X11_feed wd_X11_feed ⟨by decide, by decide, by omega, by omega, Nat.le_of_ble_eq_true rfl⟩ rfl rfl (fun q1039 hq1039 => ?_)
  show g_H E ce0 sl0 1042 [(0, vE 300), (1, vR 1), (2, vR 40), (3, vR 39), (4, vI x4)] [vI q1039.1] (σ, q1039.2, N) _ _
  refine r_run J 5 (pc' := 1048) (lv' := [(0, vE 300), (1, vR 1), (2, vR 40), (3, vR 39), (4, vI x4)]) (st' := [vI (x4 + (1 : Int32)), vE 300, vR 40, vI q1039.1]) rfl ?_
  refine r_xld J hXs rfl (fun i1048 => ?_)
  show g_H E ce0 sl0 1049 [(0, vE 300), (1, vR 1), (2, vR 40), (3, vR 39), (4, vI x4)] [vI (xs (x4 + (1 : Int32)).toNatClampNeg), vR 40, vI q1039.1] (σ, q1039.2, N) _ _
  refine r_run J 7 (pc' := 1058) (lv' := [(0, vE 300), (1, vR 1), (2, vR 40), (3, vR 39), (4, vI x4)]) (st' := [vI (x4 + (2 : Int32)), vE 300, vL (((xs (x4 + (1 : Int32)).toNatClampNeg).toInt64) <<< ((32 : Int32).toInt64 &&& 63)), vR 40, vI q1039.1]) rfl ?_
  refine r_xld J hXs rfl (fun i1058 => ?_)
  show g_H E ce0 sl0 1059 [(0, vE 300), (1, vR 1), (2, vR 40), (3, vR 39), (4, vI x4)] [vI (xs (x4 + (2 : Int32)).toNatClampNeg), vL (((xs (x4 + (1 : Int32)).toNatClampNeg).toInt64) <<< ((32 : Int32).toInt64 &&& 63)), vR 40, vI q1039.1] (σ, q1039.2, N) _ _
  refine r_run J 1 (pc' := 1060) (lv' := [(0, vE 300), (1, vR 1), (2, vR 40), (3, vR 39), (4, vI x4)]) (st' := [vL (xs (x4 + (2 : Int32)).toNatClampNeg).toInt64, vL (((xs (x4 + (1 : Int32)).toNatClampNeg).toInt64) <<< ((32 : Int32).toInt64 &&& 63)), vR 40, vI q1039.1]) rfl ?_
  refine r_ldc2 J rfl wc_L_98 ?_
  refine r_run J 6 (pc' := 1070) (lv' := [(0, vE 300), (1, vR 1), (2, vR 40), (3, vR 39), (4, vI x4)]) (st' := [vI (x4 + (3 : Int32)), vE 300, vL ((((xs (x4 + (1 : Int32)).toNatClampNeg).toInt64) <<< ((32 : Int32).toInt64 &&& 63)) ||| (((xs (x4 + (2 : Int32)).toNatClampNeg).toInt64) &&& 4294967295)), vR 40, vI q1039.1]) rfl ?_
  refine r_xld J hXs rfl (fun i1070 => ?_)
  show g_H E ce0 sl0 1071 [(0, vE 300), (1, vR 1), (2, vR 40), (3, vR 39), (4, vI x4)] [vI (xs (x4 + (3 : Int32)).toNatClampNeg), vL ((((xs (x4 + (1 : Int32)).toNatClampNeg).toInt64) <<< ((32 : Int32).toInt64 &&& 63)) ||| (((xs (x4 + (2 : Int32)).toNatClampNeg).toInt64) &&& 4294967295)), vR 40, vI q1039.1] (σ, q1039.2, N) _ _
  refine r_run J 7 (pc' := 1080) (lv' := [(0, vE 300), (1, vR 1), (2, vR 40), (3, vR 39), (4, vI x4)]) (st' := [vI (x4 + (4 : Int32)), vE 300, vL (((xs (x4 + (3 : Int32)).toNatClampNeg).toInt64) <<< ((32 : Int32).toInt64 &&& 63)), vL ((((xs (x4 + (1 : Int32)).toNatClampNeg).toInt64) <<< ((32 : Int32).toInt64 &&& 63)) ||| (((xs (x4 + (2 : Int32)).toNatClampNeg).toInt64) &&& 4294967295)), vR 40, vI q1039.1]) rfl ?_
  refine r_xld J hXs rfl (fun i1080 => ?_)
  show g_H E ce0 sl0 1081 [(0, vE 300), (1, vR 1), (2, vR 40), (3, vR 39), (4, vI x4)] [vI (xs (x4 + (4 : Int32)).toNatClampNeg), vL (((xs (x4 + (3 : Int32)).toNatClampNeg).toInt64) <<< ((32 : Int32).toInt64 &&& 63)), vL ((((xs (x4 + (1 : Int32)).toNatClampNeg).toInt64) <<< ((32 : Int32).toInt64 &&& 63)) ||| (((xs (x4 + (2 : Int32)).toNatClampNeg).toInt64) &&& 4294967295)), vR 40, vI q1039.1] (σ, q1039.2, N) _ _
  refine r_run J 1 (pc' := 1082) (lv' := [(0, vE 300), (1, vR 1), (2, vR 40), (3, vR 39), (4, vI x4)]) (st' := [vL (xs (x4 + (4 : Int32)).toNatClampNeg).toInt64, vL (((xs (x4 + (3 : Int32)).toNatClampNeg).toInt64) <<< ((32 : Int32).toInt64 &&& 63)), vL ((((xs (x4 + (1 : Int32)).toNatClampNeg).toInt64) <<< ((32 : Int32).toInt64 &&& 63)) ||| (((xs (x4 + (2 : Int32)).toNatClampNeg).toInt64) &&& 4294967295)), vR 40, vI q1039.1]) rfl ?_
  refine r_ldc2 J rfl wc_L_98 ?_
  refine r_run J 6 (pc' := 1092) (lv' := [(0, vE 300), (1, vR 1), (2, vR 40), (3, vR 39), (4, vI x4)]) (st' := [vI (x4 + (5 : Int32)), vE 300, vL ((((xs (x4 + (3 : Int32)).toNatClampNeg).toInt64) <<< ((32 : Int32).toInt64 &&& 63)) ||| (((xs (x4 + (4 : Int32)).toNatClampNeg).toInt64) &&& 4294967295)), vL ((((xs (x4 + (1 : Int32)).toNatClampNeg).toInt64) <<< ((32 : Int32).toInt64 &&& 63)) ||| (((xs (x4 + (2 : Int32)).toNatClampNeg).toInt64) &&& 4294967295)), vR 40, vI q1039.1]) rfl ?_
  refine r_xld J hXs rfl (fun i1092 => ?_)
  show g_H E ce0 sl0 1093 [(0, vE 300), (1, vR 1), (2, vR 40), (3, vR 39), (4, vI x4)] [vI (xs (x4 + (5 : Int32)).toNatClampNeg), vL ((((xs (x4 + (3 : Int32)).toNatClampNeg).toInt64) <<< ((32 : Int32).toInt64 &&& 63)) ||| (((xs (x4 + (4 : Int32)).toNatClampNeg).toInt64) &&& 4294967295)), vL ((((xs (x4 + (1 : Int32)).toNatClampNeg).toInt64) <<< ((32 : Int32).toInt64 &&& 63)) ||| (((xs (x4 + (2 : Int32)).toNatClampNeg).toInt64) &&& 4294967295)), vR 40, vI q1039.1] (σ, q1039.2, N) _ _
  refine r_run J 7 (pc' := 1103) (lv' := [(0, vE 300), (1, vR 1), (2, vR 40), (3, vR 39), (4, vI x4)]) (st' := [vI (x4 + (6 : Int32)), vE 300, vL (((xs (x4 + (5 : Int32)).toNatClampNeg).toInt64) <<< ((32 : Int32).toInt64 &&& 63)), vL ((((xs (x4 + (3 : Int32)).toNatClampNeg).toInt64) <<< ((32 : Int32).toInt64 &&& 63)) ||| (((xs (x4 + (4 : Int32)).toNatClampNeg).toInt64) &&& 4294967295)), vL ((((xs (x4 + (1 : Int32)).toNatClampNeg).toInt64) <<< ((32 : Int32).toInt64 &&& 63)) ||| (((xs (x4 + (2 : Int32)).toNatClampNeg).toInt64) &&& 4294967295)), vR 40, vI q1039.1]) rfl ?_
  refine r_xld J hXs rfl (fun i1103 => ?_)
  show g_H E ce0 sl0 1104 [(0, vE 300), (1, vR 1), (2, vR 40), (3, vR 39), (4, vI x4)] [vI (xs (x4 + (6 : Int32)).toNatClampNeg), vL (((xs (x4 + (5 : Int32)).toNatClampNeg).toInt64) <<< ((32 : Int32).toInt64 &&& 63)), vL ((((xs (x4 + (3 : Int32)).toNatClampNeg).toInt64) <<< ((32 : Int32).toInt64 &&& 63)) ||| (((xs (x4 + (4 : Int32)).toNatClampNeg).toInt64) &&& 4294967295)), vL ((((xs (x4 + (1 : Int32)).toNatClampNeg).toInt64) <<< ((32 : Int32).toInt64 &&& 63)) ||| (((xs (x4 + (2 : Int32)).toNatClampNeg).toInt64) &&& 4294967295)), vR 40, vI q1039.1] (σ, q1039.2, N) _ _
  refine r_run J 1 (pc' := 1105) (lv' := [(0, vE 300), (1, vR 1), (2, vR 40), (3, vR 39), (4, vI x4)]) (st' := [vL (xs (x4 + (6 : Int32)).toNatClampNeg).toInt64, vL (((xs (x4 + (5 : Int32)).toNatClampNeg).toInt64) <<< ((32 : Int32).toInt64 &&& 63)), vL ((((xs (x4 + (3 : Int32)).toNatClampNeg).toInt64) <<< ((32 : Int32).toInt64 &&& 63)) ||| (((xs (x4 + (4 : Int32)).toNatClampNeg).toInt64) &&& 4294967295)), vL ((((xs (x4 + (1 : Int32)).toNatClampNeg).toInt64) <<< ((32 : Int32).toInt64 &&& 63)) ||| (((xs (x4 + (2 : Int32)).toNatClampNeg).toInt64) &&& 4294967295)), vR 40, vI q1039.1]) rfl ?_
  refine r_ldc2 J rfl wc_L_98 ?_
  refine r_run J 2 (pc' := 1110) (lv' := [(0, vE 300), (1, vR 1), (2, vR 40), (3, vR 39), (4, vI x4)]) (st' := [vL ((((xs (x4 + (5 : Int32)).toNatClampNeg).toInt64) <<< ((32 : Int32).toInt64 &&& 63)) ||| (((xs (x4 + (6 : Int32)).toNatClampNeg).toInt64) &&& 4294967295)), vL ((((xs (x4 + (3 : Int32)).toNatClampNeg).toInt64) <<< ((32 : Int32).toInt64 &&& 63)) ||| (((xs (x4 + (4 : Int32)).toNatClampNeg).toInt64) &&& 4294967295)), vL ((((xs (x4 + (1 : Int32)).toNatClampNeg).toInt64) <<< ((32 : Int32).toInt64 &&& 63)) ||| (((xs (x4 + (2 : Int32)).toNatClampNeg).toInt64) &&& 4294967295)), vR 40, vI q1039.1]) rfl ?_
  refine r_callV J (As := [vL ((((xs (x4 + (1 : Int32)).toNatClampNeg).toInt64) <<< ((32 : Int32).toInt64 &&& 63)) ||| (((xs (x4 + (2 : Int32)).toNatClampNeg).toInt64) &&& 4294967295)), vL ((((xs (x4 + (3 : Int32)).toNatClampNeg).toInt64) <<< ((32 : Int32).toInt64 &&& 63)) ||| (((xs (x4 + (4 : Int32)).toNatClampNeg).toInt64) &&& 4294967295)), vL ((((xs (x4 + (5 : Int32)).toNatClampNeg).toInt64) <<< ((32 : Int32).toInt64 &&& 63)) ||| (((xs (x4 + (6 : Int32)).toNatClampNeg).toInt64) &&& 4294967295))]) (st := [vI q1039.1]) (fun r hr => c_X12_feed ((((xs (x4 + (1 : Int32)).toNatClampNeg).toInt64) <<< ((32 : Int32).toInt64 &&& 63)) ||| (((xs (x4 + (2 : Int32)).toNatClampNeg).toInt64) &&& 4294967295)) ((((xs (x4 + (3 : Int32)).toNatClampNeg).toInt64) <<< ((32 : Int32).toInt64 &&& 63)) ||| (((xs (x4 + (4 : Int32)).toNatClampNeg).toInt64) &&& 4294967295)) ((((xs (x4 + (5 : Int32)).toNatClampNeg).toInt64) <<< ((32 : Int32).toInt64 &&& 63)) ||| (((xs (x4 + (6 : Int32)).toNatClampNeg).toInt64) &&& 4294967295)) σ q1039.2 N (hL).2.1 r hr) cls12 (ly_40 (hL).2.1) wm_L_104 wy_X12_feed wd_X12_feed ⟨by decide, by decide, by omega, by omega, Nat.le_of_ble_eq_true rfl⟩ rfl rfl (fun q1110 hq1110 => ?_)
  show g_H E ce0 sl0 1113 [(0, vE 300), (1, vR 1), (2, vR 40), (3, vR 39), (4, vI x4)] [vI q1110.1, vI q1039.1] (σ, q1110.2, N) _ _
  refine r_icmp_eq J (tgt := 1908) rfl (by decide) (fun c1113 => ?_) (fun c1113 => ?_)
  · refine r_widen (ce' := (ce0 + 9)) (sl' := (sl0 + 11264)) (by omega) (by omega) ?_
    exact p_L_law_1908 J0 hXs hl hce hsl H23 x4 σ q1110.2 N hL
  · refine r_run J 1 (pc' := 1117) (lv' := [(0, vE 300), (1, vR 1), (2, vR 40), (3, vR 39), (4, vI x4)]) (st' := [vI 0]) rfl ?_
    exact r_iret J rfl rfl rfl rfl (by omega) (by omega)
def tb_L_law_922 : gT := [(922, .aload_n 1, 1, 0), (923, .aload_n 0, 1, 0), (924, .iload 4, 2, 0), (926, .iconst 1, 1, 1), (927, .iadd, 1, 0), (928, .iaload, 1, 0), (929, .aload_n 0, 1, 0), (930, .iload 4, 2, 0), (932, .iconst 2, 1, 2), (933, .iadd, 1, 0), (934, .iaload, 1, 0), (935, .aload_n 0, 1, 0), (936, .iload 4, 2, 0), (938, .iconst 3, 1, 3), (939, .iadd, 1, 0), (940, .iaload, 1, 0), (941, .invokevirtual 93, 3, 0), (944, .aload_n 2, 1, 0), (945, .aload_n 0, 1, 0), (946, .iload 4, 2, 0), (948, .iconst 1, 1, 1), (949, .iadd, 1, 0), (950, .iaload, 1, 0), (951, .aload_n 0, 1, 0), (952, .iload 4, 2, 0), (954, .iconst 2, 1, 2), (955, .iadd, 1, 0), (956, .iaload, 1, 0), (957, .aload_n 0, 1, 0), (958, .iload 4, 2, 0), (960, .iconst 3, 1, 3), (961, .iadd, 1, 0), (962, .iaload, 1, 0), (963, .invokevirtual 97, 3, 0), (966, .if_icmp .eq 942, 3, 0), (969, .iconst 0, 1, 0), (970, .ireturn, 1, 0)]
set_option maxRecDepth 100000 in
theorem tk_L_law_922 : g_okT code tb_L_law_922 = true := by decide +kernel
set_option maxHeartbeats 4000000 in
set_option maxRecDepth 100000 in
theorem p_L_law_922 {l : Launch} {E : gE} {L : Nat} {xs : Nat → Int32} (J0 : J_L_law E l) (hXs : g_Xs E L xs) (hl : l.stackTraces = false) {ce0 sl0 : Nat} (hce : ce0 + 9 ≤ 601024) (hsl : sl0 + 11264 ≤ 7293034) {k23 : Int32 → Nat → (Nat → Int32) → gS → gM → gN → Option (Int32 × gS × gM × gN)} (H23 : ∀ (x4 : Int32) (σ : gS) (M : gM) (N : gN) (_ : g_layL σ), g_H E (ce0 + 9) (sl0 + 11264) 23 [(0, vE 300), (1, vR 1), (2, vR 40), (3, vR 39), (4, vI x4)] [] (σ, M, N) (k23 x4 L xs σ M N) eISMN) (x4 : Int32) (σ : gS) (M : gM) (N : gN) (hL : g_layL σ) : g_H E ce0 sl0 922 [(0, vE 300), (1, vR 1), (2, vR 40), (3, vR 39), (4, vI x4)] [] (σ, M, N) (b_L_law_922 k23 x4 L xs σ M N) eISMN := by
  have J := g_J.tab J0 tk_L_law_922
  unfold b_L_law_922
  refine r_run J 5 (pc' := 928) (lv' := [(0, vE 300), (1, vR 1), (2, vR 40), (3, vR 39), (4, vI x4)]) (st' := [vI (x4 + (1 : Int32)), vE 300, vR 1]) rfl ?_
  refine r_xld J hXs rfl (fun i928 => ?_)
  show g_H E ce0 sl0 929 [(0, vE 300), (1, vR 1), (2, vR 40), (3, vR 39), (4, vI x4)] [vI (xs (x4 + (1 : Int32)).toNatClampNeg), vR 1] (σ, M, N) _ _
  refine r_run J 4 (pc' := 934) (lv' := [(0, vE 300), (1, vR 1), (2, vR 40), (3, vR 39), (4, vI x4)]) (st' := [vI (x4 + (2 : Int32)), vE 300, vI (xs (x4 + (1 : Int32)).toNatClampNeg), vR 1]) rfl ?_
  refine r_xld J hXs rfl (fun i934 => ?_)
  show g_H E ce0 sl0 935 [(0, vE 300), (1, vR 1), (2, vR 40), (3, vR 39), (4, vI x4)] [vI (xs (x4 + (2 : Int32)).toNatClampNeg), vI (xs (x4 + (1 : Int32)).toNatClampNeg), vR 1] (σ, M, N) _ _
  refine r_run J 4 (pc' := 940) (lv' := [(0, vE 300), (1, vR 1), (2, vR 40), (3, vR 39), (4, vI x4)]) (st' := [vI (x4 + (3 : Int32)), vE 300, vI (xs (x4 + (2 : Int32)).toNatClampNeg), vI (xs (x4 + (1 : Int32)).toNatClampNeg), vR 1]) rfl ?_
  refine r_xld J hXs rfl (fun i940 => ?_)
  show g_H E ce0 sl0 941 [(0, vE 300), (1, vR 1), (2, vR 40), (3, vR 39), (4, vI x4)] [vI (xs (x4 + (3 : Int32)).toNatClampNeg), vI (xs (x4 + (2 : Int32)).toNatClampNeg), vI (xs (x4 + (1 : Int32)).toNatClampNeg), vR 1] (σ, M, N) _ _
  refine r_callV J (As := [vI (xs (x4 + (1 : Int32)).toNatClampNeg), vI (xs (x4 + (2 : Int32)).toNatClampNeg), vI (xs (x4 + (3 : Int32)).toNatClampNeg)]) (st := []) (fun r hr => c_X11_listed (xs (x4 + (1 : Int32)).toNatClampNeg) (xs (x4 + (2 : Int32)).toNatClampNeg) (xs (x4 + (3 : Int32)).toNatClampNeg) σ M N (hL).1 r hr) cls11 (ly_1 (hL).1) wm_L_93 wy_X11_listed wd_X11_listed ⟨by decide, by decide, by omega, by omega, Nat.le_of_ble_eq_true rfl⟩ rfl rfl (fun q941 hq941 => ?_)
  show g_H E ce0 sl0 944 [(0, vE 300), (1, vR 1), (2, vR 40), (3, vR 39), (4, vI x4)] [vI q941] (σ, M, N) _ _
  refine r_run J 5 (pc' := 950) (lv' := [(0, vE 300), (1, vR 1), (2, vR 40), (3, vR 39), (4, vI x4)]) (st' := [vI (x4 + (1 : Int32)), vE 300, vR 40, vI q941]) rfl ?_
  refine r_xld J hXs rfl (fun i950 => ?_)
  show g_H E ce0 sl0 951 [(0, vE 300), (1, vR 1), (2, vR 40), (3, vR 39), (4, vI x4)] [vI (xs (x4 + (1 : Int32)).toNatClampNeg), vR 40, vI q941] (σ, M, N) _ _
  refine r_run J 4 (pc' := 956) (lv' := [(0, vE 300), (1, vR 1), (2, vR 40), (3, vR 39), (4, vI x4)]) (st' := [vI (x4 + (2 : Int32)), vE 300, vI (xs (x4 + (1 : Int32)).toNatClampNeg), vR 40, vI q941]) rfl ?_
  refine r_xld J hXs rfl (fun i956 => ?_)
  show g_H E ce0 sl0 957 [(0, vE 300), (1, vR 1), (2, vR 40), (3, vR 39), (4, vI x4)] [vI (xs (x4 + (2 : Int32)).toNatClampNeg), vI (xs (x4 + (1 : Int32)).toNatClampNeg), vR 40, vI q941] (σ, M, N) _ _
  refine r_run J 4 (pc' := 962) (lv' := [(0, vE 300), (1, vR 1), (2, vR 40), (3, vR 39), (4, vI x4)]) (st' := [vI (x4 + (3 : Int32)), vE 300, vI (xs (x4 + (2 : Int32)).toNatClampNeg), vI (xs (x4 + (1 : Int32)).toNatClampNeg), vR 40, vI q941]) rfl ?_
  refine r_xld J hXs rfl (fun i962 => ?_)
  show g_H E ce0 sl0 963 [(0, vE 300), (1, vR 1), (2, vR 40), (3, vR 39), (4, vI x4)] [vI (xs (x4 + (3 : Int32)).toNatClampNeg), vI (xs (x4 + (2 : Int32)).toNatClampNeg), vI (xs (x4 + (1 : Int32)).toNatClampNeg), vR 40, vI q941] (σ, M, N) _ _
  refine r_callV J (As := [vI (xs (x4 + (1 : Int32)).toNatClampNeg), vI (xs (x4 + (2 : Int32)).toNatClampNeg), vI (xs (x4 + (3 : Int32)).toNatClampNeg)]) (st := [vI q941]) (fun r hr => c_X12_listed (xs (x4 + (1 : Int32)).toNatClampNeg) (xs (x4 + (2 : Int32)).toNatClampNeg) (xs (x4 + (3 : Int32)).toNatClampNeg) σ M N (hL).2.1 r hr) cls12 (ly_40 (hL).2.1) wm_L_97 wy_X12_listed wd_X12_listed ⟨by decide, by decide, by omega, by omega, Nat.le_of_ble_eq_true rfl⟩ rfl rfl (fun q963 hq963 => ?_)
  show g_H E ce0 sl0 966 [(0, vE 300), (1, vR 1), (2, vR 40), (3, vR 39), (4, vI x4)] [vI q963, vI q941] (σ, M, N) _ _
  refine r_icmp_eq J (tgt := 1908) rfl (by decide) (fun c966 => ?_) (fun c966 => ?_)
  · refine r_widen (ce' := (ce0 + 9)) (sl' := (sl0 + 11264)) (by omega) (by omega) ?_
    exact p_L_law_1908 J0 hXs hl hce hsl H23 x4 σ M N hL
  · refine r_run J 1 (pc' := 970) (lv' := [(0, vE 300), (1, vR 1), (2, vR 40), (3, vR 39), (4, vI x4)]) (st' := [vI 0]) rfl ?_
    exact r_iret J rfl rfl rfl rfl (by omega) (by omega)
def tb_L_law_897 : gT := [(897, .aload_n 1, 1, 0), (898, .aload_n 0, 1, 0), (899, .iload 4, 2, 0), (901, .iconst 1, 1, 1), (902, .iadd, 1, 0), (903, .iaload, 1, 0), (904, .invokevirtual 89, 3, 0), (907, .aload_n 2, 1, 0), (908, .aload_n 0, 1, 0), (909, .iload 4, 2, 0), (911, .iconst 1, 1, 1), (912, .iadd, 1, 0), (913, .iaload, 1, 0), (914, .invokevirtual 92, 3, 0), (917, .if_icmp .eq 991, 3, 0), (920, .iconst 0, 1, 0), (921, .ireturn, 1, 0)]
set_option maxRecDepth 100000 in
theorem tk_L_law_897 : g_okT code tb_L_law_897 = true := by decide +kernel
set_option maxHeartbeats 4000000 in
set_option maxRecDepth 100000 in
theorem p_L_law_897 {l : Launch} {E : gE} {L : Nat} {xs : Nat → Int32} (J0 : J_L_law E l) (hXs : g_Xs E L xs) (hl : l.stackTraces = false) {ce0 sl0 : Nat} (hce : ce0 + 9 ≤ 601024) (hsl : sl0 + 11264 ≤ 7293034) {k23 : Int32 → Nat → (Nat → Int32) → gS → gM → gN → Option (Int32 × gS × gM × gN)} (H23 : ∀ (x4 : Int32) (σ : gS) (M : gM) (N : gN) (_ : g_layL σ), g_H E (ce0 + 9) (sl0 + 11264) 23 [(0, vE 300), (1, vR 1), (2, vR 40), (3, vR 39), (4, vI x4)] [] (σ, M, N) (k23 x4 L xs σ M N) eISMN) (x4 : Int32) (σ : gS) (M : gM) (N : gN) (hL : g_layL σ) : g_H E ce0 sl0 897 [(0, vE 300), (1, vR 1), (2, vR 40), (3, vR 39), (4, vI x4)] [] (σ, M, N) (b_L_law_897 k23 x4 L xs σ M N) eISMN := by
  have J := g_J.tab J0 tk_L_law_897
  unfold b_L_law_897
  refine r_run J 5 (pc' := 903) (lv' := [(0, vE 300), (1, vR 1), (2, vR 40), (3, vR 39), (4, vI x4)]) (st' := [vI (x4 + (1 : Int32)), vE 300, vR 1]) rfl ?_
  refine r_xld J hXs rfl (fun i903 => ?_)
  show g_H E ce0 sl0 904 [(0, vE 300), (1, vR 1), (2, vR 40), (3, vR 39), (4, vI x4)] [vI (xs (x4 + (1 : Int32)).toNatClampNeg), vR 1] (σ, M, N) _ _
  refine r_callV J (As := [vI (xs (x4 + (1 : Int32)).toNatClampNeg)]) (st := []) (fun r hr => c_X11_right (xs (x4 + (1 : Int32)).toNatClampNeg) σ M N (hL).1 r hr) cls11 (ly_1 (hL).1) wm_L_89 wy_X11_right wd_X11_right ⟨by decide, by decide, by omega, by omega, Nat.le_of_ble_eq_true rfl⟩ rfl rfl (fun q904 hq904 => ?_)
  show g_H E ce0 sl0 907 [(0, vE 300), (1, vR 1), (2, vR 40), (3, vR 39), (4, vI x4)] [vI q904] (σ, M, N) _ _
  refine r_run J 5 (pc' := 913) (lv' := [(0, vE 300), (1, vR 1), (2, vR 40), (3, vR 39), (4, vI x4)]) (st' := [vI (x4 + (1 : Int32)), vE 300, vR 40, vI q904]) rfl ?_
  refine r_xld J hXs rfl (fun i913 => ?_)
  show g_H E ce0 sl0 914 [(0, vE 300), (1, vR 1), (2, vR 40), (3, vR 39), (4, vI x4)] [vI (xs (x4 + (1 : Int32)).toNatClampNeg), vR 40, vI q904] (σ, M, N) _ _
  refine r_callV J (As := [vI (xs (x4 + (1 : Int32)).toNatClampNeg)]) (st := [vI q904]) (fun r hr => c_X12_right (xs (x4 + (1 : Int32)).toNatClampNeg) σ M N (hL).2.1 r hr) cls12 (ly_40 (hL).2.1) wm_L_92 wy_X12_right wd_X12_right ⟨by decide, by decide, by omega, by omega, Nat.le_of_ble_eq_true rfl⟩ rfl rfl (fun q914 hq914 => ?_)
  show g_H E ce0 sl0 917 [(0, vE 300), (1, vR 1), (2, vR 40), (3, vR 39), (4, vI x4)] [vI q914, vI q904] (σ, M, N) _ _
  refine r_icmp_eq J (tgt := 1908) rfl (by decide) (fun c917 => ?_) (fun c917 => ?_)
  · refine r_widen (ce' := (ce0 + 9)) (sl' := (sl0 + 11264)) (by omega) (by omega) ?_
    exact p_L_law_1908 J0 hXs hl hce hsl H23 x4 σ M N hL
  · refine r_run J 1 (pc' := 921) (lv' := [(0, vE 300), (1, vR 1), (2, vR 40), (3, vR 39), (4, vI x4)]) (st' := [vI 0]) rfl ?_
    exact r_iret J rfl rfl rfl rfl (by omega) (by omega)
def tb_L_law_872 : gT := [(872, .aload_n 1, 1, 0), (873, .aload_n 0, 1, 0), (874, .iload 4, 2, 0), (876, .iconst 1, 1, 1), (877, .iadd, 1, 0), (878, .iaload, 1, 0), (879, .invokevirtual 85, 3, 0), (882, .aload_n 2, 1, 0), (883, .aload_n 0, 1, 0), (884, .iload 4, 2, 0), (886, .iconst 1, 1, 1), (887, .iadd, 1, 0), (888, .iaload, 1, 0), (889, .invokevirtual 88, 3, 0), (892, .if_icmp .eq 1016, 3, 0), (895, .iconst 0, 1, 0), (896, .ireturn, 1, 0)]
set_option maxRecDepth 100000 in
theorem tk_L_law_872 : g_okT code tb_L_law_872 = true := by decide +kernel
set_option maxHeartbeats 4000000 in
set_option maxRecDepth 100000 in
theorem p_L_law_872 {l : Launch} {E : gE} {L : Nat} {xs : Nat → Int32} (J0 : J_L_law E l) (hXs : g_Xs E L xs) (hl : l.stackTraces = false) {ce0 sl0 : Nat} (hce : ce0 + 9 ≤ 601024) (hsl : sl0 + 11264 ≤ 7293034) {k23 : Int32 → Nat → (Nat → Int32) → gS → gM → gN → Option (Int32 × gS × gM × gN)} (H23 : ∀ (x4 : Int32) (σ : gS) (M : gM) (N : gN) (_ : g_layL σ), g_H E (ce0 + 9) (sl0 + 11264) 23 [(0, vE 300), (1, vR 1), (2, vR 40), (3, vR 39), (4, vI x4)] [] (σ, M, N) (k23 x4 L xs σ M N) eISMN) (x4 : Int32) (σ : gS) (M : gM) (N : gN) (hL : g_layL σ) : g_H E ce0 sl0 872 [(0, vE 300), (1, vR 1), (2, vR 40), (3, vR 39), (4, vI x4)] [] (σ, M, N) (b_L_law_872 k23 x4 L xs σ M N) eISMN := by
  have J := g_J.tab J0 tk_L_law_872
  unfold b_L_law_872
  refine r_run J 5 (pc' := 878) (lv' := [(0, vE 300), (1, vR 1), (2, vR 40), (3, vR 39), (4, vI x4)]) (st' := [vI (x4 + (1 : Int32)), vE 300, vR 1]) rfl ?_
  refine r_xld J hXs rfl (fun i878 => ?_)
  show g_H E ce0 sl0 879 [(0, vE 300), (1, vR 1), (2, vR 40), (3, vR 39), (4, vI x4)] [vI (xs (x4 + (1 : Int32)).toNatClampNeg), vR 1] (σ, M, N) _ _
  refine r_callV J (As := [vI (xs (x4 + (1 : Int32)).toNatClampNeg)]) (st := []) (fun r hr => c_X11_most (xs (x4 + (1 : Int32)).toNatClampNeg) σ M N (hL).1 r hr) cls11 (ly_1 (hL).1) wm_L_85 wy_X11_most wd_X11_most ⟨by decide, by decide, by omega, by omega, Nat.le_of_ble_eq_true rfl⟩ rfl rfl (fun q879 hq879 => ?_)
  show g_H E (ce0 + 1) (sl0 + 11264) 882 [(0, vE 300), (1, vR 1), (2, vR 40), (3, vR 39), (4, vI x4)] [vI q879.1] (q879.2.1, q879.2.2.1, q879.2.2.2) _ _
  refine r_chk (fun hl882 => ?_)
  refine r_run J 5 (pc' := 888) (lv' := [(0, vE 300), (1, vR 1), (2, vR 40), (3, vR 39), (4, vI x4)]) (st' := [vI (x4 + (1 : Int32)), vE 300, vR 40, vI q879.1]) rfl ?_
  refine r_xld J hXs rfl (fun i888 => ?_)
  show g_H E (ce0 + 1) (sl0 + 11264) 889 [(0, vE 300), (1, vR 1), (2, vR 40), (3, vR 39), (4, vI x4)] [vI (xs (x4 + (1 : Int32)).toNatClampNeg), vR 40, vI q879.1] (q879.2.1, q879.2.2.1, q879.2.2.2) _ _
  refine r_callV J (As := [vI (xs (x4 + (1 : Int32)).toNatClampNeg)]) (st := [vI q879.1]) (fun r hr => c_X12_most (xs (x4 + (1 : Int32)).toNatClampNeg) q879.2.1 q879.2.2.1 q879.2.2.2 ((g_layL.of hl882)).2.1 r hr) cls12 (ly_40 ((g_layL.of hl882)).2.1) wm_L_88 wy_X12_most wd_X12_most ⟨by decide, by decide, by omega, by omega, Nat.le_of_ble_eq_true rfl⟩ rfl rfl (fun q889 hq889 => ?_)
  show g_H E (ce0 + 1) (sl0 + 11264) 892 [(0, vE 300), (1, vR 1), (2, vR 40), (3, vR 39), (4, vI x4)] [vI q889.1, vI q879.1] (q879.2.1, q889.2, q879.2.2.2) _ _
  refine r_icmp_eq J (tgt := 1908) rfl (by decide) (fun c892 => ?_) (fun c892 => ?_)
  · refine r_widen (ce' := (ce0 + 9)) (sl' := (sl0 + 11264)) (by omega) (by omega) ?_
    exact p_L_law_1908 J0 hXs hl hce hsl H23 x4 q879.2.1 q889.2 q879.2.2.2 (g_layL.of hl882)
  · refine r_run J 1 (pc' := 896) (lv' := [(0, vE 300), (1, vR 1), (2, vR 40), (3, vR 39), (4, vI x4)]) (st' := [vI 0]) rfl ?_
    exact r_iret J rfl rfl rfl rfl (by omega) (by omega)
def tb_L_law_859 : gT := [(859, .aload_n 1, 1, 0), (860, .invokevirtual 80, 3, 0), (863, .aload_n 2, 1, 0), (864, .invokevirtual 84, 3, 0), (867, .if_icmp .eq 1041, 3, 0), (870, .iconst 0, 1, 0), (871, .ireturn, 1, 0)]
set_option maxRecDepth 100000 in
theorem tk_L_law_859 : g_okT code tb_L_law_859 = true := by decide +kernel
set_option maxHeartbeats 4000000 in
set_option maxRecDepth 100000 in
theorem p_L_law_859 {l : Launch} {E : gE} {L : Nat} {xs : Nat → Int32} (J0 : J_L_law E l) (hXs : g_Xs E L xs) (hl : l.stackTraces = false) {ce0 sl0 : Nat} (hce : ce0 + 9 ≤ 601024) (hsl : sl0 + 11264 ≤ 7293034) {k23 : Int32 → Nat → (Nat → Int32) → gS → gM → gN → Option (Int32 × gS × gM × gN)} (H23 : ∀ (x4 : Int32) (σ : gS) (M : gM) (N : gN) (_ : g_layL σ), g_H E (ce0 + 9) (sl0 + 11264) 23 [(0, vE 300), (1, vR 1), (2, vR 40), (3, vR 39), (4, vI x4)] [] (σ, M, N) (k23 x4 L xs σ M N) eISMN) (x4 : Int32) (σ : gS) (M : gM) (N : gN) (hL : g_layL σ) : g_H E ce0 sl0 859 [(0, vE 300), (1, vR 1), (2, vR 40), (3, vR 39), (4, vI x4)] [] (σ, M, N) (b_L_law_859 k23 x4 L xs σ M N) eISMN := by
  have J := g_J.tab J0 tk_L_law_859
  unfold b_L_law_859
  refine r_run J 1 (pc' := 860) (lv' := [(0, vE 300), (1, vR 1), (2, vR 40), (3, vR 39), (4, vI x4)]) (st' := [vR 1]) rfl ?_
  refine r_callV J (As := []) (st := []) (fun r hr => c_X11_moved σ M N (hL).1 r hr) cls11 (ly_1 (hL).1) wm_L_80 wy_X11_moved wd_X11_moved ⟨by decide, by decide, by omega, by omega, Nat.le_of_ble_eq_true rfl⟩ rfl rfl (fun q860 hq860 => ?_)
  show g_H E ce0 sl0 863 [(0, vE 300), (1, vR 1), (2, vR 40), (3, vR 39), (4, vI x4)] [vI q860] (σ, M, N) _ _
  refine r_run J 1 (pc' := 864) (lv' := [(0, vE 300), (1, vR 1), (2, vR 40), (3, vR 39), (4, vI x4)]) (st' := [vR 40, vI q860]) rfl ?_
  refine r_callV J (As := []) (st := [vI q860]) (fun r hr => c_X12_moved σ M N (hL).2.1 r hr) cls12 (ly_40 (hL).2.1) wm_L_84 wy_X12_moved wd_X12_moved ⟨by decide, by decide, by omega, by omega, Nat.le_of_ble_eq_true rfl⟩ rfl rfl (fun q864 hq864 => ?_)
  show g_H E ce0 sl0 867 [(0, vE 300), (1, vR 1), (2, vR 40), (3, vR 39), (4, vI x4)] [vI q864, vI q860] (σ, M, N) _ _
  refine r_icmp_eq J (tgt := 1908) rfl (by decide) (fun c867 => ?_) (fun c867 => ?_)
  · refine r_widen (ce' := (ce0 + 9)) (sl' := (sl0 + 11264)) (by omega) (by omega) ?_
    exact p_L_law_1908 J0 hXs hl hce hsl H23 x4 σ M N hL
  · refine r_run J 1 (pc' := 871) (lv' := [(0, vE 300), (1, vR 1), (2, vR 40), (3, vR 39), (4, vI x4)]) (st' := [vI 0]) rfl ?_
    exact r_iret J rfl rfl rfl rfl (by omega) (by omega)
def tb_L_law_822 : gT := [(822, .aload_n 1, 1, 0), (823, .aload_n 0, 1, 0), (824, .iload 4, 2, 0), (826, .iconst 1, 1, 1), (827, .iadd, 1, 0), (828, .iaload, 1, 0), (829, .aload_n 0, 1, 0), (830, .iload 4, 2, 0), (832, .iconst 2, 1, 2), (833, .iadd, 1, 0), (834, .iaload, 1, 0), (835, .invokevirtual 75, 3, 0), (838, .aload_n 2, 1, 0), (839, .aload_n 0, 1, 0), (840, .iload 4, 2, 0), (842, .iconst 1, 1, 1), (843, .iadd, 1, 0), (844, .iaload, 1, 0), (845, .aload_n 0, 1, 0), (846, .iload 4, 2, 0), (848, .iconst 2, 1, 2), (849, .iadd, 1, 0), (850, .iaload, 1, 0), (851, .invokevirtual 79, 3, 0), (854, .if_icmp .eq 1054, 3, 0), (857, .iconst 0, 1, 0), (858, .ireturn, 1, 0)]
set_option maxRecDepth 100000 in
theorem tk_L_law_822 : g_okT code tb_L_law_822 = true := by decide +kernel
set_option maxHeartbeats 4000000 in
set_option maxRecDepth 100000 in
theorem p_L_law_822 {l : Launch} {E : gE} {L : Nat} {xs : Nat → Int32} (J0 : J_L_law E l) (hXs : g_Xs E L xs) (hl : l.stackTraces = false) {ce0 sl0 : Nat} (hce : ce0 + 9 ≤ 601024) (hsl : sl0 + 11264 ≤ 7293034) {k23 : Int32 → Nat → (Nat → Int32) → gS → gM → gN → Option (Int32 × gS × gM × gN)} (H23 : ∀ (x4 : Int32) (σ : gS) (M : gM) (N : gN) (_ : g_layL σ), g_H E (ce0 + 9) (sl0 + 11264) 23 [(0, vE 300), (1, vR 1), (2, vR 40), (3, vR 39), (4, vI x4)] [] (σ, M, N) (k23 x4 L xs σ M N) eISMN) (x4 : Int32) (σ : gS) (M : gM) (N : gN) (hL : g_layL σ) : g_H E ce0 sl0 822 [(0, vE 300), (1, vR 1), (2, vR 40), (3, vR 39), (4, vI x4)] [] (σ, M, N) (b_L_law_822 k23 x4 L xs σ M N) eISMN := by
  have J := g_J.tab J0 tk_L_law_822
  unfold b_L_law_822
  refine r_run J 5 (pc' := 828) (lv' := [(0, vE 300), (1, vR 1), (2, vR 40), (3, vR 39), (4, vI x4)]) (st' := [vI (x4 + (1 : Int32)), vE 300, vR 1]) rfl ?_
  refine r_xld J hXs rfl (fun i828 => ?_)
  show g_H E ce0 sl0 829 [(0, vE 300), (1, vR 1), (2, vR 40), (3, vR 39), (4, vI x4)] [vI (xs (x4 + (1 : Int32)).toNatClampNeg), vR 1] (σ, M, N) _ _
  refine r_run J 4 (pc' := 834) (lv' := [(0, vE 300), (1, vR 1), (2, vR 40), (3, vR 39), (4, vI x4)]) (st' := [vI (x4 + (2 : Int32)), vE 300, vI (xs (x4 + (1 : Int32)).toNatClampNeg), vR 1]) rfl ?_
  refine r_xld J hXs rfl (fun i834 => ?_)
  show g_H E ce0 sl0 835 [(0, vE 300), (1, vR 1), (2, vR 40), (3, vR 39), (4, vI x4)] [vI (xs (x4 + (2 : Int32)).toNatClampNeg), vI (xs (x4 + (1 : Int32)).toNatClampNeg), vR 1] (σ, M, N) _ _
  refine r_callV J (As := [vI (xs (x4 + (1 : Int32)).toNatClampNeg), vI (xs (x4 + (2 : Int32)).toNatClampNeg)]) (st := []) (fun r hr => c_X11_settle (xs (x4 + (1 : Int32)).toNatClampNeg) (xs (x4 + (2 : Int32)).toNatClampNeg) σ M N (hL).1 r hr) cls11 (ly_1 (hL).1) wm_L_75 wy_X11_settle wd_X11_settle ⟨by decide, by decide, by omega, by omega, Nat.le_of_ble_eq_true rfl⟩ rfl rfl (fun q835 hq835 => ?_)
  show g_H E (ce0 + 1) (sl0 + 11264) 838 [(0, vE 300), (1, vR 1), (2, vR 40), (3, vR 39), (4, vI x4)] [vI q835.1] (q835.2.1, q835.2.2.1, q835.2.2.2) _ _
  refine r_chk (fun hl838 => ?_)
  refine r_run J 5 (pc' := 844) (lv' := [(0, vE 300), (1, vR 1), (2, vR 40), (3, vR 39), (4, vI x4)]) (st' := [vI (x4 + (1 : Int32)), vE 300, vR 40, vI q835.1]) rfl ?_
  refine r_xld J hXs rfl (fun i844 => ?_)
  show g_H E (ce0 + 1) (sl0 + 11264) 845 [(0, vE 300), (1, vR 1), (2, vR 40), (3, vR 39), (4, vI x4)] [vI (xs (x4 + (1 : Int32)).toNatClampNeg), vR 40, vI q835.1] (q835.2.1, q835.2.2.1, q835.2.2.2) _ _
  refine r_run J 4 (pc' := 850) (lv' := [(0, vE 300), (1, vR 1), (2, vR 40), (3, vR 39), (4, vI x4)]) (st' := [vI (x4 + (2 : Int32)), vE 300, vI (xs (x4 + (1 : Int32)).toNatClampNeg), vR 40, vI q835.1]) rfl ?_
  refine r_xld J hXs rfl (fun i850 => ?_)
  show g_H E (ce0 + 1) (sl0 + 11264) 851 [(0, vE 300), (1, vR 1), (2, vR 40), (3, vR 39), (4, vI x4)] [vI (xs (x4 + (2 : Int32)).toNatClampNeg), vI (xs (x4 + (1 : Int32)).toNatClampNeg), vR 40, vI q835.1] (q835.2.1, q835.2.2.1, q835.2.2.2) _ _
  refine r_callV J (As := [vI (xs (x4 + (1 : Int32)).toNatClampNeg), vI (xs (x4 + (2 : Int32)).toNatClampNeg)]) (st := [vI q835.1]) (fun r hr => c_X12_settle (xs (x4 + (1 : Int32)).toNatClampNeg) (xs (x4 + (2 : Int32)).toNatClampNeg) q835.2.1 q835.2.2.1 q835.2.2.2 ((g_layL.of hl838)).2.1 r hr) cls12 (ly_40 ((g_layL.of hl838)).2.1) wm_L_79 wy_X12_settle wd_X12_settle ⟨by decide, by decide, by omega, by omega, Nat.le_of_ble_eq_true rfl⟩ rfl rfl (fun q851 hq851 => ?_)
  show g_H E (ce0 + 1) (sl0 + 11264) 854 [(0, vE 300), (1, vR 1), (2, vR 40), (3, vR 39), (4, vI x4)] [vI q851.1, vI q835.1] (q835.2.1, q851.2, q835.2.2.2) _ _
  refine r_icmp_eq J (tgt := 1908) rfl (by decide) (fun c854 => ?_) (fun c854 => ?_)
  · refine r_widen (ce' := (ce0 + 9)) (sl' := (sl0 + 11264)) (by omega) (by omega) ?_
    exact p_L_law_1908 J0 hXs hl hce hsl H23 x4 q835.2.1 q851.2 q835.2.2.2 (g_layL.of hl838)
  · refine r_run J 1 (pc' := 858) (lv' := [(0, vE 300), (1, vR 1), (2, vR 40), (3, vR 39), (4, vI x4)]) (st' := [vI 0]) rfl ?_
    exact r_iret J rfl rfl rfl rfl (by omega) (by omega)
def tb_L_law_773 : gT := [(773, .aload_n 1, 1, 0), (774, .aload_n 0, 1, 0), (775, .iload 4, 2, 0), (777, .iconst 1, 1, 1), (778, .iadd, 1, 0), (779, .iaload, 1, 0), (780, .aload_n 0, 1, 0), (781, .iload 4, 2, 0), (783, .iconst 2, 1, 2), (784, .iadd, 1, 0), (785, .iaload, 1, 0), (786, .aload_n 0, 1, 0), (787, .iload 4, 2, 0), (789, .iconst 3, 1, 3), (790, .iadd, 1, 0), (791, .iaload, 1, 0), (792, .invokevirtual 71, 3, 0), (795, .aload_n 2, 1, 0), (796, .aload_n 0, 1, 0), (797, .iload 4, 2, 0), (799, .iconst 1, 1, 1), (800, .iadd, 1, 0), (801, .iaload, 1, 0), (802, .aload_n 0, 1, 0), (803, .iload 4, 2, 0), (805, .iconst 2, 1, 2), (806, .iadd, 1, 0), (807, .iaload, 1, 0), (808, .aload_n 0, 1, 0), (809, .iload 4, 2, 0), (811, .iconst 3, 1, 3), (812, .iadd, 1, 0), (813, .iaload, 1, 0), (814, .invokevirtual 74, 3, 0), (817, .if_icmp .eq 1091, 3, 0), (820, .iconst 0, 1, 0), (821, .ireturn, 1, 0)]
set_option maxRecDepth 100000 in
theorem tk_L_law_773 : g_okT code tb_L_law_773 = true := by decide +kernel
set_option maxHeartbeats 4000000 in
set_option maxRecDepth 100000 in
theorem p_L_law_773 {l : Launch} {E : gE} {L : Nat} {xs : Nat → Int32} (J0 : J_L_law E l) (hXs : g_Xs E L xs) (hl : l.stackTraces = false) {ce0 sl0 : Nat} (hce : ce0 + 9 ≤ 601024) (hsl : sl0 + 11264 ≤ 7293034) {k23 : Int32 → Nat → (Nat → Int32) → gS → gM → gN → Option (Int32 × gS × gM × gN)} (H23 : ∀ (x4 : Int32) (σ : gS) (M : gM) (N : gN) (_ : g_layL σ), g_H E (ce0 + 9) (sl0 + 11264) 23 [(0, vE 300), (1, vR 1), (2, vR 40), (3, vR 39), (4, vI x4)] [] (σ, M, N) (k23 x4 L xs σ M N) eISMN) (x4 : Int32) (σ : gS) (M : gM) (N : gN) (hL : g_layL σ) : g_H E ce0 sl0 773 [(0, vE 300), (1, vR 1), (2, vR 40), (3, vR 39), (4, vI x4)] [] (σ, M, N) (b_L_law_773 k23 x4 L xs σ M N) eISMN := by
  have J := g_J.tab J0 tk_L_law_773
  unfold b_L_law_773
  refine r_run J 5 (pc' := 779) (lv' := [(0, vE 300), (1, vR 1), (2, vR 40), (3, vR 39), (4, vI x4)]) (st' := [vI (x4 + (1 : Int32)), vE 300, vR 1]) rfl ?_
  refine r_xld J hXs rfl (fun i779 => ?_)
  show g_H E ce0 sl0 780 [(0, vE 300), (1, vR 1), (2, vR 40), (3, vR 39), (4, vI x4)] [vI (xs (x4 + (1 : Int32)).toNatClampNeg), vR 1] (σ, M, N) _ _
  refine r_run J 4 (pc' := 785) (lv' := [(0, vE 300), (1, vR 1), (2, vR 40), (3, vR 39), (4, vI x4)]) (st' := [vI (x4 + (2 : Int32)), vE 300, vI (xs (x4 + (1 : Int32)).toNatClampNeg), vR 1]) rfl ?_
  refine r_xld J hXs rfl (fun i785 => ?_)
  show g_H E ce0 sl0 786 [(0, vE 300), (1, vR 1), (2, vR 40), (3, vR 39), (4, vI x4)] [vI (xs (x4 + (2 : Int32)).toNatClampNeg), vI (xs (x4 + (1 : Int32)).toNatClampNeg), vR 1] (σ, M, N) _ _
  refine r_run J 4 (pc' := 791) (lv' := [(0, vE 300), (1, vR 1), (2, vR 40), (3, vR 39), (4, vI x4)]) (st' := [vI (x4 + (3 : Int32)), vE 300, vI (xs (x4 + (2 : Int32)).toNatClampNeg), vI (xs (x4 + (1 : Int32)).toNatClampNeg), vR 1]) rfl ?_
  refine r_xld J hXs rfl (fun i791 => ?_)
  show g_H E ce0 sl0 792 [(0, vE 300), (1, vR 1), (2, vR 40), (3, vR 39), (4, vI x4)] [vI (xs (x4 + (3 : Int32)).toNatClampNeg), vI (xs (x4 + (2 : Int32)).toNatClampNeg), vI (xs (x4 + (1 : Int32)).toNatClampNeg), vR 1] (σ, M, N) _ _
  refine r_callV J (As := [vI (xs (x4 + (1 : Int32)).toNatClampNeg), vI (xs (x4 + (2 : Int32)).toNatClampNeg), vI (xs (x4 + (3 : Int32)).toNatClampNeg)]) (st := []) (fun r hr => c_X11_put (xs (x4 + (1 : Int32)).toNatClampNeg) (xs (x4 + (2 : Int32)).toNatClampNeg) (xs (x4 + (3 : Int32)).toNatClampNeg) σ M N (hL).1 r hr) cls11 (ly_1 (hL).1) wm_L_71 wy_X11_put wd_X11_put ⟨by decide, by decide, by omega, by omega, Nat.le_of_ble_eq_true rfl⟩ rfl rfl (fun q792 hq792 => ?_)
  show g_H E ce0 sl0 795 [(0, vE 300), (1, vR 1), (2, vR 40), (3, vR 39), (4, vI x4)] [vI q792.1] (σ, q792.2, N) _ _
  refine r_run J 5 (pc' := 801) (lv' := [(0, vE 300), (1, vR 1), (2, vR 40), (3, vR 39), (4, vI x4)]) (st' := [vI (x4 + (1 : Int32)), vE 300, vR 40, vI q792.1]) rfl ?_
  refine r_xld J hXs rfl (fun i801 => ?_)
  show g_H E ce0 sl0 802 [(0, vE 300), (1, vR 1), (2, vR 40), (3, vR 39), (4, vI x4)] [vI (xs (x4 + (1 : Int32)).toNatClampNeg), vR 40, vI q792.1] (σ, q792.2, N) _ _
  refine r_run J 4 (pc' := 807) (lv' := [(0, vE 300), (1, vR 1), (2, vR 40), (3, vR 39), (4, vI x4)]) (st' := [vI (x4 + (2 : Int32)), vE 300, vI (xs (x4 + (1 : Int32)).toNatClampNeg), vR 40, vI q792.1]) rfl ?_
  refine r_xld J hXs rfl (fun i807 => ?_)
  show g_H E ce0 sl0 808 [(0, vE 300), (1, vR 1), (2, vR 40), (3, vR 39), (4, vI x4)] [vI (xs (x4 + (2 : Int32)).toNatClampNeg), vI (xs (x4 + (1 : Int32)).toNatClampNeg), vR 40, vI q792.1] (σ, q792.2, N) _ _
  refine r_run J 4 (pc' := 813) (lv' := [(0, vE 300), (1, vR 1), (2, vR 40), (3, vR 39), (4, vI x4)]) (st' := [vI (x4 + (3 : Int32)), vE 300, vI (xs (x4 + (2 : Int32)).toNatClampNeg), vI (xs (x4 + (1 : Int32)).toNatClampNeg), vR 40, vI q792.1]) rfl ?_
  refine r_xld J hXs rfl (fun i813 => ?_)
  show g_H E ce0 sl0 814 [(0, vE 300), (1, vR 1), (2, vR 40), (3, vR 39), (4, vI x4)] [vI (xs (x4 + (3 : Int32)).toNatClampNeg), vI (xs (x4 + (2 : Int32)).toNatClampNeg), vI (xs (x4 + (1 : Int32)).toNatClampNeg), vR 40, vI q792.1] (σ, q792.2, N) _ _
  refine r_callV J (As := [vI (xs (x4 + (1 : Int32)).toNatClampNeg), vI (xs (x4 + (2 : Int32)).toNatClampNeg), vI (xs (x4 + (3 : Int32)).toNatClampNeg)]) (st := [vI q792.1]) (fun r hr => c_X12_put (xs (x4 + (1 : Int32)).toNatClampNeg) (xs (x4 + (2 : Int32)).toNatClampNeg) (xs (x4 + (3 : Int32)).toNatClampNeg) σ q792.2 N (hL).2.1 r hr) cls12 (ly_40 (hL).2.1) wm_L_74 wy_X12_put wd_X12_put ⟨by decide, by decide, by omega, by omega, Nat.le_of_ble_eq_true rfl⟩ rfl rfl (fun q814 hq814 => ?_)
  show g_H E ce0 sl0 817 [(0, vE 300), (1, vR 1), (2, vR 40), (3, vR 39), (4, vI x4)] [vI q814.1, vI q792.1] (σ, q814.2, N) _ _
  refine r_icmp_eq J (tgt := 1908) rfl (by decide) (fun c817 => ?_) (fun c817 => ?_)
  · refine r_widen (ce' := (ce0 + 9)) (sl' := (sl0 + 11264)) (by omega) (by omega) ?_
    exact p_L_law_1908 J0 hXs hl hce hsl H23 x4 σ q814.2 N hL
  · refine r_run J 1 (pc' := 821) (lv' := [(0, vE 300), (1, vR 1), (2, vR 40), (3, vR 39), (4, vI x4)]) (st' := [vI 0]) rfl ?_
    exact r_iret J rfl rfl rfl rfl (by omega) (by omega)
def tb_L_law_759 : gT := [(759, .aload_n 0, 1, 0), (760, .iload 4, 2, 0), (762, .iconst 4, 1, 4), (763, .iadd, 1, 0), (764, .iaload, 1, 0), (765, .invokevirtual 70, 3, 0), (768, .if_icmp .eq 1140, 3, 0), (771, .iconst 0, 1, 0), (772, .ireturn, 1, 0)]
set_option maxRecDepth 100000 in
theorem tk_L_law_759 : g_okT code tb_L_law_759 = true := by decide +kernel
set_option maxHeartbeats 4000000 in
set_option maxRecDepth 100000 in
theorem p_L_law_759 {l : Launch} {E : gE} {L : Nat} {xs : Nat → Int32} (J0 : J_L_law E l) (hXs : g_Xs E L xs) (hl : l.stackTraces = false) {ce0 sl0 : Nat} (hce : ce0 + 9 ≤ 601024) (hsl : sl0 + 11264 ≤ 7293034) {k23 : Int32 → Nat → (Nat → Int32) → gS → gM → gN → Option (Int32 × gS × gM × gN)} (H23 : ∀ (x4 : Int32) (σ : gS) (M : gM) (N : gN) (_ : g_layL σ), g_H E (ce0 + 9) (sl0 + 11264) 23 [(0, vE 300), (1, vR 1), (2, vR 40), (3, vR 39), (4, vI x4)] [] (σ, M, N) (k23 x4 L xs σ M N) eISMN) (x4 : Int32) (sx0 : Int32) (sx1 : Int32) (sx2 : Int32) (sx4 : Int32) (σ : gS) (M : gM) (N : gN) (hL : g_layL σ) : g_H E (ce0 + 1) (sl0 + 4) 759 [(0, vE 300), (1, vR 1), (2, vR 40), (3, vR 39), (4, vI x4)] [vI sx0, vI sx1, vI sx2, vR 40, vI sx4] (σ, M, N) (b_L_law_759 k23 x4 sx0 sx1 sx2 sx4 L xs σ M N) eISMN := by
  have J := g_J.tab J0 tk_L_law_759
  unfold b_L_law_759
  refine r_run J 4 (pc' := 764) (lv' := [(0, vE 300), (1, vR 1), (2, vR 40), (3, vR 39), (4, vI x4)]) (st' := [vI (x4 + (4 : Int32)), vE 300, vI sx0, vI sx1, vI sx2, vR 40, vI sx4]) rfl ?_
  refine r_xld J hXs rfl (fun i764 => ?_)
  show g_H E (ce0 + 1) (sl0 + 4) 765 [(0, vE 300), (1, vR 1), (2, vR 40), (3, vR 39), (4, vI x4)] [vI (xs (x4 + (4 : Int32)).toNatClampNeg), vI sx0, vI sx1, vI sx2, vR 40, vI sx4] (σ, M, N) _ _
  refine r_callV J (As := [vI sx2, vI sx1, vI sx0, vI (xs (x4 + (4 : Int32)).toNatClampNeg)]) (st := [vI sx4]) (fun r hr => c_X12_room sx2 sx1 sx0 (xs (x4 + (4 : Int32)).toNatClampNeg) σ M N (hL).2.1 r hr) cls12 (ly_40 (hL).2.1) wm_L_70 wy_X12_room wd_X12_room ⟨by decide, by decide, by omega, by omega, Nat.le_of_ble_eq_true rfl⟩ rfl rfl (fun q765 hq765 => ?_)
  show g_H E (ce0 + 1) (sl0 + 4) 768 [(0, vE 300), (1, vR 1), (2, vR 40), (3, vR 39), (4, vI x4)] [vI q765.1, vI sx4] (σ, q765.2, N) _ _
  refine r_icmp_eq J (tgt := 1908) rfl (by decide) (fun c768 => ?_) (fun c768 => ?_)
  · refine r_widen (ce' := (ce0 + 9)) (sl' := (sl0 + 11264)) (by omega) (by omega) ?_
    exact p_L_law_1908 J0 hXs hl hce hsl H23 x4 σ q765.2 N hL
  · refine r_run J 1 (pc' := 772) (lv' := [(0, vE 300), (1, vR 1), (2, vR 40), (3, vR 39), (4, vI x4)]) (st' := [vI 0]) rfl ?_
    exact r_iret J rfl rfl rfl rfl (by omega) (by omega)
def tb_L_law_723 : gT := [(723, .aload_n 0, 1, 0), (724, .iload 4, 2, 0), (726, .iconst 4, 1, 4), (727, .iadd, 1, 0), (728, .iaload, 1, 0), (729, .invokevirtual 66, 3, 0), (732, .aload_n 2, 1, 0), (733, .aload_n 0, 1, 0), (734, .iload 4, 2, 0), (736, .iconst 1, 1, 1), (737, .iadd, 1, 0), (738, .iaload, 1, 0), (739, .aload_n 0, 1, 0), (740, .iload 4, 2, 0), (742, .iconst 2, 1, 2), (743, .iadd, 1, 0), (744, .iaload, 1, 0), (745, .aload_n 0, 1, 0), (746, .iload 4, 2, 0), (748, .iconst 3, 1, 3), (749, .iadd, 1, 0), (750, .iaload, 1, 0), (751, .ifCond .eq 7, 3, 0), (754, .iconst 1, 1, 1), (755, .goto 4, 3, 0), (758, .iconst 0, 1, 0)]
set_option maxRecDepth 100000 in
theorem tk_L_law_723 : g_okT code tb_L_law_723 = true := by decide +kernel
set_option maxHeartbeats 4000000 in
set_option maxRecDepth 100000 in
theorem p_L_law_723 {l : Launch} {E : gE} {L : Nat} {xs : Nat → Int32} (J0 : J_L_law E l) (hXs : g_Xs E L xs) (hl : l.stackTraces = false) {ce0 sl0 : Nat} (hce : ce0 + 9 ≤ 601024) (hsl : sl0 + 11264 ≤ 7293034) {k23 : Int32 → Nat → (Nat → Int32) → gS → gM → gN → Option (Int32 × gS × gM × gN)} (H23 : ∀ (x4 : Int32) (σ : gS) (M : gM) (N : gN) (_ : g_layL σ), g_H E (ce0 + 9) (sl0 + 11264) 23 [(0, vE 300), (1, vR 1), (2, vR 40), (3, vR 39), (4, vI x4)] [] (σ, M, N) (k23 x4 L xs σ M N) eISMN) (x4 : Int32) (sx0 : Int32) (sx1 : Int32) (sx2 : Int32) (σ : gS) (M : gM) (N : gN) (hL : g_layL σ) : g_H E ce0 sl0 723 [(0, vE 300), (1, vR 1), (2, vR 40), (3, vR 39), (4, vI x4)] [vI sx0, vI sx1, vI sx2, vR 1] (σ, M, N) (b_L_law_723 k23 x4 sx0 sx1 sx2 L xs σ M N) eISMN := by
  have J := g_J.tab J0 tk_L_law_723
  unfold b_L_law_723
  refine r_run J 4 (pc' := 728) (lv' := [(0, vE 300), (1, vR 1), (2, vR 40), (3, vR 39), (4, vI x4)]) (st' := [vI (x4 + (4 : Int32)), vE 300, vI sx0, vI sx1, vI sx2, vR 1]) rfl ?_
  refine r_xld J hXs rfl (fun i728 => ?_)
  show g_H E ce0 sl0 729 [(0, vE 300), (1, vR 1), (2, vR 40), (3, vR 39), (4, vI x4)] [vI (xs (x4 + (4 : Int32)).toNatClampNeg), vI sx0, vI sx1, vI sx2, vR 1] (σ, M, N) _ _
  refine r_callV J (As := [vI sx2, vI sx1, vI sx0, vI (xs (x4 + (4 : Int32)).toNatClampNeg)]) (st := []) (fun r hr => c_X11_room sx2 sx1 sx0 (xs (x4 + (4 : Int32)).toNatClampNeg) σ M N (hL).1 r hr) cls11 (ly_1 (hL).1) wm_L_66 wy_X11_room wd_X11_room ⟨by decide, by decide, by omega, by omega, Nat.le_of_ble_eq_true rfl⟩ rfl rfl (fun q729 hq729 => ?_)
  show g_H E (ce0 + 1) (sl0 + 4) 732 [(0, vE 300), (1, vR 1), (2, vR 40), (3, vR 39), (4, vI x4)] [vI q729.1] (q729.2.1, q729.2.2.1, q729.2.2.2) _ _
  refine r_chk (fun hl732 => ?_)
  refine r_run J 5 (pc' := 738) (lv' := [(0, vE 300), (1, vR 1), (2, vR 40), (3, vR 39), (4, vI x4)]) (st' := [vI (x4 + (1 : Int32)), vE 300, vR 40, vI q729.1]) rfl ?_
  refine r_xld J hXs rfl (fun i738 => ?_)
  show g_H E (ce0 + 1) (sl0 + 4) 739 [(0, vE 300), (1, vR 1), (2, vR 40), (3, vR 39), (4, vI x4)] [vI (xs (x4 + (1 : Int32)).toNatClampNeg), vR 40, vI q729.1] (q729.2.1, q729.2.2.1, q729.2.2.2) _ _
  refine r_run J 4 (pc' := 744) (lv' := [(0, vE 300), (1, vR 1), (2, vR 40), (3, vR 39), (4, vI x4)]) (st' := [vI (x4 + (2 : Int32)), vE 300, vI (xs (x4 + (1 : Int32)).toNatClampNeg), vR 40, vI q729.1]) rfl ?_
  refine r_xld J hXs rfl (fun i744 => ?_)
  show g_H E (ce0 + 1) (sl0 + 4) 745 [(0, vE 300), (1, vR 1), (2, vR 40), (3, vR 39), (4, vI x4)] [vI (xs (x4 + (2 : Int32)).toNatClampNeg), vI (xs (x4 + (1 : Int32)).toNatClampNeg), vR 40, vI q729.1] (q729.2.1, q729.2.2.1, q729.2.2.2) _ _
  refine r_run J 4 (pc' := 750) (lv' := [(0, vE 300), (1, vR 1), (2, vR 40), (3, vR 39), (4, vI x4)]) (st' := [vI (x4 + (3 : Int32)), vE 300, vI (xs (x4 + (2 : Int32)).toNatClampNeg), vI (xs (x4 + (1 : Int32)).toNatClampNeg), vR 40, vI q729.1]) rfl ?_
  refine r_xld J hXs rfl (fun i750 => ?_)
  show g_H E (ce0 + 1) (sl0 + 4) 751 [(0, vE 300), (1, vR 1), (2, vR 40), (3, vR 39), (4, vI x4)] [vI (xs (x4 + (3 : Int32)).toNatClampNeg), vI (xs (x4 + (2 : Int32)).toNatClampNeg), vI (xs (x4 + (1 : Int32)).toNatClampNeg), vR 40, vI q729.1] (q729.2.1, q729.2.2.1, q729.2.2.2) _ _
  refine r_if_eq J (tgt := 758) rfl (by decide) (fun c751 => ?_) (fun c751 => ?_)
  · refine r_run J 1 (pc' := 759) (lv' := [(0, vE 300), (1, vR 1), (2, vR 40), (3, vR 39), (4, vI x4)]) (st' := [vI 0, vI (xs (x4 + (2 : Int32)).toNatClampNeg), vI (xs (x4 + (1 : Int32)).toNatClampNeg), vR 40, vI q729.1]) rfl ?_
    exact p_L_law_759 J0 hXs hl hce hsl H23 x4 0 (xs (x4 + (2 : Int32)).toNatClampNeg) (xs (x4 + (1 : Int32)).toNatClampNeg) q729.1 q729.2.1 q729.2.2.1 q729.2.2.2 (g_layL.of hl732)
  · refine r_run J 2 (pc' := 759) (lv' := [(0, vE 300), (1, vR 1), (2, vR 40), (3, vR 39), (4, vI x4)]) (st' := [vI 1, vI (xs (x4 + (2 : Int32)).toNatClampNeg), vI (xs (x4 + (1 : Int32)).toNatClampNeg), vR 40, vI q729.1]) rfl ?_
    exact p_L_law_759 J0 hXs hl hce hsl H23 x4 1 (xs (x4 + (2 : Int32)).toNatClampNeg) (xs (x4 + (1 : Int32)).toNatClampNeg) q729.1 q729.2.1 q729.2.2.1 q729.2.2.2 (g_layL.of hl732)
def tb_L_law_696 : gT := [(696, .aload_n 1, 1, 0), (697, .aload_n 0, 1, 0), (698, .iload 4, 2, 0), (700, .iconst 1, 1, 1), (701, .iadd, 1, 0), (702, .iaload, 1, 0), (703, .aload_n 0, 1, 0), (704, .iload 4, 2, 0), (706, .iconst 2, 1, 2), (707, .iadd, 1, 0), (708, .iaload, 1, 0), (709, .aload_n 0, 1, 0), (710, .iload 4, 2, 0), (712, .iconst 3, 1, 3), (713, .iadd, 1, 0), (714, .iaload, 1, 0), (715, .ifCond .eq 7, 3, 0), (718, .iconst 1, 1, 1), (719, .goto 4, 3, 0), (722, .iconst 0, 1, 0)]
set_option maxRecDepth 100000 in
theorem tk_L_law_696 : g_okT code tb_L_law_696 = true := by decide +kernel
set_option maxHeartbeats 4000000 in
set_option maxRecDepth 100000 in
theorem p_L_law_696 {l : Launch} {E : gE} {L : Nat} {xs : Nat → Int32} (J0 : J_L_law E l) (hXs : g_Xs E L xs) (hl : l.stackTraces = false) {ce0 sl0 : Nat} (hce : ce0 + 9 ≤ 601024) (hsl : sl0 + 11264 ≤ 7293034) {k23 : Int32 → Nat → (Nat → Int32) → gS → gM → gN → Option (Int32 × gS × gM × gN)} (H23 : ∀ (x4 : Int32) (σ : gS) (M : gM) (N : gN) (_ : g_layL σ), g_H E (ce0 + 9) (sl0 + 11264) 23 [(0, vE 300), (1, vR 1), (2, vR 40), (3, vR 39), (4, vI x4)] [] (σ, M, N) (k23 x4 L xs σ M N) eISMN) (x4 : Int32) (σ : gS) (M : gM) (N : gN) (hL : g_layL σ) : g_H E ce0 sl0 696 [(0, vE 300), (1, vR 1), (2, vR 40), (3, vR 39), (4, vI x4)] [] (σ, M, N) (b_L_law_696 k23 x4 L xs σ M N) eISMN := by
  have J := g_J.tab J0 tk_L_law_696
  unfold b_L_law_696
  refine r_run J 5 (pc' := 702) (lv' := [(0, vE 300), (1, vR 1), (2, vR 40), (3, vR 39), (4, vI x4)]) (st' := [vI (x4 + (1 : Int32)), vE 300, vR 1]) rfl ?_
  refine r_xld J hXs rfl (fun i702 => ?_)
  show g_H E ce0 sl0 703 [(0, vE 300), (1, vR 1), (2, vR 40), (3, vR 39), (4, vI x4)] [vI (xs (x4 + (1 : Int32)).toNatClampNeg), vR 1] (σ, M, N) _ _
  refine r_run J 4 (pc' := 708) (lv' := [(0, vE 300), (1, vR 1), (2, vR 40), (3, vR 39), (4, vI x4)]) (st' := [vI (x4 + (2 : Int32)), vE 300, vI (xs (x4 + (1 : Int32)).toNatClampNeg), vR 1]) rfl ?_
  refine r_xld J hXs rfl (fun i708 => ?_)
  show g_H E ce0 sl0 709 [(0, vE 300), (1, vR 1), (2, vR 40), (3, vR 39), (4, vI x4)] [vI (xs (x4 + (2 : Int32)).toNatClampNeg), vI (xs (x4 + (1 : Int32)).toNatClampNeg), vR 1] (σ, M, N) _ _
  refine r_run J 4 (pc' := 714) (lv' := [(0, vE 300), (1, vR 1), (2, vR 40), (3, vR 39), (4, vI x4)]) (st' := [vI (x4 + (3 : Int32)), vE 300, vI (xs (x4 + (2 : Int32)).toNatClampNeg), vI (xs (x4 + (1 : Int32)).toNatClampNeg), vR 1]) rfl ?_
  refine r_xld J hXs rfl (fun i714 => ?_)
  show g_H E ce0 sl0 715 [(0, vE 300), (1, vR 1), (2, vR 40), (3, vR 39), (4, vI x4)] [vI (xs (x4 + (3 : Int32)).toNatClampNeg), vI (xs (x4 + (2 : Int32)).toNatClampNeg), vI (xs (x4 + (1 : Int32)).toNatClampNeg), vR 1] (σ, M, N) _ _
  refine r_if_eq J (tgt := 722) rfl (by decide) (fun c715 => ?_) (fun c715 => ?_)
  · refine r_run J 1 (pc' := 723) (lv' := [(0, vE 300), (1, vR 1), (2, vR 40), (3, vR 39), (4, vI x4)]) (st' := [vI 0, vI (xs (x4 + (2 : Int32)).toNatClampNeg), vI (xs (x4 + (1 : Int32)).toNatClampNeg), vR 1]) rfl ?_
    exact p_L_law_723 J0 hXs hl hce hsl H23 x4 0 (xs (x4 + (2 : Int32)).toNatClampNeg) (xs (x4 + (1 : Int32)).toNatClampNeg) σ M N hL
  · refine r_run J 2 (pc' := 723) (lv' := [(0, vE 300), (1, vR 1), (2, vR 40), (3, vR 39), (4, vI x4)]) (st' := [vI 1, vI (xs (x4 + (2 : Int32)).toNatClampNeg), vI (xs (x4 + (1 : Int32)).toNatClampNeg), vR 1]) rfl ?_
    exact p_L_law_723 J0 hXs hl hce hsl H23 x4 1 (xs (x4 + (2 : Int32)).toNatClampNeg) (xs (x4 + (1 : Int32)).toNatClampNeg) σ M N hL
def tb_L_law_671 : gT := [(671, .aload_n 1, 1, 0), (672, .aload_n 0, 1, 0), (673, .iload 4, 2, 0), (675, .iconst 1, 1, 1), (676, .iadd, 1, 0), (677, .iaload, 1, 0), (678, .invokevirtual 62, 3, 0), (681, .aload_n 2, 1, 0), (682, .aload_n 0, 1, 0), (683, .iload 4, 2, 0), (685, .iconst 1, 1, 1), (686, .iadd, 1, 0), (687, .iaload, 1, 0), (688, .invokevirtual 65, 3, 0), (691, .if_icmp .eq 1217, 3, 0), (694, .iconst 0, 1, 0), (695, .ireturn, 1, 0)]
set_option maxRecDepth 100000 in
theorem tk_L_law_671 : g_okT code tb_L_law_671 = true := by decide +kernel
set_option maxHeartbeats 4000000 in
set_option maxRecDepth 100000 in
theorem p_L_law_671 {l : Launch} {E : gE} {L : Nat} {xs : Nat → Int32} (J0 : J_L_law E l) (hXs : g_Xs E L xs) (hl : l.stackTraces = false) {ce0 sl0 : Nat} (hce : ce0 + 9 ≤ 601024) (hsl : sl0 + 11264 ≤ 7293034) {k23 : Int32 → Nat → (Nat → Int32) → gS → gM → gN → Option (Int32 × gS × gM × gN)} (H23 : ∀ (x4 : Int32) (σ : gS) (M : gM) (N : gN) (_ : g_layL σ), g_H E (ce0 + 9) (sl0 + 11264) 23 [(0, vE 300), (1, vR 1), (2, vR 40), (3, vR 39), (4, vI x4)] [] (σ, M, N) (k23 x4 L xs σ M N) eISMN) (x4 : Int32) (σ : gS) (M : gM) (N : gN) (hL : g_layL σ) : g_H E ce0 sl0 671 [(0, vE 300), (1, vR 1), (2, vR 40), (3, vR 39), (4, vI x4)] [] (σ, M, N) (b_L_law_671 k23 x4 L xs σ M N) eISMN := by
  have J := g_J.tab J0 tk_L_law_671
  unfold b_L_law_671
  refine r_run J 5 (pc' := 677) (lv' := [(0, vE 300), (1, vR 1), (2, vR 40), (3, vR 39), (4, vI x4)]) (st' := [vI (x4 + (1 : Int32)), vE 300, vR 1]) rfl ?_
  refine r_xld J hXs rfl (fun i677 => ?_)
  show g_H E ce0 sl0 678 [(0, vE 300), (1, vR 1), (2, vR 40), (3, vR 39), (4, vI x4)] [vI (xs (x4 + (1 : Int32)).toNatClampNeg), vR 1] (σ, M, N) _ _
  refine r_callV J (As := [vI (xs (x4 + (1 : Int32)).toNatClampNeg)]) (st := []) (fun r hr => c_X11_day (xs (x4 + (1 : Int32)).toNatClampNeg) σ M N (hL).1 r hr) cls11 (ly_1 (hL).1) wm_L_62 wy_X11_day wd_X11_day ⟨by decide, by decide, by omega, by omega, Nat.le_of_ble_eq_true rfl⟩ rfl rfl (fun q678 hq678 => ?_)
  show g_H E ce0 sl0 681 [(0, vE 300), (1, vR 1), (2, vR 40), (3, vR 39), (4, vI x4)] [vI q678.1] (σ, q678.2, N) _ _
  refine r_run J 5 (pc' := 687) (lv' := [(0, vE 300), (1, vR 1), (2, vR 40), (3, vR 39), (4, vI x4)]) (st' := [vI (x4 + (1 : Int32)), vE 300, vR 40, vI q678.1]) rfl ?_
  refine r_xld J hXs rfl (fun i687 => ?_)
  show g_H E ce0 sl0 688 [(0, vE 300), (1, vR 1), (2, vR 40), (3, vR 39), (4, vI x4)] [vI (xs (x4 + (1 : Int32)).toNatClampNeg), vR 40, vI q678.1] (σ, q678.2, N) _ _
  refine r_callV J (As := [vI (xs (x4 + (1 : Int32)).toNatClampNeg)]) (st := [vI q678.1]) (fun r hr => c_X12_day (xs (x4 + (1 : Int32)).toNatClampNeg) σ q678.2 N (hL).2.1 r hr) cls12 (ly_40 (hL).2.1) wm_L_65 wy_X12_day wd_X12_day ⟨by decide, by decide, by omega, by omega, Nat.le_of_ble_eq_true rfl⟩ rfl rfl (fun q688 hq688 => ?_)
  show g_H E ce0 sl0 691 [(0, vE 300), (1, vR 1), (2, vR 40), (3, vR 39), (4, vI x4)] [vI q688.1, vI q678.1] (σ, q688.2, N) _ _
  refine r_icmp_eq J (tgt := 1908) rfl (by decide) (fun c691 => ?_) (fun c691 => ?_)
  · refine r_widen (ce' := (ce0 + 9)) (sl' := (sl0 + 11264)) (by omega) (by omega) ?_
    exact p_L_law_1908 J0 hXs hl hce hsl H23 x4 σ q688.2 N hL
  · refine r_run J 1 (pc' := 695) (lv' := [(0, vE 300), (1, vR 1), (2, vR 40), (3, vR 39), (4, vI x4)]) (st' := [vI 0]) rfl ?_
    exact r_iret J rfl rfl rfl rfl (by omega) (by omega)
def tb_L_law_646 : gT := [(646, .aload_n 1, 1, 0), (647, .aload_n 0, 1, 0), (648, .iload 4, 2, 0), (650, .iconst 1, 1, 1), (651, .iadd, 1, 0), (652, .iaload, 1, 0), (653, .invokevirtual 58, 3, 0), (656, .aload_n 2, 1, 0), (657, .aload_n 0, 1, 0), (658, .iload 4, 2, 0), (660, .iconst 1, 1, 1), (661, .iadd, 1, 0), (662, .iaload, 1, 0), (663, .invokevirtual 61, 3, 0), (666, .if_icmp .eq 1242, 3, 0), (669, .iconst 0, 1, 0), (670, .ireturn, 1, 0)]
set_option maxRecDepth 100000 in
theorem tk_L_law_646 : g_okT code tb_L_law_646 = true := by decide +kernel
set_option maxHeartbeats 4000000 in
set_option maxRecDepth 100000 in
theorem p_L_law_646 {l : Launch} {E : gE} {L : Nat} {xs : Nat → Int32} (J0 : J_L_law E l) (hXs : g_Xs E L xs) (hl : l.stackTraces = false) {ce0 sl0 : Nat} (hce : ce0 + 9 ≤ 601024) (hsl : sl0 + 11264 ≤ 7293034) {k23 : Int32 → Nat → (Nat → Int32) → gS → gM → gN → Option (Int32 × gS × gM × gN)} (H23 : ∀ (x4 : Int32) (σ : gS) (M : gM) (N : gN) (_ : g_layL σ), g_H E (ce0 + 9) (sl0 + 11264) 23 [(0, vE 300), (1, vR 1), (2, vR 40), (3, vR 39), (4, vI x4)] [] (σ, M, N) (k23 x4 L xs σ M N) eISMN) (x4 : Int32) (σ : gS) (M : gM) (N : gN) (hL : g_layL σ) : g_H E ce0 sl0 646 [(0, vE 300), (1, vR 1), (2, vR 40), (3, vR 39), (4, vI x4)] [] (σ, M, N) (b_L_law_646 k23 x4 L xs σ M N) eISMN := by
  have J := g_J.tab J0 tk_L_law_646
  unfold b_L_law_646
  refine r_run J 5 (pc' := 652) (lv' := [(0, vE 300), (1, vR 1), (2, vR 40), (3, vR 39), (4, vI x4)]) (st' := [vI (x4 + (1 : Int32)), vE 300, vR 1]) rfl ?_
  refine r_xld J hXs rfl (fun i652 => ?_)
  show g_H E ce0 sl0 653 [(0, vE 300), (1, vR 1), (2, vR 40), (3, vR 39), (4, vI x4)] [vI (xs (x4 + (1 : Int32)).toNatClampNeg), vR 1] (σ, M, N) _ _
  refine r_callV J (As := [vI (xs (x4 + (1 : Int32)).toNatClampNeg)]) (st := []) (fun r hr => c_X11_season (xs (x4 + (1 : Int32)).toNatClampNeg) σ M N (hL).1 r hr) cls11 (ly_1 (hL).1) wm_L_58 wy_X11_season wd_X11_season ⟨by decide, by decide, by omega, by omega, Nat.le_of_ble_eq_true rfl⟩ rfl rfl (fun q653 hq653 => ?_)
  show g_H E ce0 sl0 656 [(0, vE 300), (1, vR 1), (2, vR 40), (3, vR 39), (4, vI x4)] [vI q653.1] (σ, q653.2, N) _ _
  refine r_run J 5 (pc' := 662) (lv' := [(0, vE 300), (1, vR 1), (2, vR 40), (3, vR 39), (4, vI x4)]) (st' := [vI (x4 + (1 : Int32)), vE 300, vR 40, vI q653.1]) rfl ?_
  refine r_xld J hXs rfl (fun i662 => ?_)
  show g_H E ce0 sl0 663 [(0, vE 300), (1, vR 1), (2, vR 40), (3, vR 39), (4, vI x4)] [vI (xs (x4 + (1 : Int32)).toNatClampNeg), vR 40, vI q653.1] (σ, q653.2, N) _ _
  refine r_callV J (As := [vI (xs (x4 + (1 : Int32)).toNatClampNeg)]) (st := [vI q653.1]) (fun r hr => c_X12_season (xs (x4 + (1 : Int32)).toNatClampNeg) σ q653.2 N (hL).2.1 r hr) cls12 (ly_40 (hL).2.1) wm_L_61 wy_X12_season wd_X12_season ⟨by decide, by decide, by omega, by omega, Nat.le_of_ble_eq_true rfl⟩ rfl rfl (fun q663 hq663 => ?_)
  show g_H E ce0 sl0 666 [(0, vE 300), (1, vR 1), (2, vR 40), (3, vR 39), (4, vI x4)] [vI q663.1, vI q653.1] (σ, q663.2, N) _ _
  refine r_icmp_eq J (tgt := 1908) rfl (by decide) (fun c666 => ?_) (fun c666 => ?_)
  · refine r_widen (ce' := (ce0 + 9)) (sl' := (sl0 + 11264)) (by omega) (by omega) ?_
    exact p_L_law_1908 J0 hXs hl hce hsl H23 x4 σ q663.2 N hL
  · refine r_run J 1 (pc' := 670) (lv' := [(0, vE 300), (1, vR 1), (2, vR 40), (3, vR 39), (4, vI x4)]) (st' := [vI 0]) rfl ?_
    exact r_iret J rfl rfl rfl rfl (by omega) (by omega)
def tb_L_law_621 : gT := [(621, .aload_n 1, 1, 0), (622, .aload_n 0, 1, 0), (623, .iload 4, 2, 0), (625, .iconst 1, 1, 1), (626, .iadd, 1, 0), (627, .iaload, 1, 0), (628, .invokevirtual 54, 3, 0), (631, .aload_n 2, 1, 0), (632, .aload_n 0, 1, 0), (633, .iload 4, 2, 0), (635, .iconst 1, 1, 1), (636, .iadd, 1, 0), (637, .iaload, 1, 0), (638, .invokevirtual 57, 3, 0), (641, .if_icmp .eq 1267, 3, 0), (644, .iconst 0, 1, 0), (645, .ireturn, 1, 0)]
set_option maxRecDepth 100000 in
theorem tk_L_law_621 : g_okT code tb_L_law_621 = true := by decide +kernel
set_option maxHeartbeats 4000000 in
set_option maxRecDepth 100000 in
theorem p_L_law_621 {l : Launch} {E : gE} {L : Nat} {xs : Nat → Int32} (J0 : J_L_law E l) (hXs : g_Xs E L xs) (hl : l.stackTraces = false) {ce0 sl0 : Nat} (hce : ce0 + 9 ≤ 601024) (hsl : sl0 + 11264 ≤ 7293034) {k23 : Int32 → Nat → (Nat → Int32) → gS → gM → gN → Option (Int32 × gS × gM × gN)} (H23 : ∀ (x4 : Int32) (σ : gS) (M : gM) (N : gN) (_ : g_layL σ), g_H E (ce0 + 9) (sl0 + 11264) 23 [(0, vE 300), (1, vR 1), (2, vR 40), (3, vR 39), (4, vI x4)] [] (σ, M, N) (k23 x4 L xs σ M N) eISMN) (x4 : Int32) (σ : gS) (M : gM) (N : gN) (hL : g_layL σ) : g_H E ce0 sl0 621 [(0, vE 300), (1, vR 1), (2, vR 40), (3, vR 39), (4, vI x4)] [] (σ, M, N) (b_L_law_621 k23 x4 L xs σ M N) eISMN := by
  have J := g_J.tab J0 tk_L_law_621
  unfold b_L_law_621
  refine r_run J 5 (pc' := 627) (lv' := [(0, vE 300), (1, vR 1), (2, vR 40), (3, vR 39), (4, vI x4)]) (st' := [vI (x4 + (1 : Int32)), vE 300, vR 1]) rfl ?_
  refine r_xld J hXs rfl (fun i627 => ?_)
  show g_H E ce0 sl0 628 [(0, vE 300), (1, vR 1), (2, vR 40), (3, vR 39), (4, vI x4)] [vI (xs (x4 + (1 : Int32)).toNatClampNeg), vR 1] (σ, M, N) _ _
  refine r_callV J (As := [vI (xs (x4 + (1 : Int32)).toNatClampNeg)]) (st := []) (fun r hr => c_X11_start (xs (x4 + (1 : Int32)).toNatClampNeg) σ M N (hL).1 r hr) cls11 (ly_1 (hL).1) wm_L_54 wy_X11_start wd_X11_start ⟨by decide, by decide, by omega, by omega, Nat.le_of_ble_eq_true rfl⟩ rfl rfl (fun q628 hq628 => ?_)
  show g_H E ce0 sl0 631 [(0, vE 300), (1, vR 1), (2, vR 40), (3, vR 39), (4, vI x4)] [vI q628.1] (σ, q628.2, N) _ _
  refine r_run J 5 (pc' := 637) (lv' := [(0, vE 300), (1, vR 1), (2, vR 40), (3, vR 39), (4, vI x4)]) (st' := [vI (x4 + (1 : Int32)), vE 300, vR 40, vI q628.1]) rfl ?_
  refine r_xld J hXs rfl (fun i637 => ?_)
  show g_H E ce0 sl0 638 [(0, vE 300), (1, vR 1), (2, vR 40), (3, vR 39), (4, vI x4)] [vI (xs (x4 + (1 : Int32)).toNatClampNeg), vR 40, vI q628.1] (σ, q628.2, N) _ _
  refine r_callV J (As := [vI (xs (x4 + (1 : Int32)).toNatClampNeg)]) (st := [vI q628.1]) (fun r hr => c_X12_start (xs (x4 + (1 : Int32)).toNatClampNeg) σ q628.2 N (hL).2.1 r hr) cls12 (ly_40 (hL).2.1) wm_L_57 wy_X12_start wd_X12_start ⟨by decide, by decide, by omega, by omega, Nat.le_of_ble_eq_true rfl⟩ rfl rfl (fun q638 hq638 => ?_)
  show g_H E ce0 sl0 641 [(0, vE 300), (1, vR 1), (2, vR 40), (3, vR 39), (4, vI x4)] [vI q638.1, vI q628.1] (σ, q638.2, N) _ _
  refine r_icmp_eq J (tgt := 1908) rfl (by decide) (fun c641 => ?_) (fun c641 => ?_)
  · refine r_widen (ce' := (ce0 + 9)) (sl' := (sl0 + 11264)) (by omega) (by omega) ?_
    exact p_L_law_1908 J0 hXs hl hce hsl H23 x4 σ q638.2 N hL
  · refine r_run J 1 (pc' := 645) (lv' := [(0, vE 300), (1, vR 1), (2, vR 40), (3, vR 39), (4, vI x4)]) (st' := [vI 0]) rfl ?_
    exact r_iret J rfl rfl rfl rfl (by omega) (by omega)
def tb_L_law_596 : gT := [(596, .aload_n 1, 1, 0), (597, .aload_n 0, 1, 0), (598, .iload 4, 2, 0), (600, .iconst 1, 1, 1), (601, .iadd, 1, 0), (602, .iaload, 1, 0), (603, .invokevirtual 50, 3, 0), (606, .aload_n 2, 1, 0), (607, .aload_n 0, 1, 0), (608, .iload 4, 2, 0), (610, .iconst 1, 1, 1), (611, .iadd, 1, 0), (612, .iaload, 1, 0), (613, .invokevirtual 53, 3, 0), (616, .if_icmp .eq 1292, 3, 0), (619, .iconst 0, 1, 0), (620, .ireturn, 1, 0)]
set_option maxRecDepth 100000 in
theorem tk_L_law_596 : g_okT code tb_L_law_596 = true := by decide +kernel
set_option maxHeartbeats 4000000 in
set_option maxRecDepth 100000 in
theorem p_L_law_596 {l : Launch} {E : gE} {L : Nat} {xs : Nat → Int32} (J0 : J_L_law E l) (hXs : g_Xs E L xs) (hl : l.stackTraces = false) {ce0 sl0 : Nat} (hce : ce0 + 9 ≤ 601024) (hsl : sl0 + 11264 ≤ 7293034) {k23 : Int32 → Nat → (Nat → Int32) → gS → gM → gN → Option (Int32 × gS × gM × gN)} (H23 : ∀ (x4 : Int32) (σ : gS) (M : gM) (N : gN) (_ : g_layL σ), g_H E (ce0 + 9) (sl0 + 11264) 23 [(0, vE 300), (1, vR 1), (2, vR 40), (3, vR 39), (4, vI x4)] [] (σ, M, N) (k23 x4 L xs σ M N) eISMN) (x4 : Int32) (σ : gS) (M : gM) (N : gN) (hL : g_layL σ) : g_H E ce0 sl0 596 [(0, vE 300), (1, vR 1), (2, vR 40), (3, vR 39), (4, vI x4)] [] (σ, M, N) (b_L_law_596 k23 x4 L xs σ M N) eISMN := by
  have J := g_J.tab J0 tk_L_law_596
  unfold b_L_law_596
  refine r_run J 5 (pc' := 602) (lv' := [(0, vE 300), (1, vR 1), (2, vR 40), (3, vR 39), (4, vI x4)]) (st' := [vI (x4 + (1 : Int32)), vE 300, vR 1]) rfl ?_
  refine r_xld J hXs rfl (fun i602 => ?_)
  show g_H E ce0 sl0 603 [(0, vE 300), (1, vR 1), (2, vR 40), (3, vR 39), (4, vI x4)] [vI (xs (x4 + (1 : Int32)).toNatClampNeg), vR 1] (σ, M, N) _ _
  refine r_callV J (As := [vI (xs (x4 + (1 : Int32)).toNatClampNeg)]) (st := []) (fun r hr => c_X11_town (xs (x4 + (1 : Int32)).toNatClampNeg) σ M N (hL).1 r hr) cls11 (ly_1 (hL).1) wm_L_50 wy_X11_town wd_X11_town ⟨by decide, by decide, by omega, by omega, Nat.le_of_ble_eq_true rfl⟩ rfl rfl (fun q603 hq603 => ?_)
  show g_H E (ce0 + 9) (sl0 + 106) 606 [(0, vE 300), (1, vR 1), (2, vR 40), (3, vR 39), (4, vI x4)] [vI q603.1] (q603.2.1, q603.2.2.1, q603.2.2.2) _ _
  refine r_chk (fun hl606 => ?_)
  refine r_run J 5 (pc' := 612) (lv' := [(0, vE 300), (1, vR 1), (2, vR 40), (3, vR 39), (4, vI x4)]) (st' := [vI (x4 + (1 : Int32)), vE 300, vR 40, vI q603.1]) rfl ?_
  refine r_xld J hXs rfl (fun i612 => ?_)
  show g_H E (ce0 + 9) (sl0 + 106) 613 [(0, vE 300), (1, vR 1), (2, vR 40), (3, vR 39), (4, vI x4)] [vI (xs (x4 + (1 : Int32)).toNatClampNeg), vR 40, vI q603.1] (q603.2.1, q603.2.2.1, q603.2.2.2) _ _
  refine r_callV J (As := [vI (xs (x4 + (1 : Int32)).toNatClampNeg)]) (st := [vI q603.1]) (fun r hr => c_X12_town (xs (x4 + (1 : Int32)).toNatClampNeg) q603.2.1 q603.2.2.1 q603.2.2.2 ((g_layL.of hl606)).2.1 r hr) cls12 (ly_40 ((g_layL.of hl606)).2.1) wm_L_53 wy_X12_town wd_X12_town ⟨by decide, by decide, by omega, by omega, Nat.le_of_ble_eq_true rfl⟩ rfl rfl (fun q613 hq613 => ?_)
  show g_H E (ce0 + 9) (sl0 + 106) 616 [(0, vE 300), (1, vR 1), (2, vR 40), (3, vR 39), (4, vI x4)] [vI q613.1, vI q603.1] (q603.2.1, q613.2, q603.2.2.2) _ _
  refine r_icmp_eq J (tgt := 1908) rfl (by decide) (fun c616 => ?_) (fun c616 => ?_)
  · refine r_widen (ce' := (ce0 + 9)) (sl' := (sl0 + 11264)) (by omega) (by omega) ?_
    exact p_L_law_1908 J0 hXs hl hce hsl H23 x4 q603.2.1 q613.2 q603.2.2.2 (g_layL.of hl606)
  · refine r_run J 1 (pc' := 620) (lv' := [(0, vE 300), (1, vR 1), (2, vR 40), (3, vR 39), (4, vI x4)]) (st' := [vI 0]) rfl ?_
    exact r_iret J rfl rfl rfl rfl (by omega) (by omega)
def tb_L_law_588 : gT := [(588, .invokevirtual 49, 3, 0), (591, .if_icmp .eq 1317, 3, 0), (594, .iconst 0, 1, 0), (595, .ireturn, 1, 0)]
set_option maxRecDepth 100000 in
theorem tk_L_law_588 : g_okT code tb_L_law_588 = true := by decide +kernel
set_option maxHeartbeats 4000000 in
set_option maxRecDepth 100000 in
theorem p_L_law_588 {l : Launch} {E : gE} {L : Nat} {xs : Nat → Int32} (J0 : J_L_law E l) (hXs : g_Xs E L xs) (hl : l.stackTraces = false) {ce0 sl0 : Nat} (hce : ce0 + 9 ≤ 601024) (hsl : sl0 + 11264 ≤ 7293034) {k23 : Int32 → Nat → (Nat → Int32) → gS → gM → gN → Option (Int32 × gS × gM × gN)} (H23 : ∀ (x4 : Int32) (σ : gS) (M : gM) (N : gN) (_ : g_layL σ), g_H E (ce0 + 9) (sl0 + 11264) 23 [(0, vE 300), (1, vR 1), (2, vR 40), (3, vR 39), (4, vI x4)] [] (σ, M, N) (k23 x4 L xs σ M N) eISMN) (x4 : Int32) (sx0 : Int32) (sx1 : Int32) (sx2 : Int32) (sx4 : Int32) (σ : gS) (M : gM) (N : gN) (hL : g_layL σ) : g_H E ce0 sl0 588 [(0, vE 300), (1, vR 1), (2, vR 40), (3, vR 39), (4, vI x4)] [vI sx0, vI sx1, vI sx2, vR 40, vI sx4] (σ, M, N) (b_L_law_588 k23 x4 sx0 sx1 sx2 sx4 L xs σ M N) eISMN := by
  have J := g_J.tab J0 tk_L_law_588
  unfold b_L_law_588
  refine r_callV J (As := [vI sx2, vI sx1, vI sx0]) (st := [vI sx4]) (fun r hr => c_X12_absent sx2 sx1 sx0 σ M N (hL).2.1 r hr) cls12 (ly_40 (hL).2.1) wm_L_49 wy_X12_absent wd_X12_absent ⟨by decide, by decide, by omega, by omega, Nat.le_of_ble_eq_true rfl⟩ rfl rfl (fun q588 hq588 => ?_)
  show g_H E ce0 sl0 591 [(0, vE 300), (1, vR 1), (2, vR 40), (3, vR 39), (4, vI x4)] [vI q588.1, vI sx4] (σ, q588.2, N) _ _
  refine r_icmp_eq J (tgt := 1908) rfl (by decide) (fun c591 => ?_) (fun c591 => ?_)
  · refine r_widen (ce' := (ce0 + 9)) (sl' := (sl0 + 11264)) (by omega) (by omega) ?_
    exact p_L_law_1908 J0 hXs hl hce hsl H23 x4 σ q588.2 N hL
  · refine r_run J 1 (pc' := 595) (lv' := [(0, vE 300), (1, vR 1), (2, vR 40), (3, vR 39), (4, vI x4)]) (st' := [vI 0]) rfl ?_
    exact r_iret J rfl rfl rfl rfl (by omega) (by omega)
