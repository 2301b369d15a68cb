def tb_L_law_1908 : gT := [(1908, .iinc 4 7, 3, 7), (1911, .goto (-1888), 3, 0)]
set_option maxRecDepth 100000 in
theorem tk_L_law_1908 : g_okT code tb_L_law_1908 = true := by decide +kernel
set_option maxHeartbeats 4000000 in
set_option maxRecDepth 100000 in
theorem p_L_law_1908 {l : Launch} {E : gE} {L : Nat} {xs : Nat → Int32} (J0 : J_L_law E l) (hXs : g_Xs E L xs) (hl : l.stackTraces = false) {ce0 sl0 : Nat} (hce : ce0 + 9 ≤ 601024) (hsl : sl0 + 11264 ≤ 7293034) {k23 : Int32 → Nat → (Nat → Int32) → gS → gM → gN → Option (Int32 × gS × gM × gN)} (H23 : ∀ (x4 : Int32) (σ : gS) (M : gM) (N : gN) (_ : g_layL σ), g_H E (ce0 + 9) (sl0 + 11264) 23 [(0, vE 300), (1, vR 1), (2, vR 40), (3, vR 39), (4, vI x4)] [] (σ, M, N) (k23 x4 L xs σ M N) eISMN) (x4 : Int32) (σ : gS) (M : gM) (N : gN) (hL : g_layL σ) : g_H E (ce0 + 9) (sl0 + 11264) 1908 [(0, vE 300), (1, vR 1), (2, vR 40), (3, vR 39), (4, vI x4)] [] (σ, M, N) (b_L_law_1908 k23 x4 L xs σ M N) eISMN := by
  have J := g_J.tab J0 tk_L_law_1908
  unfold b_L_law_1908
  refine r_run J 2 (pc' := 23) (lv' := [(4, vI (x4 + 7)), (0, vE 300), (1, vR 1), (2, vR 40), (3, vR 39)]) (st' := []) rfl ?_
  refine r_sub [1, 2, 3, 4, 0] (lv' := [(0, vE 300), (1, vR 1), (2, vR 40), (3, vR 39), (4, vI (x4 + 7))]) rfl ?_
  exact H23 (x4 + 7) σ M N hL
def tb_L_law_1883 : gT := [(1883, .aload_n 1, 1, 0), (1884, .aload_n 0, 1, 0), (1885, .iload 4, 2, 0), (1887, .iconst 1, 1, 1), (1888, .iadd, 1, 0), (1889, .iaload, 1, 0), (1890, .invokevirtual 186, 3, 0), (1893, .aload_n 2, 1, 0), (1894, .aload_n 0, 1, 0), (1895, .iload 4, 2, 0), (1897, .iconst 1, 1, 1), (1898, .iadd, 1, 0), (1899, .iaload, 1, 0), (1900, .invokevirtual 189, 3, 0), (1903, .if_icmp .eq 5, 3, 0), (1906, .iconst 0, 1, 0), (1907, .ireturn, 1, 0)]
set_option maxRecDepth 100000 in
theorem tk_L_law_1883 : g_okT code tb_L_law_1883 = true := by decide +kernel
set_option maxHeartbeats 4000000 in
set_option maxRecDepth 100000 in
theorem p_L_law_1883 {l : Launch} {E : gE} {L : Nat} {xs : Nat → Int32} (J0 : J_L_law E l) (hXs : g_Xs E L xs) (hl : l.stackTraces = false) {ce0 sl0 : Nat} (hce : ce0 + 9 ≤ 601024) (hsl : sl0 + 11264 ≤ 7293034) {k23 : Int32 → Nat → (Nat → Int32) → gS → gM → gN → Option (Int32 × gS × gM × gN)} (H23 : ∀ (x4 : Int32) (σ : gS) (M : gM) (N : gN) (_ : g_layL σ), g_H E (ce0 + 9) (sl0 + 11264) 23 [(0, vE 300), (1, vR 1), (2, vR 40), (3, vR 39), (4, vI x4)] [] (σ, M, N) (k23 x4 L xs σ M N) eISMN) (x4 : Int32) (σ : gS) (M : gM) (N : gN) (hL : g_layL σ) : g_H E ce0 sl0 1883 [(0, vE 300), (1, vR 1), (2, vR 40), (3, vR 39), (4, vI x4)] [] (σ, M, N) (b_L_law_1883 k23 x4 L xs σ M N) eISMN := by
  have J := g_J.tab J0 tk_L_law_1883
  unfold b_L_law_1883
  refine r_run J 5 (pc' := 1889) (lv' := [(0, vE 300), (1, vR 1), (2, vR 40), (3, vR 39), (4, vI x4)]) (st' := [vI (x4 + (1 : Int32)), vE 300, vR 1]) rfl ?_
  refine r_xld J hXs rfl (fun i1889 => ?_)
  show g_H E ce0 sl0 1890 [(0, vE 300), (1, vR 1), (2, vR 40), (3, vR 39), (4, vI x4)] [vI (xs (x4 + (1 : Int32)).toNatClampNeg), vR 1] (σ, M, N) _ _
  refine r_callV J (As := [vI (xs (x4 + (1 : Int32)).toNatClampNeg)]) (st := []) (fun r hr => c_X11_count (xs (x4 + (1 : Int32)).toNatClampNeg) σ M N (hL).1 r hr) cls11 (ly_1 (hL).1) wm_L_186 wy_X11_count wd_X11_count ⟨by decide, by decide, by omega, by omega, Nat.le_of_ble_eq_true rfl⟩ rfl rfl (fun q1890 hq1890 => ?_)
  show g_H E ce0 sl0 1893 [(0, vE 300), (1, vR 1), (2, vR 40), (3, vR 39), (4, vI x4)] [vI q1890] (σ, M, N) _ _
  refine r_run J 5 (pc' := 1899) (lv' := [(0, vE 300), (1, vR 1), (2, vR 40), (3, vR 39), (4, vI x4)]) (st' := [vI (x4 + (1 : Int32)), vE 300, vR 40, vI q1890]) rfl ?_
  refine r_xld J hXs rfl (fun i1899 => ?_)
  show g_H E ce0 sl0 1900 [(0, vE 300), (1, vR 1), (2, vR 40), (3, vR 39), (4, vI x4)] [vI (xs (x4 + (1 : Int32)).toNatClampNeg), vR 40, vI q1890] (σ, M, N) _ _
  refine r_callV J (As := [vI (xs (x4 + (1 : Int32)).toNatClampNeg)]) (st := [vI q1890]) (fun r hr => c_X12_count (xs (x4 + (1 : Int32)).toNatClampNeg) σ M N (hL).2.1 r hr) cls12 (ly_40 (hL).2.1) wm_L_189 wy_X12_count wd_X12_count ⟨by decide, by decide, by omega, by omega, Nat.le_of_ble_eq_true rfl⟩ rfl rfl (fun q1900 hq1900 => ?_)
  show g_H E ce0 sl0 1903 [(0, vE 300), (1, vR 1), (2, vR 40), (3, vR 39), (4, vI x4)] [vI q1900, vI q1890] (σ, M, N) _ _
  refine r_icmp_eq J (tgt := 1908) rfl (by decide) (fun c1903 => ?_) (fun c1903 => ?_)
  · refine r_widen (ce' := (ce0 + 9)) (sl' := (sl0 + 11264)) (by omega) (by omega) ?_
    exact p_L_law_1908 J0 hXs hl hce hsl H23 x4 σ M N hL
  · refine r_run J 1 (pc' := 1907) (lv' := [(0, vE 300), (1, vR 1), (2, vR 40), (3, vR 39), (4, vI x4)]) (st' := [vI 0]) rfl ?_
    exact r_iret J rfl rfl rfl rfl (by omega) (by omega)
def tb_L_law_1846 : gT := [(1846, .aload_n 1, 1, 0), (1847, .aload_n 0, 1, 0), (1848, .iload 4, 2, 0), (1850, .iconst 1, 1, 1), (1851, .iadd, 1, 0), (1852, .iaload, 1, 0), (1853, .aload_n 0, 1, 0), (1854, .iload 4, 2, 0), (1856, .iconst 2, 1, 2), (1857, .iadd, 1, 0), (1858, .iaload, 1, 0), (1859, .invokevirtual 182, 3, 0), (1862, .aload_n 2, 1, 0), (1863, .aload_n 0, 1, 0), (1864, .iload 4, 2, 0), (1866, .iconst 1, 1, 1), (1867, .iadd, 1, 0), (1868, .iaload, 1, 0), (1869, .aload_n 0, 1, 0), (1870, .iload 4, 2, 0), (1872, .iconst 2, 1, 2), (1873, .iadd, 1, 0), (1874, .iaload, 1, 0), (1875, .invokevirtual 185, 3, 0), (1878, .if_icmp .eq 30, 3, 0), (1881, .iconst 0, 1, 0), (1882, .ireturn, 1, 0)]
set_option maxRecDepth 100000 in
theorem tk_L_law_1846 : g_okT code tb_L_law_1846 = true := by decide +kernel
set_option maxHeartbeats 4000000 in
set_option maxRecDepth 100000 in
theorem p_L_law_1846 {l : Launch} {E : gE} {L : Nat} {xs : Nat → Int32} (J0 : J_L_law E l) (hXs : g_Xs E L xs) (hl : l.stackTraces = false) {ce0 sl0 : Nat} (hce : ce0 + 9 ≤ 601024) (hsl : sl0 + 11264 ≤ 7293034) {k23 : Int32 → Nat → (Nat → Int32) → gS → gM → gN → Option (Int32 × gS × gM × gN)} (H23 : ∀ (x4 : Int32) (σ : gS) (M : gM) (N : gN) (_ : g_layL σ), g_H E (ce0 + 9) (sl0 + 11264) 23 [(0, vE 300), (1, vR 1), (2, vR 40), (3, vR 39), (4, vI x4)] [] (σ, M, N) (k23 x4 L xs σ M N) eISMN) (x4 : Int32) (σ : gS) (M : gM) (N : gN) (hL : g_layL σ) : g_H E ce0 sl0 1846 [(0, vE 300), (1, vR 1), (2, vR 40), (3, vR 39), (4, vI x4)] [] (σ, M, N) (b_L_law_1846 k23 x4 L xs σ M N) eISMN := by
  have J := g_J.tab J0 tk_L_law_1846
  unfold b_L_law_1846
  refine r_run J 5 (pc' := 1852) (lv' := [(0, vE 300), (1, vR 1), (2, vR 40), (3, vR 39), (4, vI x4)]) (st' := [vI (x4 + (1 : Int32)), vE 300, vR 1]) rfl ?_
  refine r_xld J hXs rfl (fun i1852 => ?_)
  show g_H E ce0 sl0 1853 [(0, vE 300), (1, vR 1), (2, vR 40), (3, vR 39), (4, vI x4)] [vI (xs (x4 + (1 : Int32)).toNatClampNeg), vR 1] (σ, M, N) _ _
  refine r_run J 4 (pc' := 1858) (lv' := [(0, vE 300), (1, vR 1), (2, vR 40), (3, vR 39), (4, vI x4)]) (st' := [vI (x4 + (2 : Int32)), vE 300, vI (xs (x4 + (1 : Int32)).toNatClampNeg), vR 1]) rfl ?_
  refine r_xld J hXs rfl (fun i1858 => ?_)
  show g_H E ce0 sl0 1859 [(0, vE 300), (1, vR 1), (2, vR 40), (3, vR 39), (4, vI x4)] [vI (xs (x4 + (2 : Int32)).toNatClampNeg), vI (xs (x4 + (1 : Int32)).toNatClampNeg), vR 1] (σ, M, N) _ _
  refine r_callV J (As := [vI (xs (x4 + (1 : Int32)).toNatClampNeg), vI (xs (x4 + (2 : Int32)).toNatClampNeg)]) (st := []) (fun r hr => c_X11_personOf (xs (x4 + (1 : Int32)).toNatClampNeg) (xs (x4 + (2 : Int32)).toNatClampNeg) σ M N (hL).1 r hr) cls11 (ly_1 (hL).1) wm_L_182 wy_X11_personOf wd_X11_personOf ⟨by decide, by decide, by omega, by omega, Nat.le_of_ble_eq_true rfl⟩ rfl rfl (fun q1859 hq1859 => ?_)
  show g_H E ce0 sl0 1862 [(0, vE 300), (1, vR 1), (2, vR 40), (3, vR 39), (4, vI x4)] [vI q1859] (σ, M, N) _ _
  refine r_run J 5 (pc' := 1868) (lv' := [(0, vE 300), (1, vR 1), (2, vR 40), (3, vR 39), (4, vI x4)]) (st' := [vI (x4 + (1 : Int32)), vE 300, vR 40, vI q1859]) rfl ?_
  refine r_xld J hXs rfl (fun i1868 => ?_)
  show g_H E ce0 sl0 1869 [(0, vE 300), (1, vR 1), (2, vR 40), (3, vR 39), (4, vI x4)] [vI (xs (x4 + (1 : Int32)).toNatClampNeg), vR 40, vI q1859] (σ, M, N) _ _
  refine r_run J 4 (pc' := 1874) (lv' := [(0, vE 300), (1, vR 1), (2, vR 40), (3, vR 39), (4, vI x4)]) (st' := [vI (x4 + (2 : Int32)), vE 300, vI (xs (x4 + (1 : Int32)).toNatClampNeg), vR 40, vI q1859]) rfl ?_
  refine r_xld J hXs rfl (fun i1874 => ?_)
  show g_H E ce0 sl0 1875 [(0, vE 300), (1, vR 1), (2, vR 40), (3, vR 39), (4, vI x4)] [vI (xs (x4 + (2 : Int32)).toNatClampNeg), vI (xs (x4 + (1 : Int32)).toNatClampNeg), vR 40, vI q1859] (σ, M, N) _ _
  refine r_callV J (As := [vI (xs (x4 + (1 : Int32)).toNatClampNeg), vI (xs (x4 + (2 : Int32)).toNatClampNeg)]) (st := [vI q1859]) (fun r hr => c_X12_personOf (xs (x4 + (1 : Int32)).toNatClampNeg) (xs (x4 + (2 : Int32)).toNatClampNeg) σ M N (hL).2.1 r hr) cls12 (ly_40 (hL).2.1) wm_L_185 wy_X12_personOf wd_X12_personOf ⟨by decide, by decide, by omega, by omega, Nat.le_of_ble_eq_true rfl⟩ rfl rfl (fun q1875 hq1875 => ?_)
  show g_H E ce0 sl0 1878 [(0, vE 300), (1, vR 1), (2, vR 40), (3, vR 39), (4, vI x4)] [vI q1875, vI q1859] (σ, M, N) _ _
  refine r_icmp_eq J (tgt := 1908) rfl (by decide) (fun c1878 => ?_) (fun c1878 => ?_)
  · refine r_widen (ce' := (ce0 + 9)) (sl' := (sl0 + 11264)) (by omega) (by omega) ?_
    exact p_L_law_1908 J0 hXs hl hce hsl H23 x4 σ M N hL
  · refine r_run J 1 (pc' := 1882) (lv' := [(0, vE 300), (1, vR 1), (2, vR 40), (3, vR 39), (4, vI x4)]) (st' := [vI 0]) rfl ?_
    exact r_iret J rfl rfl rfl rfl (by omega) (by omega)
def tb_L_law_1797 : gT := [(1797, .aload_n 1, 1, 0), (1798, .aload_n 0, 1, 0), (1799, .iload 4, 2, 0), (1801, .iconst 1, 1, 1), (1802, .iadd, 1, 0), (1803, .iaload, 1, 0), (1804, .aload_n 0, 1, 0), (1805, .iload 4, 2, 0), (1807, .iconst 2, 1, 2), (1808, .iadd, 1, 0), (1809, .iaload, 1, 0), (1810, .aload_n 0, 1, 0), (1811, .iload 4, 2, 0), (1813, .iconst 3, 1, 3), (1814, .iadd, 1, 0), (1815, .iaload, 1, 0), (1816, .invokevirtual 178, 3, 0), (1819, .aload_n 2, 1, 0), (1820, .aload_n 0, 1, 0), (1821, .iload 4, 2, 0), (1823, .iconst 1, 1, 1), (1824, .iadd, 1, 0), (1825, .iaload, 1, 0), (1826, .aload_n 0, 1, 0), (1827, .iload 4, 2, 0), (1829, .iconst 2, 1, 2), (1830, .iadd, 1, 0), (1831, .iaload, 1, 0), (1832, .aload_n 0, 1, 0), (1833, .iload 4, 2, 0), (1835, .iconst 3, 1, 3), (1836, .iadd, 1, 0), (1837, .iaload, 1, 0), (1838, .invokevirtual 181, 3, 0), (1841, .if_icmp .eq 67, 3, 0), (1844, .iconst 0, 1, 0), (1845, .ireturn, 1, 0)]
set_option maxRecDepth 100000 in
theorem tk_L_law_1797 : g_okT code tb_L_law_1797 = true := by decide +kernel
set_option maxHeartbeats 4000000 in
set_option maxRecDepth 100000 in
theorem p_L_law_1797 {l : Launch} {E : gE} {L : Nat} {xs : Nat → Int32} (J0 : J_L_law E l) (hXs : g_Xs E L xs) (hl : l.stackTraces = false) {ce0 sl0 : Nat} (hce : ce0 + 9 ≤ 601024) (hsl : sl0 + 11264 ≤ 7293034) {k23 : Int32 → Nat → (Nat → Int32) → gS → gM → gN → Option (Int32 × gS × gM × gN)} (H23 : ∀ (x4 : Int32) (σ : gS) (M : gM) (N : gN) (_ : g_layL σ), g_H E (ce0 + 9) (sl0 + 11264) 23 [(0, vE 300), (1, vR 1), (2, vR 40), (3, vR 39), (4, vI x4)] [] (σ, M, N) (k23 x4 L xs σ M N) eISMN) (x4 : Int32) (σ : gS) (M : gM) (N : gN) (hL : g_layL σ) : g_H E ce0 sl0 1797 [(0, vE 300), (1, vR 1), (2, vR 40), (3, vR 39), (4, vI x4)] [] (σ, M, N) (b_L_law_1797 k23 x4 L xs σ M N) eISMN := by
  have J := g_J.tab J0 tk_L_law_1797
  unfold b_L_law_1797
  refine r_run J 5 (pc' := 1803) (lv' := [(0, vE 300), (1, vR 1), (2, vR 40), (3, vR 39), (4, vI x4)]) (st' := [vI (x4 + (1 : Int32)), vE 300, vR 1]) rfl ?_
  refine r_xld J hXs rfl (fun i1803 => ?_)
  show g_H E ce0 sl0 1804 [(0, vE 300), (1, vR 1), (2, vR 40), (3, vR 39), (4, vI x4)] [vI (xs (x4 + (1 : Int32)).toNatClampNeg), vR 1] (σ, M, N) _ _
  refine r_run J 4 (pc' := 1809) (lv' := [(0, vE 300), (1, vR 1), (2, vR 40), (3, vR 39), (4, vI x4)]) (st' := [vI (x4 + (2 : Int32)), vE 300, vI (xs (x4 + (1 : Int32)).toNatClampNeg), vR 1]) rfl ?_
  refine r_xld J hXs rfl (fun i1809 => ?_)
  show g_H E ce0 sl0 1810 [(0, vE 300), (1, vR 1), (2, vR 40), (3, vR 39), (4, vI x4)] [vI (xs (x4 + (2 : Int32)).toNatClampNeg), vI (xs (x4 + (1 : Int32)).toNatClampNeg), vR 1] (σ, M, N) _ _
  refine r_run J 4 (pc' := 1815) (lv' := [(0, vE 300), (1, vR 1), (2, vR 40), (3, vR 39), (4, vI x4)]) (st' := [vI (x4 + (3 : Int32)), vE 300, vI (xs (x4 + (2 : Int32)).toNatClampNeg), vI (xs (x4 + (1 : Int32)).toNatClampNeg), vR 1]) rfl ?_
  refine r_xld J hXs rfl (fun i1815 => ?_)
  show g_H E ce0 sl0 1816 [(0, vE 300), (1, vR 1), (2, vR 40), (3, vR 39), (4, vI x4)] [vI (xs (x4 + (3 : Int32)).toNatClampNeg), vI (xs (x4 + (2 : Int32)).toNatClampNeg), vI (xs (x4 + (1 : Int32)).toNatClampNeg), vR 1] (σ, M, N) _ _
  refine r_callV J (As := [vI (xs (x4 + (1 : Int32)).toNatClampNeg), vI (xs (x4 + (2 : Int32)).toNatClampNeg), vI (xs (x4 + (3 : Int32)).toNatClampNeg)]) (st := []) (fun r hr => c_X11_roomOf (xs (x4 + (1 : Int32)).toNatClampNeg) (xs (x4 + (2 : Int32)).toNatClampNeg) (xs (x4 + (3 : Int32)).toNatClampNeg) σ M N (hL).1 r hr) cls11 (ly_1 (hL).1) wm_L_178 wy_X11_roomOf wd_X11_roomOf ⟨by decide, by decide, by omega, by omega, Nat.le_of_ble_eq_true rfl⟩ rfl rfl (fun q1816 hq1816 => ?_)
  show g_H E ce0 sl0 1819 [(0, vE 300), (1, vR 1), (2, vR 40), (3, vR 39), (4, vI x4)] [vI q1816] (σ, M, N) _ _
  refine r_run J 5 (pc' := 1825) (lv' := [(0, vE 300), (1, vR 1), (2, vR 40), (3, vR 39), (4, vI x4)]) (st' := [vI (x4 + (1 : Int32)), vE 300, vR 40, vI q1816]) rfl ?_
  refine r_xld J hXs rfl (fun i1825 => ?_)
  show g_H E ce0 sl0 1826 [(0, vE 300), (1, vR 1), (2, vR 40), (3, vR 39), (4, vI x4)] [vI (xs (x4 + (1 : Int32)).toNatClampNeg), vR 40, vI q1816] (σ, M, N) _ _
  refine r_run J 4 (pc' := 1831) (lv' := [(0, vE 300), (1, vR 1), (2, vR 40), (3, vR 39), (4, vI x4)]) (st' := [vI (x4 + (2 : Int32)), vE 300, vI (xs (x4 + (1 : Int32)).toNatClampNeg), vR 40, vI q1816]) rfl ?_
  refine r_xld J hXs rfl (fun i1831 => ?_)
  show g_H E ce0 sl0 1832 [(0, vE 300), (1, vR 1), (2, vR 40), (3, vR 39), (4, vI x4)] [vI (xs (x4 + (2 : Int32)).toNatClampNeg), vI (xs (x4 + (1 : Int32)).toNatClampNeg), vR 40, vI q1816] (σ, M, N) _ _
  refine r_run J 4 (pc' := 1837) (lv' := [(0, vE 300), (1, vR 1), (2, vR 40), (3, vR 39), (4, vI x4)]) (st' := [vI (x4 + (3 : Int32)), vE 300, vI (xs (x4 + (2 : Int32)).toNatClampNeg), vI (xs (x4 + (1 : Int32)).toNatClampNeg), vR 40, vI q1816]) rfl ?_
  refine r_xld J hXs rfl (fun i1837 => ?_)
  show g_H E ce0 sl0 1838 [(0, vE 300), (1, vR 1), (2, vR 40), (3, vR 39), (4, vI x4)] [vI (xs (x4 + (3 : Int32)).toNatClampNeg), vI (xs (x4 + (2 : Int32)).toNatClampNeg), vI (xs (x4 + (1 : Int32)).toNatClampNeg), vR 40, vI q1816] (σ, M, N) _ _
  refine r_callV J (As := [vI (xs (x4 + (1 : Int32)).toNatClampNeg), vI (xs (x4 + (2 : Int32)).toNatClampNeg), vI (xs (x4 + (3 : Int32)).toNatClampNeg)]) (st := [vI q1816]) (fun r hr => c_X12_roomOf (xs (x4 + (1 : Int32)).toNatClampNeg) (xs (x4 + (2 : Int32)).toNatClampNeg) (xs (x4 + (3 : Int32)).toNatClampNeg) σ M N (hL).2.1 r hr) cls12 (ly_40 (hL).2.1) wm_L_181 wy_X12_roomOf wd_X12_roomOf ⟨by decide, by decide, by omega, by omega, Nat.le_of_ble_eq_true rfl⟩ rfl rfl (fun q1838 hq1838 => ?_)
  show g_H E ce0 sl0 1841 [(0, vE 300), (1, vR 1), (2, vR 40), (3, vR 39), (4, vI x4)] [vI q1838, vI q1816] (σ, M, N) _ _
  refine r_icmp_eq J (tgt := 1908) rfl (by decide) (fun c1841 => ?_) (fun c1841 => ?_)
  · refine r_widen (ce' := (ce0 + 9)) (sl' := (sl0 + 11264)) (by omega) (by omega) ?_
    exact p_L_law_1908 J0 hXs hl hce hsl H23 x4 σ M N hL
  · refine r_run J 1 (pc' := 1845) (lv' := [(0, vE 300), (1, vR 1), (2, vR 40), (3, vR 39), (4, vI x4)]) (st' := [vI 0]) rfl ?_
    exact r_iret J rfl rfl rfl rfl (by omega) (by omega)
def tb_L_law_1760 : gT := [(1760, .aload_n 1, 1, 0), (1761, .aload_n 0, 1, 0), (1762, .iload 4, 2, 0), (1764, .iconst 1, 1, 1), (1765, .iadd, 1, 0), (1766, .iaload, 1, 0), (1767, .aload_n 0, 1, 0), (1768, .iload 4, 2, 0), (1770, .iconst 2, 1, 2), (1771, .iadd, 1, 0), (1772, .iaload, 1, 0), (1773, .invokevirtual 174, 3, 0), (1776, .aload_n 2, 1, 0), (1777, .aload_n 0, 1, 0), (1778, .iload 4, 2, 0), (1780, .iconst 1, 1, 1), (1781, .iadd, 1, 0), (1782, .iaload, 1, 0), (1783, .aload_n 0, 1, 0), (1784, .iload 4, 2, 0), (1786, .iconst 2, 1, 2), (1787, .iadd, 1, 0), (1788, .iaload, 1, 0), (1789, .invokevirtual 177, 3, 0), (1792, .if_icmp .eq 116, 3, 0), (1795, .iconst 0, 1, 0), (1796, .ireturn, 1, 0)]
set_option maxRecDepth 100000 in
theorem tk_L_law_1760 : g_okT code tb_L_law_1760 = true := by decide +kernel
set_option maxHeartbeats 4000000 in
set_option maxRecDepth 100000 in
theorem p_L_law_1760 {l : Launch} {E : gE} {L : Nat} {xs : Nat → Int32} (J0 : J_L_law E l) (hXs : g_Xs E L xs) (hl : l.stackTraces = false) {ce0 sl0 : Nat} (hce : ce0 + 9 ≤ 601024) (hsl : sl0 + 11264 ≤ 7293034) {k23 : Int32 → Nat → (Nat → Int32) → gS → gM → gN → Option (Int32 × gS × gM × gN)} (H23 : ∀ (x4 : Int32) (σ : gS) (M : gM) (N : gN) (_ : g_layL σ), g_H E (ce0 + 9) (sl0 + 11264) 23 [(0, vE 300), (1, vR 1), (2, vR 40), (3, vR 39), (4, vI x4)] [] (σ, M, N) (k23 x4 L xs σ M N) eISMN) (x4 : Int32) (σ : gS) (M : gM) (N : gN) (hL : g_layL σ) : g_H E ce0 sl0 1760 [(0, vE 300), (1, vR 1), (2, vR 40), (3, vR 39), (4, vI x4)] [] (σ, M, N) (b_L_law_1760 k23 x4 L xs σ M N) eISMN := by
  have J := g_J.tab J0 tk_L_law_1760
  unfold b_L_law_1760
  refine r_run J 5 (pc' := 1766) (lv' := [(0, vE 300), (1, vR 1), (2, vR 40), (3, vR 39), (4, vI x4)]) (st' := [vI (x4 + (1 : Int32)), vE 300, vR 1]) rfl ?_
  refine r_xld J hXs rfl (fun i1766 => ?_)
  show g_H E ce0 sl0 1767 [(0, vE 300), (1, vR 1), (2, vR 40), (3, vR 39), (4, vI x4)] [vI (xs (x4 + (1 : Int32)).toNatClampNeg), vR 1] (σ, M, N) _ _
  refine r_run J 4 (pc' := 1772) (lv' := [(0, vE 300), (1, vR 1), (2, vR 40), (3, vR 39), (4, vI x4)]) (st' := [vI (x4 + (2 : Int32)), vE 300, vI (xs (x4 + (1 : Int32)).toNatClampNeg), vR 1]) rfl ?_
  refine r_xld J hXs rfl (fun i1772 => ?_)
  show g_H E ce0 sl0 1773 [(0, vE 300), (1, vR 1), (2, vR 40), (3, vR 39), (4, vI x4)] [vI (xs (x4 + (2 : Int32)).toNatClampNeg), vI (xs (x4 + (1 : Int32)).toNatClampNeg), vR 1] (σ, M, N) _ _
  refine r_callV J (As := [vI (xs (x4 + (1 : Int32)).toNatClampNeg), vI (xs (x4 + (2 : Int32)).toNatClampNeg)]) (st := []) (fun r hr => c_X11_townOf (xs (x4 + (1 : Int32)).toNatClampNeg) (xs (x4 + (2 : Int32)).toNatClampNeg) σ M N (hL).1 r hr) cls11 (ly_1 (hL).1) wm_L_174 wy_X11_townOf wd_X11_townOf ⟨by decide, by decide, by omega, by omega, Nat.le_of_ble_eq_true rfl⟩ rfl rfl (fun q1773 hq1773 => ?_)
  show g_H E ce0 sl0 1776 [(0, vE 300), (1, vR 1), (2, vR 40), (3, vR 39), (4, vI x4)] [vI q1773] (σ, M, N) _ _
  refine r_run J 5 (pc' := 1782) (lv' := [(0, vE 300), (1, vR 1), (2, vR 40), (3, vR 39), (4, vI x4)]) (st' := [vI (x4 + (1 : Int32)), vE 300, vR 40, vI q1773]) rfl ?_
  refine r_xld J hXs rfl (fun i1782 => ?_)
  show g_H E ce0 sl0 1783 [(0, vE 300), (1, vR 1), (2, vR 40), (3, vR 39), (4, vI x4)] [vI (xs (x4 + (1 : Int32)).toNatClampNeg), vR 40, vI q1773] (σ, M, N) _ _
  refine r_run J 4 (pc' := 1788) (lv' := [(0, vE 300), (1, vR 1), (2, vR 40), (3, vR 39), (4, vI x4)]) (st' := [vI (x4 + (2 : Int32)), vE 300, vI (xs (x4 + (1 : Int32)).toNatClampNeg), vR 40, vI q1773]) rfl ?_
  refine r_xld J hXs rfl (fun i1788 => ?_)
  show g_H E ce0 sl0 1789 [(0, vE 300), (1, vR 1), (2, vR 40), (3, vR 39), (4, vI x4)] [vI (xs (x4 + (2 : Int32)).toNatClampNeg), vI (xs (x4 + (1 : Int32)).toNatClampNeg), vR 40, vI q1773] (σ, M, N) _ _
  refine r_callV J (As := [vI (xs (x4 + (1 : Int32)).toNatClampNeg), vI (xs (x4 + (2 : Int32)).toNatClampNeg)]) (st := [vI q1773]) (fun r hr => c_X12_townOf (xs (x4 + (1 : Int32)).toNatClampNeg) (xs (x4 + (2 : Int32)).toNatClampNeg) σ M N (hL).2.1 r hr) cls12 (ly_40 (hL).2.1) wm_L_177 wy_X12_townOf wd_X12_townOf ⟨by decide, by decide, by omega, by omega, Nat.le_of_ble_eq_true rfl⟩ rfl rfl (fun q1789 hq1789 => ?_)
  show g_H E ce0 sl0 1792 [(0, vE 300), (1, vR 1), (2, vR 40), (3, vR 39), (4, vI x4)] [vI q1789, vI q1773] (σ, M, N) _ _
  refine r_icmp_eq J (tgt := 1908) rfl (by decide) (fun c1792 => ?_) (fun c1792 => ?_)
  · refine r_widen (ce' := (ce0 + 9)) (sl' := (sl0 + 11264)) (by omega) (by omega) ?_
    exact p_L_law_1908 J0 hXs hl hce hsl H23 x4 σ M N hL
  · refine r_run J 1 (pc' := 1796) (lv' := [(0, vE 300), (1, vR 1), (2, vR 40), (3, vR 39), (4, vI x4)]) (st' := [vI 0]) rfl ?_
    exact r_iret J rfl rfl rfl rfl (by omega) (by omega)
def tb_L_law_1723 : gT := [(1723, .aload_n 1, 1, 0), (1724, .aload_n 0, 1, 0), (1725, .iload 4, 2, 0), (1727, .iconst 1, 1, 1), (1728, .iadd, 1, 0), (1729, .iaload, 1, 0), (1730, .aload_n 0, 1, 0), (1731, .iload 4, 2, 0), (1733, .iconst 2, 1, 2), (1734, .iadd, 1, 0), (1735, .iaload, 1, 0), (1736, .invokevirtual 170, 3, 0), (1739, .aload_n 2, 1, 0), (1740, .aload_n 0, 1, 0), (1741, .iload 4, 2, 0), (1743, .iconst 1, 1, 1), (1744, .iadd, 1, 0), (1745, .iaload, 1, 0), (1746, .aload_n 0, 1, 0), (1747, .iload 4, 2, 0), (1749, .iconst 2, 1, 2), (1750, .iadd, 1, 0), (1751, .iaload, 1, 0), (1752, .invokevirtual 173, 3, 0), (1755, .if_icmp .eq 153, 3, 0), (1758, .iconst 0, 1, 0), (1759, .ireturn, 1, 0)]
set_option maxRecDepth 100000 in
theorem tk_L_law_1723 : g_okT code tb_L_law_1723 = true := by decide +kernel
set_option maxHeartbeats 4000000 in
set_option maxRecDepth 100000 in
theorem p_L_law_1723 {l : Launch} {E : gE} {L : Nat} {xs : Nat → Int32} (J0 : J_L_law E l) (hXs : g_Xs E L xs) (hl : l.stackTraces = false) {ce0 sl0 : Nat} (hce : ce0 + 9 ≤ 601024) (hsl : sl0 + 11264 ≤ 7293034) {k23 : Int32 → Nat → (Nat → Int32) → gS → gM → gN → Option (Int32 × gS × gM × gN)} (H23 : ∀ (x4 : Int32) (σ : gS) (M : gM) (N : gN) (_ : g_layL σ), g_H E (ce0 + 9) (sl0 + 11264) 23 [(0, vE 300), (1, vR 1), (2, vR 40), (3, vR 39), (4, vI x4)] [] (σ, M, N) (k23 x4 L xs σ M N) eISMN) (x4 : Int32) (σ : gS) (M : gM) (N : gN) (hL : g_layL σ) : g_H E ce0 sl0 1723 [(0, vE 300), (1, vR 1), (2, vR 40), (3, vR 39), (4, vI x4)] [] (σ, M, N) (b_L_law_1723 k23 x4 L xs σ M N) eISMN := by
  have J := g_J.tab J0 tk_L_law_1723
  unfold b_L_law_1723
  refine r_run J 5 (pc' := 1729) (lv' := [(0, vE 300), (1, vR 1), (2, vR 40), (3, vR 39), (4, vI x4)]) (st' := [vI (x4 + (1 : Int32)), vE 300, vR 1]) rfl ?_
  refine r_xld J hXs rfl (fun i1729 => ?_)
  show g_H E ce0 sl0 1730 [(0, vE 300), (1, vR 1), (2, vR 40), (3, vR 39), (4, vI x4)] [vI (xs (x4 + (1 : Int32)).toNatClampNeg), vR 1] (σ, M, N) _ _
  refine r_run J 4 (pc' := 1735) (lv' := [(0, vE 300), (1, vR 1), (2, vR 40), (3, vR 39), (4, vI x4)]) (st' := [vI (x4 + (2 : Int32)), vE 300, vI (xs (x4 + (1 : Int32)).toNatClampNeg), vR 1]) rfl ?_
  refine r_xld J hXs rfl (fun i1735 => ?_)
  show g_H E ce0 sl0 1736 [(0, vE 300), (1, vR 1), (2, vR 40), (3, vR 39), (4, vI x4)] [vI (xs (x4 + (2 : Int32)).toNatClampNeg), vI (xs (x4 + (1 : Int32)).toNatClampNeg), vR 1] (σ, M, N) _ _
  refine r_callV J (As := [vI (xs (x4 + (1 : Int32)).toNatClampNeg), vI (xs (x4 + (2 : Int32)).toNatClampNeg)]) (st := []) (fun r hr => c_X11_meals (xs (x4 + (1 : Int32)).toNatClampNeg) (xs (x4 + (2 : Int32)).toNatClampNeg) σ M N (hL).1 r hr) cls11 (ly_1 (hL).1) wm_L_170 wy_X11_meals wd_X11_meals ⟨by decide, by decide, by omega, by omega, Nat.le_of_ble_eq_true rfl⟩ rfl rfl (fun q1736 hq1736 => ?_)
  show g_H E ce0 sl0 1739 [(0, vE 300), (1, vR 1), (2, vR 40), (3, vR 39), (4, vI x4)] [vI q1736] (σ, M, N) _ _
  refine r_run J 5 (pc' := 1745) (lv' := [(0, vE 300), (1, vR 1), (2, vR 40), (3, vR 39), (4, vI x4)]) (st' := [vI (x4 + (1 : Int32)), vE 300, vR 40, vI q1736]) rfl ?_
  refine r_xld J hXs rfl (fun i1745 => ?_)
  show g_H E ce0 sl0 1746 [(0, vE 300), (1, vR 1), (2, vR 40), (3, vR 39), (4, vI x4)] [vI (xs (x4 + (1 : Int32)).toNatClampNeg), vR 40, vI q1736] (σ, M, N) _ _
  refine r_run J 4 (pc' := 1751) (lv' := [(0, vE 300), (1, vR 1), (2, vR 40), (3, vR 39), (4, vI x4)]) (st' := [vI (x4 + (2 : Int32)), vE 300, vI (xs (x4 + (1 : Int32)).toNatClampNeg), vR 40, vI q1736]) rfl ?_
  refine r_xld J hXs rfl (fun i1751 => ?_)
  show g_H E ce0 sl0 1752 [(0, vE 300), (1, vR 1), (2, vR 40), (3, vR 39), (4, vI x4)] [vI (xs (x4 + (2 : Int32)).toNatClampNeg), vI (xs (x4 + (1 : Int32)).toNatClampNeg), vR 40, vI q1736] (σ, M, N) _ _
  refine r_callV J (As := [vI (xs (x4 + (1 : Int32)).toNatClampNeg), vI (xs (x4 + (2 : Int32)).toNatClampNeg)]) (st := [vI q1736]) (fun r hr => c_X12_meals (xs (x4 + (1 : Int32)).toNatClampNeg) (xs (x4 + (2 : Int32)).toNatClampNeg) σ M N (hL).2.1 r hr) cls12 (ly_40 (hL).2.1) wm_L_173 wy_X12_meals wd_X12_meals ⟨by decide, by decide, by omega, by omega, Nat.le_of_ble_eq_true rfl⟩ rfl rfl (fun q1752 hq1752 => ?_)
  show g_H E ce0 sl0 1755 [(0, vE 300), (1, vR 1), (2, vR 40), (3, vR 39), (4, vI x4)] [vI q1752, vI q1736] (σ, M, N) _ _
  refine r_icmp_eq J (tgt := 1908) rfl (by decide) (fun c1755 => ?_) (fun c1755 => ?_)
  · refine r_widen (ce' := (ce0 + 9)) (sl' := (sl0 + 11264)) (by omega) (by omega) ?_
    exact p_L_law_1908 J0 hXs hl hce hsl H23 x4 σ M N hL
  · refine r_run J 1 (pc' := 1759) (lv' := [(0, vE 300), (1, vR 1), (2, vR 40), (3, vR 39), (4, vI x4)]) (st' := [vI 0]) rfl ?_
    exact r_iret J rfl rfl rfl rfl (by omega) (by omega)
def tb_L_law_1720 : gT := [(1720, .goto 188, 3, 0)]
set_option maxRecDepth 100000 in
theorem tk_L_law_1720 : g_okT code tb_L_law_1720 = true := by decide +kernel
set_option maxHeartbeats 4000000 in
set_option maxRecDepth 100000 in
theorem p_L_law_1720 {l : Launch} {E : gE} {L : Nat} {xs : Nat → Int32} (J0 : J_L_law E l) (hXs : g_Xs E L xs) (hl : l.stackTraces = false) {ce0 sl0 : Nat} (hce : ce0 + 9 ≤ 601024) (hsl : sl0 + 11264 ≤ 7293034) {k23 : Int32 → Nat → (Nat → Int32) → gS → gM → gN → Option (Int32 × gS × gM × gN)} (H23 : ∀ (x4 : Int32) (σ : gS) (M : gM) (N : gN) (_ : g_layL σ), g_H E (ce0 + 9) (sl0 + 11264) 23 [(0, vE 300), (1, vR 1), (2, vR 40), (3, vR 39), (4, vI x4)] [] (σ, M, N) (k23 x4 L xs σ M N) eISMN) (x4 : Int32) (σ : gS) (M : gM) (N : gN) (hL : g_layL σ) : g_H E (ce0 + 1) (sl0 + 6) 1720 [(0, vE 300), (1, vR 1), (2, vR 40), (3, vR 39), (4, vI x4)] [] (σ, M, N) (b_L_law_1720 k23 x4 L xs σ M N) eISMN := by
  have J := g_J.tab J0 tk_L_law_1720
  unfold b_L_law_1720
  refine r_run J 1 (pc' := 1908) (lv' := [(0, vE 300), (1, vR 1), (2, vR 40), (3, vR 39), (4, vI x4)]) (st' := []) rfl ?_
  refine r_widen (ce' := (ce0 + 9)) (sl' := (sl0 + 11264)) (by omega) (by omega) ?_
  exact p_L_law_1908 J0 hXs hl hce hsl H23 x4 σ M N hL
def tb_L_law_1667 : gT := [(1667, .aload_n 1, 1, 0), (1668, .aload_n 0, 1, 0), (1669, .iload 4, 2, 0), (1671, .iconst 1, 1, 1), (1672, .iadd, 1, 0), (1673, .iaload, 1, 0), (1674, .aload_n 3, 1, 0), (1675, .invokestatic 167, 3, 0), (1678, .istore 5, 2, 0), (1680, .aload_n 2, 1, 0), (1681, .aload_n 0, 1, 0), (1682, .iload 4, 2, 0), (1684, .iconst 1, 1, 1), (1685, .iadd, 1, 0), (1686, .iaload, 1, 0), (1687, .invokevirtual 169, 3, 0), (1690, .istore 6, 2, 0), (1692, .aload_n 2, 1, 0), (1693, .invokevirtual 164, 3, 0), (1696, .iload 5, 2, 0), (1698, .if_icmp .eq 5, 3, 0), (1701, .iconst 0, 1, 0), (1702, .ireturn, 1, 0), (1703, .iload 5, 2, 0), (1705, .ifCond .ne 15, 3, 0), (1708, .aload_n 3, 1, 0), (1709, .iconst 0, 1, 0), (1710, .laload, 1, 0), (1711, .iload 6, 2, 0), (1713, .i2l, 1, 0), (1714, .lcmp, 1, 0), (1715, .ifCond .eq 5, 3, 0), (1718, .iconst 0, 1, 0), (1719, .ireturn, 1, 0)]
set_option maxRecDepth 100000 in
theorem tk_L_law_1667 : g_okT code tb_L_law_1667 = true := by decide +kernel
set_option maxHeartbeats 4000000 in
set_option maxRecDepth 100000 in
theorem p_L_law_1667 {l : Launch} {E : gE} {L : Nat} {xs : Nat → Int32} (J0 : J_L_law E l) (hXs : g_Xs E L xs) (hl : l.stackTraces = false) {ce0 sl0 : Nat} (hce : ce0 + 9 ≤ 601024) (hsl : sl0 + 11264 ≤ 7293034) {k23 : Int32 → Nat → (Nat → Int32) → gS → gM → gN → Option (Int32 × gS × gM × gN)} (H23 : ∀ (x4 : Int32) (σ : gS) (M : gM) (N : gN) (_ : g_layL σ), g_H E (ce0 + 9) (sl0 + 11264) 23 [(0, vE 300), (1, vR 1), (2, vR 40), (3, vR 39), (4, vI x4)] [] (σ, M, N) (k23 x4 L xs σ M N) eISMN) (x4 : Int32) (σ : gS) (M : gM) (N : gN) (hL : g_layL σ) : g_H E ce0 sl0 1667 [(0, vE 300), (1, vR 1), (2, vR 40), (3, vR 39), (4, vI x4)] [] (σ, M, N) (b_L_law_1667 k23 x4 L xs σ M N) eISMN := by
  have J := g_J.tab J0 tk_L_law_1667
  unfold b_L_law_1667
  refine r_run J 5 (pc' := 1673) (lv' := [(0, vE 300), (1, vR 1), (2, vR 40), (3, vR 39), (4, vI x4)]) (st' := [vI (x4 + (1 : Int32)), vE 300, vR 1]) rfl ?_
  refine r_xld J hXs rfl (fun i1673 => ?_)
  show g_H E ce0 sl0 1674 [(0, vE 300), (1, vR 1), (2, vR 40), (3, vR 39), (4, vI x4)] [vI (xs (x4 + (1 : Int32)).toNatClampNeg), vR 1] (σ, M, N) _ _
  refine r_run J 1 (pc' := 1675) (lv' := [(0, vE 300), (1, vR 1), (2, vR 40), (3, vR 39), (4, vI x4)]) (st' := [vR 39, vI (xs (x4 + (1 : Int32)).toNatClampNeg), vR 1]) rfl ?_
  refine r_callSH J (As := [vR 1, vI (xs (x4 + (1 : Int32)).toNatClampNeg), vR 39]) (st := []) (fun r hr => c_L_owes hl (xs (x4 + (1 : Int32)).toNatClampNeg) σ M N hL r hr) wm_L_167 wy_L_owes wd_L_owes ⟨by decide, by decide, by omega, by omega, Nat.le_of_ble_eq_true rfl⟩ rfl rfl (fun q1675 hq1675 => ?_)
  show g_H E (ce0 + 1) (sl0 + 6) 1678 [(0, vE 300), (1, vR 1), (2, vR 40), (3, vR 39), (4, vI x4)] [vI q1675.1] (σ, M, q1675.2) _ _
  refine r_run J 6 (pc' := 1686) (lv' := [(5, vI q1675.1), (0, vE 300), (1, vR 1), (2, vR 40), (3, vR 39), (4, vI x4)]) (st' := [vI (x4 + (1 : Int32)), vE 300, vR 40]) rfl ?_
  refine r_xld J hXs rfl (fun i1686 => ?_)
  show g_H E (ce0 + 1) (sl0 + 6) 1687 [(5, vI q1675.1), (0, vE 300), (1, vR 1), (2, vR 40), (3, vR 39), (4, vI x4)] [vI (xs (x4 + (1 : Int32)).toNatClampNeg), vR 40] (σ, M, q1675.2) _ _
  refine r_callV J (As := [vI (xs (x4 + (1 : Int32)).toNatClampNeg)]) (st := []) (fun r hr => c_X12_owes_ (xs (x4 + (1 : Int32)).toNatClampNeg) σ M q1675.2 (hL).2.1 r hr) cls12 (ly_40 (hL).2.1) wm_L_169 wy_X12_owes_ wd_X12_owes_ ⟨by decide, by decide, by omega, by omega, Nat.le_of_ble_eq_true rfl⟩ rfl rfl (fun q1687 hq1687 => ?_)
  show g_H E (ce0 + 1) (sl0 + 6) 1690 [(5, vI q1675.1), (0, vE 300), (1, vR 1), (2, vR 40), (3, vR 39), (4, vI x4)] [vI q1687.1] (σ, q1687.2, q1675.2) _ _
  refine r_run J 2 (pc' := 1693) (lv' := [(6, vI q1687.1), (5, vI q1675.1), (0, vE 300), (1, vR 1), (2, vR 40), (3, vR 39), (4, vI x4)]) (st' := [vR 40]) rfl ?_
  refine r_callV J (As := []) (st := []) (fun r hr => c_X12_thrown σ q1687.2 q1675.2 (hL).2.1 r hr) cls12 (ly_40 (hL).2.1) wm_L_164 wy_X12_thrown wd_X12_thrown ⟨by decide, by decide, by omega, by omega, Nat.le_of_ble_eq_true rfl⟩ rfl rfl (fun q1693 hq1693 => ?_)
  show g_H E (ce0 + 1) (sl0 + 6) 1696 [(6, vI q1687.1), (5, vI q1675.1), (0, vE 300), (1, vR 1), (2, vR 40), (3, vR 39), (4, vI x4)] [vI q1693] (σ, q1687.2, q1675.2) _ _
  refine r_run J 1 (pc' := 1698) (lv' := [(6, vI q1687.1), (5, vI q1675.1), (0, vE 300), (1, vR 1), (2, vR 40), (3, vR 39), (4, vI x4)]) (st' := [vI q1675.1, vI q1693]) rfl ?_
  refine r_icmp_eq J (tgt := 1703) rfl (by decide) (fun c1698 => ?_) (fun c1698 => ?_)
  · refine r_run J 1 (pc' := 1705) (lv' := [(6, vI q1687.1), (5, vI q1675.1), (0, vE 300), (1, vR 1), (2, vR 40), (3, vR 39), (4, vI x4)]) (st' := [vI q1675.1]) rfl ?_
    refine r_if_ne J (tgt := 1720) rfl (by decide) (fun c1705 => ?_) (fun c1705 => ?_)
    · refine r_run J 2 (pc' := 1710) (lv' := [(6, vI q1687.1), (5, vI q1675.1), (0, vE 300), (1, vR 1), (2, vR 40), (3, vR 39), (4, vI x4)]) (st' := [vI 0, vR 39]) rfl ?_
      refine r_lald J rfl ((hL).2.2) (fun i1710 => ?_)
      show g_H E (ce0 + 1) (sl0 + 6) 1711 [(6, vI q1687.1), (5, vI q1675.1), (0, vE 300), (1, vR 1), (2, vR 40), (3, vR 39), (4, vI x4)] [vL (q1675.2 39 (0 : Int32).toNatClampNeg)] (σ, q1687.2, q1675.2) _ _
      refine r_run J 3 (pc' := 1715) (lv' := [(6, vI q1687.1), (5, vI q1675.1), (0, vE 300), (1, vR 1), (2, vR 40), (3, vR 39), (4, vI x4)]) (st' := [vI (lg_cmp (q1675.2 39 (0 : Int32).toNatClampNeg) q1687.1.toInt64)]) rfl ?_
      refine r_if_eq J (tgt := 1720) rfl (by decide) (fun c1715 => ?_) (fun c1715 => ?_)
      · refine r_sub [2, 3, 4, 5, 6] (lv' := [(0, vE 300), (1, vR 1), (2, vR 40), (3, vR 39), (4, vI x4)]) rfl ?_
        exact p_L_law_1720 J0 hXs hl hce hsl H23 x4 σ q1687.2 q1675.2 hL
      · refine r_run J 1 (pc' := 1719) (lv' := [(6, vI q1687.1), (5, vI q1675.1), (0, vE 300), (1, vR 1), (2, vR 40), (3, vR 39), (4, vI x4)]) (st' := [vI 0]) rfl ?_
        exact r_iret J rfl rfl rfl rfl (by omega) (by omega)
    · refine r_sub [2, 3, 4, 5, 6] (lv' := [(0, vE 300), (1, vR 1), (2, vR 40), (3, vR 39), (4, vI x4)]) rfl ?_
      exact p_L_law_1720 J0 hXs hl hce hsl H23 x4 σ q1687.2 q1675.2 hL
  · refine r_run J 1 (pc' := 1702) (lv' := [(6, vI q1687.1), (5, vI q1675.1), (0, vE 300), (1, vR 1), (2, vR 40), (3, vR 39), (4, vI x4)]) (st' := [vI 0]) rfl ?_
    exact r_iret J rfl rfl rfl rfl (by omega) (by omega)
def tb_L_law_1664 : gT := [(1664, .goto 244, 3, 0)]
set_option maxRecDepth 100000 in
theorem tk_L_law_1664 : g_okT code tb_L_law_1664 = true := by decide +kernel
set_option maxHeartbeats 4000000 in
set_option maxRecDepth 100000 in
theorem p_L_law_1664 {l : Launch} {E : gE} {L : Nat} {xs : Nat → Int32} (J0 : J_L_law E l) (hXs : g_Xs E L xs) (hl : l.stackTraces = false) {ce0 sl0 : Nat} (hce : ce0 + 9 ≤ 601024) (hsl : sl0 + 11264 ≤ 7293034) {k23 : Int32 → Nat → (Nat → Int32) → gS → gM → gN → Option (Int32 × gS × gM × gN)} (H23 : ∀ (x4 : Int32) (σ : gS) (M : gM) (N : gN) (_ : g_layL σ), g_H E (ce0 + 9) (sl0 + 11264) 23 [(0, vE 300), (1, vR 1), (2, vR 40), (3, vR 39), (4, vI x4)] [] (σ, M, N) (k23 x4 L xs σ M N) eISMN) (x4 : Int32) (σ : gS) (M : gM) (N : gN) (hL : g_layL σ) : g_H E (ce0 + 1) (sl0 + 6) 1664 [(0, vE 300), (1, vR 1), (2, vR 40), (3, vR 39), (4, vI x4)] [] (σ, M, N) (b_L_law_1664 k23 x4 L xs σ M N) eISMN := by
  have J := g_J.tab J0 tk_L_law_1664
  unfold b_L_law_1664
  refine r_run J 1 (pc' := 1908) (lv' := [(0, vE 300), (1, vR 1), (2, vR 40), (3, vR 39), (4, vI x4)]) (st' := []) rfl ?_
  refine r_widen (ce' := (ce0 + 9)) (sl' := (sl0 + 11264)) (by omega) (by omega) ?_
  exact p_L_law_1908 J0 hXs hl hce hsl H23 x4 σ M N hL
def tb_L_law_1611 : gT := [(1611, .aload_n 1, 1, 0), (1612, .aload_n 0, 1, 0), (1613, .iload 4, 2, 0), (1615, .iconst 1, 1, 1), (1616, .iadd, 1, 0), (1617, .iaload, 1, 0), (1618, .aload_n 3, 1, 0), (1619, .invokestatic 158, 3, 0), (1622, .istore 5, 2, 0), (1624, .aload_n 2, 1, 0), (1625, .aload_n 0, 1, 0), (1626, .iload 4, 2, 0), (1628, .iconst 1, 1, 1), (1629, .iadd, 1, 0), (1630, .iaload, 1, 0), (1631, .invokevirtual 163, 3, 0), (1634, .istore 6, 2, 0), (1636, .aload_n 2, 1, 0), (1637, .invokevirtual 164, 3, 0), (1640, .iload 5, 2, 0), (1642, .if_icmp .eq 5, 3, 0), (1645, .iconst 0, 1, 0), (1646, .ireturn, 1, 0), (1647, .iload 5, 2, 0), (1649, .ifCond .ne 15, 3, 0), (1652, .aload_n 3, 1, 0), (1653, .iconst 0, 1, 0), (1654, .laload, 1, 0), (1655, .iload 6, 2, 0), (1657, .i2l, 1, 0), (1658, .lcmp, 1, 0), (1659, .ifCond .eq 5, 3, 0), (1662, .iconst 0, 1, 0), (1663, .ireturn, 1, 0)]
set_option maxRecDepth 100000 in
theorem tk_L_law_1611 : g_okT code tb_L_law_1611 = true := by decide +kernel
set_option maxHeartbeats 4000000 in
set_option maxRecDepth 100000 in
theorem p_L_law_1611 {l : Launch} {E : gE} {L : Nat} {xs : Nat → Int32} (J0 : J_L_law E l) (hXs : g_Xs E L xs) (hl : l.stackTraces = false) {ce0 sl0 : Nat} (hce : ce0 + 9 ≤ 601024) (hsl : sl0 + 11264 ≤ 7293034) {k23 : Int32 → Nat → (Nat → Int32) → gS → gM → gN → Option (Int32 × gS × gM × gN)} (H23 : ∀ (x4 : Int32) (σ : gS) (M : gM) (N : gN) (_ : g_layL σ), g_H E (ce0 + 9) (sl0 + 11264) 23 [(0, vE 300), (1, vR 1), (2, vR 40), (3, vR 39), (4, vI x4)] [] (σ, M, N) (k23 x4 L xs σ M N) eISMN) (x4 : Int32) (σ : gS) (M : gM) (N : gN) (hL : g_layL σ) : g_H E ce0 sl0 1611 [(0, vE 300), (1, vR 1), (2, vR 40), (3, vR 39), (4, vI x4)] [] (σ, M, N) (b_L_law_1611 k23 x4 L xs σ M N) eISMN := by
  have J := g_J.tab J0 tk_L_law_1611
  unfold b_L_law_1611
  refine r_run J 5 (pc' := 1617) (lv' := [(0, vE 300), (1, vR 1), (2, vR 40), (3, vR 39), (4, vI x4)]) (st' := [vI (x4 + (1 : Int32)), vE 300, vR 1]) rfl ?_
  refine r_xld J hXs rfl (fun i1617 => ?_)
  show g_H E ce0 sl0 1618 [(0, vE 300), (1, vR 1), (2, vR 40), (3, vR 39), (4, vI x4)] [vI (xs (x4 + (1 : Int32)).toNatClampNeg), vR 1] (σ, M, N) _ _
  refine r_run J 1 (pc' := 1619) (lv' := [(0, vE 300), (1, vR 1), (2, vR 40), (3, vR 39), (4, vI x4)]) (st' := [vR 39, vI (xs (x4 + (1 : Int32)).toNatClampNeg), vR 1]) rfl ?_
  refine r_callSH J (As := [vR 1, vI (xs (x4 + (1 : Int32)).toNatClampNeg), vR 39]) (st := []) (fun r hr => c_L_bill hl (xs (x4 + (1 : Int32)).toNatClampNeg) σ M N hL r hr) wm_L_158 wy_L_bill wd_L_bill ⟨by decide, by decide, by omega, by omega, Nat.le_of_ble_eq_true rfl⟩ rfl rfl (fun q1619 hq1619 => ?_)
  show g_H E (ce0 + 1) (sl0 + 6) 1622 [(0, vE 300), (1, vR 1), (2, vR 40), (3, vR 39), (4, vI x4)] [vI q1619.1] (σ, M, q1619.2) _ _
  refine r_run J 6 (pc' := 1630) (lv' := [(5, vI q1619.1), (0, vE 300), (1, vR 1), (2, vR 40), (3, vR 39), (4, vI x4)]) (st' := [vI (x4 + (1 : Int32)), vE 300, vR 40]) rfl ?_
  refine r_xld J hXs rfl (fun i1630 => ?_)
  show g_H E (ce0 + 1) (sl0 + 6) 1631 [(5, vI q1619.1), (0, vE 300), (1, vR 1), (2, vR 40), (3, vR 39), (4, vI x4)] [vI (xs (x4 + (1 : Int32)).toNatClampNeg), vR 40] (σ, M, q1619.2) _ _
  refine r_callV J (As := [vI (xs (x4 + (1 : Int32)).toNatClampNeg)]) (st := []) (fun r hr => c_X12_bill (xs (x4 + (1 : Int32)).toNatClampNeg) σ M q1619.2 (hL).2.1 r hr) cls12 (ly_40 (hL).2.1) wm_L_163 wy_X12_bill wd_X12_bill ⟨by decide, by decide, by omega, by omega, Nat.le_of_ble_eq_true rfl⟩ rfl rfl (fun q1631 hq1631 => ?_)
  show g_H E (ce0 + 1) (sl0 + 6) 1634 [(5, vI q1619.1), (0, vE 300), (1, vR 1), (2, vR 40), (3, vR 39), (4, vI x4)] [vI q1631.1] (σ, q1631.2, q1619.2) _ _
  refine r_run J 2 (pc' := 1637) (lv' := [(6, vI q1631.1), (5, vI q1619.1), (0, vE 300), (1, vR 1), (2, vR 40), (3, vR 39), (4, vI x4)]) (st' := [vR 40]) rfl ?_
  refine r_callV J (As := []) (st := []) (fun r hr => c_X12_thrown σ q1631.2 q1619.2 (hL).2.1 r hr) cls12 (ly_40 (hL).2.1) wm_L_164 wy_X12_thrown wd_X12_thrown ⟨by decide, by decide, by omega, by omega, Nat.le_of_ble_eq_true rfl⟩ rfl rfl (fun q1637 hq1637 => ?_)
  show g_H E (ce0 + 1) (sl0 + 6) 1640 [(6, vI q1631.1), (5, vI q1619.1), (0, vE 300), (1, vR 1), (2, vR 40), (3, vR 39), (4, vI x4)] [vI q1637] (σ, q1631.2, q1619.2) _ _
  refine r_run J 1 (pc' := 1642) (lv' := [(6, vI q1631.1), (5, vI q1619.1), (0, vE 300), (1, vR 1), (2, vR 40), (3, vR 39), (4, vI x4)]) (st' := [vI q1619.1, vI q1637]) rfl ?_
  refine r_icmp_eq J (tgt := 1647) rfl (by decide) (fun c1642 => ?_) (fun c1642 => ?_)
  · refine r_run J 1 (pc' := 1649) (lv' := [(6, vI q1631.1), (5, vI q1619.1), (0, vE 300), (1, vR 1), (2, vR 40), (3, vR 39), (4, vI x4)]) (st' := [vI q1619.1]) rfl ?_
    refine r_if_ne J (tgt := 1664) rfl (by decide) (fun c1649 => ?_) (fun c1649 => ?_)
    · refine r_run J 2 (pc' := 1654) (lv' := [(6, vI q1631.1), (5, vI q1619.1), (0, vE 300), (1, vR 1), (2, vR 40), (3, vR 39), (4, vI x4)]) (st' := [vI 0, vR 39]) rfl ?_
      refine r_lald J rfl ((hL).2.2) (fun i1654 => ?_)
      show g_H E (ce0 + 1) (sl0 + 6) 1655 [(6, vI q1631.1), (5, vI q1619.1), (0, vE 300), (1, vR 1), (2, vR 40), (3, vR 39), (4, vI x4)] [vL (q1619.2 39 (0 : Int32).toNatClampNeg)] (σ, q1631.2, q1619.2) _ _
      refine r_run J 3 (pc' := 1659) (lv' := [(6, vI q1631.1), (5, vI q1619.1), (0, vE 300), (1, vR 1), (2, vR 40), (3, vR 39), (4, vI x4)]) (st' := [vI (lg_cmp (q1619.2 39 (0 : Int32).toNatClampNeg) q1631.1.toInt64)]) rfl ?_
      refine r_if_eq J (tgt := 1664) rfl (by decide) (fun c1659 => ?_) (fun c1659 => ?_)
      · refine r_sub [2, 3, 4, 5, 6] (lv' := [(0, vE 300), (1, vR 1), (2, vR 40), (3, vR 39), (4, vI x4)]) rfl ?_
        exact p_L_law_1664 J0 hXs hl hce hsl H23 x4 σ q1631.2 q1619.2 hL
      · refine r_run J 1 (pc' := 1663) (lv' := [(6, vI q1631.1), (5, vI q1619.1), (0, vE 300), (1, vR 1), (2, vR 40), (3, vR 39), (4, vI x4)]) (st' := [vI 0]) rfl ?_
        exact r_iret J rfl rfl rfl rfl (by omega) (by omega)
    · refine r_sub [2, 3, 4, 5, 6] (lv' := [(0, vE 300), (1, vR 1), (2, vR 40), (3, vR 39), (4, vI x4)]) rfl ?_
      exact p_L_law_1664 J0 hXs hl hce hsl H23 x4 σ q1631.2 q1619.2 hL
  · refine r_run J 1 (pc' := 1646) (lv' := [(6, vI q1631.1), (5, vI q1619.1), (0, vE 300), (1, vR 1), (2, vR 40), (3, vR 39), (4, vI x4)]) (st' := [vI 0]) rfl ?_
    exact r_iret J rfl rfl rfl rfl (by omega) (by omega)
def tb_L_law_1574 : gT := [(1574, .aload_n 1, 1, 0), (1575, .aload_n 0, 1, 0), (1576, .iload 4, 2, 0), (1578, .iconst 1, 1, 1), (1579, .iadd, 1, 0), (1580, .iaload, 1, 0), (1581, .aload_n 0, 1, 0), (1582, .iload 4, 2, 0), (1584, .iconst 2, 1, 2), (1585, .iadd, 1, 0), (1586, .iaload, 1, 0), (1587, .invokevirtual 154, 3, 0), (1590, .aload_n 2, 1, 0), (1591, .aload_n 0, 1, 0), (1592, .iload 4, 2, 0), (1594, .iconst 1, 1, 1), (1595, .iadd, 1, 0), (1596, .iaload, 1, 0), (1597, .aload_n 0, 1, 0), (1598, .iload 4, 2, 0), (1600, .iconst 2, 1, 2), (1601, .iadd, 1, 0), (1602, .iaload, 1, 0), (1603, .invokevirtual 157, 3, 0), (1606, .if_icmp .eq 302, 3, 0), (1609, .iconst 0, 1, 0), (1610, .ireturn, 1, 0)]
set_option maxRecDepth 100000 in
theorem tk_L_law_1574 : g_okT code tb_L_law_1574 = true := by decide +kernel
set_option maxHeartbeats 4000000 in
set_option maxRecDepth 100000 in
theorem p_L_law_1574 {l : Launch} {E : gE} {L : Nat} {xs : Nat → Int32} (J0 : J_L_law E l) (hXs : g_Xs E L xs) (hl : l.stackTraces = false) {ce0 sl0 : Nat} (hce : ce0 + 9 ≤ 601024) (hsl : sl0 + 11264 ≤ 7293034) {k23 : Int32 → Nat → (Nat → Int32) → gS → gM → gN → Option (Int32 × gS × gM × gN)} (H23 : ∀ (x4 : Int32) (σ : gS) (M : gM) (N : gN) (_ : g_layL σ), g_H E (ce0 + 9) (sl0 + 11264) 23 [(0, vE 300), (1, vR 1), (2, vR 40), (3, vR 39), (4, vI x4)] [] (σ, M, N) (k23 x4 L xs σ M N) eISMN) (x4 : Int32) (σ : gS) (M : gM) (N : gN) (hL : g_layL σ) : g_H E ce0 sl0 1574 [(0, vE 300), (1, vR 1), (2, vR 40), (3, vR 39), (4, vI x4)] [] (σ, M, N) (b_L_law_1574 k23 x4 L xs σ M N) eISMN := by
  have J := g_J.tab J0 tk_L_law_1574
  unfold b_L_law_1574
  refine r_run J 5 (pc' := 1580) (lv' := [(0, vE 300), (1, vR 1), (2, vR 40), (3, vR 39), (4, vI x4)]) (st' := [vI (x4 + (1 : Int32)), vE 300, vR 1]) rfl ?_
  refine r_xld J hXs rfl (fun i1580 => ?_)
  show g_H E ce0 sl0 1581 [(0, vE 300), (1, vR 1), (2, vR 40), (3, vR 39), (4, vI x4)] [vI (xs (x4 + (1 : Int32)).toNatClampNeg), vR 1] (σ, M, N) _ _
  refine r_run J 4 (pc' := 1586) (lv' := [(0, vE 300), (1, vR 1), (2, vR 40), (3, vR 39), (4, vI x4)]) (st' := [vI (x4 + (2 : Int32)), vE 300, vI (xs (x4 + (1 : Int32)).toNatClampNeg), vR 1]) rfl ?_
  refine r_xld J hXs rfl (fun i1586 => ?_)
  show g_H E ce0 sl0 1587 [(0, vE 300), (1, vR 1), (2, vR 40), (3, vR 39), (4, vI x4)] [vI (xs (x4 + (2 : Int32)).toNatClampNeg), vI (xs (x4 + (1 : Int32)).toNatClampNeg), vR 1] (σ, M, N) _ _
  refine r_callV J (As := [vI (xs (x4 + (1 : Int32)).toNatClampNeg), vI (xs (x4 + (2 : Int32)).toNatClampNeg)]) (st := []) (fun r hr => c_X11_lay (xs (x4 + (1 : Int32)).toNatClampNeg) (xs (x4 + (2 : Int32)).toNatClampNeg) σ M N (hL).1 r hr) cls11 (ly_1 (hL).1) wm_L_154 wy_X11_lay wd_X11_lay ⟨by decide, by decide, by omega, by omega, Nat.le_of_ble_eq_true rfl⟩ rfl rfl (fun q1587 hq1587 => ?_)
  show g_H E ce0 sl0 1590 [(0, vE 300), (1, vR 1), (2, vR 40), (3, vR 39), (4, vI x4)] [vI q1587] (σ, M, N) _ _
  refine r_run J 5 (pc' := 1596) (lv' := [(0, vE 300), (1, vR 1), (2, vR 40), (3, vR 39), (4, vI x4)]) (st' := [vI (x4 + (1 : Int32)), vE 300, vR 40, vI q1587]) rfl ?_
  refine r_xld J hXs rfl (fun i1596 => ?_)
  show g_H E ce0 sl0 1597 [(0, vE 300), (1, vR 1), (2, vR 40), (3, vR 39), (4, vI x4)] [vI (xs (x4 + (1 : Int32)).toNatClampNeg), vR 40, vI q1587] (σ, M, N) _ _
  refine r_run J 4 (pc' := 1602) (lv' := [(0, vE 300), (1, vR 1), (2, vR 40), (3, vR 39), (4, vI x4)]) (st' := [vI (x4 + (2 : Int32)), vE 300, vI (xs (x4 + (1 : Int32)).toNatClampNeg), vR 40, vI q1587]) rfl ?_
  refine r_xld J hXs rfl (fun i1602 => ?_)
  show g_H E ce0 sl0 1603 [(0, vE 300), (1, vR 1), (2, vR 40), (3, vR 39), (4, vI x4)] [vI (xs (x4 + (2 : Int32)).toNatClampNeg), vI (xs (x4 + (1 : Int32)).toNatClampNeg), vR 40, vI q1587] (σ, M, N) _ _
  refine r_callV J (As := [vI (xs (x4 + (1 : Int32)).toNatClampNeg), vI (xs (x4 + (2 : Int32)).toNatClampNeg)]) (st := [vI q1587]) (fun r hr => c_X12_lay (xs (x4 + (1 : Int32)).toNatClampNeg) (xs (x4 + (2 : Int32)).toNatClampNeg) σ M N (hL).2.1 r hr) cls12 (ly_40 (hL).2.1) wm_L_157 wy_X12_lay wd_X12_lay ⟨by decide, by decide, by omega, by omega, Nat.le_of_ble_eq_true rfl⟩ rfl rfl (fun q1603 hq1603 => ?_)
  show g_H E ce0 sl0 1606 [(0, vE 300), (1, vR 1), (2, vR 40), (3, vR 39), (4, vI x4)] [vI q1603, vI q1587] (σ, M, N) _ _
  refine r_icmp_eq J (tgt := 1908) rfl (by decide) (fun c1606 => ?_) (fun c1606 => ?_)
  · refine r_widen (ce' := (ce0 + 9)) (sl' := (sl0 + 11264)) (by omega) (by omega) ?_
    exact p_L_law_1908 J0 hXs hl hce hsl H23 x4 σ M N hL
  · refine r_run J 1 (pc' := 1610) (lv' := [(0, vE 300), (1, vR 1), (2, vR 40), (3, vR 39), (4, vI x4)]) (st' := [vI 0]) rfl ?_
    exact r_iret J rfl rfl rfl rfl (by omega) (by omega)
def tb_L_law_1561 : gT := [(1561, .aload_n 1, 1, 0), (1562, .invokevirtual 150, 3, 0), (1565, .aload_n 2, 1, 0), (1566, .invokevirtual 153, 3, 0), (1569, .if_icmp .eq 339, 3, 0), (1572, .iconst 0, 1, 0), (1573, .ireturn, 1, 0)]
set_option maxRecDepth 100000 in
theorem tk_L_law_1561 : g_okT code tb_L_law_1561 = true := by decide +kernel
set_option maxHeartbeats 4000000 in
set_option maxRecDepth 100000 in
theorem p_L_law_1561 {l : Launch} {E : gE} {L : Nat} {xs : Nat → Int32} (J0 : J_L_law E l) (hXs : g_Xs E L xs) (hl : l.stackTraces = false) {ce0 sl0 : Nat} (hce : ce0 + 9 ≤ 601024) (hsl : sl0 + 11264 ≤ 7293034) {k23 : Int32 → Nat → (Nat → Int32) → gS → gM → gN → Option (Int32 × gS × gM × gN)} (H23 : ∀ (x4 : Int32) (σ : gS) (M : gM) (N : gN) (_ : g_layL σ), g_H E (ce0 + 9) (sl0 + 11264) 23 [(0, vE 300), (1, vR 1), (2, vR 40), (3, vR 39), (4, vI x4)] [] (σ, M, N) (k23 x4 L xs σ M N) eISMN) (x4 : Int32) (σ : gS) (M : gM) (N : gN) (hL : g_layL σ) : g_H E ce0 sl0 1561 [(0, vE 300), (1, vR 1), (2, vR 40), (3, vR 39), (4, vI x4)] [] (σ, M, N) (b_L_law_1561 k23 x4 L xs σ M N) eISMN := by
  have J := g_J.tab J0 tk_L_law_1561
  unfold b_L_law_1561
  refine r_run J 1 (pc' := 1562) (lv' := [(0, vE 300), (1, vR 1), (2, vR 40), (3, vR 39), (4, vI x4)]) (st' := [vR 1]) rfl ?_
  refine r_callV J (As := []) (st := []) (fun r hr => c_X11_night σ M N (hL).1 r hr) cls11 (ly_1 (hL).1) wm_L_150 wy_X11_night wd_X11_night ⟨by decide, by decide, by omega, by omega, Nat.le_of_ble_eq_true rfl⟩ rfl rfl (fun q1562 hq1562 => ?_)
  show g_H E ce0 sl0 1565 [(0, vE 300), (1, vR 1), (2, vR 40), (3, vR 39), (4, vI x4)] [vI q1562.1] (σ, q1562.2, N) _ _
  refine r_run J 1 (pc' := 1566) (lv' := [(0, vE 300), (1, vR 1), (2, vR 40), (3, vR 39), (4, vI x4)]) (st' := [vR 40, vI q1562.1]) rfl ?_
  refine r_callV J (As := []) (st := [vI q1562.1]) (fun r hr => c_X12_night σ q1562.2 N (hL).2.1 r hr) cls12 (ly_40 (hL).2.1) wm_L_153 wy_X12_night wd_X12_night ⟨by decide, by decide, by omega, by omega, Nat.le_of_ble_eq_true rfl⟩ rfl rfl (fun q1566 hq1566 => ?_)
  show g_H E ce0 sl0 1569 [(0, vE 300), (1, vR 1), (2, vR 40), (3, vR 39), (4, vI x4)] [vI q1566.1, vI q1562.1] (σ, q1566.2.1, q1566.2.2) _ _
  refine r_icmp_eq J (tgt := 1908) rfl (by decide) (fun c1569 => ?_) (fun c1569 => ?_)
  · refine r_widen (ce' := (ce0 + 9)) (sl' := (sl0 + 11264)) (by omega) (by omega) ?_
    exact p_L_law_1908 J0 hXs hl hce hsl H23 x4 σ q1566.2.1 q1566.2.2 hL
  · refine r_run J 1 (pc' := 1573) (lv' := [(0, vE 300), (1, vR 1), (2, vR 40), (3, vR 39), (4, vI x4)]) (st' := [vI 0]) rfl ?_
    exact r_iret J rfl rfl rfl rfl (by omega) (by omega)
def tb_L_law_1536 : gT := [(1536, .aload_n 1, 1, 0), (1537, .aload_n 0, 1, 0), (1538, .iload 4, 2, 0), (1540, .iconst 1, 1, 1), (1541, .iadd, 1, 0), (1542, .iaload, 1, 0), (1543, .invokevirtual 146, 3, 0), (1546, .aload_n 2, 1, 0), (1547, .aload_n 0, 1, 0), (1548, .iload 4, 2, 0), (1550, .iconst 1, 1, 1), (1551, .iadd, 1, 0), (1552, .iaload, 1, 0), (1553, .invokevirtual 149, 3, 0), (1556, .if_icmp .eq 352, 3, 0), (1559, .iconst 0, 1, 0), (1560, .ireturn, 1, 0)]
set_option maxRecDepth 100000 in
theorem tk_L_law_1536 : g_okT code tb_L_law_1536 = true := by decide +kernel
set_option maxHeartbeats 4000000 in
set_option maxRecDepth 100000 in
theorem p_L_law_1536 {l : Launch} {E : gE} {L : Nat} {xs : Nat → Int32} (J0 : J_L_law E l) (hXs : g_Xs E L xs) (hl : l.stackTraces = false) {ce0 sl0 : Nat} (hce : ce0 + 9 ≤ 601024) (hsl : sl0 + 11264 ≤ 7293034) {k23 : Int32 → Nat → (Nat → Int32) → gS → gM → gN → Option (Int32 × gS × gM × gN)} (H23 : ∀ (x4 : Int32) (σ : gS) (M : gM) (N : gN) (_ : g_layL σ), g_H E (ce0 + 9) (sl0 + 11264) 23 [(0, vE 300), (1, vR 1), (2, vR 40), (3, vR 39), (4, vI x4)] [] (σ, M, N) (k23 x4 L xs σ M N) eISMN) (x4 : Int32) (σ : gS) (M : gM) (N : gN) (hL : g_layL σ) : g_H E ce0 sl0 1536 [(0, vE 300), (1, vR 1), (2, vR 40), (3, vR 39), (4, vI x4)] [] (σ, M, N) (b_L_law_1536 k23 x4 L xs σ M N) eISMN := by
  have J := g_J.tab J0 tk_L_law_1536
  unfold b_L_law_1536
  refine r_run J 5 (pc' := 1542) (lv' := [(0, vE 300), (1, vR 1), (2, vR 40), (3, vR 39), (4, vI x4)]) (st' := [vI (x4 + (1 : Int32)), vE 300, vR 1]) rfl ?_
  refine r_xld J hXs rfl (fun i1542 => ?_)
  show g_H E ce0 sl0 1543 [(0, vE 300), (1, vR 1), (2, vR 40), (3, vR 39), (4, vI x4)] [vI (xs (x4 + (1 : Int32)).toNatClampNeg), vR 1] (σ, M, N) _ _
  refine r_callV J (As := [vI (xs (x4 + (1 : Int32)).toNatClampNeg)]) (st := []) (fun r hr => c_X11_tripOf (xs (x4 + (1 : Int32)).toNatClampNeg) σ M N (hL).1 r hr) cls11 (ly_1 (hL).1) wm_L_146 wy_X11_tripOf wd_X11_tripOf ⟨by decide, by decide, by omega, by omega, Nat.le_of_ble_eq_true rfl⟩ rfl rfl (fun q1543 hq1543 => ?_)
  show g_H E ce0 sl0 1546 [(0, vE 300), (1, vR 1), (2, vR 40), (3, vR 39), (4, vI x4)] [vI q1543] (σ, M, N) _ _
  refine r_run J 5 (pc' := 1552) (lv' := [(0, vE 300), (1, vR 1), (2, vR 40), (3, vR 39), (4, vI x4)]) (st' := [vI (x4 + (1 : Int32)), vE 300, vR 40, vI q1543]) rfl ?_
  refine r_xld J hXs rfl (fun i1552 => ?_)
  show g_H E ce0 sl0 1553 [(0, vE 300), (1, vR 1), (2, vR 40), (3, vR 39), (4, vI x4)] [vI (xs (x4 + (1 : Int32)).toNatClampNeg), vR 40, vI q1543] (σ, M, N) _ _
  refine r_callV J (As := [vI (xs (x4 + (1 : Int32)).toNatClampNeg)]) (st := [vI q1543]) (fun r hr => c_X12_tripOf (xs (x4 + (1 : Int32)).toNatClampNeg) σ M N (hL).2.1 r hr) cls12 (ly_40 (hL).2.1) wm_L_149 wy_X12_tripOf wd_X12_tripOf ⟨by decide, by decide, by omega, by omega, Nat.le_of_ble_eq_true rfl⟩ rfl rfl (fun q1553 hq1553 => ?_)
  show g_H E ce0 sl0 1556 [(0, vE 300), (1, vR 1), (2, vR 40), (3, vR 39), (4, vI x4)] [vI q1553, vI q1543] (σ, M, N) _ _
  refine r_icmp_eq J (tgt := 1908) rfl (by decide) (fun c1556 => ?_) (fun c1556 => ?_)
  · refine r_widen (ce' := (ce0 + 9)) (sl' := (sl0 + 11264)) (by omega) (by omega) ?_
    exact p_L_law_1908 J0 hXs hl hce hsl H23 x4 σ M N hL
  · refine r_run J 1 (pc' := 1560) (lv' := [(0, vE 300), (1, vR 1), (2, vR 40), (3, vR 39), (4, vI x4)]) (st' := [vI 0]) rfl ?_
    exact r_iret J rfl rfl rfl rfl (by omega) (by omega)
def tb_L_law_1511 : gT := [(1511, .aload_n 1, 1, 0), (1512, .aload_n 0, 1, 0), (1513, .iload 4, 2, 0), (1515, .iconst 1, 1, 1), (1516, .iadd, 1, 0), (1517, .iaload, 1, 0), (1518, .invokevirtual 142, 3, 0), (1521, .aload_n 2, 1, 0), (1522, .aload_n 0, 1, 0), (1523, .iload 4, 2, 0), (1525, .iconst 1, 1, 1), (1526, .iadd, 1, 0), (1527, .iaload, 1, 0), (1528, .invokevirtual 145, 3, 0), (1531, .if_icmp .eq 377, 3, 0), (1534, .iconst 0, 1, 0), (1535, .ireturn, 1, 0)]
set_option maxRecDepth 100000 in
theorem tk_L_law_1511 : g_okT code tb_L_law_1511 = true := by decide +kernel
set_option maxHeartbeats 4000000 in
set_option maxRecDepth 100000 in
theorem p_L_law_1511 {l : Launch} {E : gE} {L : Nat} {xs : Nat → Int32} (J0 : J_L_law E l) (hXs : g_Xs E L xs) (hl : l.stackTraces = false) {ce0 sl0 : Nat} (hce : ce0 + 9 ≤ 601024) (hsl : sl0 + 11264 ≤ 7293034) {k23 : Int32 → Nat → (Nat → Int32) → gS → gM → gN → Option (Int32 × gS × gM × gN)} (H23 : ∀ (x4 : Int32) (σ : gS) (M : gM) (N : gN) (_ : g_layL σ), g_H E (ce0 + 9) (sl0 + 11264) 23 [(0, vE 300), (1, vR 1), (2, vR 40), (3, vR 39), (4, vI x4)] [] (σ, M, N) (k23 x4 L xs σ M N) eISMN) (x4 : Int32) (σ : gS) (M : gM) (N : gN) (hL : g_layL σ) : g_H E ce0 sl0 1511 [(0, vE 300), (1, vR 1), (2, vR 40), (3, vR 39), (4, vI x4)] [] (σ, M, N) (b_L_law_1511 k23 x4 L xs σ M N) eISMN := by
  have J := g_J.tab J0 tk_L_law_1511
  unfold b_L_law_1511
  refine r_run J 5 (pc' := 1517) (lv' := [(0, vE 300), (1, vR 1), (2, vR 40), (3, vR 39), (4, vI x4)]) (st' := [vI (x4 + (1 : Int32)), vE 300, vR 1]) rfl ?_
  refine r_xld J hXs rfl (fun i1517 => ?_)
  show g_H E ce0 sl0 1518 [(0, vE 300), (1, vR 1), (2, vR 40), (3, vR 39), (4, vI x4)] [vI (xs (x4 + (1 : Int32)).toNatClampNeg), vR 1] (σ, M, N) _ _
  refine r_callV J (As := [vI (xs (x4 + (1 : Int32)).toNatClampNeg)]) (st := []) (fun r hr => c_X11_trip (xs (x4 + (1 : Int32)).toNatClampNeg) σ M N (hL).1 r hr) cls11 (ly_1 (hL).1) wm_L_142 wy_X11_trip wd_X11_trip ⟨by decide, by decide, by omega, by omega, Nat.le_of_ble_eq_true rfl⟩ rfl rfl (fun q1518 hq1518 => ?_)
  show g_H E ce0 sl0 1521 [(0, vE 300), (1, vR 1), (2, vR 40), (3, vR 39), (4, vI x4)] [vI q1518.1] (σ, q1518.2, N) _ _
  refine r_run J 5 (pc' := 1527) (lv' := [(0, vE 300), (1, vR 1), (2, vR 40), (3, vR 39), (4, vI x4)]) (st' := [vI (x4 + (1 : Int32)), vE 300, vR 40, vI q1518.1]) rfl ?_
  refine r_xld J hXs rfl (fun i1527 => ?_)
  show g_H E ce0 sl0 1528 [(0, vE 300), (1, vR 1), (2, vR 40), (3, vR 39), (4, vI x4)] [vI (xs (x4 + (1 : Int32)).toNatClampNeg), vR 40, vI q1518.1] (σ, q1518.2, N) _ _
  refine r_callV J (As := [vI (xs (x4 + (1 : Int32)).toNatClampNeg)]) (st := [vI q1518.1]) (fun r hr => c_X12_trip (xs (x4 + (1 : Int32)).toNatClampNeg) σ q1518.2 N (hL).2.1 r hr) cls12 (ly_40 (hL).2.1) wm_L_145 wy_X12_trip wd_X12_trip ⟨by decide, by decide, by omega, by omega, Nat.le_of_ble_eq_true rfl⟩ rfl rfl (fun q1528 hq1528 => ?_)
  show g_H E ce0 sl0 1531 [(0, vE 300), (1, vR 1), (2, vR 40), (3, vR 39), (4, vI x4)] [vI q1528.1, vI q1518.1] (σ, q1528.2, N) _ _
  refine r_icmp_eq J (tgt := 1908) rfl (by decide) (fun c1531 => ?_) (fun c1531 => ?_)
  · refine r_widen (ce' := (ce0 + 9)) (sl' := (sl0 + 11264)) (by omega) (by omega) ?_
    exact p_L_law_1908 J0 hXs hl hce hsl H23 x4 σ q1528.2 N hL
  · refine r_run J 1 (pc' := 1535) (lv' := [(0, vE 300), (1, vR 1), (2, vR 40), (3, vR 39), (4, vI x4)]) (st' := [vI 0]) rfl ?_
    exact r_iret J rfl rfl rfl rfl (by omega) (by omega)
def tb_L_law_1498 : gT := [(1498, .aload_n 1, 1, 0), (1499, .invokevirtual 138, 3, 0), (1502, .aload_n 2, 1, 0), (1503, .invokevirtual 141, 3, 0), (1506, .if_icmp .eq 402, 3, 0), (1509, .iconst 0, 1, 0), (1510, .ireturn, 1, 0)]
set_option maxRecDepth 100000 in
theorem tk_L_law_1498 : g_okT code tb_L_law_1498 = true := by decide +kernel
set_option maxHeartbeats 4000000 in
set_option maxRecDepth 100000 in
theorem p_L_law_1498 {l : Launch} {E : gE} {L : Nat} {xs : Nat → Int32} (J0 : J_L_law E l) (hXs : g_Xs E L xs) (hl : l.stackTraces = false) {ce0 sl0 : Nat} (hce : ce0 + 9 ≤ 601024) (hsl : sl0 + 11264 ≤ 7293034) {k23 : Int32 → Nat → (Nat → Int32) → gS → gM → gN → Option (Int32 × gS × gM × gN)} (H23 : ∀ (x4 : Int32) (σ : gS) (M : gM) (N : gN) (_ : g_layL σ), g_H E (ce0 + 9) (sl0 + 11264) 23 [(0, vE 300), (1, vR 1), (2, vR 40), (3, vR 39), (4, vI x4)] [] (σ, M, N) (k23 x4 L xs σ M N) eISMN) (x4 : Int32) (σ : gS) (M : gM) (N : gN) (hL : g_layL σ) : g_H E ce0 sl0 1498 [(0, vE 300), (1, vR 1), (2, vR 40), (3, vR 39), (4, vI x4)] [] (σ, M, N) (b_L_law_1498 k23 x4 L xs σ M N) eISMN := by
  have J := g_J.tab J0 tk_L_law_1498
  unfold b_L_law_1498
  refine r_run J 1 (pc' := 1499) (lv' := [(0, vE 300), (1, vR 1), (2, vR 40), (3, vR 39), (4, vI x4)]) (st' := [vR 1]) rfl ?_
  refine r_callV J (As := []) (st := []) (fun r hr => c_X11_clear σ M N (hL).1 r hr) cls11 (ly_1 (hL).1) wm_L_138 wy_X11_clear wd_X11_clear ⟨by decide, by decide, by omega, by omega, Nat.le_of_ble_eq_true rfl⟩ rfl rfl (fun q1499 hq1499 => ?_)
  show g_H E ce0 sl0 1502 [(0, vE 300), (1, vR 1), (2, vR 40), (3, vR 39), (4, vI x4)] [vI q1499.1] (σ, q1499.2, N) _ _
  refine r_run J 1 (pc' := 1503) (lv' := [(0, vE 300), (1, vR 1), (2, vR 40), (3, vR 39), (4, vI x4)]) (st' := [vR 40, vI q1499.1]) rfl ?_
  refine r_callV J (As := []) (st := [vI q1499.1]) (fun r hr => c_X12_clear σ q1499.2 N (hL).2.1 r hr) cls12 (ly_40 (hL).2.1) wm_L_141 wy_X12_clear wd_X12_clear ⟨by decide, by decide, by omega, by omega, Nat.le_of_ble_eq_true rfl⟩ rfl rfl (fun q1503 hq1503 => ?_)
  show g_H E ce0 sl0 1506 [(0, vE 300), (1, vR 1), (2, vR 40), (3, vR 39), (4, vI x4)] [vI q1503.1, vI q1499.1] (σ, q1503.2, N) _ _
  refine r_icmp_eq J (tgt := 1908) rfl (by decide) (fun c1506 => ?_) (fun c1506 => ?_)
  · refine r_widen (ce' := (ce0 + 9)) (sl' := (sl0 + 11264)) (by omega) (by omega) ?_
    exact p_L_law_1908 J0 hXs hl hce hsl H23 x4 σ q1503.2 N hL
  · refine r_run J 1 (pc' := 1510) (lv' := [(0, vE 300), (1, vR 1), (2, vR 40), (3, vR 39), (4, vI x4)]) (st' := [vI 0]) rfl ?_
    exact r_iret J rfl rfl rfl rfl (by omega) (by omega)
def tb_L_law_1449 : gT := [(1449, .aload_n 1, 1, 0), (1450, .aload_n 0, 1, 0), (1451, .iload 4, 2, 0), (1453, .iconst 1, 1, 1), (1454, .iadd, 1, 0), (1455, .iaload, 1, 0), (1456, .aload_n 0, 1, 0), (1457, .iload 4, 2, 0), (1459, .iconst 2, 1, 2), (1460, .iadd, 1, 0), (1461, .iaload, 1, 0), (1462, .aload_n 0, 1, 0), (1463, .iload 4, 2, 0), (1465, .iconst 3, 1, 3), (1466, .iadd, 1, 0), (1467, .iaload, 1, 0), (1468, .invokevirtual 134, 3, 0), (1471, .aload_n 2, 1, 0), (1472, .aload_n 0, 1, 0), (1473, .iload 4, 2, 0), (1475, .iconst 1, 1, 1), (1476, .iadd, 1, 0), (1477, .iaload, 1, 0), (1478, .aload_n 0, 1, 0), (1479, .iload 4, 2, 0), (1481, .iconst 2, 1, 2), (1482, .iadd, 1, 0), (1483, .iaload, 1, 0), (1484, .aload_n 0, 1, 0), (1485, .iload 4, 2, 0), (1487, .iconst 3, 1, 3), (1488, .iadd, 1, 0), (1489, .iaload, 1, 0), (1490, .invokevirtual 137, 3, 0), (1493, .if_icmp .eq 415, 3, 0), (1496, .iconst 0, 1, 0), (1497, .ireturn, 1, 0)]
set_option maxRecDepth 100000 in
theorem tk_L_law_1449 : g_okT code tb_L_law_1449 = true := by decide +kernel
set_option maxHeartbeats 4000000 in
set_option maxRecDepth 100000 in
theorem p_L_law_1449 {l : Launch} {E : gE} {L : Nat} {xs : Nat → Int32} (J0 : J_L_law E l) (hXs : g_Xs E L xs) (hl : l.stackTraces = false) {ce0 sl0 : Nat} (hce : ce0 + 9 ≤ 601024) (hsl : sl0 + 11264 ≤ 7293034) {k23 : Int32 → Nat → (Nat → Int32) → gS → gM → gN → Option (Int32 × gS × gM × gN)} (H23 : ∀ (x4 : Int32) (σ : gS) (M : gM) (N : gN) (_ : g_layL σ), g_H E (ce0 + 9) (sl0 + 11264) 23 [(0, vE 300), (1, vR 1), (2, vR 40), (3, vR 39), (4, vI x4)] [] (σ, M, N) (k23 x4 L xs σ M N) eISMN) (x4 : Int32) (σ : gS) (M : gM) (N : gN) (hL : g_layL σ) : g_H E ce0 sl0 1449 [(0, vE 300), (1, vR 1), (2, vR 40), (3, vR 39), (4, vI x4)] [] (σ, M, N) (b_L_law_1449 k23 x4 L xs σ M N) eISMN := by
  have J := g_J.tab J0 tk_L_law_1449
  unfold b_L_law_1449
  refine r_run J 5 (pc' := 1455) (lv' := [(0, vE 300), (1, vR 1), (2, vR 40), (3, vR 39), (4, vI x4)]) (st' := [vI (x4 + (1 : Int32)), vE 300, vR 1]) rfl ?_
  refine r_xld J hXs rfl (fun i1455 => ?_)
  show g_H E ce0 sl0 1456 [(0, vE 300), (1, vR 1), (2, vR 40), (3, vR 39), (4, vI x4)] [vI (xs (x4 + (1 : Int32)).toNatClampNeg), vR 1] (σ, M, N) _ _
  refine r_run J 4 (pc' := 1461) (lv' := [(0, vE 300), (1, vR 1), (2, vR 40), (3, vR 39), (4, vI x4)]) (st' := [vI (x4 + (2 : Int32)), vE 300, vI (xs (x4 + (1 : Int32)).toNatClampNeg), vR 1]) rfl ?_
  refine r_xld J hXs rfl (fun i1461 => ?_)
  show g_H E ce0 sl0 1462 [(0, vE 300), (1, vR 1), (2, vR 40), (3, vR 39), (4, vI x4)] [vI (xs (x4 + (2 : Int32)).toNatClampNeg), vI (xs (x4 + (1 : Int32)).toNatClampNeg), vR 1] (σ, M, N) _ _
  refine r_run J 4 (pc' := 1467) (lv' := [(0, vE 300), (1, vR 1), (2, vR 40), (3, vR 39), (4, vI x4)]) (st' := [vI (x4 + (3 : Int32)), vE 300, vI (xs (x4 + (2 : Int32)).toNatClampNeg), vI (xs (x4 + (1 : Int32)).toNatClampNeg), vR 1]) rfl ?_
  refine r_xld J hXs rfl (fun i1467 => ?_)
  show g_H E ce0 sl0 1468 [(0, vE 300), (1, vR 1), (2, vR 40), (3, vR 39), (4, vI x4)] [vI (xs (x4 + (3 : Int32)).toNatClampNeg), vI (xs (x4 + (2 : Int32)).toNatClampNeg), vI (xs (x4 + (1 : Int32)).toNatClampNeg), vR 1] (σ, M, N) _ _
  refine r_callV J (As := [vI (xs (x4 + (1 : Int32)).toNatClampNeg), vI (xs (x4 + (2 : Int32)).toNatClampNeg), vI (xs (x4 + (3 : Int32)).toNatClampNeg)]) (st := []) (fun r hr => c_X11_way (xs (x4 + (1 : Int32)).toNatClampNeg) (xs (x4 + (2 : Int32)).toNatClampNeg) (xs (x4 + (3 : Int32)).toNatClampNeg) σ M N (hL).1 r hr) cls11 (ly_1 (hL).1) wm_L_134 wy_X11_way wd_X11_way ⟨by decide, by decide, by omega, by omega, Nat.le_of_ble_eq_true rfl⟩ rfl rfl (fun q1468 hq1468 => ?_)
  show g_H E ce0 sl0 1471 [(0, vE 300), (1, vR 1), (2, vR 40), (3, vR 39), (4, vI x4)] [vI q1468.1] (σ, q1468.2, N) _ _
  refine r_run J 5 (pc' := 1477) (lv' := [(0, vE 300), (1, vR 1), (2, vR 40), (3, vR 39), (4, vI x4)]) (st' := [vI (x4 + (1 : Int32)), vE 300, vR 40, vI q1468.1]) rfl ?_
  refine r_xld J hXs rfl (fun i1477 => ?_)
  show g_H E ce0 sl0 1478 [(0, vE 300), (1, vR 1), (2, vR 40), (3, vR 39), (4, vI x4)] [vI (xs (x4 + (1 : Int32)).toNatClampNeg), vR 40, vI q1468.1] (σ, q1468.2, N) _ _
  refine r_run J 4 (pc' := 1483) (lv' := [(0, vE 300), (1, vR 1), (2, vR 40), (3, vR 39), (4, vI x4)]) (st' := [vI (x4 + (2 : Int32)), vE 300, vI (xs (x4 + (1 : Int32)).toNatClampNeg), vR 40, vI q1468.1]) rfl ?_
  refine r_xld J hXs rfl (fun i1483 => ?_)
  show g_H E ce0 sl0 1484 [(0, vE 300), (1, vR 1), (2, vR 40), (3, vR 39), (4, vI x4)] [vI (xs (x4 + (2 : Int32)).toNatClampNeg), vI (xs (x4 + (1 : Int32)).toNatClampNeg), vR 40, vI q1468.1] (σ, q1468.2, N) _ _
  refine r_run J 4 (pc' := 1489) (lv' := [(0, vE 300), (1, vR 1), (2, vR 40), (3, vR 39), (4, vI x4)]) (st' := [vI (x4 + (3 : Int32)), vE 300, vI (xs (x4 + (2 : Int32)).toNatClampNeg), vI (xs (x4 + (1 : Int32)).toNatClampNeg), vR 40, vI q1468.1]) rfl ?_
  refine r_xld J hXs rfl (fun i1489 => ?_)
  show g_H E ce0 sl0 1490 [(0, vE 300), (1, vR 1), (2, vR 40), (3, vR 39), (4, vI x4)] [vI (xs (x4 + (3 : Int32)).toNatClampNeg), vI (xs (x4 + (2 : Int32)).toNatClampNeg), vI (xs (x4 + (1 : Int32)).toNatClampNeg), vR 40, vI q1468.1] (σ, q1468.2, N) _ _
  refine r_callV J (As := [vI (xs (x4 + (1 : Int32)).toNatClampNeg), vI (xs (x4 + (2 : Int32)).toNatClampNeg), vI (xs (x4 + (3 : Int32)).toNatClampNeg)]) (st := [vI q1468.1]) (fun r hr => c_X12_way (xs (x4 + (1 : Int32)).toNatClampNeg) (xs (x4 + (2 : Int32)).toNatClampNeg) (xs (x4 + (3 : Int32)).toNatClampNeg) σ q1468.2 N (hL).2.1 r hr) cls12 (ly_40 (hL).2.1) wm_L_137 wy_X12_way wd_X12_way ⟨by decide, by decide, by omega, by omega, Nat.le_of_ble_eq_true rfl⟩ rfl rfl (fun q1490 hq1490 => ?_)
  show g_H E ce0 sl0 1493 [(0, vE 300), (1, vR 1), (2, vR 40), (3, vR 39), (4, vI x4)] [vI q1490.1, vI q1468.1] (σ, q1490.2, N) _ _
  refine r_icmp_eq J (tgt := 1908) rfl (by decide) (fun c1493 => ?_) (fun c1493 => ?_)
  · refine r_widen (ce' := (ce0 + 9)) (sl' := (sl0 + 11264)) (by omega) (by omega) ?_
    exact p_L_law_1908 J0 hXs hl hce hsl H23 x4 σ q1490.2 N hL
  · refine r_run J 1 (pc' := 1497) (lv' := [(0, vE 300), (1, vR 1), (2, vR 40), (3, vR 39), (4, vI x4)]) (st' := [vI 0]) rfl ?_
    exact r_iret J rfl rfl rfl rfl (by omega) (by omega)
def tb_L_law_1400 : gT := [(1400, .aload_n 1, 1, 0), (1401, .aload_n 0, 1, 0), (1402, .iload 4, 2, 0), (1404, .iconst 1, 1, 1), (1405, .iadd, 1, 0), (1406, .iaload, 1, 0), (1407, .aload_n 0, 1, 0), (1408, .iload 4, 2, 0), (1410, .iconst 2, 1, 2), (1411, .iadd, 1, 0), (1412, .iaload, 1, 0), (1413, .aload_n 0, 1, 0), (1414, .iload 4, 2, 0), (1416, .iconst 3, 1, 3), (1417, .iadd, 1, 0), (1418, .iaload, 1, 0), (1419, .invokevirtual 130, 3, 0), (1422, .aload_n 2, 1, 0), (1423, .aload_n 0, 1, 0), (1424, .iload 4, 2, 0), (1426, .iconst 1, 1, 1), (1427, .iadd, 1, 0), (1428, .iaload, 1, 0), (1429, .aload_n 0, 1, 0), (1430, .iload 4, 2, 0), (1432, .iconst 2, 1, 2), (1433, .iadd, 1, 0), (1434, .iaload, 1, 0), (1435, .aload_n 0, 1, 0), (1436, .iload 4, 2, 0), (1438, .iconst 3, 1, 3), (1439, .iadd, 1, 0), (1440, .iaload, 1, 0), (1441, .invokevirtual 133, 3, 0), (1444, .if_icmp .eq 464, 3, 0), (1447, .iconst 0, 1, 0), (1448, .ireturn, 1, 0)]
set_option maxRecDepth 100000 in
theorem tk_L_law_1400 : g_okT code tb_L_law_1400 = true := by decide +kernel
set_option maxHeartbeats 4000000 in
set_option maxRecDepth 100000 in
theorem p_L_law_1400 {l : Launch} {E : gE} {L : Nat} {xs : Nat → Int32} (J0 : J_L_law E l) (hXs : g_Xs E L xs) (hl : l.stackTraces = false) {ce0 sl0 : Nat} (hce : ce0 + 9 ≤ 601024) (hsl : sl0 + 11264 ≤ 7293034) {k23 : Int32 → Nat → (Nat → Int32) → gS → gM → gN → Option (Int32 × gS × gM × gN)} (H23 : ∀ (x4 : Int32) (σ : gS) (M : gM) (N : gN) (_ : g_layL σ), g_H E (ce0 + 9) (sl0 + 11264) 23 [(0, vE 300), (1, vR 1), (2, vR 40), (3, vR 39), (4, vI x4)] [] (σ, M, N) (k23 x4 L xs σ M N) eISMN) (x4 : Int32) (σ : gS) (M : gM) (N : gN) (hL : g_layL σ) : g_H E ce0 sl0 1400 [(0, vE 300), (1, vR 1), (2, vR 40), (3, vR 39), (4, vI x4)] [] (σ, M, N) (b_L_law_1400 k23 x4 L xs σ M N) eISMN := by
  have J := g_J.tab J0 tk_L_law_1400
  unfold b_L_law_1400
  refine r_run J 5 (pc' := 1406) (lv' := [(0, vE 300), (1, vR 1), (2, vR 40), (3, vR 39), (4, vI x4)]) (st' := [vI (x4 + (1 : Int32)), vE 300, vR 1]) rfl ?_
  refine r_xld J hXs rfl (fun i1406 => ?_)
  show g_H E ce0 sl0 1407 [(0, vE 300), (1, vR 1), (2, vR 40), (3, vR 39), (4, vI x4)] [vI (xs (x4 + (1 : Int32)).toNatClampNeg), vR 1] (σ, M, N) _ _
  refine r_run J 4 (pc' := 1412) (lv' := [(0, vE 300), (1, vR 1), (2, vR 40), (3, vR 39), (4, vI x4)]) (st' := [vI (x4 + (2 : Int32)), vE 300, vI (xs (x4 + (1 : Int32)).toNatClampNeg), vR 1]) rfl ?_
  refine r_xld J hXs rfl (fun i1412 => ?_)
  show g_H E ce0 sl0 1413 [(0, vE 300), (1, vR 1), (2, vR 40), (3, vR 39), (4, vI x4)] [vI (xs (x4 + (2 : Int32)).toNatClampNeg), vI (xs (x4 + (1 : Int32)).toNatClampNeg), vR 1] (σ, M, N) _ _
  refine r_run J 4 (pc' := 1418) (lv' := [(0, vE 300), (1, vR 1), (2, vR 40), (3, vR 39), (4, vI x4)]) (st' := [vI (x4 + (3 : Int32)), vE 300, vI (xs (x4 + (2 : Int32)).toNatClampNeg), vI (xs (x4 + (1 : Int32)).toNatClampNeg), vR 1]) rfl ?_
  refine r_xld J hXs rfl (fun i1418 => ?_)
  show g_H E ce0 sl0 1419 [(0, vE 300), (1, vR 1), (2, vR 40), (3, vR 39), (4, vI x4)] [vI (xs (x4 + (3 : Int32)).toNatClampNeg), vI (xs (x4 + (2 : Int32)).toNatClampNeg), vI (xs (x4 + (1 : Int32)).toNatClampNeg), vR 1] (σ, M, N) _ _
  refine r_callV J (As := [vI (xs (x4 + (1 : Int32)).toNatClampNeg), vI (xs (x4 + (2 : Int32)).toNatClampNeg), vI (xs (x4 + (3 : Int32)).toNatClampNeg)]) (st := []) (fun r hr => c_X11_sight (xs (x4 + (1 : Int32)).toNatClampNeg) (xs (x4 + (2 : Int32)).toNatClampNeg) (xs (x4 + (3 : Int32)).toNatClampNeg) σ M N (hL).1 r hr) cls11 (ly_1 (hL).1) wm_L_130 wy_X11_sight wd_X11_sight ⟨by decide, by decide, by omega, by omega, Nat.le_of_ble_eq_true rfl⟩ rfl rfl (fun q1419 hq1419 => ?_)
  show g_H E ce0 sl0 1422 [(0, vE 300), (1, vR 1), (2, vR 40), (3, vR 39), (4, vI x4)] [vI q1419.1] (σ, q1419.2, N) _ _
  refine r_run J 5 (pc' := 1428) (lv' := [(0, vE 300), (1, vR 1), (2, vR 40), (3, vR 39), (4, vI x4)]) (st' := [vI (x4 + (1 : Int32)), vE 300, vR 40, vI q1419.1]) rfl ?_
  refine r_xld J hXs rfl (fun i1428 => ?_)
  show g_H E ce0 sl0 1429 [(0, vE 300), (1, vR 1), (2, vR 40), (3, vR 39), (4, vI x4)] [vI (xs (x4 + (1 : Int32)).toNatClampNeg), vR 40, vI q1419.1] (σ, q1419.2, N) _ _
  refine r_run J 4 (pc' := 1434) (lv' := [(0, vE 300), (1, vR 1), (2, vR 40), (3, vR 39), (4, vI x4)]) (st' := [vI (x4 + (2 : Int32)), vE 300, vI (xs (x4 + (1 : Int32)).toNatClampNeg), vR 40, vI q1419.1]) rfl ?_
  refine r_xld J hXs rfl (fun i1434 => ?_)
  show g_H E ce0 sl0 1435 [(0, vE 300), (1, vR 1), (2, vR 40), (3, vR 39), (4, vI x4)] [vI (xs (x4 + (2 : Int32)).toNatClampNeg), vI (xs (x4 + (1 : Int32)).toNatClampNeg), vR 40, vI q1419.1] (σ, q1419.2, N) _ _
  refine r_run J 4 (pc' := 1440) (lv' := [(0, vE 300), (1, vR 1), (2, vR 40), (3, vR 39), (4, vI x4)]) (st' := [vI (x4 + (3 : Int32)), vE 300, vI (xs (x4 + (2 : Int32)).toNatClampNeg), vI (xs (x4 + (1 : Int32)).toNatClampNeg), vR 40, vI q1419.1]) rfl ?_
  refine r_xld J hXs rfl (fun i1440 => ?_)
  show g_H E ce0 sl0 1441 [(0, vE 300), (1, vR 1), (2, vR 40), (3, vR 39), (4, vI x4)] [vI (xs (x4 + (3 : Int32)).toNatClampNeg), vI (xs (x4 + (2 : Int32)).toNatClampNeg), vI (xs (x4 + (1 : Int32)).toNatClampNeg), vR 40, vI q1419.1] (σ, q1419.2, N) _ _
  refine r_callV J (As := [vI (xs (x4 + (1 : Int32)).toNatClampNeg), vI (xs (x4 + (2 : Int32)).toNatClampNeg), vI (xs (x4 + (3 : Int32)).toNatClampNeg)]) (st := [vI q1419.1]) (fun r hr => c_X12_sight (xs (x4 + (1 : Int32)).toNatClampNeg) (xs (x4 + (2 : Int32)).toNatClampNeg) (xs (x4 + (3 : Int32)).toNatClampNeg) σ q1419.2 N (hL).2.1 r hr) cls12 (ly_40 (hL).2.1) wm_L_133 wy_X12_sight wd_X12_sight ⟨by decide, by decide, by omega, by omega, Nat.le_of_ble_eq_true rfl⟩ rfl rfl (fun q1441 hq1441 => ?_)
  show g_H E ce0 sl0 1444 [(0, vE 300), (1, vR 1), (2, vR 40), (3, vR 39), (4, vI x4)] [vI q1441.1, vI q1419.1] (σ, q1441.2, N) _ _
  refine r_icmp_eq J (tgt := 1908) rfl (by decide) (fun c1444 => ?_) (fun c1444 => ?_)
  · refine r_widen (ce' := (ce0 + 9)) (sl' := (sl0 + 11264)) (by omega) (by omega) ?_
    exact p_L_law_1908 J0 hXs hl hce hsl H23 x4 σ q1441.2 N hL
  · refine r_run J 1 (pc' := 1448) (lv' := [(0, vE 300), (1, vR 1), (2, vR 40), (3, vR 39), (4, vI x4)]) (st' := [vI 0]) rfl ?_
    exact r_iret J rfl rfl rfl rfl (by omega) (by omega)
def tb_L_law_1327 : gT := [(1327, .aload_n 1, 1, 0), (1328, .aload_n 0, 1, 0), (1329, .iload 4, 2, 0), (1331, .iconst 1, 1, 1), (1332, .iadd, 1, 0), (1333, .iaload, 1, 0), (1334, .aload_n 0, 1, 0), (1335, .iload 4, 2, 0), (1337, .iconst 2, 1, 2), (1338, .iadd, 1, 0), (1339, .iaload, 1, 0), (1340, .aload_n 0, 1, 0), (1341, .iload 4, 2, 0), (1343, .iconst 3, 1, 3), (1344, .iadd, 1, 0), (1345, .iaload, 1, 0), (1346, .aload_n 0, 1, 0), (1347, .iload 4, 2, 0), (1349, .iconst 4, 1, 4), (1350, .iadd, 1, 0), (1351, .iaload, 1, 0), (1352, .aload_n 0, 1, 0), (1353, .iload 4, 2, 0), (1355, .iconst 5, 1, 5), (1356, .iadd, 1, 0), (1357, .iaload, 1, 0), (1358, .invokevirtual 126, 3, 0), (1361, .aload_n 2, 1, 0), (1362, .aload_n 0, 1, 0), (1363, .iload 4, 2, 0), (1365, .iconst 1, 1, 1), (1366, .iadd, 1, 0), (1367, .iaload, 1, 0), (1368, .aload_n 0, 1, 0), (1369, .iload 4, 2, 0), (1371, .iconst 2, 1, 2), (1372, .iadd, 1, 0), (1373, .iaload, 1, 0), (1374, .aload_n 0, 1, 0), (1375, .iload 4, 2, 0), (1377, .iconst 3, 1, 3), (1378, .iadd, 1, 0), (1379, .iaload, 1, 0), (1380, .aload_n 0, 1, 0), (1381, .iload 4, 2, 0), (1383, .iconst 4, 1, 4), (1384, .iadd, 1, 0), (1385, .iaload, 1, 0), (1386, .aload_n 0, 1, 0), (1387, .iload 4, 2, 0), (1389, .iconst 5, 1, 5), (1390, .iadd, 1, 0), (1391, .iaload, 1, 0), (1392, .invokevirtual 129, 3, 0), (1395, .if_icmp .eq 513, 3, 0), (1398, .iconst 0, 1, 0), (1399, .ireturn, 1, 0)]
set_option maxRecDepth 100000 in
theorem tk_L_law_1327 : g_okT code tb_L_law_1327 = true := by decide +kernel
set_option maxHeartbeats 4000000 in
set_option maxRecDepth 100000 in
theorem p_L_law_1327 {l : Launch} {E : gE} {L : Nat} {xs : Nat → Int32} (J0 : J_L_law E l) (hXs : g_Xs E L xs) (hl : l.stackTraces = false) {ce0 sl0 : Nat} (hce : ce0 + 9 ≤ 601024) (hsl : sl0 + 11264 ≤ 7293034) {k23 : Int32 → Nat → (Nat → Int32) → gS → gM → gN → Option (Int32 × gS × gM × gN)} (H23 : ∀ (x4 : Int32) (σ : gS) (M : gM) (N : gN) (_ : g_layL σ), g_H E (ce0 + 9) (sl0 + 11264) 23 [(0, vE 300), (1, vR 1), (2, vR 40), (3, vR 39), (4, vI x4)] [] (σ, M, N) (k23 x4 L xs σ M N) eISMN) (x4 : Int32) (σ : gS) (M : gM) (N : gN) (hL : g_layL σ) : g_H E ce0 sl0 1327 [(0, vE 300), (1, vR 1), (2, vR 40), (3, vR 39), (4, vI x4)] [] (σ, M, N) (b_L_law_1327 k23 x4 L xs σ M N) eISMN := by
  have J := g_J.tab J0 tk_L_law_1327
  unfold b_L_law_1327
  refine r_run J 5 (pc' := 1333) (lv' := [(0, vE 300), (1, vR 1), (2, vR 40), (3, vR 39), (4, vI x4)]) (st' := [vI (x4 + (1 : Int32)), vE 300, vR 1]) rfl ?_
  refine r_xld J hXs rfl (fun i1333 => ?_)
  show g_H E ce0 sl0 1334 [(0, vE 300), (1, vR 1), (2, vR 40), (3, vR 39), (4, vI x4)] [vI (xs (x4 + (1 : Int32)).toNatClampNeg), vR 1] (σ, M, N) _ _
  refine r_run J 4 (pc' := 1339) (lv' := [(0, vE 300), (1, vR 1), (2, vR 40), (3, vR 39), (4, vI x4)]) (st' := [vI (x4 + (2 : Int32)), vE 300, vI (xs (x4 + (1 : Int32)).toNatClampNeg), vR 1]) rfl ?_
  refine r_xld J hXs rfl (fun i1339 => ?_)
  show g_H E ce0 sl0 1340 [(0, vE 300), (1, vR 1), (2, vR 40), (3, vR 39), (4, vI x4)] [vI (xs (x4 + (2 : Int32)).toNatClampNeg), vI (xs (x4 + (1 : Int32)).toNatClampNeg), vR 1] (σ, M, N) _ _
  refine r_run J 4 (pc' := 1345) (lv' := [(0, vE 300), (1, vR 1), (2, vR 40), (3, vR 39), (4, vI x4)]) (st' := [vI (x4 + (3 : Int32)), vE 300, vI (xs (x4 + (2 : Int32)).toNatClampNeg), vI (xs (x4 + (1 : Int32)).toNatClampNeg), vR 1]) rfl ?_
  refine r_xld J hXs rfl (fun i1345 => ?_)
  show g_H E ce0 sl0 1346 [(0, vE 300), (1, vR 1), (2, vR 40), (3, vR 39), (4, vI x4)] [vI (xs (x4 + (3 : Int32)).toNatClampNeg), vI (xs (x4 + (2 : Int32)).toNatClampNeg), vI (xs (x4 + (1 : Int32)).toNatClampNeg), vR 1] (σ, M, N) _ _
  refine r_run J 4 (pc' := 1351) (lv' := [(0, vE 300), (1, vR 1), (2, vR 40), (3, vR 39), (4, vI x4)]) (st' := [vI (x4 + (4 : Int32)), vE 300, vI (xs (x4 + (3 : Int32)).toNatClampNeg), vI (xs (x4 + (2 : Int32)).toNatClampNeg), vI (xs (x4 + (1 : Int32)).toNatClampNeg), vR 1]) rfl ?_
  refine r_xld J hXs rfl (fun i1351 => ?_)
  show g_H E ce0 sl0 1352 [(0, vE 300), (1, vR 1), (2, vR 40), (3, vR 39), (4, vI x4)] [vI (xs (x4 + (4 : Int32)).toNatClampNeg), vI (xs (x4 + (3 : Int32)).toNatClampNeg), vI (xs (x4 + (2 : Int32)).toNatClampNeg), vI (xs (x4 + (1 : Int32)).toNatClampNeg), vR 1] (σ, M, N) _ _
  refine r_run J 4 (pc' := 1357) (lv' := [(0, vE 300), (1, vR 1), (2, vR 40), (3, vR 39), (4, vI x4)]) (st' := [vI (x4 + (5 : Int32)), vE 300, vI (xs (x4 + (4 : Int32)).toNatClampNeg), vI (xs (x4 + (3 : Int32)).toNatClampNeg), vI (xs (x4 + (2 : Int32)).toNatClampNeg), vI (xs (x4 + (1 : Int32)).toNatClampNeg), vR 1]) rfl ?_
  refine r_xld J hXs rfl (fun i1357 => ?_)
  show g_H E ce0 sl0 1358 [(0, vE 300), (1, vR 1), (2, vR 40), (3, vR 39), (4, vI x4)] [vI (xs (x4 + (5 : Int32)).toNatClampNeg), vI (xs (x4 + (4 : Int32)).toNatClampNeg), vI (xs (x4 + (3 : Int32)).toNatClampNeg), vI (xs (x4 + (2 : Int32)).toNatClampNeg), vI (xs (x4 + (1 : Int32)).toNatClampNeg), vR 1] (σ, M, N) _ _
  refine r_callV J (As := [vI (xs (x4 + (1 : Int32)).toNatClampNeg), vI (xs (x4 + (2 : Int32)).toNatClampNeg), vI (xs (x4 + (3 : Int32)).toNatClampNeg), vI (xs (x4 + (4 : Int32)).toNatClampNeg), vI (xs (x4 + (5 : Int32)).toNatClampNeg)]) (st := []) (fun r hr => c_X11_gives (xs (x4 + (1 : Int32)).toNatClampNeg) (xs (x4 + (2 : Int32)).toNatClampNeg) (xs (x4 + (3 : Int32)).toNatClampNeg) (xs (x4 + (4 : Int32)).toNatClampNeg) (xs (x4 + (5 : Int32)).toNatClampNeg) σ M N (hL).1 r hr) cls11 (ly_1 (hL).1) wm_L_126 wy_X11_gives wd_X11_gives ⟨by decide, by decide, by omega, by omega, Nat.le_of_ble_eq_true rfl⟩ rfl rfl (fun q1358 hq1358 => ?_)
  show g_H E ce0 sl0 1361 [(0, vE 300), (1, vR 1), (2, vR 40), (3, vR 39), (4, vI x4)] [vI q1358.1] (σ, q1358.2, N) _ _
  refine r_run J 5 (pc' := 1367) (lv' := [(0, vE 300), (1, vR 1), (2, vR 40), (3, vR 39), (4, vI x4)]) (st' := [vI (x4 + (1 : Int32)), vE 300, vR 40, vI q1358.1]) rfl ?_
  refine r_xld J hXs rfl (fun i1367 => ?_)
  show g_H E ce0 sl0 1368 [(0, vE 300), (1, vR 1), (2, vR 40), (3, vR 39), (4, vI x4)] [vI (xs (x4 + (1 : Int32)).toNatClampNeg), vR 40, vI q1358.1] (σ, q1358.2, N) _ _
  refine r_run J 4 (pc' := 1373) (lv' := [(0, vE 300), (1, vR 1), (2, vR 40), (3, vR 39), (4, vI x4)]) (st' := [vI (x4 + (2 : Int32)), vE 300, vI (xs (x4 + (1 : Int32)).toNatClampNeg), vR 40, vI q1358.1]) rfl ?_
  refine r_xld J hXs rfl (fun i1373 => ?_)
  show g_H E ce0 sl0 1374 [(0, vE 300), (1, vR 1), (2, vR 40), (3, vR 39), (4, vI x4)] [vI (xs (x4 + (2 : Int32)).toNatClampNeg), vI (xs (x4 + (1 : Int32)).toNatClampNeg), vR 40, vI q1358.1] (σ, q1358.2, N) _ _
  refine r_run J 4 (pc' := 1379) (lv' := [(0, vE 300), (1, vR 1), (2, vR 40), (3, vR 39), (4, vI x4)]) (st' := [vI (x4 + (3 : Int32)), vE 300, vI (xs (x4 + (2 : Int32)).toNatClampNeg), vI (xs (x4 + (1 : Int32)).toNatClampNeg), vR 40, vI q1358.1]) rfl ?_
  refine r_xld J hXs rfl (fun i1379 => ?_)
  show g_H E ce0 sl0 1380 [(0, vE 300), (1, vR 1), (2, vR 40), (3, vR 39), (4, vI x4)] [vI (xs (x4 + (3 : Int32)).toNatClampNeg), vI (xs (x4 + (2 : Int32)).toNatClampNeg), vI (xs (x4 + (1 : Int32)).toNatClampNeg), vR 40, vI q1358.1] (σ, q1358.2, N) _ _
  refine r_run J 4 (pc' := 1385) (lv' := [(0, vE 300), (1, vR 1), (2, vR 40), (3, vR 39), (4, vI x4)]) (st' := [vI (x4 + (4 : Int32)), vE 300, vI (xs (x4 + (3 : Int32)).toNatClampNeg), vI (xs (x4 + (2 : Int32)).toNatClampNeg), vI (xs (x4 + (1 : Int32)).toNatClampNeg), vR 40, vI q1358.1]) rfl ?_
  refine r_xld J hXs rfl (fun i1385 => ?_)
  show g_H E ce0 sl0 1386 [(0, vE 300), (1, vR 1), (2, vR 40), (3, vR 39), (4, vI x4)] [vI (xs (x4 + (4 : Int32)).toNatClampNeg), vI (xs (x4 + (3 : Int32)).toNatClampNeg), vI (xs (x4 + (2 : Int32)).toNatClampNeg), vI (xs (x4 + (1 : Int32)).toNatClampNeg), vR 40, vI q1358.1] (σ, q1358.2, N) _ _
  refine r_run J 4 (pc' := 1391) (lv' := [(0, vE 300), (1, vR 1), (2, vR 40), (3, vR 39), (4, vI x4)]) (st' := [vI (x4 + (5 : Int32)), vE 300, vI (xs (x4 + (4 : Int32)).toNatClampNeg), vI (xs (x4 + (3 : Int32)).toNatClampNeg), vI (xs (x4 + (2 : Int32)).toNatClampNeg), vI (xs (x4 + (1 : Int32)).toNatClampNeg), vR 40, vI q1358.1]) rfl ?_
  refine r_xld J hXs rfl (fun i1391 => ?_)
  show g_H E ce0 sl0 1392 [(0, vE 300), (1, vR 1), (2, vR 40), (3, vR 39), (4, vI x4)] [vI (xs (x4 + (5 : Int32)).toNatClampNeg), vI (xs (x4 + (4 : Int32)).toNatClampNeg), vI (xs (x4 + (3 : Int32)).toNatClampNeg), vI (xs (x4 + (2 : Int32)).toNatClampNeg), vI (xs (x4 + (1 : Int32)).toNatClampNeg), vR 40, vI q1358.1] (σ, q1358.2, N) _ _
  refine r_callV J (As := [vI (xs (x4 + (1 : Int32)).toNatClampNeg), vI (xs (x4 + (2 : Int32)).toNatClampNeg), vI (xs (x4 + (3 : Int32)).toNatClampNeg), vI (xs (x4 + (4 : Int32)).toNatClampNeg), vI (xs (x4 + (5 : Int32)).toNatClampNeg)]) (st := [vI q1358.1]) (fun r hr => c_X12_gives (xs (x4 + (1 : Int32)).toNatClampNeg) (xs (x4 + (2 : Int32)).toNatClampNeg) (xs (x4 + (3 : Int32)).toNatClampNeg) (xs (x4 + (4 : Int32)).toNatClampNeg) (xs (x4 + (5 : Int32)).toNatClampNeg) σ q1358.2 N (hL).2.1 r hr) cls12 (ly_40 (hL).2.1) wm_L_129 wy_X12_gives wd_X12_gives ⟨by decide, by decide, by omega, by omega, Nat.le_of_ble_eq_true rfl⟩ rfl rfl (fun q1392 hq1392 => ?_)
  show g_H E ce0 sl0 1395 [(0, vE 300), (1, vR 1), (2, vR 40), (3, vR 39), (4, vI x4)] [vI q1392.1, vI q1358.1] (σ, q1392.2.1, q1392.2.2) _ _
  refine r_icmp_eq J (tgt := 1908) rfl (by decide) (fun c1395 => ?_) (fun c1395 => ?_)
  · refine r_widen (ce' := (ce0 + 9)) (sl' := (sl0 + 11264)) (by omega) (by omega) ?_
    exact p_L_law_1908 J0 hXs hl hce hsl H23 x4 σ q1392.2.1 q1392.2.2 hL
  · refine r_run J 1 (pc' := 1399) (lv' := [(0, vE 300), (1, vR 1), (2, vR 40), (3, vR 39), (4, vI x4)]) (st' := [vI 0]) rfl ?_
    exact r_iret J rfl rfl rfl rfl (by omega) (by omega)
def tb_L_law_1254 : gT := [(1254, .aload_n 1, 1, 0), (1255, .aload_n 0, 1, 0), (1256, .iload 4, 2, 0), (1258, .iconst 1, 1, 1), (1259, .iadd, 1, 0), (1260, .iaload, 1, 0), (1261, .aload_n 0, 1, 0), (1262, .iload 4, 2, 0), (1264, .iconst 2, 1, 2), (1265, .iadd, 1, 0), (1266, .iaload, 1, 0), (1267, .aload_n 0, 1, 0), (1268, .iload 4, 2, 0), (1270, .iconst 3, 1, 3), (1271, .iadd, 1, 0), (1272, .iaload, 1, 0), (1273, .aload_n 0, 1, 0), (1274, .iload 4, 2, 0), (1276, .iconst 4, 1, 4), (1277, .iadd, 1, 0), (1278, .iaload, 1, 0), (1279, .aload_n 0, 1, 0), (1280, .iload 4, 2, 0), (1282, .iconst 5, 1, 5), (1283, .iadd, 1, 0), (1284, .iaload, 1, 0), (1285, .invokevirtual 121, 3, 0), (1288, .aload_n 2, 1, 0), (1289, .aload_n 0, 1, 0), (1290, .iload 4, 2, 0), (1292, .iconst 1, 1, 1), (1293, .iadd, 1, 0), (1294, .iaload, 1, 0), (1295, .aload_n 0, 1, 0), (1296, .iload 4, 2, 0), (1298, .iconst 2, 1, 2), (1299, .iadd, 1, 0), (1300, .iaload, 1, 0), (1301, .aload_n 0, 1, 0), (1302, .iload 4, 2, 0), (1304, .iconst 3, 1, 3), (1305, .iadd, 1, 0), (1306, .iaload, 1, 0), (1307, .aload_n 0, 1, 0), (1308, .iload 4, 2, 0), (1310, .iconst 4, 1, 4), (1311, .iadd, 1, 0), (1312, .iaload, 1, 0), (1313, .aload_n 0, 1, 0), (1314, .iload 4, 2, 0), (1316, .iconst 5, 1, 5), (1317, .iadd, 1, 0), (1318, .iaload, 1, 0), (1319, .invokevirtual 125, 3, 0), (1322, .if_icmp .eq 586, 3, 0), (1325, .iconst 0, 1, 0), (1326, .ireturn, 1, 0)]
set_option maxRecDepth 100000 in
theorem tk_L_law_1254 : g_okT code tb_L_law_1254 = true := by decide +kernel
set_option maxHeartbeats 4000000 in
set_option maxRecDepth 100000 in
theorem p_L_law_1254 {l : Launch} {E : gE} {L : Nat} {xs : Nat → Int32} (J0 : J_L_law E l) (hXs : g_Xs E L xs) (hl : l.stackTraces = false) {ce0 sl0 : Nat} (hce : ce0 + 9 ≤ 601024) (hsl : sl0 + 11264 ≤ 7293034) {k23 : Int32 → Nat → (Nat → Int32) → gS → gM → gN → Option (Int32 × gS × gM × gN)} (H23 : ∀ (x4 : Int32) (σ : gS) (M : gM) (N : gN) (_ : g_layL σ), g_H E (ce0 + 9) (sl0 + 11264) 23 [(0, vE 300), (1, vR 1), (2, vR 40), (3, vR 39), (4, vI x4)] [] (σ, M, N) (k23 x4 L xs σ M N) eISMN) (x4 : Int32) (σ : gS) (M : gM) (N : gN) (hL : g_layL σ) : g_H E ce0 sl0 1254 [(0, vE 300), (1, vR 1), (2, vR 40), (3, vR 39), (4, vI x4)] [] (σ, M, N) (b_L_law_1254 k23 x4 L xs σ M N) eISMN := by
  have J := g_J.tab J0 tk_L_law_1254
  unfold b_L_law_1254
  refine r_run J 5 (pc' := 1260) (lv' := [(0, vE 300), (1, vR 1), (2, vR 40), (3, vR 39), (4, vI x4)]) (st' := [vI (x4 + (1 : Int32)), vE 300, vR 1]) rfl ?_
  refine r_xld J hXs rfl (fun i1260 => ?_)
  show g_H E ce0 sl0 1261 [(0, vE 300), (1, vR 1), (2, vR 40), (3, vR 39), (4, vI x4)] [vI (xs (x4 + (1 : Int32)).toNatClampNeg), vR 1] (σ, M, N) _ _
  refine r_run J 4 (pc' := 1266) (lv' := [(0, vE 300), (1, vR 1), (2, vR 40), (3, vR 39), (4, vI x4)]) (st' := [vI (x4 + (2 : Int32)), vE 300, vI (xs (x4 + (1 : Int32)).toNatClampNeg), vR 1]) rfl ?_
  refine r_xld J hXs rfl (fun i1266 => ?_)
  show g_H E ce0 sl0 1267 [(0, vE 300), (1, vR 1), (2, vR 40), (3, vR 39), (4, vI x4)] [vI (xs (x4 + (2 : Int32)).toNatClampNeg), vI (xs (x4 + (1 : Int32)).toNatClampNeg), vR 1] (σ, M, N) _ _
  refine r_run J 4 (pc' := 1272) (lv' := [(0, vE 300), (1, vR 1), (2, vR 40), (3, vR 39), (4, vI x4)]) (st' := [vI (x4 + (3 : Int32)), vE 300, vI (xs (x4 + (2 : Int32)).toNatClampNeg), vI (xs (x4 + (1 : Int32)).toNatClampNeg), vR 1]) rfl ?_
  refine r_xld J hXs rfl (fun i1272 => ?_)
  show g_H E ce0 sl0 1273 [(0, vE 300), (1, vR 1), (2, vR 40), (3, vR 39), (4, vI x4)] [vI (xs (x4 + (3 : Int32)).toNatClampNeg), vI (xs (x4 + (2 : Int32)).toNatClampNeg), vI (xs (x4 + (1 : Int32)).toNatClampNeg), vR 1] (σ, M, N) _ _
  refine r_run J 4 (pc' := 1278) (lv' := [(0, vE 300), (1, vR 1), (2, vR 40), (3, vR 39), (4, vI x4)]) (st' := [vI (x4 + (4 : Int32)), vE 300, vI (xs (x4 + (3 : Int32)).toNatClampNeg), vI (xs (x4 + (2 : Int32)).toNatClampNeg), vI (xs (x4 + (1 : Int32)).toNatClampNeg), vR 1]) rfl ?_
  refine r_xld J hXs rfl (fun i1278 => ?_)
  show g_H E ce0 sl0 1279 [(0, vE 300), (1, vR 1), (2, vR 40), (3, vR 39), (4, vI x4)] [vI (xs (x4 + (4 : Int32)).toNatClampNeg), vI (xs (x4 + (3 : Int32)).toNatClampNeg), vI (xs (x4 + (2 : Int32)).toNatClampNeg), vI (xs (x4 + (1 : Int32)).toNatClampNeg), vR 1] (σ, M, N) _ _
  refine r_run J 4 (pc' := 1284) (lv' := [(0, vE 300), (1, vR 1), (2, vR 40), (3, vR 39), (4, vI x4)]) (st' := [vI (x4 + (5 : Int32)), vE 300, vI (xs (x4 + (4 : Int32)).toNatClampNeg), vI (xs (x4 + (3 : Int32)).toNatClampNeg), vI (xs (x4 + (2 : Int32)).toNatClampNeg), vI (xs (x4 + (1 : Int32)).toNatClampNeg), vR 1]) rfl ?_
  refine r_xld J hXs rfl (fun i1284 => ?_)
  show g_H E ce0 sl0 1285 [(0, vE 300), (1, vR 1), (2, vR 40), (3, vR 39), (4, vI x4)] [vI (xs (x4 + (5 : Int32)).toNatClampNeg), vI (xs (x4 + (4 : Int32)).toNatClampNeg), vI (xs (x4 + (3 : Int32)).toNatClampNeg), vI (xs (x4 + (2 : Int32)).toNatClampNeg), vI (xs (x4 + (1 : Int32)).toNatClampNeg), vR 1] (σ, M, N) _ _
  refine r_callV J (As := [vI (xs (x4 + (1 : Int32)).toNatClampNeg), vI (xs (x4 + (2 : Int32)).toNatClampNeg), vI (xs (x4 + (3 : Int32)).toNatClampNeg), vI (xs (x4 + (4 : Int32)).toNatClampNeg), vI (xs (x4 + (5 : Int32)).toNatClampNeg)]) (st := []) (fun r hr => c_X11_loss (xs (x4 + (1 : Int32)).toNatClampNeg) (xs (x4 + (2 : Int32)).toNatClampNeg) (xs (x4 + (3 : Int32)).toNatClampNeg) (xs (x4 + (4 : Int32)).toNatClampNeg) (xs (x4 + (5 : Int32)).toNatClampNeg) σ M N (hL).1 r hr) cls11 (ly_1 (hL).1) wm_L_121 wy_X11_loss wd_X11_loss ⟨by decide, by decide, by omega, by omega, Nat.le_of_ble_eq_true rfl⟩ rfl rfl (fun q1285 hq1285 => ?_)
  show g_H E ce0 sl0 1288 [(0, vE 300), (1, vR 1), (2, vR 40), (3, vR 39), (4, vI x4)] [vI q1285.1] (σ, q1285.2, N) _ _
  refine r_run J 5 (pc' := 1294) (lv' := [(0, vE 300), (1, vR 1), (2, vR 40), (3, vR 39), (4, vI x4)]) (st' := [vI (x4 + (1 : Int32)), vE 300, vR 40, vI q1285.1]) rfl ?_
  refine r_xld J hXs rfl (fun i1294 => ?_)
  show g_H E ce0 sl0 1295 [(0, vE 300), (1, vR 1), (2, vR 40), (3, vR 39), (4, vI x4)] [vI (xs (x4 + (1 : Int32)).toNatClampNeg), vR 40, vI q1285.1] (σ, q1285.2, N) _ _
  refine r_run J 4 (pc' := 1300) (lv' := [(0, vE 300), (1, vR 1), (2, vR 40), (3, vR 39), (4, vI x4)]) (st' := [vI (x4 + (2 : Int32)), vE 300, vI (xs (x4 + (1 : Int32)).toNatClampNeg), vR 40, vI q1285.1]) rfl ?_
  refine r_xld J hXs rfl (fun i1300 => ?_)
  show g_H E ce0 sl0 1301 [(0, vE 300), (1, vR 1), (2, vR 40), (3, vR 39), (4, vI x4)] [vI (xs (x4 + (2 : Int32)).toNatClampNeg), vI (xs (x4 + (1 : Int32)).toNatClampNeg), vR 40, vI q1285.1] (σ, q1285.2, N) _ _
  refine r_run J 4 (pc' := 1306) (lv' := [(0, vE 300), (1, vR 1), (2, vR 40), (3, vR 39), (4, vI x4)]) (st' := [vI (x4 + (3 : Int32)), vE 300, vI (xs (x4 + (2 : Int32)).toNatClampNeg), vI (xs (x4 + (1 : Int32)).toNatClampNeg), vR 40, vI q1285.1]) rfl ?_
  refine r_xld J hXs rfl (fun i1306 => ?_)
  show g_H E ce0 sl0 1307 [(0, vE 300), (1, vR 1), (2, vR 40), (3, vR 39), (4, vI x4)] [vI (xs (x4 + (3 : Int32)).toNatClampNeg), vI (xs (x4 + (2 : Int32)).toNatClampNeg), vI (xs (x4 + (1 : Int32)).toNatClampNeg), vR 40, vI q1285.1] (σ, q1285.2, N) _ _
  refine r_run J 4 (pc' := 1312) (lv' := [(0, vE 300), (1, vR 1), (2, vR 40), (3, vR 39), (4, vI x4)]) (st' := [vI (x4 + (4 : Int32)), vE 300, vI (xs (x4 + (3 : Int32)).toNatClampNeg), vI (xs (x4 + (2 : Int32)).toNatClampNeg), vI (xs (x4 + (1 : Int32)).toNatClampNeg), vR 40, vI q1285.1]) rfl ?_
  refine r_xld J hXs rfl (fun i1312 => ?_)
  show g_H E ce0 sl0 1313 [(0, vE 300), (1, vR 1), (2, vR 40), (3, vR 39), (4, vI x4)] [vI (xs (x4 + (4 : Int32)).toNatClampNeg), vI (xs (x4 + (3 : Int32)).toNatClampNeg), vI (xs (x4 + (2 : Int32)).toNatClampNeg), vI (xs (x4 + (1 : Int32)).toNatClampNeg), vR 40, vI q1285.1] (σ, q1285.2, N) _ _
  refine r_run J 4 (pc' := 1318) (lv' := [(0, vE 300), (1, vR 1), (2, vR 40), (3, vR 39), (4, vI x4)]) (st' := [vI (x4 + (5 : Int32)), vE 300, vI (xs (x4 + (4 : Int32)).toNatClampNeg), vI (xs (x4 + (3 : Int32)).toNatClampNeg), vI (xs (x4 + (2 : Int32)).toNatClampNeg), vI (xs (x4 + (1 : Int32)).toNatClampNeg), vR 40, vI q1285.1]) rfl ?_
  refine r_xld J hXs rfl (fun i1318 => ?_)
  show g_H E ce0 sl0 1319 [(0, vE 300), (1, vR 1), (2, vR 40), (3, vR 39), (4, vI x4)] [vI (xs (x4 + (5 : Int32)).toNatClampNeg), vI (xs (x4 + (4 : Int32)).toNatClampNeg), vI (xs (x4 + (3 : Int32)).toNatClampNeg), vI (xs (x4 + (2 : Int32)).toNatClampNeg), vI (xs (x4 + (1 : Int32)).toNatClampNeg), vR 40, vI q1285.1] (σ, q1285.2, N) _ _
  refine r_callV J (As := [vI (xs (x4 + (1 : Int32)).toNatClampNeg), vI (xs (x4 + (2 : Int32)).toNatClampNeg), vI (xs (x4 + (3 : Int32)).toNatClampNeg), vI (xs (x4 + (4 : Int32)).toNatClampNeg), vI (xs (x4 + (5 : Int32)).toNatClampNeg)]) (st := [vI q1285.1]) (fun r hr => c_X12_loss (xs (x4 + (1 : Int32)).toNatClampNeg) (xs (x4 + (2 : Int32)).toNatClampNeg) (xs (x4 + (3 : Int32)).toNatClampNeg) (xs (x4 + (4 : Int32)).toNatClampNeg) (xs (x4 + (5 : Int32)).toNatClampNeg) σ q1285.2 N (hL).2.1 r hr) cls12 (ly_40 (hL).2.1) wm_L_125 wy_X12_loss wd_X12_loss ⟨by decide, by decide, by omega, by omega, Nat.le_of_ble_eq_true rfl⟩ rfl rfl (fun q1319 hq1319 => ?_)
  show g_H E ce0 sl0 1322 [(0, vE 300), (1, vR 1), (2, vR 40), (3, vR 39), (4, vI x4)] [vI q1319.1, vI q1285.1] (σ, q1319.2.1, q1319.2.2) _ _
  refine r_icmp_eq J (tgt := 1908) rfl (by decide) (fun c1322 => ?_) (fun c1322 => ?_)
  · refine r_widen (ce' := (ce0 + 9)) (sl' := (sl0 + 11264)) (by omega) (by omega) ?_
    exact p_L_law_1908 J0 hXs hl hce hsl H23 x4 σ q1319.2.1 q1319.2.2 hL
  · refine r_run J 1 (pc' := 1326) (lv' := [(0, vE 300), (1, vR 1), (2, vR 40), (3, vR 39), (4, vI x4)]) (st' := [vI 0]) rfl ?_
    exact r_iret J rfl rfl rfl rfl (by omega) (by omega)
