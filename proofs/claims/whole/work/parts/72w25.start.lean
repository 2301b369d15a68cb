/-! The law's entry: the empty picture, and what holds of the world outside. -/
theorem g_F0 {ad : Nat → Nat} {sz a : Nat} (h : a < sz) : ¬ g_F ad g_u0 sz a := by
  rintro (⟨x, hx, -⟩ | h2)
  · exact hx rfl
  · omega
theorem g_tb_of {args : Array Value} {s : State} (hts : ∀ w ∈ lw_tbl, w.before args s = true) : ∀ w ∈ g_tb, w.before args s = true := fun w hw => hts w (List.mem_filter.mp hw).1
theorem st_cls {args : Array Value} {s : State} (hts : ∀ w ∈ g_tb, w.before args s = true) : ∃ D : va_G, ∀ (c : Nat) (q : vw_C), vwCl[c]? = some q → u_Kn s q.1 q.2.1 q.2.2 (D.1 c) (D.2 c) := by
  have h : ∀ c : Nat, ∃ x : ClassId × (Nat → Nat), ∀ q : vw_C, vwCl[c]? = some q → u_Kn s q.1 q.2.1 q.2.2 x.1 x.2 := by
    intro c
    match c with
    | 0 =>
      obtain ⟨cC, iS, h⟩ := u_known (n := 3) hts (cls0).2.1 (hts _ wi_0.1)
      exact ⟨(cC, iS), fun q hq => by cases hq; exact h⟩
    | 1 =>
      obtain ⟨cC, iS, h⟩ := u_known (n := 14) hts (cls1).2.1 (hts _ wi_1.1)
      exact ⟨(cC, iS), fun q hq => by cases hq; exact h⟩
    | 2 =>
      obtain ⟨cC, iS, h⟩ := u_known (n := 6) hts (cls2).2.1 (hts _ wi_2.1)
      exact ⟨(cC, iS), fun q hq => by cases hq; exact h⟩
    | 3 =>
      obtain ⟨cC, iS, h⟩ := u_known (n := 10) hts (cls3).2.1 (hts _ wi_3.1)
      exact ⟨(cC, iS), fun q hq => by cases hq; exact h⟩
    | 4 =>
      obtain ⟨cC, iS, h⟩ := u_known (n := 2) hts (cls4).2.1 (hts _ wi_4.1)
      exact ⟨(cC, iS), fun q hq => by cases hq; exact h⟩
    | 5 =>
      obtain ⟨cC, iS, h⟩ := u_known (n := 2) hts (cls5).2.1 (hts _ wi_5.1)
      exact ⟨(cC, iS), fun q hq => by cases hq; exact h⟩
    | 6 =>
      obtain ⟨cC, iS, h⟩ := u_known (n := 11) hts (cls6).2.1 (hts _ wi_6.1)
      exact ⟨(cC, iS), fun q hq => by cases hq; exact h⟩
    | 7 =>
      obtain ⟨cC, iS, h⟩ := u_known (n := 14) hts (cls7).2.1 (hts _ wi_7.1)
      exact ⟨(cC, iS), fun q hq => by cases hq; exact h⟩
    | 8 =>
      obtain ⟨cC, iS, h⟩ := u_known (n := 4) hts (cls8).2.1 (hts _ wi_8.1)
      exact ⟨(cC, iS), fun q hq => by cases hq; exact h⟩
    | 9 =>
      obtain ⟨cC, iS, h⟩ := u_known (n := 14) hts (cls9).2.1 (hts _ wi_9.1)
      exact ⟨(cC, iS), fun q hq => by cases hq; exact h⟩
    | 10 =>
      obtain ⟨cC, iS, h⟩ := u_known (n := 7) hts (cls10).2.1 (hts _ wi_10.1)
      exact ⟨(cC, iS), fun q hq => by cases hq; exact h⟩
    | 11 =>
      obtain ⟨cC, iS, h⟩ := u_known (n := 15) hts (cls11).2.1 (hts _ wi_11.1)
      exact ⟨(cC, iS), fun q hq => by cases hq; exact h⟩
    | 12 =>
      obtain ⟨cC, iS, h⟩ := u_known (n := 78) hts (cls12).2.1 (hts _ wi_12.1)
      exact ⟨(cC, iS), fun q hq => by cases hq; exact h⟩
    | c + 13 => exact ⟨(0, fun _ => 0), fun q hq => by simp [vwCl] at hq⟩
  exact ⟨(fun c => (h c).choose.1, fun c => (h c).choose.2), fun c q hq => (h c).choose_spec q hq⟩
set_option maxRecDepth 100000 in
theorem st_over : Cond.arrayOver (.object RX6) ∈ lw_tbl ∧ Cond.arrayOver (.object RX8) ∈ lw_tbl ∧ Cond.arrayOver (.object RX10) ∈ lw_tbl := by decide +kernel
theorem st_arr {args : Array Value} {s : State} {t : FieldType} (h : (Cond.arrayClass t).before args s = true) : ∃ cA : ClassId, ArrOfT s cA t ∧ s.vm.findClass ("[" ++ t.toString) = some cA := by
  obtain ⟨cA, kA, comp, h1, h2, h3⟩ := Cond.arrayClass_spec (args := args) (first := s) (o := none) (idx := []) h
  exact ⟨cA, fun n z => ⟨fun k h => (by cases h), kA, h2, comp, h3⟩, h1⟩
theorem st_arrO {args : Array Value} {s : State} {C : String} (h : (Cond.arrayOver (.object C)).before args s = true) : ∃ cA : ClassId, ArrOfT s cA (.object C) ∧ va_RA s cA (.object C) := by
  obtain ⟨comp, cA, kA, h1, h2, h3, h4, h5⟩ := Cond.arrayOver_spec (args := args) (first := s) (o := none) (idx := []) h
  exact ⟨cA, fun n z => ⟨fun k h => (by cases h), kA, h3, comp, h4⟩, kA, comp, h3, h4, h1, h5⟩
theorem st_tys {args : Array Value} {s : State} (htl : ∀ w ∈ lw_tbl, w.before args s = true) (hts : ∀ w ∈ g_tb, w.before args s = true) : ∃ cy : Nat → ClassId, ∀ (k : Nat) (q : ClassId × FieldType), (g_tys cy)[k]? = some q → ArrOfT s q.1 q.2 ∧ va_RA s q.1 q.2 := by
  obtain ⟨a, ha⟩ := st_arr (hts _ wa_byte)
  obtain ⟨b, hb⟩ := st_arr (hts _ wa_int)
  obtain ⟨c, hc⟩ := st_arr (hts _ wa_boolean)
  obtain ⟨d, hd⟩ := st_arr (hts _ wa_long)
  obtain ⟨e, he⟩ := st_arrO (htl _ st_over.1)
  obtain ⟨f, hf⟩ := st_arrO (htl _ st_over.2.1)
  obtain ⟨g, hg⟩ := st_arrO (htl _ st_over.2.2)
  refine ⟨fun k => if k = 13 then a else if k = 14 then b else if k = 15 then c else if k = 16 then d else if k = 17 then e else if k = 18 then f else g, ?_⟩
  intro k q hq
  match k, hq with
  | 0, hq => cases hq; exact ha
  | 1, hq => cases hq; exact hb
  | 2, hq => cases hq; exact hc
  | 3, hq => cases hq; exact hd
  | 4, hq => cases hq; exact he
  | 5, hq => cases hq; exact hf
  | 6, hq => cases hq; exact hg
  | k + 7, hq => simp [g_tys] at hq
set_option maxRecDepth 100000 in
theorem st_nest : ∀ q ∈ g_nest, Cond.methodLinkNest q.1 q.2.1 q.2.2.1 q.2.2.2 ∈ lw_tbl := by decide +kernel
def st_tm (i : Nat) : Term := match g_strs[i]? with
  | some q => .string q.1 q.2.1
  | none => .string "" 0
abbrev st_flat : List Cond := flatC (Jvm.Cond.and given_1 narrow_1)
set_option maxRecDepth 100000 in
theorem st_1 : ∀ i : Nat, i < 13 → Cond.exactly (st_tm i) "java/lang/String" ∈ st_flat ∧ Cond.eq (.field (st_tm i) "java/lang/String" "coder" "B") (.int 0) ∈ st_flat ∧ Cond.arrayOf (.field (st_tm i) "java/lang/String" "value" "[B") .byte ∈ st_flat ∧ Cond.eq (.length (.field (st_tm i) "java/lang/String" "value" "[B")) (.int (Int32.ofNat (g_slen.getD i 0))) ∈ st_flat := by decide +kernel
set_option maxRecDepth 100000 in
theorem st_2 : ∀ i : Nat, i < 13 → ∀ j : Nat, j < g_slen.getD i 0 → Cond.eq (.elem (.field (st_tm i) "java/lang/String" "value" "[B") (.int (Int32.ofNat j))) (.int ((g_sbyt.getD i []).getD j 0)) ∈ st_flat := by decide +kernel
set_option maxRecDepth 100000 in
theorem st_3_0_1 : Cond.not (Cond.eq (st_tm 0) (st_tm 1)) ∈ st_flat := List.mem_of_getElem? (i := 39) (by decide +kernel)
set_option maxRecDepth 100000 in
theorem st_3_0_2 : Cond.not (Cond.eq (st_tm 0) (st_tm 2)) ∈ st_flat := List.mem_of_getElem? (i := 50) (by decide +kernel)
set_option maxRecDepth 100000 in
theorem st_3_0_3 : Cond.not (Cond.eq (st_tm 0) (st_tm 3)) ∈ st_flat := List.mem_of_getElem? (i := 60) (by decide +kernel)
set_option maxRecDepth 100000 in
theorem st_3_0_4 : Cond.not (Cond.eq (st_tm 0) (st_tm 4)) ∈ st_flat := List.mem_of_getElem? (i := 71) (by decide +kernel)
set_option maxRecDepth 100000 in
theorem st_3_0_5 : Cond.not (Cond.eq (st_tm 0) (st_tm 5)) ∈ st_flat := List.mem_of_getElem? (i := 82) (by decide +kernel)
set_option maxRecDepth 100000 in
theorem st_3_0_6 : Cond.not (Cond.eq (st_tm 0) (st_tm 6)) ∈ st_flat := List.mem_of_getElem? (i := 95) (by decide +kernel)
set_option maxRecDepth 100000 in
theorem st_3_0_7 : Cond.not (Cond.eq (st_tm 0) (st_tm 7)) ∈ st_flat := List.mem_of_getElem? (i := 109) (by decide +kernel)
set_option maxRecDepth 100000 in
theorem st_3_0_8 : Cond.not (Cond.eq (st_tm 0) (st_tm 8)) ∈ st_flat := List.mem_of_getElem? (i := 124) (by decide +kernel)
set_option maxRecDepth 100000 in
theorem st_3_0_9 : Cond.not (Cond.eq (st_tm 0) (st_tm 9)) ∈ st_flat := List.mem_of_getElem? (i := 142) (by decide +kernel)
set_option maxRecDepth 100000 in
theorem st_3_0_10 : Cond.not (Cond.eq (st_tm 0) (st_tm 10)) ∈ st_flat := List.mem_of_getElem? (i := 161) (by decide +kernel)
set_option maxRecDepth 100000 in
theorem st_3_0_11 : Cond.not (Cond.eq (st_tm 0) (st_tm 11)) ∈ st_flat := List.mem_of_getElem? (i := 198) (by decide +kernel)
set_option maxRecDepth 100000 in
theorem st_3_0_12 : Cond.not (Cond.eq (st_tm 0) (st_tm 12)) ∈ st_flat := List.mem_of_getElem? (i := 227) (by decide +kernel)
set_option maxRecDepth 100000 in
theorem st_3_1_2 : Cond.not (Cond.eq (st_tm 1) (st_tm 2)) ∈ st_flat := List.mem_of_getElem? (i := 51) (by decide +kernel)
set_option maxRecDepth 100000 in
theorem st_3_1_3 : Cond.not (Cond.eq (st_tm 1) (st_tm 3)) ∈ st_flat := List.mem_of_getElem? (i := 61) (by decide +kernel)
set_option maxRecDepth 100000 in
theorem st_3_1_4 : Cond.not (Cond.eq (st_tm 1) (st_tm 4)) ∈ st_flat := List.mem_of_getElem? (i := 72) (by decide +kernel)
set_option maxRecDepth 100000 in
theorem st_3_1_5 : Cond.not (Cond.eq (st_tm 1) (st_tm 5)) ∈ st_flat := List.mem_of_getElem? (i := 83) (by decide +kernel)
set_option maxRecDepth 100000 in
theorem st_3_1_6 : Cond.not (Cond.eq (st_tm 1) (st_tm 6)) ∈ st_flat := List.mem_of_getElem? (i := 96) (by decide +kernel)
set_option maxRecDepth 100000 in
theorem st_3_1_7 : Cond.not (Cond.eq (st_tm 1) (st_tm 7)) ∈ st_flat := List.mem_of_getElem? (i := 110) (by decide +kernel)
set_option maxRecDepth 100000 in
theorem st_3_1_8 : Cond.not (Cond.eq (st_tm 1) (st_tm 8)) ∈ st_flat := List.mem_of_getElem? (i := 125) (by decide +kernel)
set_option maxRecDepth 100000 in
theorem st_3_1_9 : Cond.not (Cond.eq (st_tm 1) (st_tm 9)) ∈ st_flat := List.mem_of_getElem? (i := 143) (by decide +kernel)
set_option maxRecDepth 100000 in
theorem st_3_1_10 : Cond.not (Cond.eq (st_tm 1) (st_tm 10)) ∈ st_flat := List.mem_of_getElem? (i := 162) (by decide +kernel)
set_option maxRecDepth 100000 in
theorem st_3_1_11 : Cond.not (Cond.eq (st_tm 1) (st_tm 11)) ∈ st_flat := List.mem_of_getElem? (i := 199) (by decide +kernel)
set_option maxRecDepth 100000 in
theorem st_3_1_12 : Cond.not (Cond.eq (st_tm 1) (st_tm 12)) ∈ st_flat := List.mem_of_getElem? (i := 228) (by decide +kernel)
set_option maxRecDepth 100000 in
theorem st_3_2_3 : Cond.not (Cond.eq (st_tm 2) (st_tm 3)) ∈ st_flat := List.mem_of_getElem? (i := 62) (by decide +kernel)
set_option maxRecDepth 100000 in
theorem st_3_2_4 : Cond.not (Cond.eq (st_tm 2) (st_tm 4)) ∈ st_flat := List.mem_of_getElem? (i := 73) (by decide +kernel)
set_option maxRecDepth 100000 in
theorem st_3_2_5 : Cond.not (Cond.eq (st_tm 2) (st_tm 5)) ∈ st_flat := List.mem_of_getElem? (i := 84) (by decide +kernel)
set_option maxRecDepth 100000 in
theorem st_3_2_6 : Cond.not (Cond.eq (st_tm 2) (st_tm 6)) ∈ st_flat := List.mem_of_getElem? (i := 97) (by decide +kernel)
set_option maxRecDepth 100000 in
theorem st_3_2_7 : Cond.not (Cond.eq (st_tm 2) (st_tm 7)) ∈ st_flat := List.mem_of_getElem? (i := 111) (by decide +kernel)
set_option maxRecDepth 100000 in
theorem st_3_2_8 : Cond.not (Cond.eq (st_tm 2) (st_tm 8)) ∈ st_flat := List.mem_of_getElem? (i := 126) (by decide +kernel)
set_option maxRecDepth 100000 in
theorem st_3_2_9 : Cond.not (Cond.eq (st_tm 2) (st_tm 9)) ∈ st_flat := List.mem_of_getElem? (i := 144) (by decide +kernel)
set_option maxRecDepth 100000 in
theorem st_3_2_10 : Cond.not (Cond.eq (st_tm 2) (st_tm 10)) ∈ st_flat := List.mem_of_getElem? (i := 163) (by decide +kernel)
set_option maxRecDepth 100000 in
theorem st_3_2_11 : Cond.not (Cond.eq (st_tm 2) (st_tm 11)) ∈ st_flat := List.mem_of_getElem? (i := 200) (by decide +kernel)
set_option maxRecDepth 100000 in
theorem st_3_2_12 : Cond.not (Cond.eq (st_tm 2) (st_tm 12)) ∈ st_flat := List.mem_of_getElem? (i := 229) (by decide +kernel)
set_option maxRecDepth 100000 in
theorem st_3_3_4 : Cond.not (Cond.eq (st_tm 3) (st_tm 4)) ∈ st_flat := List.mem_of_getElem? (i := 74) (by decide +kernel)
set_option maxRecDepth 100000 in
theorem st_3_3_5 : Cond.not (Cond.eq (st_tm 3) (st_tm 5)) ∈ st_flat := List.mem_of_getElem? (i := 85) (by decide +kernel)
set_option maxRecDepth 100000 in
theorem st_3_3_6 : Cond.not (Cond.eq (st_tm 3) (st_tm 6)) ∈ st_flat := List.mem_of_getElem? (i := 98) (by decide +kernel)
set_option maxRecDepth 100000 in
theorem st_3_3_7 : Cond.not (Cond.eq (st_tm 3) (st_tm 7)) ∈ st_flat := List.mem_of_getElem? (i := 112) (by decide +kernel)
set_option maxRecDepth 100000 in
theorem st_3_3_8 : Cond.not (Cond.eq (st_tm 3) (st_tm 8)) ∈ st_flat := List.mem_of_getElem? (i := 127) (by decide +kernel)
set_option maxRecDepth 100000 in
theorem st_3_3_9 : Cond.not (Cond.eq (st_tm 3) (st_tm 9)) ∈ st_flat := List.mem_of_getElem? (i := 145) (by decide +kernel)
set_option maxRecDepth 100000 in
theorem st_3_3_10 : Cond.not (Cond.eq (st_tm 3) (st_tm 10)) ∈ st_flat := List.mem_of_getElem? (i := 164) (by decide +kernel)
set_option maxRecDepth 100000 in
theorem st_3_3_11 : Cond.not (Cond.eq (st_tm 3) (st_tm 11)) ∈ st_flat := List.mem_of_getElem? (i := 201) (by decide +kernel)
set_option maxRecDepth 100000 in
theorem st_3_3_12 : Cond.not (Cond.eq (st_tm 3) (st_tm 12)) ∈ st_flat := List.mem_of_getElem? (i := 230) (by decide +kernel)
set_option maxRecDepth 100000 in
theorem st_3_4_5 : Cond.not (Cond.eq (st_tm 4) (st_tm 5)) ∈ st_flat := List.mem_of_getElem? (i := 86) (by decide +kernel)
set_option maxRecDepth 100000 in
theorem st_3_4_6 : Cond.not (Cond.eq (st_tm 4) (st_tm 6)) ∈ st_flat := List.mem_of_getElem? (i := 99) (by decide +kernel)
set_option maxRecDepth 100000 in
theorem st_3_4_7 : Cond.not (Cond.eq (st_tm 4) (st_tm 7)) ∈ st_flat := List.mem_of_getElem? (i := 113) (by decide +kernel)
set_option maxRecDepth 100000 in
theorem st_3_4_8 : Cond.not (Cond.eq (st_tm 4) (st_tm 8)) ∈ st_flat := List.mem_of_getElem? (i := 128) (by decide +kernel)
set_option maxRecDepth 100000 in
theorem st_3_4_9 : Cond.not (Cond.eq (st_tm 4) (st_tm 9)) ∈ st_flat := List.mem_of_getElem? (i := 146) (by decide +kernel)
set_option maxRecDepth 100000 in
theorem st_3_4_10 : Cond.not (Cond.eq (st_tm 4) (st_tm 10)) ∈ st_flat := List.mem_of_getElem? (i := 165) (by decide +kernel)
set_option maxRecDepth 100000 in
theorem st_3_4_11 : Cond.not (Cond.eq (st_tm 4) (st_tm 11)) ∈ st_flat := List.mem_of_getElem? (i := 202) (by decide +kernel)
set_option maxRecDepth 100000 in
theorem st_3_4_12 : Cond.not (Cond.eq (st_tm 4) (st_tm 12)) ∈ st_flat := List.mem_of_getElem? (i := 231) (by decide +kernel)
set_option maxRecDepth 100000 in
theorem st_3_5_6 : Cond.not (Cond.eq (st_tm 5) (st_tm 6)) ∈ st_flat := List.mem_of_getElem? (i := 100) (by decide +kernel)
set_option maxRecDepth 100000 in
theorem st_3_5_7 : Cond.not (Cond.eq (st_tm 5) (st_tm 7)) ∈ st_flat := List.mem_of_getElem? (i := 114) (by decide +kernel)
set_option maxRecDepth 100000 in
theorem st_3_5_8 : Cond.not (Cond.eq (st_tm 5) (st_tm 8)) ∈ st_flat := List.mem_of_getElem? (i := 129) (by decide +kernel)
set_option maxRecDepth 100000 in
theorem st_3_5_9 : Cond.not (Cond.eq (st_tm 5) (st_tm 9)) ∈ st_flat := List.mem_of_getElem? (i := 147) (by decide +kernel)
set_option maxRecDepth 100000 in
theorem st_3_5_10 : Cond.not (Cond.eq (st_tm 5) (st_tm 10)) ∈ st_flat := List.mem_of_getElem? (i := 166) (by decide +kernel)
set_option maxRecDepth 100000 in
theorem st_3_5_11 : Cond.not (Cond.eq (st_tm 5) (st_tm 11)) ∈ st_flat := List.mem_of_getElem? (i := 203) (by decide +kernel)
set_option maxRecDepth 100000 in
theorem st_3_5_12 : Cond.not (Cond.eq (st_tm 5) (st_tm 12)) ∈ st_flat := List.mem_of_getElem? (i := 232) (by decide +kernel)
set_option maxRecDepth 100000 in
theorem st_3_6_7 : Cond.not (Cond.eq (st_tm 6) (st_tm 7)) ∈ st_flat := List.mem_of_getElem? (i := 115) (by decide +kernel)
set_option maxRecDepth 100000 in
theorem st_3_6_8 : Cond.not (Cond.eq (st_tm 6) (st_tm 8)) ∈ st_flat := List.mem_of_getElem? (i := 130) (by decide +kernel)
set_option maxRecDepth 100000 in
theorem st_3_6_9 : Cond.not (Cond.eq (st_tm 6) (st_tm 9)) ∈ st_flat := List.mem_of_getElem? (i := 148) (by decide +kernel)
set_option maxRecDepth 100000 in
theorem st_3_6_10 : Cond.not (Cond.eq (st_tm 6) (st_tm 10)) ∈ st_flat := List.mem_of_getElem? (i := 167) (by decide +kernel)
set_option maxRecDepth 100000 in
theorem st_3_6_11 : Cond.not (Cond.eq (st_tm 6) (st_tm 11)) ∈ st_flat := List.mem_of_getElem? (i := 204) (by decide +kernel)
set_option maxRecDepth 100000 in
theorem st_3_6_12 : Cond.not (Cond.eq (st_tm 6) (st_tm 12)) ∈ st_flat := List.mem_of_getElem? (i := 233) (by decide +kernel)
set_option maxRecDepth 100000 in
theorem st_3_7_8 : Cond.not (Cond.eq (st_tm 7) (st_tm 8)) ∈ st_flat := List.mem_of_getElem? (i := 131) (by decide +kernel)
set_option maxRecDepth 100000 in
theorem st_3_7_9 : Cond.not (Cond.eq (st_tm 7) (st_tm 9)) ∈ st_flat := List.mem_of_getElem? (i := 149) (by decide +kernel)
set_option maxRecDepth 100000 in
theorem st_3_7_10 : Cond.not (Cond.eq (st_tm 7) (st_tm 10)) ∈ st_flat := List.mem_of_getElem? (i := 168) (by decide +kernel)
set_option maxRecDepth 100000 in
theorem st_3_7_11 : Cond.not (Cond.eq (st_tm 7) (st_tm 11)) ∈ st_flat := List.mem_of_getElem? (i := 205) (by decide +kernel)
set_option maxRecDepth 100000 in
theorem st_3_7_12 : Cond.not (Cond.eq (st_tm 7) (st_tm 12)) ∈ st_flat := List.mem_of_getElem? (i := 234) (by decide +kernel)
set_option maxRecDepth 100000 in
theorem st_3_8_9 : Cond.not (Cond.eq (st_tm 8) (st_tm 9)) ∈ st_flat := List.mem_of_getElem? (i := 150) (by decide +kernel)
set_option maxRecDepth 100000 in
theorem st_3_8_10 : Cond.not (Cond.eq (st_tm 8) (st_tm 10)) ∈ st_flat := List.mem_of_getElem? (i := 169) (by decide +kernel)
set_option maxRecDepth 100000 in
theorem st_3_8_11 : Cond.not (Cond.eq (st_tm 8) (st_tm 11)) ∈ st_flat := List.mem_of_getElem? (i := 206) (by decide +kernel)
set_option maxRecDepth 100000 in
theorem st_3_8_12 : Cond.not (Cond.eq (st_tm 8) (st_tm 12)) ∈ st_flat := List.mem_of_getElem? (i := 235) (by decide +kernel)
set_option maxRecDepth 100000 in
theorem st_3_9_10 : Cond.not (Cond.eq (st_tm 9) (st_tm 10)) ∈ st_flat := List.mem_of_getElem? (i := 170) (by decide +kernel)
set_option maxRecDepth 100000 in
theorem st_3_9_11 : Cond.not (Cond.eq (st_tm 9) (st_tm 11)) ∈ st_flat := List.mem_of_getElem? (i := 207) (by decide +kernel)
set_option maxRecDepth 100000 in
theorem st_3_9_12 : Cond.not (Cond.eq (st_tm 9) (st_tm 12)) ∈ st_flat := List.mem_of_getElem? (i := 236) (by decide +kernel)
set_option maxRecDepth 100000 in
theorem st_3_10_11 : Cond.not (Cond.eq (st_tm 10) (st_tm 11)) ∈ st_flat := List.mem_of_getElem? (i := 208) (by decide +kernel)
set_option maxRecDepth 100000 in
theorem st_3_10_12 : Cond.not (Cond.eq (st_tm 10) (st_tm 12)) ∈ st_flat := List.mem_of_getElem? (i := 237) (by decide +kernel)
set_option maxRecDepth 100000 in
theorem st_3_11_12 : Cond.not (Cond.eq (st_tm 11) (st_tm 12)) ∈ st_flat := List.mem_of_getElem? (i := 238) (by decide +kernel)
theorem st_3 : ∀ i : Nat, i < 13 → ∀ j : Nat, j < 13 → i ≠ j → Cond.not (Cond.eq (st_tm i) (st_tm j)) ∈ st_flat ∨ Cond.not (Cond.eq (st_tm j) (st_tm i)) ∈ st_flat := by
  intro i hi j hj hne
  match i, j, hi, hj, hne with
  | 0, 1, _, _, _ => exact Or.inl st_3_0_1
  | 0, 2, _, _, _ => exact Or.inl st_3_0_2
  | 0, 3, _, _, _ => exact Or.inl st_3_0_3
  | 0, 4, _, _, _ => exact Or.inl st_3_0_4
  | 0, 5, _, _, _ => exact Or.inl st_3_0_5
  | 0, 6, _, _, _ => exact Or.inl st_3_0_6
  | 0, 7, _, _, _ => exact Or.inl st_3_0_7
  | 0, 8, _, _, _ => exact Or.inl st_3_0_8
  | 0, 9, _, _, _ => exact Or.inl st_3_0_9
  | 0, 10, _, _, _ => exact Or.inl st_3_0_10
  | 0, 11, _, _, _ => exact Or.inl st_3_0_11
  | 0, 12, _, _, _ => exact Or.inl st_3_0_12
  | 1, 0, _, _, _ => exact Or.inr st_3_0_1
  | 1, 2, _, _, _ => exact Or.inl st_3_1_2
  | 1, 3, _, _, _ => exact Or.inl st_3_1_3
  | 1, 4, _, _, _ => exact Or.inl st_3_1_4
  | 1, 5, _, _, _ => exact Or.inl st_3_1_5
  | 1, 6, _, _, _ => exact Or.inl st_3_1_6
  | 1, 7, _, _, _ => exact Or.inl st_3_1_7
  | 1, 8, _, _, _ => exact Or.inl st_3_1_8
  | 1, 9, _, _, _ => exact Or.inl st_3_1_9
  | 1, 10, _, _, _ => exact Or.inl st_3_1_10
  | 1, 11, _, _, _ => exact Or.inl st_3_1_11
  | 1, 12, _, _, _ => exact Or.inl st_3_1_12
  | 2, 0, _, _, _ => exact Or.inr st_3_0_2
  | 2, 1, _, _, _ => exact Or.inr st_3_1_2
  | 2, 3, _, _, _ => exact Or.inl st_3_2_3
  | 2, 4, _, _, _ => exact Or.inl st_3_2_4
  | 2, 5, _, _, _ => exact Or.inl st_3_2_5
  | 2, 6, _, _, _ => exact Or.inl st_3_2_6
  | 2, 7, _, _, _ => exact Or.inl st_3_2_7
  | 2, 8, _, _, _ => exact Or.inl st_3_2_8
  | 2, 9, _, _, _ => exact Or.inl st_3_2_9
  | 2, 10, _, _, _ => exact Or.inl st_3_2_10
  | 2, 11, _, _, _ => exact Or.inl st_3_2_11
  | 2, 12, _, _, _ => exact Or.inl st_3_2_12
  | 3, 0, _, _, _ => exact Or.inr st_3_0_3
  | 3, 1, _, _, _ => exact Or.inr st_3_1_3
  | 3, 2, _, _, _ => exact Or.inr st_3_2_3
  | 3, 4, _, _, _ => exact Or.inl st_3_3_4
  | 3, 5, _, _, _ => exact Or.inl st_3_3_5
  | 3, 6, _, _, _ => exact Or.inl st_3_3_6
  | 3, 7, _, _, _ => exact Or.inl st_3_3_7
  | 3, 8, _, _, _ => exact Or.inl st_3_3_8
  | 3, 9, _, _, _ => exact Or.inl st_3_3_9
  | 3, 10, _, _, _ => exact Or.inl st_3_3_10
  | 3, 11, _, _, _ => exact Or.inl st_3_3_11
  | 3, 12, _, _, _ => exact Or.inl st_3_3_12
  | 4, 0, _, _, _ => exact Or.inr st_3_0_4
  | 4, 1, _, _, _ => exact Or.inr st_3_1_4
  | 4, 2, _, _, _ => exact Or.inr st_3_2_4
  | 4, 3, _, _, _ => exact Or.inr st_3_3_4
  | 4, 5, _, _, _ => exact Or.inl st_3_4_5
  | 4, 6, _, _, _ => exact Or.inl st_3_4_6
  | 4, 7, _, _, _ => exact Or.inl st_3_4_7
  | 4, 8, _, _, _ => exact Or.inl st_3_4_8
  | 4, 9, _, _, _ => exact Or.inl st_3_4_9
  | 4, 10, _, _, _ => exact Or.inl st_3_4_10
  | 4, 11, _, _, _ => exact Or.inl st_3_4_11
  | 4, 12, _, _, _ => exact Or.inl st_3_4_12
  | 5, 0, _, _, _ => exact Or.inr st_3_0_5
  | 5, 1, _, _, _ => exact Or.inr st_3_1_5
  | 5, 2, _, _, _ => exact Or.inr st_3_2_5
  | 5, 3, _, _, _ => exact Or.inr st_3_3_5
  | 5, 4, _, _, _ => exact Or.inr st_3_4_5
  | 5, 6, _, _, _ => exact Or.inl st_3_5_6
  | 5, 7, _, _, _ => exact Or.inl st_3_5_7
  | 5, 8, _, _, _ => exact Or.inl st_3_5_8
  | 5, 9, _, _, _ => exact Or.inl st_3_5_9
  | 5, 10, _, _, _ => exact Or.inl st_3_5_10
  | 5, 11, _, _, _ => exact Or.inl st_3_5_11
  | 5, 12, _, _, _ => exact Or.inl st_3_5_12
  | 6, 0, _, _, _ => exact Or.inr st_3_0_6
  | 6, 1, _, _, _ => exact Or.inr st_3_1_6
  | 6, 2, _, _, _ => exact Or.inr st_3_2_6
  | 6, 3, _, _, _ => exact Or.inr st_3_3_6
  | 6, 4, _, _, _ => exact Or.inr st_3_4_6
  | 6, 5, _, _, _ => exact Or.inr st_3_5_6
  | 6, 7, _, _, _ => exact Or.inl st_3_6_7
  | 6, 8, _, _, _ => exact Or.inl st_3_6_8
  | 6, 9, _, _, _ => exact Or.inl st_3_6_9
  | 6, 10, _, _, _ => exact Or.inl st_3_6_10
  | 6, 11, _, _, _ => exact Or.inl st_3_6_11
  | 6, 12, _, _, _ => exact Or.inl st_3_6_12
  | 7, 0, _, _, _ => exact Or.inr st_3_0_7
  | 7, 1, _, _, _ => exact Or.inr st_3_1_7
  | 7, 2, _, _, _ => exact Or.inr st_3_2_7
  | 7, 3, _, _, _ => exact Or.inr st_3_3_7
  | 7, 4, _, _, _ => exact Or.inr st_3_4_7
  | 7, 5, _, _, _ => exact Or.inr st_3_5_7
  | 7, 6, _, _, _ => exact Or.inr st_3_6_7
  | 7, 8, _, _, _ => exact Or.inl st_3_7_8
  | 7, 9, _, _, _ => exact Or.inl st_3_7_9
  | 7, 10, _, _, _ => exact Or.inl st_3_7_10
  | 7, 11, _, _, _ => exact Or.inl st_3_7_11
  | 7, 12, _, _, _ => exact Or.inl st_3_7_12
  | 8, 0, _, _, _ => exact Or.inr st_3_0_8
  | 8, 1, _, _, _ => exact Or.inr st_3_1_8
  | 8, 2, _, _, _ => exact Or.inr st_3_2_8
  | 8, 3, _, _, _ => exact Or.inr st_3_3_8
  | 8, 4, _, _, _ => exact Or.inr st_3_4_8
  | 8, 5, _, _, _ => exact Or.inr st_3_5_8
  | 8, 6, _, _, _ => exact Or.inr st_3_6_8
  | 8, 7, _, _, _ => exact Or.inr st_3_7_8
  | 8, 9, _, _, _ => exact Or.inl st_3_8_9
  | 8, 10, _, _, _ => exact Or.inl st_3_8_10
  | 8, 11, _, _, _ => exact Or.inl st_3_8_11
  | 8, 12, _, _, _ => exact Or.inl st_3_8_12
  | 9, 0, _, _, _ => exact Or.inr st_3_0_9
  | 9, 1, _, _, _ => exact Or.inr st_3_1_9
  | 9, 2, _, _, _ => exact Or.inr st_3_2_9
  | 9, 3, _, _, _ => exact Or.inr st_3_3_9
  | 9, 4, _, _, _ => exact Or.inr st_3_4_9
  | 9, 5, _, _, _ => exact Or.inr st_3_5_9
  | 9, 6, _, _, _ => exact Or.inr st_3_6_9
  | 9, 7, _, _, _ => exact Or.inr st_3_7_9
  | 9, 8, _, _, _ => exact Or.inr st_3_8_9
  | 9, 10, _, _, _ => exact Or.inl st_3_9_10
  | 9, 11, _, _, _ => exact Or.inl st_3_9_11
  | 9, 12, _, _, _ => exact Or.inl st_3_9_12
  | 10, 0, _, _, _ => exact Or.inr st_3_0_10
  | 10, 1, _, _, _ => exact Or.inr st_3_1_10
  | 10, 2, _, _, _ => exact Or.inr st_3_2_10
  | 10, 3, _, _, _ => exact Or.inr st_3_3_10
  | 10, 4, _, _, _ => exact Or.inr st_3_4_10
  | 10, 5, _, _, _ => exact Or.inr st_3_5_10
  | 10, 6, _, _, _ => exact Or.inr st_3_6_10
  | 10, 7, _, _, _ => exact Or.inr st_3_7_10
  | 10, 8, _, _, _ => exact Or.inr st_3_8_10
  | 10, 9, _, _, _ => exact Or.inr st_3_9_10
  | 10, 11, _, _, _ => exact Or.inl st_3_10_11
  | 10, 12, _, _, _ => exact Or.inl st_3_10_12
  | 11, 0, _, _, _ => exact Or.inr st_3_0_11
  | 11, 1, _, _, _ => exact Or.inr st_3_1_11
  | 11, 2, _, _, _ => exact Or.inr st_3_2_11
  | 11, 3, _, _, _ => exact Or.inr st_3_3_11
  | 11, 4, _, _, _ => exact Or.inr st_3_4_11
  | 11, 5, _, _, _ => exact Or.inr st_3_5_11
  | 11, 6, _, _, _ => exact Or.inr st_3_6_11
  | 11, 7, _, _, _ => exact Or.inr st_3_7_11
  | 11, 8, _, _, _ => exact Or.inr st_3_8_11
  | 11, 9, _, _, _ => exact Or.inr st_3_9_11
  | 11, 10, _, _, _ => exact Or.inr st_3_10_11
  | 11, 12, _, _, _ => exact Or.inl st_3_11_12
  | 12, 0, _, _, _ => exact Or.inr st_3_0_12
  | 12, 1, _, _, _ => exact Or.inr st_3_1_12
  | 12, 2, _, _, _ => exact Or.inr st_3_2_12
  | 12, 3, _, _, _ => exact Or.inr st_3_3_12
  | 12, 4, _, _, _ => exact Or.inr st_3_4_12
  | 12, 5, _, _, _ => exact Or.inr st_3_5_12
  | 12, 6, _, _, _ => exact Or.inr st_3_6_12
  | 12, 7, _, _, _ => exact Or.inr st_3_7_12
  | 12, 8, _, _, _ => exact Or.inr st_3_8_12
  | 12, 9, _, _, _ => exact Or.inr st_3_9_12
  | 12, 10, _, _, _ => exact Or.inr st_3_10_12
  | 12, 11, _, _, _ => exact Or.inr st_3_11_12
  | 0, 0, _, _, h => exact absurd rfl h
  | 1, 1, _, _, h => exact absurd rfl h
  | 2, 2, _, _, h => exact absurd rfl h
  | 3, 3, _, _, h => exact absurd rfl h
  | 4, 4, _, _, h => exact absurd rfl h
  | 5, 5, _, _, h => exact absurd rfl h
  | 6, 6, _, _, h => exact absurd rfl h
  | 7, 7, _, _, h => exact absurd rfl h
  | 8, 8, _, _, h => exact absurd rfl h
  | 9, 9, _, _, h => exact absurd rfl h
  | 10, 10, _, _, h => exact absurd rfl h
  | 11, 11, _, _, h => exact absurd rfl h
  | 12, 12, _, _, h => exact absurd rfl h
  | i + 13, j, h, _, _ => omega
  | 0, j + 13, _, h, _ => omega
  | 1, j + 13, _, h, _ => omega
  | 2, j + 13, _, h, _ => omega
  | 3, j + 13, _, h, _ => omega
  | 4, j + 13, _, h, _ => omega
  | 5, j + 13, _, h, _ => omega
  | 6, j + 13, _, h, _ => omega
  | 7, j + 13, _, h, _ => omega
  | 8, j + 13, _, h, _ => omega
  | 9, j + 13, _, h, _ => omega
  | 10, j + 13, _, h, _ => omega
  | 11, j + 13, _, h, _ => omega
  | 12, j + 13, _, h, _ => omega
set_option maxRecDepth 100000 in
theorem st_4 : ∀ q ∈ g_strs, Cond.stringRef q.1 q.2.1 q.2.2.1 ∈ lw_tbl := by decide +kernel
theorem st_4b : ∀ q ∈ g_strs, q.2.2.2 < 13 ∧ st_tm q.2.2.2 = .string q.1 q.2.1 := by decide +kernel
set_option maxRecDepth 100000 in
theorem st_5 : Cond.laysStatic "java/lang/String" "COMPACT_STRINGS" "Z" ∈ lw_tbl ∧ Cond.initialized "java/lang/String" ∈ lw_tbl ∧ Cond.eq (.static "java/lang/String" "COMPACT_STRINGS" "Z") (.int 1) ∈ st_flat := by decide +kernel
set_option maxRecDepth 100000 in
theorem st_6 : Cond.laysStatic "jdk/internal/util/Preconditions" "SIOOBE_FORMATTER" "Ljava/util/function/BiFunction;" ∈ lw_tbl ∧ Cond.initialized "jdk/internal/util/Preconditions" ∈ lw_tbl ∧ Cond.isRef (.static "jdk/internal/util/Preconditions" "SIOOBE_FORMATTER" "Ljava/util/function/BiFunction;") ∈ st_flat := by decide +kernel
set_option maxRecDepth 100000 in
theorem st_7 : Cond.laysStatic Bundle.tN "UNASSIGNED_STACK" Bundle.steD ∈ lw_tbl ∧ Cond.initialized Bundle.tN ∈ lw_tbl ∧ Cond.isRef (.static Bundle.tN "UNASSIGNED_STACK" Bundle.steD) ∈ st_flat ∧ Cond.laysStatic Bundle.tN "SUPPRESSED_SENTINEL" Bundle.listD ∈ lw_tbl ∧ Cond.isRef (.static Bundle.tN "SUPPRESSED_SENTINEL" Bundle.listD) ∈ st_flat := by decide +kernel
def st_ad (b f : Nat) (aK aV : Nat → Nat) (a : Nat) : Nat := if a = g_EXT + 300 then b else if a = g_EXT + 200 then f else if g_EXT + 100 ≤ a then aV (a - g_EXT - 100) else aK (a - g_EXT)
theorem st_ad_K {b f : Nat} {aK aV : Nat → Nat} {i : Nat} (h : i < 13) : st_ad b f aK aV (g_EXT + i) = aK i := by
  unfold st_ad
  rw [if_neg (by omega), if_neg (by omega), if_neg (by omega), Nat.add_sub_cancel_left]
theorem st_ad_V {b f : Nat} {aK aV : Nat → Nat} {i : Nat} (h : i < 13) : st_ad b f aK aV (g_EXT + (100 + i)) = aV i := by
  unfold st_ad
  rw [if_neg (by omega), if_neg (by omega), if_pos (by omega), show g_EXT + (100 + i) - g_EXT - 100 = i by omega]
theorem st_ad_F {b f : Nat} {aK aV : Nat → Nat} : st_ad b f aK aV (g_EXT + 200) = f := by
  unfold st_ad
  rw [if_neg (by omega), if_pos rfl]
theorem st_ad_B {b f : Nat} {aK aV : Nat → Nat} : st_ad b f aK aV (g_EXT + 300) = b := by
  unfold st_ad
  rw [if_pos rfl]
theorem g_start {s : State} {b : Nat} (hts : ∀ w ∈ lw_tbl, w.before #[Value.ref b] s = true) (hgv : (Jvm.Cond.and given_1 narrow_1).before #[Value.ref b] s = true) :
    ∃ (D : va_G) (cy : Nat → ClassId) (ad : Nat → Nat), g_K D cy s ad (g_F ad g_u0 s.heap.size) ∧ ad (g_EXT + 300) = b := by
  have hfl := flat_of_before _ hgv
  have htb := g_tb_of hts
  obtain ⟨D, hD⟩ := st_cls htb
  obtain ⟨cy, hcy⟩ := st_tys hts htb
  have hA : ∀ a : Nat, a < s.heap.size → ¬ (fun q : Nat => s.heap.size ≤ q) a := fun a h => Nat.not_le.mpr h
  obtain ⟨aK, aV, hS, hev⟩ := vk_Sof (args := #[Value.ref b]) (s := s) (N := 13) (tm := st_tm) (len := g_slen) (byt := g_sbyt) (A := fun q : Nat => s.heap.size ≤ q) (by decide) (fun i hi => hfl _ (st_1 i hi).1) (fun i hi => hfl _ (st_1 i hi).2.1) (fun i hi => hfl _ (st_1 i hi).2.2.1) (fun i hi => hfl _ (st_1 i hi).2.2.2) (fun i hi j hj => hfl _ (st_2 i hi j hj)) (fun i j hi hj hne => (st_3 i hi j hj hne).imp (hfl _) (hfl _)) hA
  have hfo := va_Zqof (A := fun q : Nat => s.heap.size ≤ q) (hts _ st_6.1) (hts _ st_6.2.1) (hfl _ st_6.2.2) hA
  have hF : ∀ (ad : Nat → Nat) (q : Nat), g_F ad g_u0 s.heap.size q → (fun q : Nat => s.heap.size ≤ q) q := by
    rintro ad q (⟨x, hx, -⟩ | h)
    · exact absurd rfl hx
    · exact h
  obtain ⟨f, hf⟩ : ∃ f : Nat, va_Z "jdk/internal/util/Preconditions" "SIOOBE_FORMATTER" "Ljava/util/function/BiFunction;" .null (fun q : Nat => s.heap.size ≤ q) s s.heap ∨ va_Z "jdk/internal/util/Preconditions" "SIOOBE_FORMATTER" "Ljava/util/function/BiFunction;" (.ref f) (fun q : Nat => s.heap.size ≤ q) s s.heap := by
    rcases hfo with h | ⟨t, h⟩
    · exact ⟨0, Or.inl h⟩
    · exact ⟨t, Or.inr h⟩
  refine ⟨D, cy, st_ad b f aK aV, ⟨⟨hD, hcy⟩, va_AO.of (hts _ st_over.1), va_AO.of (hts _ st_over.2.1), va_AO.of (hts _ st_over.2.2), fun q hq => va_Nw.of rfl (hts _ (st_nest q hq)), ?_⟩, st_ad_B⟩
  refine ⟨?_, fun q hq => ?_, ?_, ?_, ?_, ?_, fun w hw => ?_⟩
  · refine vk_S.narrow (A := fun q : Nat => s.heap.size ≤ q) ?_ (hF _)
    refine ⟨fun i hi => ?_, fun i j hi hj => ?_⟩
    · dsimp only; rw [st_ad_K hi, st_ad_V hi]; exact hS.1 i hi
    · dsimp only; rw [st_ad_K hi, st_ad_K hj]; exact hS.2 i j hi hj
  · obtain ⟨h1, h2⟩ := st_4b q hq
    rw [st_ad_K h1]
    exact vk_R.of (hts _ (st_4 q hq)) (by rw [← h2]; exact hev _ h1)
  · exact (va_Zof (A := fun q : Nat => s.heap.size ≤ q) (hts _ st_5.1) (hts _ st_5.2.1) (Cond.eq_int (hfl _ st_5.2.2) rfl) hA).narrow (hF _)
  · rw [st_ad_F]
    exact hf.imp (fun h => h.narrow (hF _)) (fun h => h.narrow (hF _))
  · exact (vx_Zqof (A := fun q : Nat => s.heap.size ≤ q) (hts _ st_7.1) (hts _ st_7.2.1) (hfl _ st_7.2.2.1) hA).narrow (hF _)
  · exact (vx_Zqof (A := fun q : Nat => s.heap.size ≤ q) (hts _ st_7.2.2.2.1) (hts _ st_7.2.1) (hfl _ st_7.2.2.2.2) hA).narrow (hF _)
  · have h2 := (List.mem_filter.mp hw).2
    simp only [Bool.and_eq_true] at h2
    exact va_Nw.of h2.1 (hts w (List.mem_filter.mp hw).1)
