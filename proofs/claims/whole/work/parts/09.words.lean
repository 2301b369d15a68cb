abbrev eV (σ : gS) (m : gM) (n : gN) : Unit → gO := fun _ => (none, σ, m, n)
abbrev eVM (σ : gS) (n : gN) : gM → gO := fun r => (none, σ, r, n)
abbrev eVMN (σ : gS) : gM × gN → gO := fun r => (none, σ, r.1, r.2)
abbrev eVSM (n : gN) : gS × gM → gO := fun r => (none, r.1, r.2, n)
abbrev eVSMN : gS × gM × gN → gO := fun r => (none, r.1, r.2.1, r.2.2)
abbrev eVN (σ : gS) (m : gM) : gN → gO := fun r => (none, σ, m, r)
abbrev eVS (m : gM) (n : gN) : gS → gO := fun r => (none, r, m, n)
abbrev eI (σ : gS) (m : gM) (n : gN) : Int32 → gO := fun r => (some (vI r), σ, m, n)
abbrev eIM (σ : gS) (n : gN) : Int32 × gM → gO := fun r => (some (vI r.1), σ, r.2, n)
abbrev eIMN (σ : gS) : Int32 × gM × gN → gO := fun r => (some (vI r.1), σ, r.2.1, r.2.2)
abbrev eISM (n : gN) : Int32 × gS × gM → gO := fun r => (some (vI r.1), r.2.1, r.2.2, n)
abbrev eISMN : Int32 × gS × gM × gN → gO := fun r => (some (vI r.1), r.2.1, r.2.2.1, r.2.2.2)
abbrev eIN (σ : gS) (m : gM) : Int32 × gN → gO := fun r => (some (vI r.1), σ, m, r.2)
abbrev eIS (m : gM) (n : gN) : Int32 × gS → gO := fun r => (some (vI r.1), r.2, m, n)
abbrev eR (σ : gS) (m : gM) (n : gN) : Nat → gO := fun r => (some (vR r), σ, m, n)
abbrev eRM (σ : gS) (n : gN) : Nat × gM → gO := fun r => (some (vR r.1), σ, r.2, n)
abbrev eRMN (σ : gS) : Nat × gM × gN → gO := fun r => (some (vR r.1), σ, r.2.1, r.2.2)
abbrev eRSM (n : gN) : Nat × gS × gM → gO := fun r => (some (vR r.1), r.2.1, r.2.2, n)
abbrev eRSMN : Nat × gS × gM × gN → gO := fun r => (some (vR r.1), r.2.1, r.2.2.1, r.2.2.2)
abbrev eRN (σ : gS) (m : gM) : Nat × gN → gO := fun r => (some (vR r.1), σ, m, r.2)
abbrev eRS (m : gM) (n : gN) : Nat × gS → gO := fun r => (some (vR r.1), r.2, m, n)
abbrev eT (σ : gS) (m : gM) (n : gN) : Option Int32 → gO := fun r => (match r with | some v => some (vI v) | none => some (vE 999), σ, m, n)
theorem g_tb_1 {w : Cond} (i : Nat) (h0 : tables_1_1[i]? = some w) (g : goodWord w = true) : w ∈ g_tb := List.mem_filter.mpr ⟨List.mem_append_right _ (by have h := List.mem_of_getElem? h0; exact List.mem_append_left _ h), g⟩
theorem g_tb_2 {w : Cond} (i : Nat) (h0 : tables_1_2[i]? = some w) (g : goodWord w = true) : w ∈ g_tb := List.mem_filter.mpr ⟨List.mem_append_right _ (by have h := List.mem_of_getElem? h0; exact List.mem_append_right _ (List.mem_append_left _ h)), g⟩
theorem g_tb_3 {w : Cond} (i : Nat) (h0 : tables_1_3[i]? = some w) (g : goodWord w = true) : w ∈ g_tb := List.mem_filter.mpr ⟨List.mem_append_right _ (by have h := List.mem_of_getElem? h0; exact List.mem_append_right _ (List.mem_append_right _ (List.mem_append_left _ h))), g⟩
theorem g_tb_4 {w : Cond} (i : Nat) (h0 : tables_1_4[i]? = some w) (g : goodWord w = true) : w ∈ g_tb := List.mem_filter.mpr ⟨List.mem_append_right _ (by have h := List.mem_of_getElem? h0; exact List.mem_append_right _ (List.mem_append_right _ (List.mem_append_right _ (List.mem_append_left _ h)))), g⟩
theorem g_tb_5 {w : Cond} (i : Nat) (h0 : tables_1_5[i]? = some w) (g : goodWord w = true) : w ∈ g_tb := List.mem_filter.mpr ⟨List.mem_append_right _ (by have h := List.mem_of_getElem? h0; exact List.mem_append_right _ (List.mem_append_right _ (List.mem_append_right _ (List.mem_append_right _ (List.mem_append_left _ h))))), g⟩
theorem g_tb_6 {w : Cond} (i : Nat) (h0 : tables_1_6[i]? = some w) (g : goodWord w = true) : w ∈ g_tb := List.mem_filter.mpr ⟨List.mem_append_right _ (by have h := List.mem_of_getElem? h0; exact List.mem_append_right _ (List.mem_append_right _ (List.mem_append_right _ (List.mem_append_right _ (List.mem_append_right _ (List.mem_append_left _ h)))))), g⟩
theorem g_tb_7 {w : Cond} (i : Nat) (h0 : tables_1_7[i]? = some w) (g : goodWord w = true) : w ∈ g_tb := List.mem_filter.mpr ⟨List.mem_append_right _ (by have h := List.mem_of_getElem? h0; exact List.mem_append_right _ (List.mem_append_right _ (List.mem_append_right _ (List.mem_append_right _ (List.mem_append_right _ (List.mem_append_right _ (List.mem_append_left _ h))))))), g⟩
theorem g_tb_8 {w : Cond} (i : Nat) (h0 : tables_1_8[i]? = some w) (g : goodWord w = true) : w ∈ g_tb := List.mem_filter.mpr ⟨List.mem_append_right _ (by have h := List.mem_of_getElem? h0; exact List.mem_append_right _ (List.mem_append_right _ (List.mem_append_right _ (List.mem_append_right _ (List.mem_append_right _ (List.mem_append_right _ (List.mem_append_right _ (h)))))))), g⟩
def g_FU : Nat := 100000
def g_is (σ : gS) (a kd : Nat) : Bool := match σ.1 a with
  | some q => q.1 == kd
  | none => false
theorem g_is_at {σ : gS} {a kd : Nat} (h : g_is σ a kd = true) : σ.1 a = some (kd, g_ln σ a) := by
  unfold g_is at h
  unfold g_ln
  cases e : σ.1 a with
  | none => rw [e] at h; cases h
  | some q =>
    rw [e] at h
    obtain ⟨k, n⟩ := q
    have : k = kd := by simpa using h
    subst this; rfl
def g_b (x : Int32) : Bool := decide (x = 0 ∨ x = 1)
theorem g_b_nar {x : Int32} (h : g_b x = true) : narrow .boolean (.int x) = .int x := by
  unfold g_b at h
  rcases of_decide_eq_true h with rfl | rfl <;> rfl
theorem g_b_fit {x : Int32} (h : g_b x = true) : narrow .boolean (.int x) = .int x ∧ fits .boolean (.int x) = true := by
  unfold g_b at h
  rcases of_decide_eq_true h with rfl | rfl <;> exact ⟨rfl, rfl⟩
def g_fr (σ : gS) (a : Nat) : Bool := decide (a ≠ 0 ∧ a < g_EXT) && (σ.1 a).isNone
theorem g_fr_0 {σ : gS} {a : Nat} (h : g_fr σ a = true) : a ≠ 0 ∧ a < g_EXT := of_decide_eq_true ((Bool.and_eq_true _ _).mp h).1
theorem g_fr_n {σ : gS} {a : Nat} (h : g_fr σ a = true) : σ.1 a = none := Option.isNone_iff_eq_none.mp ((Bool.and_eq_true _ _).mp h).2
def g_nn (n : Int32) (B : Nat) : Bool := decide (¬ n < 0) && decide (n.toNatClampNeg ≤ B)
theorem g_nn_0 {n : Int32} {B : Nat} (h : g_nn n B = true) : ¬ n < 0 := of_decide_eq_true ((Bool.and_eq_true _ _).mp h).1
theorem g_nn_B {n : Int32} {B : Nat} (h : g_nn n B = true) : n.toNatClampNeg ≤ B := of_decide_eq_true ((Bool.and_eq_true _ _).mp h).2
def g_nS (σ : gS) (a kd n : Nat) : gS := (fun b => if b = a then some (kd, n) else σ.1 b, g_z σ.2 a 0)
theorem g_nS_at (σ : gS) (a kd n : Nat) : (g_nS σ a kd n).1 a = some (kd, n) := if_pos rfl
theorem r_chk {α : Type} {E : gE} {ce sl pc : Nat} {lv : List (Nat × gV)} {st : List gV} {u : gU} {om : Option α} {emb : α → gO} {b : Bool} (k : b = true → g_H E ce sl pc lv st u om emb) : g_H E ce sl pc lv st u (if b = true then om else none) emb := by
  by_cases h : b = true
  · rw [if_pos h]; exact k h
  · rw [if_neg h]; exact h_none
theorem w_obj : Cond.instanceMethod objectInit ∈ g_tb ∧ Cond.code objectInit ⟨#[0xb1]⟩ 1 none ∈ g_tb := ⟨g_tb_1 31 (by decide +kernel) (by decide +kernel), g_tb_1 32 (by decide +kernel) (by decide +kernel)⟩
theorem w_copy : Cond.native arraycopyName ∈ g_tb ∧ Cond.static arraycopyName ∈ g_tb ∧ Cond.initialized "java/lang/System" ∈ g_tb := ⟨g_tb_3 176 (by decide +kernel) (by decide +kernel), g_tb_3 175 (by decide +kernel) (by decide +kernel), g_tb_1 15 (by decide +kernel) (by decide +kernel)⟩
def yJ_bitCount : MethodName := ⟨"java/lang/Integer", "bitCount", "(I)I"⟩
theorem wf_5_11 : Cond.fieldLink RX5 11 "TourRooms$Party" "people" "[LTourRooms$Person;" ∈ g_tb := g_tb_1 41 (by decide +kernel) (by decide +kernel)
theorem wf_9_96 : Cond.fieldLink RX9 96 "TourRooms$Party" "people" "[LTourRooms$Person;" ∈ g_tb := g_tb_1 42 (by decide +kernel) (by decide +kernel)
theorem wf_11_381 : Cond.fieldLink RX11 381 "TourRooms$Party" "people" "[LTourRooms$Person;" ∈ g_tb := g_tb_1 43 (by decide +kernel) (by decide +kernel)
theorem wf_5_17 : Cond.fieldLink RX5 17 "TourRooms$Party" "size" "I" ∈ g_tb := g_tb_1 44 (by decide +kernel) (by decide +kernel)
theorem wf_11_94 : Cond.fieldLink RX11 94 "TourRooms$Party" "size" "I" ∈ g_tb := g_tb_1 45 (by decide +kernel) (by decide +kernel)
theorem wf_9_91 : Cond.fieldLink RX9 91 "TourRooms$Party" "size" "I" ∈ g_tb := g_tb_1 46 (by decide +kernel) (by decide +kernel)
theorem wf_4_11 : Cond.fieldLink RX4 11 "TourRooms$Notes" "notes" "[I" ∈ g_tb := g_tb_1 60 (by decide +kernel) (by decide +kernel)
theorem wf_4_15 : Cond.fieldLink RX4 15 "TourRooms$Notes" "size" "I" ∈ g_tb := g_tb_1 61 (by decide +kernel) (by decide +kernel)
theorem wf_11_352 : Cond.fieldLink RX11 352 "TourRooms$Notes" "size" "I" ∈ g_tb := g_tb_1 62 (by decide +kernel) (by decide +kernel)
theorem wf_7_11 : Cond.fieldLink RX7 11 "TourRooms$Reader" "kinds" "[I" ∈ g_tb := g_tb_1 75 (by decide +kernel) (by decide +kernel)
theorem wf_2_32 : Cond.fieldLink RX2 32 "TourRooms$Reader" "kinds" "[I" ∈ g_tb := g_tb_1 76 (by decide +kernel) (by decide +kernel)
theorem wf_7_17 : Cond.fieldLink RX7 17 "TourRooms$Reader" "marks" "[I" ∈ g_tb := g_tb_1 77 (by decide +kernel) (by decide +kernel)
theorem wf_2_39 : Cond.fieldLink RX2 39 "TourRooms$Reader" "marks" "[I" ∈ g_tb := g_tb_1 78 (by decide +kernel) (by decide +kernel)
theorem wf_7_20 : Cond.fieldLink RX7 20 "TourRooms$Reader" "code" "[I" ∈ g_tb := g_tb_1 79 (by decide +kernel) (by decide +kernel)
theorem wf_2_43 : Cond.fieldLink RX2 43 "TourRooms$Reader" "code" "[I" ∈ g_tb := g_tb_1 80 (by decide +kernel) (by decide +kernel)
theorem wf_7_23 : Cond.fieldLink RX7 23 "TourRooms$Reader" "tape" "[I" ∈ g_tb := g_tb_1 81 (by decide +kernel) (by decide +kernel)
theorem wf_7_26 : Cond.fieldLink RX7 26 "TourRooms$Reader" "length" "I" ∈ g_tb := g_tb_1 82 (by decide +kernel) (by decide +kernel)
theorem wf_11_212 : Cond.fieldLink RX11 212 "TourRooms$Reader" "length" "I" ∈ g_tb := g_tb_1 83 (by decide +kernel) (by decide +kernel)
theorem wf_7_30 : Cond.fieldLink RX7 30 "TourRooms$Reader" "rules" "I" ∈ g_tb := g_tb_1 84 (by decide +kernel) (by decide +kernel)
theorem wf_2_29 : Cond.fieldLink RX2 29 "TourRooms$Reader" "rules" "I" ∈ g_tb := g_tb_1 85 (by decide +kernel) (by decide +kernel)
theorem wf_7_33 : Cond.fieldLink RX7 33 "TourRooms$Reader" "codes" "I" ∈ g_tb := g_tb_1 86 (by decide +kernel) (by decide +kernel)
theorem wf_2_40 : Cond.fieldLink RX2 40 "TourRooms$Reader" "codes" "I" ∈ g_tb := g_tb_1 87 (by decide +kernel) (by decide +kernel)
theorem wf_7_36 : Cond.fieldLink RX7 36 "TourRooms$Reader" "token" "I" ∈ g_tb := g_tb_1 88 (by decide +kernel) (by decide +kernel)
theorem wf_7_39 : Cond.fieldLink RX7 39 "TourRooms$Reader" "place" "I" ∈ g_tb := g_tb_1 89 (by decide +kernel) (by decide +kernel)
theorem wf_7_42 : Cond.fieldLink RX7 42 "TourRooms$Reader" "behind" "I" ∈ g_tb := g_tb_1 90 (by decide +kernel) (by decide +kernel)
theorem wf_7_45 : Cond.fieldLink RX7 45 "TourRooms$Reader" "number" "I" ∈ g_tb := g_tb_1 91 (by decide +kernel) (by decide +kernel)
theorem wf_7_48 : Cond.fieldLink RX7 48 "TourRooms$Reader" "fault" "I" ∈ g_tb := g_tb_1 92 (by decide +kernel) (by decide +kernel)
theorem wf_9_9 : Cond.fieldLink RX9 9 "TourRooms$Settler" "plan" "[I" ∈ g_tb := g_tb_1 126 (by decide +kernel) (by decide +kernel)
theorem wf_11_183 : Cond.fieldLink RX11 183 "TourRooms$Settler" "plan" "[I" ∈ g_tb := g_tb_1 127 (by decide +kernel) (by decide +kernel)
theorem wf_9_15 : Cond.fieldLink RX9 15 "TourRooms$Settler" "plannedMoves" "I" ∈ g_tb := g_tb_1 128 (by decide +kernel) (by decide +kernel)
theorem wf_11_187 : Cond.fieldLink RX11 187 "TourRooms$Settler" "plannedMoves" "I" ∈ g_tb := g_tb_1 129 (by decide +kernel) (by decide +kernel)
theorem wf_9_19 : Cond.fieldLink RX9 19 "TourRooms$Settler" "plannedCost" "I" ∈ g_tb := g_tb_1 130 (by decide +kernel) (by decide +kernel)
theorem wf_11_190 : Cond.fieldLink RX11 190 "TourRooms$Settler" "plannedCost" "I" ∈ g_tb := g_tb_1 131 (by decide +kernel) (by decide +kernel)
theorem wf_9_22 : Cond.fieldLink RX9 22 "TourRooms$Settler" "guests" "[I" ∈ g_tb := g_tb_1 132 (by decide +kernel) (by decide +kernel)
theorem wf_9_25 : Cond.fieldLink RX9 25 "TourRooms$Settler" "roomNow" "[I" ∈ g_tb := g_tb_1 133 (by decide +kernel) (by decide +kernel)
theorem wf_9_28 : Cond.fieldLink RX9 28 "TourRooms$Settler" "sharers" "[I" ∈ g_tb := g_tb_1 134 (by decide +kernel) (by decide +kernel)
theorem wf_9_31 : Cond.fieldLink RX9 31 "TourRooms$Settler" "needsLow" "[Z" ∈ g_tb := g_tb_1 135 (by decide +kernel) (by decide +kernel)
theorem wf_9_37 : Cond.fieldLink RX9 37 "TourRooms$Settler" "rooms" "[LTourRooms$Room;" ∈ g_tb := g_tb_1 136 (by decide +kernel) (by decide +kernel)
theorem wf_9_41 : Cond.fieldLink RX9 41 "TourRooms$Settler" "roomNumbers" "[I" ∈ g_tb := g_tb_1 137 (by decide +kernel) (by decide +kernel)
theorem wf_9_44 : Cond.fieldLink RX9 44 "TourRooms$Settler" "guestCount" "I" ∈ g_tb := g_tb_1 138 (by decide +kernel) (by decide +kernel)
theorem wf_9_47 : Cond.fieldLink RX9 47 "TourRooms$Settler" "roomCount" "I" ∈ g_tb := g_tb_1 139 (by decide +kernel) (by decide +kernel)
theorem wf_9_50 : Cond.fieldLink RX9 50 "TourRooms$Settler" "beds" "I" ∈ g_tb := g_tb_1 140 (by decide +kernel) (by decide +kernel)
theorem wf_9_53 : Cond.fieldLink RX9 53 "TourRooms$Settler" "aim" "I" ∈ g_tb := g_tb_1 141 (by decide +kernel) (by decide +kernel)
theorem wf_9_56 : Cond.fieldLink RX9 56 "TourRooms$Settler" "table" "[I" ∈ g_tb := g_tb_1 142 (by decide +kernel) (by decide +kernel)
theorem wf_3_11 : Cond.fieldLink RX3 11 "TourRooms$Losses" "least" "I" ∈ g_tb := g_tb_1 179 (by decide +kernel) (by decide +kernel)
theorem wf_11_250 : Cond.fieldLink RX11 250 "TourRooms$Losses" "least" "I" ∈ g_tb := g_tb_1 180 (by decide +kernel) (by decide +kernel)
theorem wf_3_15 : Cond.fieldLink RX3 15 "TourRooms$Losses" "given" "I" ∈ g_tb := g_tb_1 181 (by decide +kernel) (by decide +kernel)
theorem wf_11_253 : Cond.fieldLink RX11 253 "TourRooms$Losses" "given" "I" ∈ g_tb := g_tb_1 182 (by decide +kernel) (by decide +kernel)
theorem wf_3_18 : Cond.fieldLink RX3 18 "TourRooms$Losses" "table" "[I" ∈ g_tb := g_tb_1 183 (by decide +kernel) (by decide +kernel)
theorem wf_3_22 : Cond.fieldLink RX3 22 "TourRooms$Losses" "worst" "[I" ∈ g_tb := g_tb_1 184 (by decide +kernel) (by decide +kernel)
theorem wf_3_25 : Cond.fieldLink RX3 25 "TourRooms$Losses" "fees" "[I" ∈ g_tb := g_tb_1 185 (by decide +kernel) (by decide +kernel)
theorem wf_3_28 : Cond.fieldLink RX3 28 "TourRooms$Losses" "up" "I" ∈ g_tb := g_tb_1 186 (by decide +kernel) (by decide +kernel)
theorem wf_3_31 : Cond.fieldLink RX3 31 "TourRooms$Losses" "down" "I" ∈ g_tb := g_tb_1 187 (by decide +kernel) (by decide +kernel)
theorem wf_3_34 : Cond.fieldLink RX3 34 "TourRooms$Losses" "mostHeld" "I" ∈ g_tb := g_tb_1 188 (by decide +kernel) (by decide +kernel)
theorem wf_3_37 : Cond.fieldLink RX3 37 "TourRooms$Losses" "lowest" "I" ∈ g_tb := g_tb_1 189 (by decide +kernel) (by decide +kernel)
theorem wf_3_40 : Cond.fieldLink RX3 40 "TourRooms$Losses" "highest" "I" ∈ g_tb := g_tb_1 190 (by decide +kernel) (by decide +kernel)
theorem wf_1_11 : Cond.fieldLink RX1 11 "TourRooms$Coach" "sights" "I" ∈ g_tb := g_tb_1 218 (by decide +kernel) (by decide +kernel)
theorem wf_11_349 : Cond.fieldLink RX11 349 "TourRooms$Coach" "sights" "I" ∈ g_tb := g_tb_1 219 (by decide +kernel) (by decide +kernel)
theorem wf_1_15 : Cond.fieldLink RX1 15 "TourRooms$Coach" "opens" "[I" ∈ g_tb := g_tb_1 220 (by decide +kernel) (by decide +kernel)
theorem wf_1_19 : Cond.fieldLink RX1 19 "TourRooms$Coach" "shuts" "[I" ∈ g_tb := g_tb_1 221 (by decide +kernel) (by decide +kernel)
theorem wf_1_22 : Cond.fieldLink RX1 22 "TourRooms$Coach" "lasts" "[I" ∈ g_tb := g_tb_1 222 (by decide +kernel) (by decide +kernel)
theorem wf_1_25 : Cond.fieldLink RX1 25 "TourRooms$Coach" "ways" "[I" ∈ g_tb := g_tb_1 223 (by decide +kernel) (by decide +kernel)
theorem wf_1_28 : Cond.fieldLink RX1 28 "TourRooms$Coach" "path" "[I" ∈ g_tb := g_tb_1 224 (by decide +kernel) (by decide +kernel)
theorem wf_1_31 : Cond.fieldLink RX1 31 "TourRooms$Coach" "begins" "[I" ∈ g_tb := g_tb_1 225 (by decide +kernel) (by decide +kernel)
theorem wf_1_34 : Cond.fieldLink RX1 34 "TourRooms$Coach" "bestPath" "[I" ∈ g_tb := g_tb_1 226 (by decide +kernel) (by decide +kernel)
theorem wf_1_37 : Cond.fieldLink RX1 37 "TourRooms$Coach" "bestBegins" "[I" ∈ g_tb := g_tb_1 227 (by decide +kernel) (by decide +kernel)
theorem wf_1_40 : Cond.fieldLink RX1 40 "TourRooms$Coach" "isTold" "Z" ∈ g_tb := g_tb_1 228 (by decide +kernel) (by decide +kernel)
theorem wf_1_44 : Cond.fieldLink RX1 44 "TourRooms$Coach" "bestSights" "I" ∈ g_tb := g_tb_1 229 (by decide +kernel) (by decide +kernel)
theorem wf_1_47 : Cond.fieldLink RX1 47 "TourRooms$Coach" "bestEnd" "I" ∈ g_tb := g_tb_1 230 (by decide +kernel) (by decide +kernel)
theorem wf_1_50 : Cond.fieldLink RX1 50 "TourRooms$Coach" "bestDriving" "I" ∈ g_tb := g_tb_1 231 (by decide +kernel) (by decide +kernel)
theorem wf_1_53 : Cond.fieldLink RX1 53 "TourRooms$Coach" "bestRests" "I" ∈ g_tb := g_tb_1 232 (by decide +kernel) (by decide +kernel)
theorem wf_0_9 : Cond.fieldLink RX0 9 "TourRooms$Book" "closed" "I" ∈ g_tb := g_tb_2 28 (by decide +kernel) (by decide +kernel)
theorem wf_11_133 : Cond.fieldLink RX11 133 "TourRooms$Book" "closed" "I" ∈ g_tb := g_tb_2 29 (by decide +kernel) (by decide +kernel)
theorem wf_0_15 : Cond.fieldLink RX0 15 "TourRooms$Book" "bills" "[I" ∈ g_tb := g_tb_2 30 (by decide +kernel) (by decide +kernel)
theorem wf_11_292 : Cond.fieldLink RX11 292 "TourRooms$Book" "bills" "[I" ∈ g_tb := g_tb_2 31 (by decide +kernel) (by decide +kernel)
theorem wf_0_19 : Cond.fieldLink RX0 19 "TourRooms$Book" "rooms" "[I" ∈ g_tb := g_tb_2 32 (by decide +kernel) (by decide +kernel)
theorem wf_11_10 : Cond.fieldLink RX11 10 "TourRooms" "party" "LTourRooms$Party;" ∈ g_tb := g_tb_2 40 (by decide +kernel) (by decide +kernel)
theorem wf_11_18 : Cond.fieldLink RX11 18 "TourRooms" "towns" "[LTourRooms$Town;" ∈ g_tb := g_tb_2 41 (by decide +kernel) (by decide +kernel)
theorem wf_11_25 : Cond.fieldLink RX11 25 "TourRooms" "notes" "LTourRooms$Notes;" ∈ g_tb := g_tb_2 42 (by decide +kernel) (by decide +kernel)
theorem wf_11_32 : Cond.fieldLink RX11 32 "TourRooms" "reader" "LTourRooms$Reader;" ∈ g_tb := g_tb_2 43 (by decide +kernel) (by decide +kernel)
theorem wf_11_39 : Cond.fieldLink RX11 39 "TourRooms" "settler" "LTourRooms$Settler;" ∈ g_tb := g_tb_2 44 (by decide +kernel) (by decide +kernel)
theorem wf_11_46 : Cond.fieldLink RX11 46 "TourRooms" "losses" "LTourRooms$Losses;" ∈ g_tb := g_tb_2 45 (by decide +kernel) (by decide +kernel)
theorem wf_11_53 : Cond.fieldLink RX11 53 "TourRooms" "coach" "LTourRooms$Coach;" ∈ g_tb := g_tb_2 46 (by decide +kernel) (by decide +kernel)
theorem wf_11_60 : Cond.fieldLink RX11 60 "TourRooms" "book" "LTourRooms$Book;" ∈ g_tb := g_tb_2 47 (by decide +kernel) (by decide +kernel)
theorem wf_11_64 : Cond.fieldLink RX11 64 "TourRooms" "townCount" "I" ∈ g_tb := g_tb_2 48 (by decide +kernel) (by decide +kernel)
theorem wf_11_68 : Cond.fieldLink RX11 68 "TourRooms" "nights" "I" ∈ g_tb := g_tb_2 49 (by decide +kernel) (by decide +kernel)
theorem wf_11_71 : Cond.fieldLink RX11 71 "TourRooms" "today" "I" ∈ g_tb := g_tb_2 50 (by decide +kernel) (by decide +kernel)
theorem wf_11_74 : Cond.fieldLink RX11 74 "TourRooms" "firstDay" "I" ∈ g_tb := g_tb_2 51 (by decide +kernel) (by decide +kernel)
theorem wf_11_77 : Cond.fieldLink RX11 77 "TourRooms" "seasonNow" "I" ∈ g_tb := g_tb_2 52 (by decide +kernel) (by decide +kernel)
theorem wf_11_80 : Cond.fieldLink RX11 80 "TourRooms" "spent" "I" ∈ g_tb := g_tb_2 53 (by decide +kernel) (by decide +kernel)
theorem wf_11_83 : Cond.fieldLink RX11 83 "TourRooms" "latestMoved" "I" ∈ g_tb := g_tb_2 54 (by decide +kernel) (by decide +kernel)
theorem wf_6_28 : Cond.fieldLink RX6 28 "TourRooms$Person" "shares" "Z" ∈ g_tb := g_tb_2 102 (by decide +kernel) (by decide +kernel)
theorem wf_5_35 : Cond.fieldLink RX5 35 "TourRooms$Person" "shares" "Z" ∈ g_tb := g_tb_2 103 (by decide +kernel) (by decide +kernel)
theorem wf_11_336 : Cond.fieldLink RX11 336 "TourRooms$Person" "shares" "Z" ∈ g_tb := g_tb_2 104 (by decide +kernel) (by decide +kernel)
theorem wf_6_31 : Cond.fieldLink RX6 31 "TourRooms$Person" "sort" "I" ∈ g_tb := g_tb_2 105 (by decide +kernel) (by decide +kernel)
theorem wf_5_39 : Cond.fieldLink RX5 39 "TourRooms$Person" "sort" "I" ∈ g_tb := g_tb_2 106 (by decide +kernel) (by decide +kernel)
theorem wf_11_339 : Cond.fieldLink RX11 339 "TourRooms$Person" "sort" "I" ∈ g_tb := g_tb_2 107 (by decide +kernel) (by decide +kernel)
theorem wf_6_34 : Cond.fieldLink RX6 34 "TourRooms$Person" "low" "Z" ∈ g_tb := g_tb_2 108 (by decide +kernel) (by decide +kernel)
theorem wf_9_109 : Cond.fieldLink RX9 109 "TourRooms$Person" "low" "Z" ∈ g_tb := g_tb_2 109 (by decide +kernel) (by decide +kernel)
theorem wf_5_60 : Cond.fieldLink RX5 60 "TourRooms$Person" "low" "Z" ∈ g_tb := g_tb_2 110 (by decide +kernel) (by decide +kernel)
theorem wf_11_342 : Cond.fieldLink RX11 342 "TourRooms$Person" "low" "Z" ∈ g_tb := g_tb_2 111 (by decide +kernel) (by decide +kernel)
theorem wf_6_37 : Cond.fieldLink RX6 37 "TourRooms$Person" "diet" "I" ∈ g_tb := g_tb_2 112 (by decide +kernel) (by decide +kernel)
theorem wf_5_89 : Cond.fieldLink RX5 89 "TourRooms$Person" "diet" "I" ∈ g_tb := g_tb_2 113 (by decide +kernel) (by decide +kernel)
theorem wf_11_343 : Cond.fieldLink RX11 343 "TourRooms$Person" "diet" "I" ∈ g_tb := g_tb_2 114 (by decide +kernel) (by decide +kernel)
theorem wf_6_40 : Cond.fieldLink RX6 40 "TourRooms$Person" "from" "I" ∈ g_tb := g_tb_2 115 (by decide +kernel) (by decide +kernel)
theorem wf_11_127 : Cond.fieldLink RX11 127 "TourRooms$Person" "from" "I" ∈ g_tb := g_tb_2 116 (by decide +kernel) (by decide +kernel)
theorem wf_6_43 : Cond.fieldLink RX6 43 "TourRooms$Person" "to" "I" ∈ g_tb := g_tb_2 117 (by decide +kernel) (by decide +kernel)
theorem wf_11_130 : Cond.fieldLink RX11 130 "TourRooms$Person" "to" "I" ∈ g_tb := g_tb_2 118 (by decide +kernel) (by decide +kernel)
theorem wf_6_9 : Cond.fieldLink RX6 9 "TourRooms$Person" "gone" "Z" ∈ g_tb := g_tb_2 119 (by decide +kernel) (by decide +kernel)
theorem wf_11_110 : Cond.fieldLink RX11 110 "TourRooms$Person" "gone" "Z" ∈ g_tb := g_tb_2 120 (by decide +kernel) (by decide +kernel)
theorem wf_5_42 : Cond.fieldLink RX5 42 "TourRooms$Person" "gone" "Z" ∈ g_tb := g_tb_2 121 (by decide +kernel) (by decide +kernel)
theorem wf_6_15 : Cond.fieldLink RX6 15 "TourRooms$Person" "friend" "I" ∈ g_tb := g_tb_2 122 (by decide +kernel) (by decide +kernel)
theorem wf_11_114 : Cond.fieldLink RX11 114 "TourRooms$Person" "friend" "I" ∈ g_tb := g_tb_2 123 (by decide +kernel) (by decide +kernel)
theorem wf_5_29 : Cond.fieldLink RX5 29 "TourRooms$Person" "friend" "I" ∈ g_tb := g_tb_2 124 (by decide +kernel) (by decide +kernel)
theorem wf_6_19 : Cond.fieldLink RX6 19 "TourRooms$Person" "bars" "I" ∈ g_tb := g_tb_2 125 (by decide +kernel) (by decide +kernel)
theorem wf_11_121 : Cond.fieldLink RX11 121 "TourRooms$Person" "bars" "I" ∈ g_tb := g_tb_2 126 (by decide +kernel) (by decide +kernel)
theorem wf_6_22 : Cond.fieldLink RX6 22 "TourRooms$Person" "absences" "I" ∈ g_tb := g_tb_2 127 (by decide +kernel) (by decide +kernel)
theorem wf_11_136 : Cond.fieldLink RX11 136 "TourRooms$Person" "absences" "I" ∈ g_tb := g_tb_2 128 (by decide +kernel) (by decide +kernel)
theorem wf_6_25 : Cond.fieldLink RX6 25 "TourRooms$Person" "owed" "I" ∈ g_tb := g_tb_2 129 (by decide +kernel) (by decide +kernel)
theorem wf_11_297 : Cond.fieldLink RX11 297 "TourRooms$Person" "owed" "I" ∈ g_tb := g_tb_2 130 (by decide +kernel) (by decide +kernel)
theorem wf_2_9 : Cond.fieldLink RX2 9 "TourRooms$Contract" "kinds" "[I" ∈ g_tb := g_tb_2 234 (by decide +kernel) (by decide +kernel)
theorem wf_2_13 : Cond.fieldLink RX2 13 "TourRooms$Contract" "marks" "[I" ∈ g_tb := g_tb_2 235 (by decide +kernel) (by decide +kernel)
theorem wf_2_16 : Cond.fieldLink RX2 16 "TourRooms$Contract" "facts" "[I" ∈ g_tb := g_tb_2 236 (by decide +kernel) (by decide +kernel)
theorem wf_3_43 : Cond.fieldLink RX3 43 "TourRooms$Contract" "facts" "[I" ∈ g_tb := g_tb_2 237 (by decide +kernel) (by decide +kernel)
theorem wf_2_19 : Cond.fieldLink RX2 19 "TourRooms$Contract" "stack" "[I" ∈ g_tb := g_tb_2 238 (by decide +kernel) (by decide +kernel)
theorem wf_2_22 : Cond.fieldLink RX2 22 "TourRooms$Contract" "code" "[I" ∈ g_tb := g_tb_2 239 (by decide +kernel) (by decide +kernel)
theorem wf_2_25 : Cond.fieldLink RX2 25 "TourRooms$Contract" "rules" "I" ∈ g_tb := g_tb_3 0 (by decide +kernel) (by decide +kernel)
theorem wf_11_324 : Cond.fieldLink RX11 324 "TourRooms$Contract" "rules" "I" ∈ g_tb := g_tb_3 1 (by decide +kernel) (by decide +kernel)
theorem wf_10_32 : Cond.fieldLink RX10 32 "TourRooms$Town" "number" "I" ∈ g_tb := g_tb_3 15 (by decide +kernel) (by decide +kernel)
theorem wf_9_100 : Cond.fieldLink RX9 100 "TourRooms$Town" "number" "I" ∈ g_tb := g_tb_3 16 (by decide +kernel) (by decide +kernel)
theorem wf_5_82 : Cond.fieldLink RX5 82 "TourRooms$Town" "number" "I" ∈ g_tb := g_tb_3 17 (by decide +kernel) (by decide +kernel)
theorem wf_11_357 : Cond.fieldLink RX11 357 "TourRooms$Town" "number" "I" ∈ g_tb := g_tb_3 18 (by decide +kernel) (by decide +kernel)
theorem wf_10_35 : Cond.fieldLink RX10 35 "TourRooms$Town" "nights" "I" ∈ g_tb := g_tb_3 19 (by decide +kernel) (by decide +kernel)
theorem wf_11_303 : Cond.fieldLink RX11 303 "TourRooms$Town" "nights" "I" ∈ g_tb := g_tb_3 20 (by decide +kernel) (by decide +kernel)
theorem wf_10_38 : Cond.fieldLink RX10 38 "TourRooms$Town" "firstNight" "I" ∈ g_tb := g_tb_3 21 (by decide +kernel) (by decide +kernel)
theorem wf_11_304 : Cond.fieldLink RX11 304 "TourRooms$Town" "firstNight" "I" ∈ g_tb := g_tb_3 22 (by decide +kernel) (by decide +kernel)
theorem wf_10_11 : Cond.fieldLink RX10 11 "TourRooms$Town" "rooms" "[LTourRooms$Room;" ∈ g_tb := g_tb_3 23 (by decide +kernel) (by decide +kernel)
theorem wf_9_118 : Cond.fieldLink RX9 118 "TourRooms$Town" "rooms" "[LTourRooms$Room;" ∈ g_tb := g_tb_3 24 (by decide +kernel) (by decide +kernel)
theorem wf_10_17 : Cond.fieldLink RX10 17 "TourRooms$Town" "list" "[I" ∈ g_tb := g_tb_3 25 (by decide +kernel) (by decide +kernel)
theorem wf_10_24 : Cond.fieldLink RX10 24 "TourRooms$Town" "contract" "LTourRooms$Contract;" ∈ g_tb := g_tb_3 26 (by decide +kernel) (by decide +kernel)
theorem wf_11_219 : Cond.fieldLink RX11 219 "TourRooms$Town" "contract" "LTourRooms$Contract;" ∈ g_tb := g_tb_3 27 (by decide +kernel) (by decide +kernel)
theorem wf_10_28 : Cond.fieldLink RX10 28 "TourRooms$Town" "roomCount" "I" ∈ g_tb := g_tb_3 28 (by decide +kernel) (by decide +kernel)
theorem wf_9_117 : Cond.fieldLink RX9 117 "TourRooms$Town" "roomCount" "I" ∈ g_tb := g_tb_3 29 (by decide +kernel) (by decide +kernel)
theorem wf_11_146 : Cond.fieldLink RX11 146 "TourRooms$Town" "roomCount" "I" ∈ g_tb := g_tb_3 30 (by decide +kernel) (by decide +kernel)
theorem wf_8_13 : Cond.fieldLink RX8 13 "TourRooms$Room" "beds" "I" ∈ g_tb := g_tb_3 76 (by decide +kernel) (by decide +kernel)
theorem wf_9_122 : Cond.fieldLink RX9 122 "TourRooms$Room" "beds" "I" ∈ g_tb := g_tb_3 77 (by decide +kernel) (by decide +kernel)
theorem wf_5_73 : Cond.fieldLink RX5 73 "TourRooms$Room" "beds" "I" ∈ g_tb := g_tb_3 78 (by decide +kernel) (by decide +kernel)
theorem wf_11_327 : Cond.fieldLink RX11 327 "TourRooms$Room" "beds" "I" ∈ g_tb := g_tb_3 79 (by decide +kernel) (by decide +kernel)
theorem wf_8_17 : Cond.fieldLink RX8 17 "TourRooms$Room" "low" "Z" ∈ g_tb := g_tb_3 80 (by decide +kernel) (by decide +kernel)
theorem wf_5_63 : Cond.fieldLink RX5 63 "TourRooms$Room" "low" "Z" ∈ g_tb := g_tb_3 81 (by decide +kernel) (by decide +kernel)
theorem wf_9_141 : Cond.fieldLink RX9 141 "TourRooms$Room" "low" "Z" ∈ g_tb := g_tb_3 82 (by decide +kernel) (by decide +kernel)
theorem wf_11_330 : Cond.fieldLink RX11 330 "TourRooms$Room" "low" "Z" ∈ g_tb := g_tb_3 83 (by decide +kernel) (by decide +kernel)
theorem wf_8_20 : Cond.fieldLink RX8 20 "TourRooms$Room" "price" "I" ∈ g_tb := g_tb_3 84 (by decide +kernel) (by decide +kernel)
theorem wf_10_61 : Cond.fieldLink RX10 61 "TourRooms$Room" "price" "I" ∈ g_tb := g_tb_3 85 (by decide +kernel) (by decide +kernel)
theorem wf_9_145 : Cond.fieldLink RX9 145 "TourRooms$Room" "price" "I" ∈ g_tb := g_tb_3 86 (by decide +kernel) (by decide +kernel)
theorem wf_11_333 : Cond.fieldLink RX11 333 "TourRooms$Room" "price" "I" ∈ g_tb := g_tb_3 87 (by decide +kernel) (by decide +kernel)
theorem wf_8_7 : Cond.fieldLink RX8 7 "TourRooms$Room" "held" "Z" ∈ g_tb := g_tb_3 88 (by decide +kernel) (by decide +kernel)
theorem wf_9_119 : Cond.fieldLink RX9 119 "TourRooms$Room" "held" "Z" ∈ g_tb := g_tb_3 89 (by decide +kernel) (by decide +kernel)
theorem wf_5_55 : Cond.fieldLink RX5 55 "TourRooms$Room" "held" "Z" ∈ g_tb := g_tb_3 90 (by decide +kernel) (by decide +kernel)
theorem wf_10_50 : Cond.fieldLink RX10 50 "TourRooms$Room" "held" "Z" ∈ g_tb := g_tb_3 91 (by decide +kernel) (by decide +kernel)
theorem wf_11_236 : Cond.fieldLink RX11 236 "TourRooms$Room" "held" "Z" ∈ g_tb := g_tb_3 92 (by decide +kernel) (by decide +kernel)
theorem wf_12_1 : Cond.fieldLink RX12 1 "TourRoomsModel" "thrown" "I" ∈ g_tb := g_tb_5 215 (by decide +kernel) (by decide +kernel)
theorem wf_12_157 : Cond.fieldLink RX12 157 "TourRoomsModel" "people" "I" ∈ g_tb := g_tb_5 216 (by decide +kernel) (by decide +kernel)
theorem wf_12_13 : Cond.fieldLink RX12 13 "TourRoomsModel" "shares" "[Z" ∈ g_tb := g_tb_5 217 (by decide +kernel) (by decide +kernel)
theorem wf_12_17 : Cond.fieldLink RX12 17 "TourRoomsModel" "sort" "[I" ∈ g_tb := g_tb_5 218 (by decide +kernel) (by decide +kernel)
theorem wf_12_21 : Cond.fieldLink RX12 21 "TourRoomsModel" "low" "[Z" ∈ g_tb := g_tb_5 219 (by decide +kernel) (by decide +kernel)
theorem wf_12_24 : Cond.fieldLink RX12 24 "TourRoomsModel" "diet" "[I" ∈ g_tb := g_tb_5 220 (by decide +kernel) (by decide +kernel)
theorem wf_12_27 : Cond.fieldLink RX12 27 "TourRoomsModel" "from" "[I" ∈ g_tb := g_tb_5 221 (by decide +kernel) (by decide +kernel)
theorem wf_12_30 : Cond.fieldLink RX12 30 "TourRoomsModel" "to" "[I" ∈ g_tb := g_tb_5 222 (by decide +kernel) (by decide +kernel)
theorem wf_12_33 : Cond.fieldLink RX12 33 "TourRoomsModel" "isGone" "[Z" ∈ g_tb := g_tb_5 223 (by decide +kernel) (by decide +kernel)
theorem wf_12_36 : Cond.fieldLink RX12 36 "TourRoomsModel" "friend" "[I" ∈ g_tb := g_tb_5 224 (by decide +kernel) (by decide +kernel)
theorem wf_12_39 : Cond.fieldLink RX12 39 "TourRoomsModel" "bars" "[Z" ∈ g_tb := g_tb_5 225 (by decide +kernel) (by decide +kernel)
theorem wf_12_164 : Cond.fieldLink RX12 164 "TourRoomsModel" "towns" "I" ∈ g_tb := g_tb_5 226 (by decide +kernel) (by decide +kernel)
theorem wf_12_192 : Cond.fieldLink RX12 192 "TourRoomsModel" "nights" "I" ∈ g_tb := g_tb_5 227 (by decide +kernel) (by decide +kernel)
theorem wf_12_167 : Cond.fieldLink RX12 167 "TourRoomsModel" "closed" "I" ∈ g_tb := g_tb_5 228 (by decide +kernel) (by decide +kernel)
theorem wf_12_183 : Cond.fieldLink RX12 183 "TourRoomsModel" "day" "I" ∈ g_tb := g_tb_5 229 (by decide +kernel) (by decide +kernel)
theorem wf_12_42 : Cond.fieldLink RX12 42 "TourRoomsModel" "firstDay" "I" ∈ g_tb := g_tb_5 230 (by decide +kernel) (by decide +kernel)
theorem wf_12_195 : Cond.fieldLink RX12 195 "TourRoomsModel" "season" "I" ∈ g_tb := g_tb_5 231 (by decide +kernel) (by decide +kernel)
theorem wf_12_392 : Cond.fieldLink RX12 392 "TourRoomsModel" "spent" "I" ∈ g_tb := g_tb_5 232 (by decide +kernel) (by decide +kernel)
theorem wf_12_45 : Cond.fieldLink RX12 45 "TourRoomsModel" "long0" "[I" ∈ g_tb := g_tb_5 233 (by decide +kernel) (by decide +kernel)
theorem wf_12_48 : Cond.fieldLink RX12 48 "TourRoomsModel" "first" "[I" ∈ g_tb := g_tb_5 234 (by decide +kernel) (by decide +kernel)
theorem wf_12_51 : Cond.fieldLink RX12 51 "TourRoomsModel" "rooms" "[I" ∈ g_tb := g_tb_5 235 (by decide +kernel) (by decide +kernel)
theorem wf_12_54 : Cond.fieldLink RX12 54 "TourRoomsModel" "beds" "[I" ∈ g_tb := g_tb_5 236 (by decide +kernel) (by decide +kernel)
theorem wf_12_57 : Cond.fieldLink RX12 57 "TourRoomsModel" "lowRoom" "[Z" ∈ g_tb := g_tb_5 237 (by decide +kernel) (by decide +kernel)
theorem wf_12_60 : Cond.fieldLink RX12 60 "TourRoomsModel" "price" "[I" ∈ g_tb := g_tb_5 238 (by decide +kernel) (by decide +kernel)
theorem wf_12_63 : Cond.fieldLink RX12 63 "TourRoomsModel" "held" "[Z" ∈ g_tb := g_tb_5 239 (by decide +kernel) (by decide +kernel)
theorem wf_12_66 : Cond.fieldLink RX12 66 "TourRoomsModel" "list" "[I" ∈ g_tb := g_tb_6 0 (by decide +kernel) (by decide +kernel)
theorem wf_12_180 : Cond.fieldLink RX12 180 "TourRoomsModel" "notes" "I" ∈ g_tb := g_tb_6 1 (by decide +kernel) (by decide +kernel)
theorem wf_12_69 : Cond.fieldLink RX12 69 "TourRoomsModel" "noteDay" "[I" ∈ g_tb := g_tb_6 2 (by decide +kernel) (by decide +kernel)
theorem wf_12_72 : Cond.fieldLink RX12 72 "TourRoomsModel" "notePlace" "[I" ∈ g_tb := g_tb_6 3 (by decide +kernel) (by decide +kernel)
theorem wf_12_75 : Cond.fieldLink RX12 75 "TourRoomsModel" "noteRoom" "[I" ∈ g_tb := g_tb_6 4 (by decide +kernel) (by decide +kernel)
theorem wf_12_78 : Cond.fieldLink RX12 78 "TourRoomsModel" "isAbsent" "[Z" ∈ g_tb := g_tb_6 5 (by decide +kernel) (by decide +kernel)
theorem wf_12_81 : Cond.fieldLink RX12 81 "TourRoomsModel" "lay" "[I" ∈ g_tb := g_tb_6 6 (by decide +kernel) (by decide +kernel)
theorem wf_12_84 : Cond.fieldLink RX12 84 "TourRoomsModel" "bills" "[I" ∈ g_tb := g_tb_6 7 (by decide +kernel) (by decide +kernel)
theorem wf_12_87 : Cond.fieldLink RX12 87 "TourRoomsModel" "owed" "[I" ∈ g_tb := g_tb_6 8 (by decide +kernel) (by decide +kernel)
theorem wf_12_90 : Cond.fieldLink RX12 90 "TourRoomsModel" "may" "[I" ∈ g_tb := g_tb_6 9 (by decide +kernel) (by decide +kernel)
theorem wf_12_93 : Cond.fieldLink RX12 93 "TourRoomsModel" "mayMany" "[I" ∈ g_tb := g_tb_6 10 (by decide +kernel) (by decide +kernel)
theorem wf_12_96 : Cond.fieldLink RX12 96 "TourRoomsModel" "least" "[I" ∈ g_tb := g_tb_6 11 (by decide +kernel) (by decide +kernel)
theorem wf_12_99 : Cond.fieldLink RX12 99 "TourRoomsModel" "lastMoved" "I" ∈ g_tb := g_tb_6 12 (by decide +kernel) (by decide +kernel)
theorem wf_12_102 : Cond.fieldLink RX12 102 "TourRoomsModel" "fresh" "[I" ∈ g_tb := g_tb_6 13 (by decide +kernel) (by decide +kernel)
theorem wf_12_105 : Cond.fieldLink RX12 105 "TourRoomsModel" "reached" "[Z" ∈ g_tb := g_tb_6 14 (by decide +kernel) (by decide +kernel)
theorem wf_12_108 : Cond.fieldLink RX12 108 "TourRoomsModel" "tape" "[B" ∈ g_tb := g_tb_6 15 (by decide +kernel) (by decide +kernel)
theorem wf_12_246 : Cond.fieldLink RX12 246 "TourRoomsModel" "taped" "I" ∈ g_tb := g_tb_6 16 (by decide +kernel) (by decide +kernel)
theorem wf_12_112 : Cond.fieldLink RX12 112 "TourRoomsModel" "texts" "[B" ∈ g_tb := g_tb_6 17 (by decide +kernel) (by decide +kernel)
theorem wf_12_115 : Cond.fieldLink RX12 115 "TourRoomsModel" "textLong" "[I" ∈ g_tb := g_tb_6 18 (by decide +kernel) (by decide +kernel)
theorem wf_12_118 : Cond.fieldLink RX12 118 "TourRoomsModel" "rules" "[I" ∈ g_tb := g_tb_6 19 (by decide +kernel) (by decide +kernel)
theorem wf_12_121 : Cond.fieldLink RX12 121 "TourRoomsModel" "text" "[B" ∈ g_tb := g_tb_6 20 (by decide +kernel) (by decide +kernel)
theorem wf_12_252 : Cond.fieldLink RX12 252 "TourRoomsModel" "size" "I" ∈ g_tb := g_tb_6 21 (by decide +kernel) (by decide +kernel)
theorem wf_12_249 : Cond.fieldLink RX12 249 "TourRoomsModel" "at" "I" ∈ g_tb := g_tb_6 22 (by decide +kernel) (by decide +kernel)
theorem wf_12_255 : Cond.fieldLink RX12 255 "TourRoomsModel" "place" "I" ∈ g_tb := g_tb_6 23 (by decide +kernel) (by decide +kernel)
theorem wf_12_262 : Cond.fieldLink RX12 262 "TourRoomsModel" "token" "I" ∈ g_tb := g_tb_6 24 (by decide +kernel) (by decide +kernel)
theorem wf_12_303 : Cond.fieldLink RX12 303 "TourRoomsModel" "deep" "I" ∈ g_tb := g_tb_6 25 (by decide +kernel) (by decide +kernel)
theorem wf_12_294 : Cond.fieldLink RX12 294 "TourRoomsModel" "fault" "I" ∈ g_tb := g_tb_6 26 (by decide +kernel) (by decide +kernel)
theorem wf_12_297 : Cond.fieldLink RX12 297 "TourRoomsModel" "faultAt" "I" ∈ g_tb := g_tb_6 27 (by decide +kernel) (by decide +kernel)
theorem wf_12_258 : Cond.fieldLink RX12 258 "TourRoomsModel" "value" "J" ∈ g_tb := g_tb_6 28 (by decide +kernel) (by decide +kernel)
theorem wf_12_322 : Cond.fieldLink RX12 322 "TourRoomsModel" "asLeft" "I" ∈ g_tb := g_tb_6 29 (by decide +kernel) (by decide +kernel)
theorem wf_12_327 : Cond.fieldLink RX12 327 "TourRoomsModel" "asHeld" "I" ∈ g_tb := g_tb_6 30 (by decide +kernel) (by decide +kernel)
theorem wf_12_332 : Cond.fieldLink RX12 332 "TourRoomsModel" "asUsed" "I" ∈ g_tb := g_tb_6 31 (by decide +kernel) (by decide +kernel)
theorem wf_12_337 : Cond.fieldLink RX12 337 "TourRoomsModel" "asPeople" "I" ∈ g_tb := g_tb_6 32 (by decide +kernel) (by decide +kernel)
theorem wf_12_361 : Cond.fieldLink RX12 361 "TourRoomsModel" "read" "I" ∈ g_tb := g_tb_6 33 (by decide +kernel) (by decide +kernel)
theorem wf_12_364 : Cond.fieldLink RX12 364 "TourRoomsModel" "found" "I" ∈ g_tb := g_tb_6 34 (by decide +kernel) (by decide +kernel)
theorem wf_12_124 : Cond.fieldLink RX12 124 "TourRoomsModel" "loss" "[I" ∈ g_tb := g_tb_6 35 (by decide +kernel) (by decide +kernel)
theorem wf_12_127 : Cond.fieldLink RX12 127 "TourRoomsModel" "later" "[I" ∈ g_tb := g_tb_6 36 (by decide +kernel) (by decide +kernel)
theorem wf_12_395 : Cond.fieldLink RX12 395 "TourRoomsModel" "given" "I" ∈ g_tb := g_tb_6 37 (by decide +kernel) (by decide +kernel)
theorem wf_12_405 : Cond.fieldLink RX12 405 "TourRoomsModel" "sights" "I" ∈ g_tb := g_tb_6 38 (by decide +kernel) (by decide +kernel)
theorem wf_12_130 : Cond.fieldLink RX12 130 "TourRoomsModel" "opens" "[I" ∈ g_tb := g_tb_6 39 (by decide +kernel) (by decide +kernel)
theorem wf_12_133 : Cond.fieldLink RX12 133 "TourRoomsModel" "shuts" "[I" ∈ g_tb := g_tb_6 40 (by decide +kernel) (by decide +kernel)
theorem wf_12_136 : Cond.fieldLink RX12 136 "TourRoomsModel" "stay" "[I" ∈ g_tb := g_tb_6 41 (by decide +kernel) (by decide +kernel)
theorem wf_12_139 : Cond.fieldLink RX12 139 "TourRoomsModel" "way" "[I" ∈ g_tb := g_tb_6 42 (by decide +kernel) (by decide +kernel)
theorem wf_12_142 : Cond.fieldLink RX12 142 "TourRoomsModel" "gone" "[I" ∈ g_tb := g_tb_6 43 (by decide +kernel) (by decide +kernel)
theorem wf_12_145 : Cond.fieldLink RX12 145 "TourRoomsModel" "begins" "[I" ∈ g_tb := g_tb_6 44 (by decide +kernel) (by decide +kernel)
theorem wf_12_428 : Cond.fieldLink RX12 428 "TourRoomsModel" "isTripped" "Z" ∈ g_tb := g_tb_6 45 (by decide +kernel) (by decide +kernel)
theorem wf_12_416 : Cond.fieldLink RX12 416 "TourRoomsModel" "tripMany" "I" ∈ g_tb := g_tb_6 46 (by decide +kernel) (by decide +kernel)
theorem wf_12_419 : Cond.fieldLink RX12 419 "TourRoomsModel" "tripEnd" "I" ∈ g_tb := g_tb_6 47 (by decide +kernel) (by decide +kernel)
theorem wf_12_422 : Cond.fieldLink RX12 422 "TourRoomsModel" "tripDrive" "I" ∈ g_tb := g_tb_6 48 (by decide +kernel) (by decide +kernel)
theorem wf_12_425 : Cond.fieldLink RX12 425 "TourRoomsModel" "tripRests" "I" ∈ g_tb := g_tb_6 49 (by decide +kernel) (by decide +kernel)
theorem wf_12_148 : Cond.fieldLink RX12 148 "TourRoomsModel" "tripSight" "[I" ∈ g_tb := g_tb_6 50 (by decide +kernel) (by decide +kernel)
theorem wf_12_151 : Cond.fieldLink RX12 151 "TourRoomsModel" "tripBegins" "[I" ∈ g_tb := g_tb_6 51 (by decide +kernel) (by decide +kernel)
theorem wf_12_154 : Cond.fieldLink RX12 154 "TourRoomsModel" "isFree" "[Z" ∈ g_tb := g_tb_6 52 (by decide +kernel) (by decide +kernel)
theorem wm_L_18 : Cond.methodLink R_law 18 yX11_init ∈ g_tb := g_tb_1 27 (by decide +kernel) (by decide +kernel)
theorem wm_11_1 : Cond.methodLink RX11 1 objectInit ∈ g_tb := g_tb_1 30 (by decide +kernel) (by decide +kernel)
theorem wm_5_3 : Cond.methodLink RX5 3 objectInit ∈ g_tb := g_tb_1 38 (by decide +kernel) (by decide +kernel)
theorem wm_4_3 : Cond.methodLink RX4 3 objectInit ∈ g_tb := g_tb_1 59 (by decide +kernel) (by decide +kernel)
theorem wm_7_3 : Cond.methodLink RX7 3 objectInit ∈ g_tb := g_tb_1 74 (by decide +kernel) (by decide +kernel)
theorem wm_9_3 : Cond.methodLink RX9 3 objectInit ∈ g_tb := g_tb_1 123 (by decide +kernel) (by decide +kernel)
theorem wm_3_5 : Cond.methodLink RX3 5 objectInit ∈ g_tb := g_tb_1 178 (by decide +kernel) (by decide +kernel)
theorem wm_1_5 : Cond.methodLink RX1 5 objectInit ∈ g_tb := g_tb_1 217 (by decide +kernel) (by decide +kernel)
theorem wm_0_3 : Cond.methodLink RX0 3 objectInit ∈ g_tb := g_tb_2 27 (by decide +kernel) (by decide +kernel)
theorem wm_L_22 : Cond.methodLink R_law 22 yX11_person ∈ g_tb := g_tb_2 86 (by decide +kernel) (by decide +kernel)
theorem wm_11_86 : Cond.methodLink RX11 86 yX11_isWithin ∈ g_tb := g_tb_2 90 (by decide +kernel) (by decide +kernel)
theorem wm_11_90 : Cond.methodLink RX11 90 yX11_isStay ∈ g_tb := g_tb_2 93 (by decide +kernel) (by decide +kernel)
theorem wm_11_99 : Cond.methodLink RX11 99 yX6_init ∈ g_tb := g_tb_2 98 (by decide +kernel) (by decide +kernel)
theorem wm_6_3 : Cond.methodLink RX6 3 objectInit ∈ g_tb := g_tb_2 101 (by decide +kernel) (by decide +kernel)
theorem wm_11_102 : Cond.methodLink RX11 102 yX5_add ∈ g_tb := g_tb_2 154 (by decide +kernel) (by decide +kernel)
theorem wm_L_27 : Cond.methodLink R_law 27 yX11_friends ∈ g_tb := g_tb_2 158 (by decide +kernel) (by decide +kernel)
theorem wm_11_106 : Cond.methodLink RX11 106 yX5_at ∈ g_tb := g_tb_2 162 (by decide +kernel) (by decide +kernel)
theorem wm_L_32 : Cond.methodLink R_law 32 yX11_bar ∈ g_tb := g_tb_2 166 (by decide +kernel) (by decide +kernel)
theorem wm_11_117 : Cond.methodLink RX11 117 yX6_isBarred ∈ g_tb := g_tb_2 170 (by decide +kernel) (by decide +kernel)
theorem wm_L_36 : Cond.methodLink R_law 36 yX11_stays ∈ g_tb := g_tb_2 174 (by decide +kernel) (by decide +kernel)
theorem wm_11_124 : Cond.methodLink RX11 124 yX11_leave ∈ g_tb := g_tb_2 178 (by decide +kernel) (by decide +kernel)
theorem wm_11_363 : Cond.methodLink RX11 363 yX11_mustLeave ∈ g_tb := g_tb_2 182 (by decide +kernel) (by decide +kernel)
theorem wm_11_321 : Cond.methodLink RX11 321 yX11_isOver ∈ g_tb := g_tb_2 186 (by decide +kernel) (by decide +kernel)
theorem wm_11_164 : Cond.methodLink RX11 164 yX10_roomOfGuest ∈ g_tb := g_tb_2 190 (by decide +kernel) (by decide +kernel)
theorem wm_11_168 : Cond.methodLink RX11 168 yX4_haveSpace ∈ g_tb := g_tb_2 194 (by decide +kernel) (by decide +kernel)
theorem wm_11_171 : Cond.methodLink RX11 171 yX11_list ∈ g_tb := g_tb_2 198 (by decide +kernel) (by decide +kernel)
theorem wm_11_353 : Cond.methodLink RX11 353 yX10_move ∈ g_tb := g_tb_2 202 (by decide +kernel) (by decide +kernel)
theorem wm_11_360 : Cond.methodLink RX11 360 yX4_add ∈ g_tb := g_tb_2 206 (by decide +kernel) (by decide +kernel)
theorem wm_L_41 : Cond.methodLink R_law 41 yX11_gone ∈ g_tb := g_tb_2 210 (by decide +kernel) (by decide +kernel)
theorem wm_L_46 : Cond.methodLink R_law 46 yX11_absent ∈ g_tb := g_tb_2 214 (by decide +kernel) (by decide +kernel)
theorem wm_L_50 : Cond.methodLink R_law 50 yX11_town ∈ g_tb := g_tb_2 218 (by decide +kernel) (by decide +kernel)
theorem wm_11_139 : Cond.methodLink RX11 139 yX10_init ∈ g_tb := g_tb_2 223 (by decide +kernel) (by decide +kernel)
theorem wm_10_3 : Cond.methodLink RX10 3 objectInit ∈ g_tb := g_tb_2 226 (by decide +kernel) (by decide +kernel)
theorem wm_2_1 : Cond.methodLink RX2 1 objectInit ∈ g_tb := g_tb_2 233 (by decide +kernel) (by decide +kernel)
theorem wm_L_54 : Cond.methodLink R_law 54 yX11_start ∈ g_tb := g_tb_3 46 (by decide +kernel) (by decide +kernel)
theorem wm_L_58 : Cond.methodLink R_law 58 yX11_season ∈ g_tb := g_tb_3 50 (by decide +kernel) (by decide +kernel)
theorem wm_L_62 : Cond.methodLink R_law 62 yX11_day ∈ g_tb := g_tb_3 54 (by decide +kernel) (by decide +kernel)
theorem wm_L_66 : Cond.methodLink R_law 66 yX11_room ∈ g_tb := g_tb_3 58 (by decide +kernel) (by decide +kernel)
theorem wm_11_142 : Cond.methodLink RX11 142 yX11_townThatLasts ∈ g_tb := g_tb_3 62 (by decide +kernel) (by decide +kernel)
theorem wm_11_193 : Cond.methodLink RX11 193 yX11_townAt ∈ g_tb := g_tb_3 66 (by decide +kernel) (by decide +kernel)
theorem wm_11_151 : Cond.methodLink RX11 151 yX8_init ∈ g_tb := g_tb_3 72 (by decide +kernel) (by decide +kernel)
theorem wm_8_1 : Cond.methodLink RX8 1 objectInit ∈ g_tb := g_tb_3 75 (by decide +kernel) (by decide +kernel)
theorem wm_11_154 : Cond.methodLink RX11 154 yX10_add ∈ g_tb := g_tb_3 102 (by decide +kernel) (by decide +kernel)
theorem wm_L_71 : Cond.methodLink R_law 71 yX11_put ∈ g_tb := g_tb_3 106 (by decide +kernel) (by decide +kernel)
theorem wm_11_157 : Cond.methodLink RX11 157 yX5_isThere ∈ g_tb := g_tb_3 110 (by decide +kernel) (by decide +kernel)
theorem wm_5_21 : Cond.methodLink RX5 21 yX5_at ∈ g_tb := g_tb_3 114 (by decide +kernel) (by decide +kernel)
theorem wm_5_25 : Cond.methodLink RX5 25 yX6_isThereIn ∈ g_tb := g_tb_3 115 (by decide +kernel) (by decide +kernel)
theorem wm_11_160 : Cond.methodLink RX11 160 yX5_fits ∈ g_tb := g_tb_3 119 (by decide +kernel) (by decide +kernel)
theorem wm_5_49 : Cond.methodLink RX5 49 yX10_roomAt ∈ g_tb := g_tb_3 123 (by decide +kernel) (by decide +kernel)
theorem wm_5_64 : Cond.methodLink RX5 64 yX10_guestsOf ∈ g_tb := g_tb_3 127 (by decide +kernel) (by decide +kernel)
theorem wm_5_68 : Cond.methodLink RX5 68 yJ_bitCount ∈ g_tb := g_tb_3 131 (by decide +kernel) (by decide +kernel)
theorem wm_5_76 : Cond.methodLink RX5 76 yX5_sharesWithAll ∈ g_tb := g_tb_3 137 (by decide +kernel) (by decide +kernel)
theorem wm_5_45 : Cond.methodLink RX5 45 yX5_mayShare ∈ g_tb := g_tb_3 141 (by decide +kernel) (by decide +kernel)
theorem wm_5_32 : Cond.methodLink RX5 32 yX6_isBarred ∈ g_tb := g_tb_3 145 (by decide +kernel) (by decide +kernel)
theorem wm_L_75 : Cond.methodLink R_law 75 yX11_settle ∈ g_tb := g_tb_3 146 (by decide +kernel) (by decide +kernel)
theorem wm_11_175 : Cond.methodLink RX11 175 yX9_findList ∈ g_tb := g_tb_3 150 (by decide +kernel) (by decide +kernel)
theorem wm_9_59 : Cond.methodLink RX9 59 yX9_gatherGuests ∈ g_tb := g_tb_3 154 (by decide +kernel) (by decide +kernel)
theorem wm_9_103 : Cond.methodLink RX9 103 yX6_isThereIn ∈ g_tb := g_tb_3 158 (by decide +kernel) (by decide +kernel)
theorem wm_9_74 : Cond.methodLink RX9 74 yX10_roomOfGuest ∈ g_tb := g_tb_3 159 (by decide +kernel) (by decide +kernel)
theorem wm_9_113 : Cond.methodLink RX9 113 yX5_mayShare ∈ g_tb := g_tb_3 160 (by decide +kernel) (by decide +kernel)
theorem wm_9_63 : Cond.methodLink RX9 63 yX9_gatherRooms ∈ g_tb := g_tb_3 161 (by decide +kernel) (by decide +kernel)
theorem wm_9_67 : Cond.methodLink RX9 67 yX9_fillTable ∈ g_tb := g_tb_3 165 (by decide +kernel) (by decide +kernel)
theorem wm_9_123 : Cond.methodLink RX9 123 yX9_fillRow ∈ g_tb := g_tb_3 170 (by decide +kernel) (by decide +kernel)
theorem wm_9_127 : Cond.methodLink RX9 127 arraycopyName ∈ g_tb := g_tb_3 174 (by decide +kernel) (by decide +kernel)
theorem wm_9_133 : Cond.methodLink RX9 133 yX9_weightOf ∈ g_tb := g_tb_3 177 (by decide +kernel) (by decide +kernel)
theorem wm_9_142 : Cond.methodLink RX9 142 yX9_movesOf ∈ g_tb := g_tb_3 181 (by decide +kernel) (by decide +kernel)
theorem wm_9_137 : Cond.methodLink RX9 137 yX9_useRoom ∈ g_tb := g_tb_3 185 (by decide +kernel) (by decide +kernel)
theorem wm_9_80 : Cond.methodLink RX9 80 yJ_bitCount ∈ g_tb := g_tb_3 189 (by decide +kernel) (by decide +kernel)
theorem wm_9_71 : Cond.methodLink RX9 71 yX9_readPlan ∈ g_tb := g_tb_3 190 (by decide +kernel) (by decide +kernel)
theorem wm_9_148 : Cond.methodLink RX9 148 yX9_firstSetOf ∈ g_tb := g_tb_3 194 (by decide +kernel) (by decide +kernel)
theorem wm_11_179 : Cond.methodLink RX11 179 yX9_changes ∈ g_tb := g_tb_3 198 (by decide +kernel) (by decide +kernel)
theorem wm_L_80 : Cond.methodLink R_law 80 yX11_moved ∈ g_tb := g_tb_3 202 (by decide +kernel) (by decide +kernel)
theorem wm_L_85 : Cond.methodLink R_law 85 yX11_most ∈ g_tb := g_tb_3 206 (by decide +kernel) (by decide +kernel)
theorem wm_11_196 : Cond.methodLink RX11 196 yX9_mostGuests ∈ g_tb := g_tb_3 210 (by decide +kernel) (by decide +kernel)
theorem wm_L_89 : Cond.methodLink R_law 89 yX11_right ∈ g_tb := g_tb_3 217 (by decide +kernel) (by decide +kernel)
theorem wm_11_200 : Cond.methodLink RX11 200 yX5_isRight ∈ g_tb := g_tb_3 221 (by decide +kernel) (by decide +kernel)
theorem wm_5_79 : Cond.methodLink RX5 79 yX10_roomOfGuest ∈ g_tb := g_tb_3 225 (by decide +kernel) (by decide +kernel)
theorem wm_5_85 : Cond.methodLink RX5 85 yX5_fits ∈ g_tb := g_tb_3 226 (by decide +kernel) (by decide +kernel)
theorem wm_L_93 : Cond.methodLink R_law 93 yX11_listed ∈ g_tb := g_tb_3 227 (by decide +kernel) (by decide +kernel)
theorem wm_11_204 : Cond.methodLink RX11 204 yX4_latest ∈ g_tb := g_tb_3 231 (by decide +kernel) (by decide +kernel)
theorem wm_L_100 : Cond.methodLink R_law 100 yX11_feed ∈ g_tb := g_tb_3 235 (by decide +kernel) (by decide +kernel)
theorem wm_11_208 : Cond.methodLink RX11 208 yX7_take ∈ g_tb := g_tb_3 239 (by decide +kernel) (by decide +kernel)
theorem wm_L_105 : Cond.methodLink R_law 105 yX11_read ∈ g_tb := g_tb_4 3 (by decide +kernel) (by decide +kernel)
theorem wm_11_215 : Cond.methodLink RX11 215 yX7_readText ∈ g_tb := g_tb_4 7 (by decide +kernel) (by decide +kernel)
theorem wm_7_51 : Cond.methodLink RX7 51 yX7_advance ∈ g_tb := g_tb_4 11 (by decide +kernel) (by decide +kernel)
theorem wm_7_81 : Cond.methodLink RX7 81 yX7_isBlank ∈ g_tb := g_tb_4 15 (by decide +kernel) (by decide +kernel)
theorem wm_7_84 : Cond.methodLink RX7 84 yX7_isLetter ∈ g_tb := g_tb_4 18 (by decide +kernel) (by decide +kernel)
theorem wm_7_87 : Cond.methodLink RX7 87 yX7_takeWord ∈ g_tb := g_tb_4 21 (by decide +kernel) (by decide +kernel)
theorem wm_7_101 : Cond.methodLink RX7 101 yX7_spells ∈ g_tb := g_tb_4 26 (by decide +kernel) (by decide +kernel)
theorem wm_7_90 : Cond.methodLink RX7 90 yX7_isDigit ∈ g_tb := g_tb_4 88 (by decide +kernel) (by decide +kernel)
theorem wm_7_93 : Cond.methodLink RX7 93 yX7_takeNumber ∈ g_tb := g_tb_4 91 (by decide +kernel) (by decide +kernel)
theorem wm_7_96 : Cond.methodLink RX7 96 yX7_isSign ∈ g_tb := g_tb_4 95 (by decide +kernel) (by decide +kernel)
theorem wm_7_54 : Cond.methodLink RX7 54 yX7_refuse ∈ g_tb := g_tb_4 98 (by decide +kernel) (by decide +kernel)
theorem wm_7_58 : Cond.methodLink RX7 58 yX7_readRule ∈ g_tb := g_tb_4 102 (by decide +kernel) (by decide +kernel)
theorem wm_7_62 : Cond.methodLink RX7 62 yX7_readAll ∈ g_tb := g_tb_4 106 (by decide +kernel) (by decide +kernel)
theorem wm_7_65 : Cond.methodLink RX7 65 yX7_readTest ∈ g_tb := g_tb_4 110 (by decide +kernel) (by decide +kernel)
theorem wm_7_72 : Cond.methodLink RX7 72 yX7_readSum ∈ g_tb := g_tb_4 114 (by decide +kernel) (by decide +kernel)
theorem wm_7_75 : Cond.methodLink RX7 75 yX7_readPart ∈ g_tb := g_tb_4 118 (by decide +kernel) (by decide +kernel)
theorem wm_7_78 : Cond.methodLink RX7 78 yX7_readBracket ∈ g_tb := g_tb_4 122 (by decide +kernel) (by decide +kernel)
theorem wm_7_68 : Cond.methodLink RX7 68 yX7_write ∈ g_tb := g_tb_4 126 (by decide +kernel) (by decide +kernel)
theorem wm_11_223 : Cond.methodLink RX11 223 yX2_take ∈ g_tb := g_tb_4 130 (by decide +kernel) (by decide +kernel)
theorem wm_2_33 : Cond.methodLink RX2 33 arraycopyName ∈ g_tb := g_tb_4 134 (by decide +kernel) (by decide +kernel)
theorem wm_L_109 : Cond.methodLink R_law 109 yX11_worth ∈ g_tb := g_tb_4 136 (by decide +kernel) (by decide +kernel)
theorem wm_11_228 : Cond.methodLink RX11 228 yX11_worthNow ∈ g_tb := g_tb_4 140 (by decide +kernel) (by decide +kernel)
theorem wm_11_371 : Cond.methodLink RX11 371 yX11_learnFacts ∈ g_tb := g_tb_4 144 (by decide +kernel) (by decide +kernel)
theorem wm_11_310 : Cond.methodLink RX11 310 yX10_usedRooms ∈ g_tb := g_tb_4 148 (by decide +kernel) (by decide +kernel)
theorem wm_11_313 : Cond.methodLink RX11 313 yJ_bitCount ∈ g_tb := g_tb_4 152 (by decide +kernel) (by decide +kernel)
theorem wm_11_307 : Cond.methodLink RX11 307 yX10_heldRooms ∈ g_tb := g_tb_4 153 (by decide +kernel) (by decide +kernel)
theorem wm_11_318 : Cond.methodLink RX11 318 yX10_guests ∈ g_tb := g_tb_4 157 (by decide +kernel) (by decide +kernel)
theorem wm_10_41 : Cond.methodLink RX10 41 yX10_guestsOf ∈ g_tb := g_tb_4 161 (by decide +kernel) (by decide +kernel)
theorem wm_10_45 : Cond.methodLink RX10 45 yJ_bitCount ∈ g_tb := g_tb_4 162 (by decide +kernel) (by decide +kernel)
theorem wm_11_367 : Cond.methodLink RX11 367 yX2_learn ∈ g_tb := g_tb_4 163 (by decide +kernel) (by decide +kernel)
theorem wm_11_375 : Cond.methodLink RX11 375 yX2_worthOf ∈ g_tb := g_tb_4 167 (by decide +kernel) (by decide +kernel)
theorem wm_2_44 : Cond.methodLink RX2 44 yX2_valueOf ∈ g_tb := g_tb_4 171 (by decide +kernel) (by decide +kernel)
theorem wm_2_56 : Cond.methodLink RX2 56 yX2_join ∈ g_tb := g_tb_4 175 (by decide +kernel) (by decide +kernel)
theorem wm_L_113 : Cond.methodLink R_law 113 yX11_give ∈ g_tb := g_tb_4 182 (by decide +kernel) (by decide +kernel)
theorem wm_11_232 : Cond.methodLink RX11 232 yX10_roomAt ∈ g_tb := g_tb_4 186 (by decide +kernel) (by decide +kernel)
theorem wm_11_239 : Cond.methodLink RX11 239 yX10_guestsOf ∈ g_tb := g_tb_4 187 (by decide +kernel) (by decide +kernel)
theorem wm_11_242 : Cond.methodLink RX11 242 yX11_priceOfChange ∈ g_tb := g_tb_4 188 (by decide +kernel) (by decide +kernel)
theorem wm_L_117 : Cond.methodLink R_law 117 yX11_buy ∈ g_tb := g_tb_4 192 (by decide +kernel) (by decide +kernel)
theorem wm_L_121 : Cond.methodLink R_law 121 yX11_loss ∈ g_tb := g_tb_4 196 (by decide +kernel) (by decide +kernel)
theorem wm_11_246 : Cond.methodLink RX11 246 yX11_foresee ∈ g_tb := g_tb_4 200 (by decide +kernel) (by decide +kernel)
theorem wm_11_378 : Cond.methodLink RX11 378 yX3_foresee ∈ g_tb := g_tb_4 204 (by decide +kernel) (by decide +kernel)
theorem wm_3_48 : Cond.methodLink RX3 48 yX3_spread ∈ g_tb := g_tb_4 208 (by decide +kernel) (by decide +kernel)
theorem wm_3_52 : Cond.methodLink RX3 52 yX3_fillLastDay ∈ g_tb := g_tb_4 214 (by decide +kernel) (by decide +kernel)
theorem wm_3_56 : Cond.methodLink RX3 56 yX2_asksFor ∈ g_tb := g_tb_4 218 (by decide +kernel) (by decide +kernel)
theorem wm_3_60 : Cond.methodLink RX3 60 yX3_fillFees ∈ g_tb := g_tb_4 222 (by decide +kernel) (by decide +kernel)
theorem wm_3_79 : Cond.methodLink RX3 79 yX2_worthOf ∈ g_tb := g_tb_4 226 (by decide +kernel) (by decide +kernel)
theorem wm_3_64 : Cond.methodLink RX3 64 yX3_fillWorst ∈ g_tb := g_tb_4 227 (by decide +kernel) (by decide +kernel)
theorem wm_3_67 : Cond.methodLink RX3 67 yX3_fillDay ∈ g_tb := g_tb_4 231 (by decide +kernel) (by decide +kernel)
theorem wm_3_83 : Cond.methodLink RX3 83 yX3_leastOf ∈ g_tb := g_tb_4 235 (by decide +kernel) (by decide +kernel)
theorem wm_L_126 : Cond.methodLink R_law 126 yX11_gives ∈ g_tb := g_tb_4 239 (by decide +kernel) (by decide +kernel)
theorem wm_L_130 : Cond.methodLink R_law 130 yX11_sight ∈ g_tb := g_tb_5 3 (by decide +kernel) (by decide +kernel)
theorem wm_11_256 : Cond.methodLink RX11 256 yX1_addSight ∈ g_tb := g_tb_5 7 (by decide +kernel) (by decide +kernel)
theorem wm_L_134 : Cond.methodLink R_law 134 yX11_way ∈ g_tb := g_tb_5 12 (by decide +kernel) (by decide +kernel)
theorem wm_11_259 : Cond.methodLink RX11 259 yX1_setWay ∈ g_tb := g_tb_5 16 (by decide +kernel) (by decide +kernel)
theorem wm_L_138 : Cond.methodLink R_law 138 yX11_clear ∈ g_tb := g_tb_5 20 (by decide +kernel) (by decide +kernel)
theorem wm_11_262 : Cond.methodLink RX11 262 yX1_forget ∈ g_tb := g_tb_5 24 (by decide +kernel) (by decide +kernel)
theorem wm_L_142 : Cond.methodLink R_law 142 yX11_trip ∈ g_tb := g_tb_5 28 (by decide +kernel) (by decide +kernel)
theorem wm_11_265 : Cond.methodLink RX11 265 yX1_plan ∈ g_tb := g_tb_5 32 (by decide +kernel) (by decide +kernel)
theorem wm_1_60 : Cond.methodLink RX1 60 yX1_goOn ∈ g_tb := g_tb_5 36 (by decide +kernel) (by decide +kernel)
theorem wm_1_64 : Cond.methodLink RX1 64 yX1_comeHome ∈ g_tb := g_tb_5 40 (by decide +kernel) (by decide +kernel)
theorem wm_1_74 : Cond.methodLink RX1 74 yX1_isBetter ∈ g_tb := g_tb_5 44 (by decide +kernel) (by decide +kernel)
theorem wm_L_146 : Cond.methodLink R_law 146 yX11_tripOf ∈ g_tb := g_tb_5 49 (by decide +kernel) (by decide +kernel)
theorem wm_11_267 : Cond.methodLink RX11 267 yX1_tell ∈ g_tb := g_tb_5 53 (by decide +kernel) (by decide +kernel)
theorem wm_L_150 : Cond.methodLink R_law 150 yX11_night ∈ g_tb := g_tb_5 57 (by decide +kernel) (by decide +kernel)
theorem wm_11_270 : Cond.methodLink RX11 270 yX11_townOfNight ∈ g_tb := g_tb_5 61 (by decide +kernel) (by decide +kernel)
theorem wm_11_273 : Cond.methodLink RX11 273 yX11_charge ∈ g_tb := g_tb_5 65 (by decide +kernel) (by decide +kernel)
theorem wm_11_385 : Cond.methodLink RX11 385 yX6_charge ∈ g_tb := g_tb_5 69 (by decide +kernel) (by decide +kernel)
theorem wm_11_276 : Cond.methodLink RX11 276 yX10_billBut ∈ g_tb := g_tb_5 73 (by decide +kernel) (by decide +kernel)
theorem wm_10_54 : Cond.methodLink RX10 54 yX10_usedRooms ∈ g_tb := g_tb_5 77 (by decide +kernel) (by decide +kernel)
theorem wm_10_58 : Cond.methodLink RX10 58 yX10_cheapestOf ∈ g_tb := g_tb_5 78 (by decide +kernel) (by decide +kernel)
theorem wm_11_279 : Cond.methodLink RX11 279 yX0_close ∈ g_tb := g_tb_5 82 (by decide +kernel) (by decide +kernel)
theorem wm_0_22 : Cond.methodLink RX0 22 yX10_roomOfGuest ∈ g_tb := g_tb_5 86 (by decide +kernel) (by decide +kernel)
theorem wm_L_154 : Cond.methodLink R_law 154 yX11_lay ∈ g_tb := g_tb_5 87 (by decide +kernel) (by decide +kernel)
theorem wm_11_282 : Cond.methodLink RX11 282 yX0_roomOfGuest ∈ g_tb := g_tb_5 91 (by decide +kernel) (by decide +kernel)
theorem wm_L_170 : Cond.methodLink R_law 170 yX11_meals ∈ g_tb := g_tb_5 96 (by decide +kernel) (by decide +kernel)
theorem wm_11_300 : Cond.methodLink RX11 300 yX5_eaters ∈ g_tb := g_tb_5 100 (by decide +kernel) (by decide +kernel)
theorem wm_L_174 : Cond.methodLink R_law 174 yX11_townOf ∈ g_tb := g_tb_5 104 (by decide +kernel) (by decide +kernel)
theorem wm_L_178 : Cond.methodLink R_law 178 yX11_roomOf ∈ g_tb := g_tb_5 108 (by decide +kernel) (by decide +kernel)
theorem wm_L_182 : Cond.methodLink R_law 182 yX11_personOf ∈ g_tb := g_tb_5 112 (by decide +kernel) (by decide +kernel)
theorem wm_11_346 : Cond.methodLink RX11 346 yX5_sharersFor ∈ g_tb := g_tb_5 116 (by decide +kernel) (by decide +kernel)
theorem wm_L_186 : Cond.methodLink R_law 186 yX11_count ∈ g_tb := g_tb_5 120 (by decide +kernel) (by decide +kernel)
theorem wm_L_7 : Cond.methodLink R_law 7 yX11_bill ∈ g_tb := g_tb_5 128 (by decide +kernel) (by decide +kernel)
theorem wm_L_15 : Cond.methodLink R_law 15 yX11_owes ∈ g_tb := g_tb_5 200 (by decide +kernel) (by decide +kernel)
theorem wm_L_164 : Cond.methodLink R_law 164 yX12_thrown ∈ g_tb := g_tb_5 205 (by decide +kernel) (by decide +kernel)
theorem wm_L_21 : Cond.methodLink R_law 21 yX12_init ∈ g_tb := g_tb_5 211 (by decide +kernel) (by decide +kernel)
theorem wm_12_7 : Cond.methodLink RX12 7 objectInit ∈ g_tb := g_tb_5 214 (by decide +kernel) (by decide +kernel)
theorem wm_L_26 : Cond.methodLink R_law 26 yX12_person ∈ g_tb := g_tb_6 210 (by decide +kernel) (by decide +kernel)
theorem wm_12_160 : Cond.methodLink RX12 160 yX12_in ∈ g_tb := g_tb_6 214 (by decide +kernel) (by decide +kernel)
theorem wm_L_31 : Cond.methodLink R_law 31 yX12_friends ∈ g_tb := g_tb_6 217 (by decide +kernel) (by decide +kernel)
theorem wm_12_177 : Cond.methodLink RX12 177 yX12_isPerson ∈ g_tb := g_tb_6 221 (by decide +kernel) (by decide +kernel)
theorem wm_L_35 : Cond.methodLink R_law 35 yX12_bar ∈ g_tb := g_tb_6 225 (by decide +kernel) (by decide +kernel)
theorem wm_L_40 : Cond.methodLink R_law 40 yX12_stays ∈ g_tb := g_tb_6 229 (by decide +kernel) (by decide +kernel)
theorem wm_12_189 : Cond.methodLink RX12 189 yX12_leaves ∈ g_tb := g_tb_6 233 (by decide +kernel) (by decide +kernel)
theorem wm_12_174 : Cond.methodLink RX12 174 yX12_isOver ∈ g_tb := g_tb_6 237 (by decide +kernel) (by decide +kernel)
theorem wm_12_186 : Cond.methodLink RX12 186 yX12_notes ∈ g_tb := g_tb_7 1 (by decide +kernel) (by decide +kernel)
theorem wm_L_45 : Cond.methodLink R_law 45 yX12_gone ∈ g_tb := g_tb_7 5 (by decide +kernel) (by decide +kernel)
theorem wm_L_49 : Cond.methodLink R_law 49 yX12_absent ∈ g_tb := g_tb_7 9 (by decide +kernel) (by decide +kernel)
theorem wm_L_53 : Cond.methodLink R_law 53 yX12_town ∈ g_tb := g_tb_7 13 (by decide +kernel) (by decide +kernel)
theorem wm_L_57 : Cond.methodLink R_law 57 yX12_start ∈ g_tb := g_tb_7 17 (by decide +kernel) (by decide +kernel)
theorem wm_L_61 : Cond.methodLink R_law 61 yX12_season ∈ g_tb := g_tb_7 21 (by decide +kernel) (by decide +kernel)
theorem wm_L_65 : Cond.methodLink R_law 65 yX12_day ∈ g_tb := g_tb_7 25 (by decide +kernel) (by decide +kernel)
theorem wm_L_70 : Cond.methodLink R_law 70 yX12_room ∈ g_tb := g_tb_7 29 (by decide +kernel) (by decide +kernel)
theorem wm_12_198 : Cond.methodLink RX12 198 yX12_isOpen ∈ g_tb := g_tb_7 33 (by decide +kernel) (by decide +kernel)
theorem wm_12_170 : Cond.methodLink RX12 170 yX12_isTown ∈ g_tb := g_tb_7 37 (by decide +kernel) (by decide +kernel)
theorem wm_L_74 : Cond.methodLink R_law 74 yX12_put ∈ g_tb := g_tb_7 41 (by decide +kernel) (by decide +kernel)
theorem wm_12_205 : Cond.methodLink RX12 205 yX12_isThere ∈ g_tb := g_tb_7 45 (by decide +kernel) (by decide +kernel)
theorem wm_12_208 : Cond.methodLink RX12 208 yX12_isRoom ∈ g_tb := g_tb_7 49 (by decide +kernel) (by decide +kernel)
theorem wm_12_211 : Cond.methodLink RX12 211 yX12_setIn ∈ g_tb := g_tb_7 53 (by decide +kernel) (by decide +kernel)
theorem wm_12_201 : Cond.methodLink RX12 201 yX12_mayShare ∈ g_tb := g_tb_7 57 (by decide +kernel) (by decide +kernel)
theorem wm_L_79 : Cond.methodLink R_law 79 yX12_settle ∈ g_tb := g_tb_7 61 (by decide +kernel) (by decide +kernel)
theorem wm_12_227 : Cond.methodLink RX12 227 yX12_findSets ∈ g_tb := g_tb_7 65 (by decide +kernel) (by decide +kernel)
theorem wm_12_215 : Cond.methodLink RX12 215 yX12_there ∈ g_tb := g_tb_7 69 (by decide +kernel) (by decide +kernel)
theorem wm_12_219 : Cond.methodLink RX12 219 yX12_mayBe ∈ g_tb := g_tb_7 73 (by decide +kernel) (by decide +kernel)
theorem wm_12_232 : Cond.methodLink RX12 232 yX12_weight ∈ g_tb := g_tb_7 78 (by decide +kernel) (by decide +kernel)
theorem wm_12_222 : Cond.methodLink RX12 222 yX12_movedBy ∈ g_tb := g_tb_7 82 (by decide +kernel) (by decide +kernel)
theorem wm_12_236 : Cond.methodLink RX12 236 yX12_takes ∈ g_tb := g_tb_7 87 (by decide +kernel) (by decide +kernel)
theorem wm_12_239 : Cond.methodLink RX12 239 yX12_isLeast ∈ g_tb := g_tb_7 91 (by decide +kernel) (by decide +kernel)
theorem wm_L_84 : Cond.methodLink R_law 84 yX12_moved ∈ g_tb := g_tb_7 95 (by decide +kernel) (by decide +kernel)
theorem wm_L_88 : Cond.methodLink R_law 88 yX12_most ∈ g_tb := g_tb_7 99 (by decide +kernel) (by decide +kernel)
theorem wm_12_243 : Cond.methodLink RX12 243 yX12_sizeOf ∈ g_tb := g_tb_7 103 (by decide +kernel) (by decide +kernel)
theorem wm_L_92 : Cond.methodLink R_law 92 yX12_right ∈ g_tb := g_tb_7 106 (by decide +kernel) (by decide +kernel)
theorem wm_L_97 : Cond.methodLink R_law 97 yX12_listed ∈ g_tb := g_tb_7 110 (by decide +kernel) (by decide +kernel)
theorem wm_L_104 : Cond.methodLink R_law 104 yX12_feed ∈ g_tb := g_tb_7 114 (by decide +kernel) (by decide +kernel)
theorem wm_L_108 : Cond.methodLink R_law 108 yX12_read ∈ g_tb := g_tb_7 118 (by decide +kernel) (by decide +kernel)
theorem wm_12_372 : Cond.methodLink RX12 372 yX12_goes ∈ g_tb := g_tb_7 122 (by decide +kernel) (by decide +kernel)
theorem wm_12_309 : Cond.methodLink RX12 309 yX12_next ∈ g_tb := g_tb_7 126 (by decide +kernel) (by decide +kernel)
theorem wm_12_265 : Cond.methodLink RX12 265 yX12_isSmall ∈ g_tb := g_tb_7 130 (by decide +kernel) (by decide +kernel)
theorem wm_12_273 : Cond.methodLink RX12 273 yX12_isDigit ∈ g_tb := g_tb_7 136 (by decide +kernel) (by decide +kernel)
theorem wm_12_367 : Cond.methodLink RX12 367 yX12_kindHere ∈ g_tb := g_tb_7 149 (by decide +kernel) (by decide +kernel)
theorem wm_12_318 : Cond.methodLink RX12 318 yX12_isWord ∈ g_tb := g_tb_7 154 (by decide +kernel) (by decide +kernel)
theorem wm_12_306 : Cond.methodLink RX12 306 yX12_wrong ∈ g_tb := g_tb_7 161 (by decide +kernel) (by decide +kernel)
theorem wm_12_312 : Cond.methodLink RX12 312 yX12_whole ∈ g_tb := g_tb_7 165 (by decide +kernel) (by decide +kernel)
theorem wm_12_348 : Cond.methodLink RX12 348 yX12_test ∈ g_tb := g_tb_7 169 (by decide +kernel) (by decide +kernel)
theorem wm_12_345 : Cond.methodLink RX12 345 yX12_sum ∈ g_tb := g_tb_7 173 (by decide +kernel) (by decide +kernel)
theorem wm_12_342 : Cond.methodLink RX12 342 yX12_part ∈ g_tb := g_tb_7 177 (by decide +kernel) (by decide +kernel)
theorem wm_12_300 : Cond.methodLink RX12 300 yX12_isSign ∈ g_tb := g_tb_7 181 (by decide +kernel) (by decide +kernel)
theorem wm_L_112 : Cond.methodLink R_law 112 yX12_worth ∈ g_tb := g_tb_7 192 (by decide +kernel) (by decide +kernel)
theorem wm_12_387 : Cond.methodLink RX12 387 yX12_now ∈ g_tb := g_tb_7 196 (by decide +kernel) (by decide +kernel)
theorem wm_12_375 : Cond.methodLink RX12 375 yX12_heldIn ∈ g_tb := g_tb_7 200 (by decide +kernel) (by decide +kernel)
theorem wm_12_378 : Cond.methodLink RX12 378 yX12_usedIn ∈ g_tb := g_tb_7 204 (by decide +kernel) (by decide +kernel)
theorem wm_12_381 : Cond.methodLink RX12 381 yX12_peopleIn ∈ g_tb := g_tb_7 208 (by decide +kernel) (by decide +kernel)
theorem wm_12_384 : Cond.methodLink RX12 384 yX12_told ∈ g_tb := g_tb_7 212 (by decide +kernel) (by decide +kernel)
theorem wm_L_116 : Cond.methodLink R_law 116 yX12_give ∈ g_tb := g_tb_7 216 (by decide +kernel) (by decide +kernel)
theorem wm_12_390 : Cond.methodLink RX12 390 yX12_part_ ∈ g_tb := g_tb_7 220 (by decide +kernel) (by decide +kernel)
theorem wm_L_120 : Cond.methodLink R_law 120 yX12_buy ∈ g_tb := g_tb_7 224 (by decide +kernel) (by decide +kernel)
theorem wm_L_125 : Cond.methodLink R_law 125 yX12_loss ∈ g_tb := g_tb_7 228 (by decide +kernel) (by decide +kernel)
theorem wm_12_398 : Cond.methodLink RX12 398 yX12_isLoss ∈ g_tb := g_tb_7 232 (by decide +kernel) (by decide +kernel)
theorem wm_12_401 : Cond.methodLink RX12 401 yX12_losses ∈ g_tb := g_tb_7 236 (by decide +kernel) (by decide +kernel)
theorem wm_L_129 : Cond.methodLink R_law 129 yX12_gives ∈ g_tb := g_tb_8 0 (by decide +kernel) (by decide +kernel)
theorem wm_L_133 : Cond.methodLink R_law 133 yX12_sight ∈ g_tb := g_tb_8 4 (by decide +kernel) (by decide +kernel)
theorem wm_L_137 : Cond.methodLink R_law 137 yX12_way ∈ g_tb := g_tb_8 8 (by decide +kernel) (by decide +kernel)
theorem wm_L_141 : Cond.methodLink R_law 141 yX12_clear ∈ g_tb := g_tb_8 12 (by decide +kernel) (by decide +kernel)
theorem wm_L_145 : Cond.methodLink R_law 145 yX12_trip ∈ g_tb := g_tb_8 16 (by decide +kernel) (by decide +kernel)
theorem wm_12_412 : Cond.methodLink RX12 412 yX12_goesOn ∈ g_tb := g_tb_8 20 (by decide +kernel) (by decide +kernel)
theorem wm_12_408 : Cond.methodLink RX12 408 yX12_home ∈ g_tb := g_tb_8 24 (by decide +kernel) (by decide +kernel)
theorem wm_L_149 : Cond.methodLink R_law 149 yX12_tripOf ∈ g_tb := g_tb_8 28 (by decide +kernel) (by decide +kernel)
theorem wm_L_153 : Cond.methodLink R_law 153 yX12_night ∈ g_tb := g_tb_8 32 (by decide +kernel) (by decide +kernel)
theorem wm_12_432 : Cond.methodLink RX12 432 yX12_townAt ∈ g_tb := g_tb_8 36 (by decide +kernel) (by decide +kernel)
theorem wm_12_435 : Cond.methodLink RX12 435 yX12_right ∈ g_tb := g_tb_8 40 (by decide +kernel) (by decide +kernel)
theorem wm_12_438 : Cond.methodLink RX12 438 yX12_billOf ∈ g_tb := g_tb_8 41 (by decide +kernel) (by decide +kernel)
theorem wm_12_441 : Cond.methodLink RX12 441 yX12_owes ∈ g_tb := g_tb_8 45 (by decide +kernel) (by decide +kernel)
theorem wm_L_157 : Cond.methodLink R_law 157 yX12_lay ∈ g_tb := g_tb_8 49 (by decide +kernel) (by decide +kernel)
theorem wm_L_163 : Cond.methodLink R_law 163 yX12_bill ∈ g_tb := g_tb_8 53 (by decide +kernel) (by decide +kernel)
theorem wm_L_169 : Cond.methodLink R_law 169 yX12_owes_ ∈ g_tb := g_tb_8 57 (by decide +kernel) (by decide +kernel)
theorem wm_L_173 : Cond.methodLink R_law 173 yX12_meals ∈ g_tb := g_tb_8 61 (by decide +kernel) (by decide +kernel)
theorem wm_L_177 : Cond.methodLink R_law 177 yX12_townOf ∈ g_tb := g_tb_8 65 (by decide +kernel) (by decide +kernel)
theorem wm_12_445 : Cond.methodLink RX12 445 yX12_costOf ∈ g_tb := g_tb_8 69 (by decide +kernel) (by decide +kernel)
theorem wm_L_181 : Cond.methodLink R_law 181 yX12_roomOf ∈ g_tb := g_tb_8 73 (by decide +kernel) (by decide +kernel)
theorem wm_L_185 : Cond.methodLink R_law 185 yX12_personOf ∈ g_tb := g_tb_8 77 (by decide +kernel) (by decide +kernel)
theorem wm_L_189 : Cond.methodLink R_law 189 yX12_count ∈ g_tb := g_tb_8 81 (by decide +kernel) (by decide +kernel)
theorem wn_11_9 : (RX11, 9, yX5_init, "TourRooms") ∈ g_nest := List.mem_of_getElem? (i := 0) rfl
theorem wn_11_24 : (RX11, 24, yX4_init, "TourRooms") ∈ g_nest := List.mem_of_getElem? (i := 1) rfl
theorem wn_11_31 : (RX11, 31, yX7_init, "TourRooms") ∈ g_nest := List.mem_of_getElem? (i := 2) rfl
theorem wn_11_38 : (RX11, 38, yX9_init, "TourRooms") ∈ g_nest := List.mem_of_getElem? (i := 3) rfl
theorem wn_11_45 : (RX11, 45, yX3_init, "TourRooms") ∈ g_nest := List.mem_of_getElem? (i := 4) rfl
theorem wn_11_52 : (RX11, 52, yX1_init, "TourRooms") ∈ g_nest := List.mem_of_getElem? (i := 5) rfl
theorem wn_11_59 : (RX11, 59, yX0_init, "TourRooms") ∈ g_nest := List.mem_of_getElem? (i := 6) rfl
theorem wn_10_23 : (RX10, 23, yX2_init, "TourRooms") ∈ g_nest := List.mem_of_getElem? (i := 7) rfl
theorem wn_1_56 : (RX1, 56, yX11_isWithin, "TourRooms") ∈ g_nest := List.mem_of_getElem? (i := 8) rfl
theorem wn_0_28 : (RX0, 28, yX11_isWithin, "TourRooms") ∈ g_nest := List.mem_of_getElem? (i := 9) rfl
theorem wk_L_8 : Cond.classLink R_law 8 RX11 ∈ g_tb := g_tb_1 25 (by decide +kernel) (by decide +kernel)
theorem wk_11_7 : Cond.classLink RX11 7 RX5 ∈ g_tb := g_tb_1 33 (by decide +kernel) (by decide +kernel)
theorem wk_5_9 : Cond.classLink RX5 9 RX6 ∈ g_tb := g_tb_1 39 (by decide +kernel) (by decide +kernel)
theorem wk_11_16 : Cond.classLink RX11 16 RX10 ∈ g_tb := g_tb_1 52 (by decide +kernel) (by decide +kernel)
theorem wk_11_22 : Cond.classLink RX11 22 RX4 ∈ g_tb := g_tb_1 54 (by decide +kernel) (by decide +kernel)
theorem wk_11_29 : Cond.classLink RX11 29 RX7 ∈ g_tb := g_tb_1 69 (by decide +kernel) (by decide +kernel)
theorem wk_11_36 : Cond.classLink RX11 36 RX9 ∈ g_tb := g_tb_1 118 (by decide +kernel) (by decide +kernel)
theorem wk_9_35 : Cond.classLink RX9 35 RX8 ∈ g_tb := g_tb_1 124 (by decide +kernel) (by decide +kernel)
theorem wk_11_43 : Cond.classLink RX11 43 RX3 ∈ g_tb := g_tb_1 173 (by decide +kernel) (by decide +kernel)
theorem wk_11_50 : Cond.classLink RX11 50 RX1 ∈ g_tb := g_tb_1 212 (by decide +kernel) (by decide +kernel)
theorem wk_11_57 : Cond.classLink RX11 57 RX0 ∈ g_tb := g_tb_2 22 (by decide +kernel) (by decide +kernel)
theorem wk_11_97 : Cond.classLink RX11 97 RX6 ∈ g_tb := g_tb_2 96 (by decide +kernel) (by decide +kernel)
theorem wk_10_9 : Cond.classLink RX10 9 RX8 ∈ g_tb := g_tb_2 227 (by decide +kernel) (by decide +kernel)
theorem wk_10_21 : Cond.classLink RX10 21 RX2 ∈ g_tb := g_tb_2 228 (by decide +kernel) (by decide +kernel)
theorem wk_11_149 : Cond.classLink RX11 149 RX8 ∈ g_tb := g_tb_3 70 (by decide +kernel) (by decide +kernel)
theorem wk_L_19 : Cond.classLink R_law 19 RX12 ∈ g_tb := g_tb_5 209 (by decide +kernel) (by decide +kernel)
theorem wc_Int_265 : Cond.constant "java/lang/Integer" 265 1431655765 ∈ g_tb := g_tb_3 134 (by decide +kernel) (by decide +kernel)
theorem wc_Int_266 : Cond.constant "java/lang/Integer" 266 858993459 ∈ g_tb := g_tb_3 135 (by decide +kernel) (by decide +kernel)
theorem wc_Int_267 : Cond.constant "java/lang/Integer" 267 252645135 ∈ g_tb := g_tb_3 136 (by decide +kernel) (by decide +kernel)
theorem wc_9_70 : Cond.constant RX9 70 268435456 ∈ g_tb := g_tb_3 169 (by decide +kernel) (by decide +kernel)
theorem wc_12_231 : Cond.constant RX12 231 1073741824 ∈ g_tb := g_tb_7 77 (by decide +kernel) (by decide +kernel)
theorem wc_12_226 : Cond.constant RX12 226 32768 ∈ g_tb := g_tb_7 86 (by decide +kernel) (by decide +kernel)
theorem wc_12_269 : Cond.constantLong RX12 269 27 ∈ g_tb := g_tb_7 134 (by decide +kernel) (by decide +kernel)
theorem wc_12_271 : Cond.constantLong RX12 271 96 ∈ g_tb := g_tb_7 135 (by decide +kernel) (by decide +kernel)
theorem wc_12_276 : Cond.constantLong RX12 276 10 ∈ g_tb := g_tb_7 140 (by decide +kernel) (by decide +kernel)
theorem wc_12_278 : Cond.constantLong RX12 278 48 ∈ g_tb := g_tb_7 141 (by decide +kernel) (by decide +kernel)
theorem wc_12_280 : Cond.constantLong RX12 280 59 ∈ g_tb := g_tb_7 142 (by decide +kernel) (by decide +kernel)
theorem wc_12_282 : Cond.constantLong RX12 282 40 ∈ g_tb := g_tb_7 143 (by decide +kernel) (by decide +kernel)
theorem wc_12_284 : Cond.constantLong RX12 284 41 ∈ g_tb := g_tb_7 144 (by decide +kernel) (by decide +kernel)
theorem wc_12_286 : Cond.constantLong RX12 286 60 ∈ g_tb := g_tb_7 145 (by decide +kernel) (by decide +kernel)
theorem wc_12_288 : Cond.constantLong RX12 288 61 ∈ g_tb := g_tb_7 146 (by decide +kernel) (by decide +kernel)
theorem wc_12_290 : Cond.constantLong RX12 290 43 ∈ g_tb := g_tb_7 147 (by decide +kernel) (by decide +kernel)
theorem wc_12_292 : Cond.constantLong RX12 292 45 ∈ g_tb := g_tb_7 148 (by decide +kernel) (by decide +kernel)
theorem wc_12_353 : Cond.constantLong RX12 353 4514 ∈ g_tb := g_tb_7 153 (by decide +kernel) (by decide +kernel)
theorem wc_12_355 : Cond.constantLong RX12 355 40187 ∈ g_tb := g_tb_7 158 (by decide +kernel) (by decide +kernel)
theorem wc_12_357 : Cond.constantLong RX12 357 261071320 ∈ g_tb := g_tb_7 159 (by decide +kernel) (by decide +kernel)
theorem wc_12_359 : Cond.constantLong RX12 359 131360 ∈ g_tb := g_tb_7 160 (by decide +kernel) (by decide +kernel)
theorem wc_12_316 : Cond.constantLong RX12 316 240023 ∈ g_tb := g_tb_7 185 (by decide +kernel) (by decide +kernel)
theorem wc_12_325 : Cond.constantLong RX12 325 161437 ∈ g_tb := g_tb_7 186 (by decide +kernel) (by decide +kernel)
theorem wc_12_330 : Cond.constantLong RX12 330 427333 ∈ g_tb := g_tb_7 187 (by decide +kernel) (by decide +kernel)
theorem wc_12_335 : Cond.constantLong RX12 335 232546955 ∈ g_tb := g_tb_7 188 (by decide +kernel) (by decide +kernel)
theorem wc_12_340 : Cond.constantLong RX12 340 275320391 ∈ g_tb := g_tb_7 189 (by decide +kernel) (by decide +kernel)
theorem wc_12_351 : Cond.constantLong RX12 351 1111 ∈ g_tb := g_tb_7 190 (by decide +kernel) (by decide +kernel)
theorem wc_12_370 : Cond.constantLong RX12 370 458690 ∈ g_tb := g_tb_7 191 (by decide +kernel) (by decide +kernel)
theorem wc_L_98 : Cond.constantLong R_law 98 4294967295 ∈ g_tb := g_tb_8 85 (by decide +kernel) (by decide +kernel)
theorem wy_X0_init : Cond.instanceMethod yX0_init ∈ g_tb ∧ Cond.initialized yX0_init.cls ∈ g_tb ∧ Cond.code yX0_init cX0_init 1 none ∈ g_tb := ⟨g_tb_2 25 (by decide +kernel) (by decide +kernel), g_tb_1 8 (by decide +kernel) (by decide +kernel), g_tb_2 26 (by decide +kernel) (by decide +kernel)⟩
theorem wy_X0_close : Cond.instanceMethod yX0_close ∈ g_tb ∧ Cond.selects RX0 yX0_close yX0_close ∈ g_tb ∧ Cond.initialized yX0_close.cls ∈ g_tb ∧ Cond.code yX0_close cX0_close 4 (some .int) ∈ g_tb := ⟨g_tb_5 83 (by decide +kernel) (by decide +kernel), g_tb_5 84 (by decide +kernel) (by decide +kernel), g_tb_1 8 (by decide +kernel) (by decide +kernel), g_tb_5 85 (by decide +kernel) (by decide +kernel)⟩
theorem wy_X0_roomOfGuest : Cond.instanceMethod yX0_roomOfGuest ∈ g_tb ∧ Cond.selects RX0 yX0_roomOfGuest yX0_roomOfGuest ∈ g_tb ∧ Cond.initialized yX0_roomOfGuest.cls ∈ g_tb ∧ Cond.code yX0_roomOfGuest cX0_roomOfGuest 4 (some .int) ∈ g_tb := ⟨g_tb_5 92 (by decide +kernel) (by decide +kernel), g_tb_5 93 (by decide +kernel) (by decide +kernel), g_tb_1 8 (by decide +kernel) (by decide +kernel), g_tb_5 94 (by decide +kernel) (by decide +kernel)⟩
theorem wy_X1_init : Cond.instanceMethod yX1_init ∈ g_tb ∧ Cond.initialized yX1_init.cls ∈ g_tb ∧ Cond.code yX1_init cX1_init 1 none ∈ g_tb := ⟨g_tb_1 215 (by decide +kernel) (by decide +kernel), g_tb_1 7 (by decide +kernel) (by decide +kernel), g_tb_1 216 (by decide +kernel) (by decide +kernel)⟩
theorem wy_X1_addSight : Cond.instanceMethod yX1_addSight ∈ g_tb ∧ Cond.selects RX1 yX1_addSight yX1_addSight ∈ g_tb ∧ Cond.initialized yX1_addSight.cls ∈ g_tb ∧ Cond.code yX1_addSight cX1_addSight 5 (some .int) ∈ g_tb := ⟨g_tb_5 8 (by decide +kernel) (by decide +kernel), g_tb_5 9 (by decide +kernel) (by decide +kernel), g_tb_1 7 (by decide +kernel) (by decide +kernel), g_tb_5 10 (by decide +kernel) (by decide +kernel)⟩
theorem wy_X1_setWay : Cond.instanceMethod yX1_setWay ∈ g_tb ∧ Cond.selects RX1 yX1_setWay yX1_setWay ∈ g_tb ∧ Cond.initialized yX1_setWay.cls ∈ g_tb ∧ Cond.code yX1_setWay cX1_setWay 5 (some .boolean) ∈ g_tb := ⟨g_tb_5 17 (by decide +kernel) (by decide +kernel), g_tb_5 18 (by decide +kernel) (by decide +kernel), g_tb_1 7 (by decide +kernel) (by decide +kernel), g_tb_5 19 (by decide +kernel) (by decide +kernel)⟩
theorem wy_X1_forget : Cond.instanceMethod yX1_forget ∈ g_tb ∧ Cond.selects RX1 yX1_forget yX1_forget ∈ g_tb ∧ Cond.initialized yX1_forget.cls ∈ g_tb ∧ Cond.code yX1_forget cX1_forget 3 (some .int) ∈ g_tb := ⟨g_tb_5 25 (by decide +kernel) (by decide +kernel), g_tb_5 26 (by decide +kernel) (by decide +kernel), g_tb_1 7 (by decide +kernel) (by decide +kernel), g_tb_5 27 (by decide +kernel) (by decide +kernel)⟩
theorem wy_X1_plan : Cond.instanceMethod yX1_plan ∈ g_tb ∧ Cond.selects RX1 yX1_plan yX1_plan ∈ g_tb ∧ Cond.initialized yX1_plan.cls ∈ g_tb ∧ Cond.code yX1_plan cX1_plan 2 (some .int) ∈ g_tb := ⟨g_tb_5 33 (by decide +kernel) (by decide +kernel), g_tb_5 34 (by decide +kernel) (by decide +kernel), g_tb_1 7 (by decide +kernel) (by decide +kernel), g_tb_5 35 (by decide +kernel) (by decide +kernel)⟩
theorem wy_X1_tell : Cond.instanceMethod yX1_tell ∈ g_tb ∧ Cond.selects RX1 yX1_tell yX1_tell ∈ g_tb ∧ Cond.initialized yX1_tell.cls ∈ g_tb ∧ Cond.code yX1_tell cX1_tell 2 (some .int) ∈ g_tb := ⟨g_tb_5 54 (by decide +kernel) (by decide +kernel), g_tb_5 55 (by decide +kernel) (by decide +kernel), g_tb_1 7 (by decide +kernel) (by decide +kernel), g_tb_5 56 (by decide +kernel) (by decide +kernel)⟩
theorem wy_X1_goOn : Cond.instanceMethod yX1_goOn ∈ g_tb ∧ Cond.selects RX1 yX1_goOn yX1_goOn ∈ g_tb ∧ Cond.initialized yX1_goOn.cls ∈ g_tb ∧ Cond.code yX1_goOn cX1_goOn 17 none ∈ g_tb := ⟨g_tb_5 38 (by decide +kernel) (by decide +kernel), g_tb_in 39 (by decide +kernel) (by decide +kernel), g_tb_1 7 (by decide +kernel) (by decide +kernel), g_tb_5 39 (by decide +kernel) (by decide +kernel)⟩
theorem wy_X1_comeHome : Cond.instanceMethod yX1_comeHome ∈ g_tb ∧ Cond.selects RX1 yX1_comeHome yX1_comeHome ∈ g_tb ∧ Cond.initialized yX1_comeHome.cls ∈ g_tb ∧ Cond.code yX1_comeHome cX1_comeHome 6 none ∈ g_tb := ⟨g_tb_5 42 (by decide +kernel) (by decide +kernel), g_tb_in 40 (by decide +kernel) (by decide +kernel), g_tb_1 7 (by decide +kernel) (by decide +kernel), g_tb_5 43 (by decide +kernel) (by decide +kernel)⟩
theorem wy_X1_isBetter : Cond.instanceMethod yX1_isBetter ∈ g_tb ∧ Cond.selects RX1 yX1_isBetter yX1_isBetter ∈ g_tb ∧ Cond.initialized yX1_isBetter.cls ∈ g_tb ∧ Cond.code yX1_isBetter cX1_isBetter 4 (some .boolean) ∈ g_tb := ⟨g_tb_5 46 (by decide +kernel) (by decide +kernel), g_tb_in 41 (by decide +kernel) (by decide +kernel), g_tb_1 7 (by decide +kernel) (by decide +kernel), g_tb_5 47 (by decide +kernel) (by decide +kernel)⟩
theorem wy_X2_init : Cond.instanceMethod yX2_init ∈ g_tb ∧ Cond.initialized yX2_init.cls ∈ g_tb ∧ Cond.code yX2_init cX2_init 1 none ∈ g_tb := ⟨g_tb_2 231 (by decide +kernel) (by decide +kernel), g_tb_1 12 (by decide +kernel) (by decide +kernel), g_tb_2 232 (by decide +kernel) (by decide +kernel)⟩
theorem wy_X2_take : Cond.instanceMethod yX2_take ∈ g_tb ∧ Cond.selects RX2 yX2_take yX2_take ∈ g_tb ∧ Cond.initialized yX2_take.cls ∈ g_tb ∧ Cond.code yX2_take cX2_take 2 none ∈ g_tb := ⟨g_tb_4 131 (by decide +kernel) (by decide +kernel), g_tb_4 132 (by decide +kernel) (by decide +kernel), g_tb_1 12 (by decide +kernel) (by decide +kernel), g_tb_4 133 (by decide +kernel) (by decide +kernel)⟩
theorem wy_X2_learn : Cond.instanceMethod yX2_learn ∈ g_tb ∧ Cond.selects RX2 yX2_learn yX2_learn ∈ g_tb ∧ Cond.initialized yX2_learn.cls ∈ g_tb ∧ Cond.code yX2_learn cX2_learn 6 none ∈ g_tb := ⟨g_tb_4 164 (by decide +kernel) (by decide +kernel), g_tb_4 165 (by decide +kernel) (by decide +kernel), g_tb_1 12 (by decide +kernel) (by decide +kernel), g_tb_4 166 (by decide +kernel) (by decide +kernel)⟩
theorem wy_X2_worthOf : Cond.instanceMethod yX2_worthOf ∈ g_tb ∧ Cond.selects RX2 yX2_worthOf yX2_worthOf ∈ g_tb ∧ Cond.initialized yX2_worthOf.cls ∈ g_tb ∧ Cond.code yX2_worthOf cX2_worthOf 7 (some .int) ∈ g_tb := ⟨g_tb_4 168 (by decide +kernel) (by decide +kernel), g_tb_4 169 (by decide +kernel) (by decide +kernel), g_tb_1 12 (by decide +kernel) (by decide +kernel), g_tb_4 170 (by decide +kernel) (by decide +kernel)⟩
theorem wy_X2_asksFor : Cond.instanceMethod yX2_asksFor ∈ g_tb ∧ Cond.selects RX2 yX2_asksFor yX2_asksFor ∈ g_tb ∧ Cond.initialized yX2_asksFor.cls ∈ g_tb ∧ Cond.code yX2_asksFor cX2_asksFor 6 (some .boolean) ∈ g_tb := ⟨g_tb_4 219 (by decide +kernel) (by decide +kernel), g_tb_4 220 (by decide +kernel) (by decide +kernel), g_tb_1 12 (by decide +kernel) (by decide +kernel), g_tb_4 221 (by decide +kernel) (by decide +kernel)⟩
theorem wy_X2_valueOf : Cond.instanceMethod yX2_valueOf ∈ g_tb ∧ Cond.selects RX2 yX2_valueOf yX2_valueOf ∈ g_tb ∧ Cond.initialized yX2_valueOf.cls ∈ g_tb ∧ Cond.code yX2_valueOf cX2_valueOf 6 (some .int) ∈ g_tb := ⟨g_tb_4 173 (by decide +kernel) (by decide +kernel), g_tb_in 30 (by decide +kernel) (by decide +kernel), g_tb_1 12 (by decide +kernel) (by decide +kernel), g_tb_4 174 (by decide +kernel) (by decide +kernel)⟩
theorem wy_X2_join : Cond.static yX2_join ∈ g_tb ∧ Cond.initialized yX2_join.cls ∈ g_tb ∧ Cond.code yX2_join cX2_join 3 (some .int) ∈ g_tb := ⟨g_tb_4 176 (by decide +kernel) (by decide +kernel), g_tb_1 12 (by decide +kernel) (by decide +kernel), g_tb_4 177 (by decide +kernel) (by decide +kernel)⟩
theorem wy_X3_init : Cond.instanceMethod yX3_init ∈ g_tb ∧ Cond.initialized yX3_init.cls ∈ g_tb ∧ Cond.code yX3_init cX3_init 1 none ∈ g_tb := ⟨g_tb_1 176 (by decide +kernel) (by decide +kernel), g_tb_1 6 (by decide +kernel) (by decide +kernel), g_tb_1 177 (by decide +kernel) (by decide +kernel)⟩
theorem wy_X3_foresee : Cond.instanceMethod yX3_foresee ∈ g_tb ∧ Cond.selects RX3 yX3_foresee yX3_foresee ∈ g_tb ∧ Cond.initialized yX3_foresee.cls ∈ g_tb ∧ Cond.code yX3_foresee cX3_foresee 9 none ∈ g_tb := ⟨g_tb_4 205 (by decide +kernel) (by decide +kernel), g_tb_4 206 (by decide +kernel) (by decide +kernel), g_tb_1 6 (by decide +kernel) (by decide +kernel), g_tb_4 207 (by decide +kernel) (by decide +kernel)⟩
theorem wy_X3_spread : Cond.instanceMethod yX3_spread ∈ g_tb ∧ Cond.selects RX3 yX3_spread yX3_spread ∈ g_tb ∧ Cond.initialized yX3_spread.cls ∈ g_tb ∧ Cond.code yX3_spread cX3_spread 3 none ∈ g_tb := ⟨g_tb_4 210 (by decide +kernel) (by decide +kernel), g_tb_in 33 (by decide +kernel) (by decide +kernel), g_tb_1 6 (by decide +kernel) (by decide +kernel), g_tb_4 211 (by decide +kernel) (by decide +kernel)⟩
theorem wy_X3_fillLastDay : Cond.instanceMethod yX3_fillLastDay ∈ g_tb ∧ Cond.selects RX3 yX3_fillLastDay yX3_fillLastDay ∈ g_tb ∧ Cond.initialized yX3_fillLastDay.cls ∈ g_tb ∧ Cond.code yX3_fillLastDay cX3_fillLastDay 5 none ∈ g_tb := ⟨g_tb_4 216 (by decide +kernel) (by decide +kernel), g_tb_in 34 (by decide +kernel) (by decide +kernel), g_tb_1 6 (by decide +kernel) (by decide +kernel), g_tb_4 217 (by decide +kernel) (by decide +kernel)⟩
theorem wy_X3_fillFees : Cond.instanceMethod yX3_fillFees ∈ g_tb ∧ Cond.selects RX3 yX3_fillFees yX3_fillFees ∈ g_tb ∧ Cond.initialized yX3_fillFees.cls ∈ g_tb ∧ Cond.code yX3_fillFees cX3_fillFees 8 none ∈ g_tb := ⟨g_tb_4 224 (by decide +kernel) (by decide +kernel), g_tb_in 35 (by decide +kernel) (by decide +kernel), g_tb_1 6 (by decide +kernel) (by decide +kernel), g_tb_4 225 (by decide +kernel) (by decide +kernel)⟩
theorem wy_X3_fillWorst : Cond.instanceMethod yX3_fillWorst ∈ g_tb ∧ Cond.selects RX3 yX3_fillWorst yX3_fillWorst ∈ g_tb ∧ Cond.initialized yX3_fillWorst.cls ∈ g_tb ∧ Cond.code yX3_fillWorst cX3_fillWorst 6 none ∈ g_tb := ⟨g_tb_4 229 (by decide +kernel) (by decide +kernel), g_tb_in 36 (by decide +kernel) (by decide +kernel), g_tb_1 6 (by decide +kernel) (by decide +kernel), g_tb_4 230 (by decide +kernel) (by decide +kernel)⟩
theorem wy_X3_fillDay : Cond.instanceMethod yX3_fillDay ∈ g_tb ∧ Cond.selects RX3 yX3_fillDay yX3_fillDay ∈ g_tb ∧ Cond.initialized yX3_fillDay.cls ∈ g_tb ∧ Cond.code yX3_fillDay cX3_fillDay 3 none ∈ g_tb := ⟨g_tb_4 233 (by decide +kernel) (by decide +kernel), g_tb_in 37 (by decide +kernel) (by decide +kernel), g_tb_1 6 (by decide +kernel) (by decide +kernel), g_tb_4 234 (by decide +kernel) (by decide +kernel)⟩
theorem wy_X3_leastOf : Cond.instanceMethod yX3_leastOf ∈ g_tb ∧ Cond.selects RX3 yX3_leastOf yX3_leastOf ∈ g_tb ∧ Cond.initialized yX3_leastOf.cls ∈ g_tb ∧ Cond.code yX3_leastOf cX3_leastOf 7 (some .int) ∈ g_tb := ⟨g_tb_4 237 (by decide +kernel) (by decide +kernel), g_tb_in 38 (by decide +kernel) (by decide +kernel), g_tb_1 6 (by decide +kernel) (by decide +kernel), g_tb_4 238 (by decide +kernel) (by decide +kernel)⟩
theorem wy_X4_init : Cond.instanceMethod yX4_init ∈ g_tb ∧ Cond.initialized yX4_init.cls ∈ g_tb ∧ Cond.code yX4_init cX4_init 1 none ∈ g_tb := ⟨g_tb_1 57 (by decide +kernel) (by decide +kernel), g_tb_1 3 (by decide +kernel) (by decide +kernel), g_tb_1 58 (by decide +kernel) (by decide +kernel)⟩
theorem wy_X4_haveSpace : Cond.instanceMethod yX4_haveSpace ∈ g_tb ∧ Cond.selects RX4 yX4_haveSpace yX4_haveSpace ∈ g_tb ∧ Cond.initialized yX4_haveSpace.cls ∈ g_tb ∧ Cond.code yX4_haveSpace cX4_haveSpace 2 (some .boolean) ∈ g_tb := ⟨g_tb_2 195 (by decide +kernel) (by decide +kernel), g_tb_2 196 (by decide +kernel) (by decide +kernel), g_tb_1 3 (by decide +kernel) (by decide +kernel), g_tb_2 197 (by decide +kernel) (by decide +kernel)⟩
theorem wy_X4_add : Cond.instanceMethod yX4_add ∈ g_tb ∧ Cond.selects RX4 yX4_add yX4_add ∈ g_tb ∧ Cond.initialized yX4_add.cls ∈ g_tb ∧ Cond.code yX4_add cX4_add 5 none ∈ g_tb := ⟨g_tb_2 207 (by decide +kernel) (by decide +kernel), g_tb_2 208 (by decide +kernel) (by decide +kernel), g_tb_1 3 (by decide +kernel) (by decide +kernel), g_tb_2 209 (by decide +kernel) (by decide +kernel)⟩
theorem wy_X4_latest : Cond.instanceMethod yX4_latest ∈ g_tb ∧ Cond.selects RX4 yX4_latest yX4_latest ∈ g_tb ∧ Cond.initialized yX4_latest.cls ∈ g_tb ∧ Cond.code yX4_latest cX4_latest 7 (some .int) ∈ g_tb := ⟨g_tb_3 232 (by decide +kernel) (by decide +kernel), g_tb_3 233 (by decide +kernel) (by decide +kernel), g_tb_1 3 (by decide +kernel) (by decide +kernel), g_tb_3 234 (by decide +kernel) (by decide +kernel)⟩
theorem wy_X5_init : Cond.instanceMethod yX5_init ∈ g_tb ∧ Cond.initialized yX5_init.cls ∈ g_tb ∧ Cond.code yX5_init cX5_init 1 none ∈ g_tb := ⟨g_tb_1 36 (by decide +kernel) (by decide +kernel), g_tb_1 2 (by decide +kernel) (by decide +kernel), g_tb_1 37 (by decide +kernel) (by decide +kernel)⟩
theorem wy_X5_add : Cond.instanceMethod yX5_add ∈ g_tb ∧ Cond.selects RX5 yX5_add yX5_add ∈ g_tb ∧ Cond.initialized yX5_add.cls ∈ g_tb ∧ Cond.code yX5_add cX5_add 2 (some .int) ∈ g_tb := ⟨g_tb_2 155 (by decide +kernel) (by decide +kernel), g_tb_2 156 (by decide +kernel) (by decide +kernel), g_tb_1 2 (by decide +kernel) (by decide +kernel), g_tb_2 157 (by decide +kernel) (by decide +kernel)⟩
theorem wy_X5_at : Cond.instanceMethod yX5_at ∈ g_tb ∧ Cond.selects RX5 yX5_at yX5_at ∈ g_tb ∧ Cond.initialized yX5_at.cls ∈ g_tb ∧ Cond.code yX5_at cX5_at 2 (some (.object RX6)) ∈ g_tb := ⟨g_tb_2 163 (by decide +kernel) (by decide +kernel), g_tb_2 164 (by decide +kernel) (by decide +kernel), g_tb_1 2 (by decide +kernel) (by decide +kernel), g_tb_2 165 (by decide +kernel) (by decide +kernel)⟩
theorem wy_X5_isThere : Cond.instanceMethod yX5_isThere ∈ g_tb ∧ Cond.selects RX5 yX5_isThere yX5_isThere ∈ g_tb ∧ Cond.initialized yX5_isThere.cls ∈ g_tb ∧ Cond.code yX5_isThere cX5_isThere 4 (some .boolean) ∈ g_tb := ⟨g_tb_3 111 (by decide +kernel) (by decide +kernel), g_tb_3 112 (by decide +kernel) (by decide +kernel), g_tb_1 2 (by decide +kernel) (by decide +kernel), g_tb_3 113 (by decide +kernel) (by decide +kernel)⟩
theorem wy_X5_mayShare : Cond.instanceMethod yX5_mayShare ∈ g_tb ∧ Cond.selects RX5 yX5_mayShare yX5_mayShare ∈ g_tb ∧ Cond.initialized yX5_mayShare.cls ∈ g_tb ∧ Cond.code yX5_mayShare cX5_mayShare 6 (some .boolean) ∈ g_tb := ⟨g_tb_3 142 (by decide +kernel) (by decide +kernel), g_tb_3 143 (by decide +kernel) (by decide +kernel), g_tb_1 2 (by decide +kernel) (by decide +kernel), g_tb_3 144 (by decide +kernel) (by decide +kernel)⟩
theorem wy_X5_sharersFor : Cond.instanceMethod yX5_sharersFor ∈ g_tb ∧ Cond.selects RX5 yX5_sharersFor yX5_sharersFor ∈ g_tb ∧ Cond.initialized yX5_sharersFor.cls ∈ g_tb ∧ Cond.code yX5_sharersFor cX5_sharersFor 4 (some .int) ∈ g_tb := ⟨g_tb_5 117 (by decide +kernel) (by decide +kernel), g_tb_5 118 (by decide +kernel) (by decide +kernel), g_tb_1 2 (by decide +kernel) (by decide +kernel), g_tb_5 119 (by decide +kernel) (by decide +kernel)⟩
theorem wy_X5_fits : Cond.instanceMethod yX5_fits ∈ g_tb ∧ Cond.selects RX5 yX5_fits yX5_fits ∈ g_tb ∧ Cond.initialized yX5_fits.cls ∈ g_tb ∧ Cond.code yX5_fits cX5_fits 7 (some .boolean) ∈ g_tb := ⟨g_tb_3 120 (by decide +kernel) (by decide +kernel), g_tb_3 121 (by decide +kernel) (by decide +kernel), g_tb_1 2 (by decide +kernel) (by decide +kernel), g_tb_3 122 (by decide +kernel) (by decide +kernel)⟩
theorem wy_X5_sharesWithAll : Cond.instanceMethod yX5_sharesWithAll ∈ g_tb ∧ Cond.selects RX5 yX5_sharesWithAll yX5_sharesWithAll ∈ g_tb ∧ Cond.initialized yX5_sharesWithAll.cls ∈ g_tb ∧ Cond.code yX5_sharesWithAll cX5_sharesWithAll 4 (some .boolean) ∈ g_tb := ⟨g_tb_3 139 (by decide +kernel) (by decide +kernel), g_tb_in 6 (by decide +kernel) (by decide +kernel), g_tb_1 2 (by decide +kernel) (by decide +kernel), g_tb_3 140 (by decide +kernel) (by decide +kernel)⟩
theorem wy_X5_isRight : Cond.instanceMethod yX5_isRight ∈ g_tb ∧ Cond.selects RX5 yX5_isRight yX5_isRight ∈ g_tb ∧ Cond.initialized yX5_isRight.cls ∈ g_tb ∧ Cond.code yX5_isRight cX5_isRight 5 (some .boolean) ∈ g_tb := ⟨g_tb_3 222 (by decide +kernel) (by decide +kernel), g_tb_3 223 (by decide +kernel) (by decide +kernel), g_tb_1 2 (by decide +kernel) (by decide +kernel), g_tb_3 224 (by decide +kernel) (by decide +kernel)⟩
theorem wy_X5_eaters : Cond.instanceMethod yX5_eaters ∈ g_tb ∧ Cond.selects RX5 yX5_eaters yX5_eaters ∈ g_tb ∧ Cond.initialized yX5_eaters.cls ∈ g_tb ∧ Cond.code yX5_eaters cX5_eaters 5 (some .int) ∈ g_tb := ⟨g_tb_5 101 (by decide +kernel) (by decide +kernel), g_tb_5 102 (by decide +kernel) (by decide +kernel), g_tb_1 2 (by decide +kernel) (by decide +kernel), g_tb_5 103 (by decide +kernel) (by decide +kernel)⟩
theorem wy_X6_init : Cond.instanceMethod yX6_init ∈ g_tb ∧ Cond.initialized yX6_init.cls ∈ g_tb ∧ Cond.code yX6_init cX6_init 7 none ∈ g_tb := ⟨g_tb_2 99 (by decide +kernel) (by decide +kernel), g_tb_1 10 (by decide +kernel) (by decide +kernel), g_tb_2 100 (by decide +kernel) (by decide +kernel)⟩
theorem wy_X6_isBarred : Cond.instanceMethod yX6_isBarred ∈ g_tb ∧ Cond.selects RX6 yX6_isBarred yX6_isBarred ∈ g_tb ∧ Cond.initialized yX6_isBarred.cls ∈ g_tb ∧ Cond.code yX6_isBarred cX6_isBarred 2 (some .boolean) ∈ g_tb := ⟨g_tb_2 171 (by decide +kernel) (by decide +kernel), g_tb_2 172 (by decide +kernel) (by decide +kernel), g_tb_1 10 (by decide +kernel) (by decide +kernel), g_tb_2 173 (by decide +kernel) (by decide +kernel)⟩
theorem wy_X6_isThereIn : Cond.instanceMethod yX6_isThereIn ∈ g_tb ∧ Cond.selects RX6 yX6_isThereIn yX6_isThereIn ∈ g_tb ∧ Cond.initialized yX6_isThereIn.cls ∈ g_tb ∧ Cond.code yX6_isThereIn cX6_isThereIn 2 (some .boolean) ∈ g_tb := ⟨g_tb_3 116 (by decide +kernel) (by decide +kernel), g_tb_3 117 (by decide +kernel) (by decide +kernel), g_tb_1 10 (by decide +kernel) (by decide +kernel), g_tb_3 118 (by decide +kernel) (by decide +kernel)⟩
theorem wy_X6_charge : Cond.instanceMethod yX6_charge ∈ g_tb ∧ Cond.selects RX6 yX6_charge yX6_charge ∈ g_tb ∧ Cond.initialized yX6_charge.cls ∈ g_tb ∧ Cond.code yX6_charge cX6_charge 5 none ∈ g_tb := ⟨g_tb_5 70 (by decide +kernel) (by decide +kernel), g_tb_5 71 (by decide +kernel) (by decide +kernel), g_tb_1 10 (by decide +kernel) (by decide +kernel), g_tb_5 72 (by decide +kernel) (by decide +kernel)⟩
theorem wy_X7_init : Cond.instanceMethod yX7_init ∈ g_tb ∧ Cond.initialized yX7_init.cls ∈ g_tb ∧ Cond.code yX7_init cX7_init 1 none ∈ g_tb := ⟨g_tb_1 72 (by decide +kernel) (by decide +kernel), g_tb_1 4 (by decide +kernel) (by decide +kernel), g_tb_1 73 (by decide +kernel) (by decide +kernel)⟩
theorem wy_X7_take : Cond.instanceMethod yX7_take ∈ g_tb ∧ Cond.selects RX7 yX7_take yX7_take ∈ g_tb ∧ Cond.initialized yX7_take.cls ∈ g_tb ∧ Cond.code yX7_take cX7_take 5 none ∈ g_tb := ⟨g_tb_4 0 (by decide +kernel) (by decide +kernel), g_tb_4 1 (by decide +kernel) (by decide +kernel), g_tb_1 4 (by decide +kernel) (by decide +kernel), g_tb_4 2 (by decide +kernel) (by decide +kernel)⟩
theorem wy_X7_readText : Cond.instanceMethod yX7_readText ∈ g_tb ∧ Cond.selects RX7 yX7_readText yX7_readText ∈ g_tb ∧ Cond.initialized yX7_readText.cls ∈ g_tb ∧ Cond.code yX7_readText cX7_readText 3 (some .int) ∈ g_tb := ⟨g_tb_4 8 (by decide +kernel) (by decide +kernel), g_tb_4 9 (by decide +kernel) (by decide +kernel), g_tb_1 4 (by decide +kernel) (by decide +kernel), g_tb_4 10 (by decide +kernel) (by decide +kernel)⟩
theorem wy_X7_refuse : Cond.instanceMethod yX7_refuse ∈ g_tb ∧ Cond.selects RX7 yX7_refuse yX7_refuse ∈ g_tb ∧ Cond.initialized yX7_refuse.cls ∈ g_tb ∧ Cond.code yX7_refuse cX7_refuse 2 (some .boolean) ∈ g_tb := ⟨g_tb_4 100 (by decide +kernel) (by decide +kernel), g_tb_in 20 (by decide +kernel) (by decide +kernel), g_tb_1 4 (by decide +kernel) (by decide +kernel), g_tb_4 101 (by decide +kernel) (by decide +kernel)⟩
theorem wy_X7_readRule : Cond.instanceMethod yX7_readRule ∈ g_tb ∧ Cond.selects RX7 yX7_readRule yX7_readRule ∈ g_tb ∧ Cond.initialized yX7_readRule.cls ∈ g_tb ∧ Cond.code yX7_readRule cX7_readRule 2 (some .boolean) ∈ g_tb := ⟨g_tb_4 104 (by decide +kernel) (by decide +kernel), g_tb_in 21 (by decide +kernel) (by decide +kernel), g_tb_1 4 (by decide +kernel) (by decide +kernel), g_tb_4 105 (by decide +kernel) (by decide +kernel)⟩
theorem wy_X7_readAll : Cond.instanceMethod yX7_readAll ∈ g_tb ∧ Cond.selects RX7 yX7_readAll yX7_readAll ∈ g_tb ∧ Cond.initialized yX7_readAll.cls ∈ g_tb ∧ Cond.code yX7_readAll cX7_readAll 3 (some .boolean) ∈ g_tb := ⟨g_tb_4 108 (by decide +kernel) (by decide +kernel), g_tb_in 22 (by decide +kernel) (by decide +kernel), g_tb_1 4 (by decide +kernel) (by decide +kernel), g_tb_4 109 (by decide +kernel) (by decide +kernel)⟩
theorem wy_X7_readTest : Cond.instanceMethod yX7_readTest ∈ g_tb ∧ Cond.selects RX7 yX7_readTest yX7_readTest ∈ g_tb ∧ Cond.initialized yX7_readTest.cls ∈ g_tb ∧ Cond.code yX7_readTest cX7_readTest 3 (some .boolean) ∈ g_tb := ⟨g_tb_4 112 (by decide +kernel) (by decide +kernel), g_tb_in 23 (by decide +kernel) (by decide +kernel), g_tb_1 4 (by decide +kernel) (by decide +kernel), g_tb_4 113 (by decide +kernel) (by decide +kernel)⟩
theorem wy_X7_readSum : Cond.instanceMethod yX7_readSum ∈ g_tb ∧ Cond.selects RX7 yX7_readSum yX7_readSum ∈ g_tb ∧ Cond.initialized yX7_readSum.cls ∈ g_tb ∧ Cond.code yX7_readSum cX7_readSum 4 (some .boolean) ∈ g_tb := ⟨g_tb_4 116 (by decide +kernel) (by decide +kernel), g_tb_in 24 (by decide +kernel) (by decide +kernel), g_tb_1 4 (by decide +kernel) (by decide +kernel), g_tb_4 117 (by decide +kernel) (by decide +kernel)⟩
theorem wy_X7_readPart : Cond.instanceMethod yX7_readPart ∈ g_tb ∧ Cond.selects RX7 yX7_readPart yX7_readPart ∈ g_tb ∧ Cond.initialized yX7_readPart.cls ∈ g_tb ∧ Cond.code yX7_readPart cX7_readPart 2 (some .boolean) ∈ g_tb := ⟨g_tb_4 120 (by decide +kernel) (by decide +kernel), g_tb_in 25 (by decide +kernel) (by decide +kernel), g_tb_1 4 (by decide +kernel) (by decide +kernel), g_tb_4 121 (by decide +kernel) (by decide +kernel)⟩
theorem wy_X7_readBracket : Cond.instanceMethod yX7_readBracket ∈ g_tb ∧ Cond.selects RX7 yX7_readBracket yX7_readBracket ∈ g_tb ∧ Cond.initialized yX7_readBracket.cls ∈ g_tb ∧ Cond.code yX7_readBracket cX7_readBracket 2 (some .boolean) ∈ g_tb := ⟨g_tb_4 124 (by decide +kernel) (by decide +kernel), g_tb_in 26 (by decide +kernel) (by decide +kernel), g_tb_1 4 (by decide +kernel) (by decide +kernel), g_tb_4 125 (by decide +kernel) (by decide +kernel)⟩
theorem wy_X7_write : Cond.instanceMethod yX7_write ∈ g_tb ∧ Cond.selects RX7 yX7_write yX7_write ∈ g_tb ∧ Cond.initialized yX7_write.cls ∈ g_tb ∧ Cond.code yX7_write cX7_write 2 none ∈ g_tb := ⟨g_tb_4 128 (by decide +kernel) (by decide +kernel), g_tb_in 27 (by decide +kernel) (by decide +kernel), g_tb_1 4 (by decide +kernel) (by decide +kernel), g_tb_4 129 (by decide +kernel) (by decide +kernel)⟩
theorem wy_X7_isBlank : Cond.static yX7_isBlank ∈ g_tb ∧ Cond.initialized yX7_isBlank.cls ∈ g_tb ∧ Cond.code yX7_isBlank cX7_isBlank 1 (some .boolean) ∈ g_tb := ⟨g_tb_4 16 (by decide +kernel) (by decide +kernel), g_tb_1 4 (by decide +kernel) (by decide +kernel), g_tb_4 17 (by decide +kernel) (by decide +kernel)⟩
theorem wy_X7_isLetter : Cond.static yX7_isLetter ∈ g_tb ∧ Cond.initialized yX7_isLetter.cls ∈ g_tb ∧ Cond.code yX7_isLetter cX7_isLetter 1 (some .boolean) ∈ g_tb := ⟨g_tb_4 19 (by decide +kernel) (by decide +kernel), g_tb_1 4 (by decide +kernel) (by decide +kernel), g_tb_4 20 (by decide +kernel) (by decide +kernel)⟩
theorem wy_X7_isDigit : Cond.static yX7_isDigit ∈ g_tb ∧ Cond.initialized yX7_isDigit.cls ∈ g_tb ∧ Cond.code yX7_isDigit cX7_isDigit 1 (some .boolean) ∈ g_tb := ⟨g_tb_4 89 (by decide +kernel) (by decide +kernel), g_tb_1 4 (by decide +kernel) (by decide +kernel), g_tb_4 90 (by decide +kernel) (by decide +kernel)⟩
theorem wy_X7_isSign : Cond.static yX7_isSign ∈ g_tb ∧ Cond.initialized yX7_isSign.cls ∈ g_tb ∧ Cond.code yX7_isSign cX7_isSign 1 (some .boolean) ∈ g_tb := ⟨g_tb_4 96 (by decide +kernel) (by decide +kernel), g_tb_1 4 (by decide +kernel) (by decide +kernel), g_tb_4 97 (by decide +kernel) (by decide +kernel)⟩
theorem wy_X7_advance : Cond.instanceMethod yX7_advance ∈ g_tb ∧ Cond.selects RX7 yX7_advance yX7_advance ∈ g_tb ∧ Cond.initialized yX7_advance.cls ∈ g_tb ∧ Cond.code yX7_advance cX7_advance 1 none ∈ g_tb := ⟨g_tb_4 13 (by decide +kernel) (by decide +kernel), g_tb_in 16 (by decide +kernel) (by decide +kernel), g_tb_1 4 (by decide +kernel) (by decide +kernel), g_tb_4 14 (by decide +kernel) (by decide +kernel)⟩
theorem wy_X7_takeNumber : Cond.instanceMethod yX7_takeNumber ∈ g_tb ∧ Cond.selects RX7 yX7_takeNumber yX7_takeNumber ∈ g_tb ∧ Cond.initialized yX7_takeNumber.cls ∈ g_tb ∧ Cond.code yX7_takeNumber cX7_takeNumber 1 none ∈ g_tb := ⟨g_tb_4 93 (by decide +kernel) (by decide +kernel), g_tb_in 19 (by decide +kernel) (by decide +kernel), g_tb_1 4 (by decide +kernel) (by decide +kernel), g_tb_4 94 (by decide +kernel) (by decide +kernel)⟩
theorem wy_X7_takeWord : Cond.instanceMethod yX7_takeWord ∈ g_tb ∧ Cond.selects RX7 yX7_takeWord yX7_takeWord ∈ g_tb ∧ Cond.initialized yX7_takeWord.cls ∈ g_tb ∧ Cond.code yX7_takeWord cX7_takeWord 1 none ∈ g_tb := ⟨g_tb_4 23 (by decide +kernel) (by decide +kernel), g_tb_in 17 (by decide +kernel) (by decide +kernel), g_tb_1 4 (by decide +kernel) (by decide +kernel), g_tb_4 24 (by decide +kernel) (by decide +kernel)⟩
theorem wy_X7_spells : Cond.instanceMethod yX7_spells ∈ g_tb ∧ Cond.selects RX7 yX7_spells yX7_spells ∈ g_tb ∧ Cond.initialized yX7_spells.cls ∈ g_tb ∧ Cond.code yX7_spells cX7_spells 3 (some .boolean) ∈ g_tb := ⟨g_tb_4 28 (by decide +kernel) (by decide +kernel), g_tb_in 18 (by decide +kernel) (by decide +kernel), g_tb_1 4 (by decide +kernel) (by decide +kernel), g_tb_4 29 (by decide +kernel) (by decide +kernel)⟩
theorem wy_X8_init : Cond.instanceMethod yX8_init ∈ g_tb ∧ Cond.initialized yX8_init.cls ∈ g_tb ∧ Cond.code yX8_init cX8_init 4 none ∈ g_tb := ⟨g_tb_3 73 (by decide +kernel) (by decide +kernel), g_tb_1 13 (by decide +kernel) (by decide +kernel), g_tb_3 74 (by decide +kernel) (by decide +kernel)⟩
theorem wy_X9_init : Cond.instanceMethod yX9_init ∈ g_tb ∧ Cond.initialized yX9_init.cls ∈ g_tb ∧ Cond.code yX9_init cX9_init 1 none ∈ g_tb := ⟨g_tb_1 121 (by decide +kernel) (by decide +kernel), g_tb_1 5 (by decide +kernel) (by decide +kernel), g_tb_1 122 (by decide +kernel) (by decide +kernel)⟩
theorem wy_X9_findList : Cond.instanceMethod yX9_findList ∈ g_tb ∧ Cond.selects RX9 yX9_findList yX9_findList ∈ g_tb ∧ Cond.initialized yX9_findList.cls ∈ g_tb ∧ Cond.code yX9_findList cX9_findList 5 (some .boolean) ∈ g_tb := ⟨g_tb_3 151 (by decide +kernel) (by decide +kernel), g_tb_3 152 (by decide +kernel) (by decide +kernel), g_tb_1 5 (by decide +kernel) (by decide +kernel), g_tb_3 153 (by decide +kernel) (by decide +kernel)⟩
theorem wy_X9_changes : Cond.instanceMethod yX9_changes ∈ g_tb ∧ Cond.selects RX9 yX9_changes yX9_changes ∈ g_tb ∧ Cond.initialized yX9_changes.cls ∈ g_tb ∧ Cond.code yX9_changes cX9_changes 4 (some .int) ∈ g_tb := ⟨g_tb_3 199 (by decide +kernel) (by decide +kernel), g_tb_3 200 (by decide +kernel) (by decide +kernel), g_tb_1 5 (by decide +kernel) (by decide +kernel), g_tb_3 201 (by decide +kernel) (by decide +kernel)⟩
theorem wy_X9_mostGuests : Cond.instanceMethod yX9_mostGuests ∈ g_tb ∧ Cond.selects RX9 yX9_mostGuests yX9_mostGuests ∈ g_tb ∧ Cond.initialized yX9_mostGuests.cls ∈ g_tb ∧ Cond.code yX9_mostGuests cX9_mostGuests 5 (some .int) ∈ g_tb := ⟨g_tb_3 211 (by decide +kernel) (by decide +kernel), g_tb_3 212 (by decide +kernel) (by decide +kernel), g_tb_1 5 (by decide +kernel) (by decide +kernel), g_tb_3 213 (by decide +kernel) (by decide +kernel)⟩
theorem wy_X9_gatherGuests : Cond.instanceMethod yX9_gatherGuests ∈ g_tb ∧ Cond.selects RX9 yX9_gatherGuests yX9_gatherGuests ∈ g_tb ∧ Cond.initialized yX9_gatherGuests.cls ∈ g_tb ∧ Cond.code yX9_gatherGuests cX9_gatherGuests 5 none ∈ g_tb := ⟨g_tb_3 156 (by decide +kernel) (by decide +kernel), g_tb_in 7 (by decide +kernel) (by decide +kernel), g_tb_1 5 (by decide +kernel) (by decide +kernel), g_tb_3 157 (by decide +kernel) (by decide +kernel)⟩
theorem wy_X9_gatherRooms : Cond.instanceMethod yX9_gatherRooms ∈ g_tb ∧ Cond.selects RX9 yX9_gatherRooms yX9_gatherRooms ∈ g_tb ∧ Cond.initialized yX9_gatherRooms.cls ∈ g_tb ∧ Cond.code yX9_gatherRooms cX9_gatherRooms 3 none ∈ g_tb := ⟨g_tb_3 163 (by decide +kernel) (by decide +kernel), g_tb_in 8 (by decide +kernel) (by decide +kernel), g_tb_1 5 (by decide +kernel) (by decide +kernel), g_tb_3 164 (by decide +kernel) (by decide +kernel)⟩
theorem wy_X9_fillTable : Cond.instanceMethod yX9_fillTable ∈ g_tb ∧ Cond.selects RX9 yX9_fillTable yX9_fillTable ∈ g_tb ∧ Cond.initialized yX9_fillTable.cls ∈ g_tb ∧ Cond.code yX9_fillTable cX9_fillTable 4 none ∈ g_tb := ⟨g_tb_3 167 (by decide +kernel) (by decide +kernel), g_tb_in 9 (by decide +kernel) (by decide +kernel), g_tb_1 5 (by decide +kernel) (by decide +kernel), g_tb_3 168 (by decide +kernel) (by decide +kernel)⟩
theorem wy_X9_fillRow : Cond.instanceMethod yX9_fillRow ∈ g_tb ∧ Cond.selects RX9 yX9_fillRow yX9_fillRow ∈ g_tb ∧ Cond.initialized yX9_fillRow.cls ∈ g_tb ∧ Cond.code yX9_fillRow cX9_fillRow 6 none ∈ g_tb := ⟨g_tb_3 172 (by decide +kernel) (by decide +kernel), g_tb_in 10 (by decide +kernel) (by decide +kernel), g_tb_1 5 (by decide +kernel) (by decide +kernel), g_tb_3 173 (by decide +kernel) (by decide +kernel)⟩
theorem wy_X9_useRoom : Cond.instanceMethod yX9_useRoom ∈ g_tb ∧ Cond.selects RX9 yX9_useRoom yX9_useRoom ∈ g_tb ∧ Cond.initialized yX9_useRoom.cls ∈ g_tb ∧ Cond.code yX9_useRoom cX9_useRoom 11 none ∈ g_tb := ⟨g_tb_3 187 (by decide +kernel) (by decide +kernel), g_tb_in 13 (by decide +kernel) (by decide +kernel), g_tb_1 5 (by decide +kernel) (by decide +kernel), g_tb_3 188 (by decide +kernel) (by decide +kernel)⟩
theorem wy_X9_weightOf : Cond.instanceMethod yX9_weightOf ∈ g_tb ∧ Cond.selects RX9 yX9_weightOf yX9_weightOf ∈ g_tb ∧ Cond.initialized yX9_weightOf.cls ∈ g_tb ∧ Cond.code yX9_weightOf cX9_weightOf 6 (some .int) ∈ g_tb := ⟨g_tb_3 179 (by decide +kernel) (by decide +kernel), g_tb_in 11 (by decide +kernel) (by decide +kernel), g_tb_1 5 (by decide +kernel) (by decide +kernel), g_tb_3 180 (by decide +kernel) (by decide +kernel)⟩
theorem wy_X9_movesOf : Cond.instanceMethod yX9_movesOf ∈ g_tb ∧ Cond.selects RX9 yX9_movesOf yX9_movesOf ∈ g_tb ∧ Cond.initialized yX9_movesOf.cls ∈ g_tb ∧ Cond.code yX9_movesOf cX9_movesOf 3 (some .int) ∈ g_tb := ⟨g_tb_3 183 (by decide +kernel) (by decide +kernel), g_tb_in 12 (by decide +kernel) (by decide +kernel), g_tb_1 5 (by decide +kernel) (by decide +kernel), g_tb_3 184 (by decide +kernel) (by decide +kernel)⟩
theorem wy_X9_readPlan : Cond.instanceMethod yX9_readPlan ∈ g_tb ∧ Cond.selects RX9 yX9_readPlan yX9_readPlan ∈ g_tb ∧ Cond.initialized yX9_readPlan.cls ∈ g_tb ∧ Cond.code yX9_readPlan cX9_readPlan 5 none ∈ g_tb := ⟨g_tb_3 192 (by decide +kernel) (by decide +kernel), g_tb_in 14 (by decide +kernel) (by decide +kernel), g_tb_1 5 (by decide +kernel) (by decide +kernel), g_tb_3 193 (by decide +kernel) (by decide +kernel)⟩
theorem wy_X9_firstSetOf : Cond.instanceMethod yX9_firstSetOf ∈ g_tb ∧ Cond.selects RX9 yX9_firstSetOf yX9_firstSetOf ∈ g_tb ∧ Cond.initialized yX9_firstSetOf.cls ∈ g_tb ∧ Cond.code yX9_firstSetOf cX9_firstSetOf 10 (some .int) ∈ g_tb := ⟨g_tb_3 196 (by decide +kernel) (by decide +kernel), g_tb_in 15 (by decide +kernel) (by decide +kernel), g_tb_1 5 (by decide +kernel) (by decide +kernel), g_tb_3 197 (by decide +kernel) (by decide +kernel)⟩
theorem wy_X10_init : Cond.instanceMethod yX10_init ∈ g_tb ∧ Cond.initialized yX10_init.cls ∈ g_tb ∧ Cond.code yX10_init cX10_init 5 none ∈ g_tb := ⟨g_tb_2 224 (by decide +kernel) (by decide +kernel), g_tb_1 11 (by decide +kernel) (by decide +kernel), g_tb_2 225 (by decide +kernel) (by decide +kernel)⟩
theorem wy_X10_add : Cond.instanceMethod yX10_add ∈ g_tb ∧ Cond.selects RX10 yX10_add yX10_add ∈ g_tb ∧ Cond.initialized yX10_add.cls ∈ g_tb ∧ Cond.code yX10_add cX10_add 2 (some .int) ∈ g_tb := ⟨g_tb_3 103 (by decide +kernel) (by decide +kernel), g_tb_3 104 (by decide +kernel) (by decide +kernel), g_tb_1 11 (by decide +kernel) (by decide +kernel), g_tb_3 105 (by decide +kernel) (by decide +kernel)⟩
theorem wy_X10_roomAt : Cond.instanceMethod yX10_roomAt ∈ g_tb ∧ Cond.selects RX10 yX10_roomAt yX10_roomAt ∈ g_tb ∧ Cond.initialized yX10_roomAt.cls ∈ g_tb ∧ Cond.code yX10_roomAt cX10_roomAt 2 (some (.object RX8)) ∈ g_tb := ⟨g_tb_3 124 (by decide +kernel) (by decide +kernel), g_tb_3 125 (by decide +kernel) (by decide +kernel), g_tb_1 11 (by decide +kernel) (by decide +kernel), g_tb_3 126 (by decide +kernel) (by decide +kernel)⟩
theorem wy_X10_roomOfGuest : Cond.instanceMethod yX10_roomOfGuest ∈ g_tb ∧ Cond.selects RX10 yX10_roomOfGuest yX10_roomOfGuest ∈ g_tb ∧ Cond.initialized yX10_roomOfGuest.cls ∈ g_tb ∧ Cond.code yX10_roomOfGuest cX10_roomOfGuest 2 (some .int) ∈ g_tb := ⟨g_tb_2 191 (by decide +kernel) (by decide +kernel), g_tb_2 192 (by decide +kernel) (by decide +kernel), g_tb_1 11 (by decide +kernel) (by decide +kernel), g_tb_2 193 (by decide +kernel) (by decide +kernel)⟩
theorem wy_X10_move : Cond.instanceMethod yX10_move ∈ g_tb ∧ Cond.selects RX10 yX10_move yX10_move ∈ g_tb ∧ Cond.initialized yX10_move.cls ∈ g_tb ∧ Cond.code yX10_move cX10_move 3 none ∈ g_tb := ⟨g_tb_2 203 (by decide +kernel) (by decide +kernel), g_tb_2 204 (by decide +kernel) (by decide +kernel), g_tb_1 11 (by decide +kernel) (by decide +kernel), g_tb_2 205 (by decide +kernel) (by decide +kernel)⟩
theorem wy_X10_guestsOf : Cond.instanceMethod yX10_guestsOf ∈ g_tb ∧ Cond.selects RX10 yX10_guestsOf yX10_guestsOf ∈ g_tb ∧ Cond.initialized yX10_guestsOf.cls ∈ g_tb ∧ Cond.code yX10_guestsOf cX10_guestsOf 4 (some .int) ∈ g_tb := ⟨g_tb_3 128 (by decide +kernel) (by decide +kernel), g_tb_3 129 (by decide +kernel) (by decide +kernel), g_tb_1 11 (by decide +kernel) (by decide +kernel), g_tb_3 130 (by decide +kernel) (by decide +kernel)⟩
theorem wy_X10_usedRooms : Cond.instanceMethod yX10_usedRooms ∈ g_tb ∧ Cond.selects RX10 yX10_usedRooms yX10_usedRooms ∈ g_tb ∧ Cond.initialized yX10_usedRooms.cls ∈ g_tb ∧ Cond.code yX10_usedRooms cX10_usedRooms 3 (some .int) ∈ g_tb := ⟨g_tb_4 149 (by decide +kernel) (by decide +kernel), g_tb_4 150 (by decide +kernel) (by decide +kernel), g_tb_1 11 (by decide +kernel) (by decide +kernel), g_tb_4 151 (by decide +kernel) (by decide +kernel)⟩
theorem wy_X10_guests : Cond.instanceMethod yX10_guests ∈ g_tb ∧ Cond.selects RX10 yX10_guests yX10_guests ∈ g_tb ∧ Cond.initialized yX10_guests.cls ∈ g_tb ∧ Cond.code yX10_guests cX10_guests 1 (some .int) ∈ g_tb := ⟨g_tb_4 158 (by decide +kernel) (by decide +kernel), g_tb_4 159 (by decide +kernel) (by decide +kernel), g_tb_1 11 (by decide +kernel) (by decide +kernel), g_tb_4 160 (by decide +kernel) (by decide +kernel)⟩
theorem wy_X10_heldRooms : Cond.instanceMethod yX10_heldRooms ∈ g_tb ∧ Cond.selects RX10 yX10_heldRooms yX10_heldRooms ∈ g_tb ∧ Cond.initialized yX10_heldRooms.cls ∈ g_tb ∧ Cond.code yX10_heldRooms cX10_heldRooms 3 (some .int) ∈ g_tb := ⟨g_tb_4 154 (by decide +kernel) (by decide +kernel), g_tb_4 155 (by decide +kernel) (by decide +kernel), g_tb_1 11 (by decide +kernel) (by decide +kernel), g_tb_4 156 (by decide +kernel) (by decide +kernel)⟩
theorem wy_X10_billBut : Cond.instanceMethod yX10_billBut ∈ g_tb ∧ Cond.selects RX10 yX10_billBut yX10_billBut ∈ g_tb ∧ Cond.initialized yX10_billBut.cls ∈ g_tb ∧ Cond.code yX10_billBut cX10_billBut 5 (some .int) ∈ g_tb := ⟨g_tb_5 74 (by decide +kernel) (by decide +kernel), g_tb_5 75 (by decide +kernel) (by decide +kernel), g_tb_1 11 (by decide +kernel) (by decide +kernel), g_tb_5 76 (by decide +kernel) (by decide +kernel)⟩
theorem wy_X10_cheapestOf : Cond.instanceMethod yX10_cheapestOf ∈ g_tb ∧ Cond.selects RX10 yX10_cheapestOf yX10_cheapestOf ∈ g_tb ∧ Cond.initialized yX10_cheapestOf.cls ∈ g_tb ∧ Cond.code yX10_cheapestOf cX10_cheapestOf 5 (some .int) ∈ g_tb := ⟨g_tb_5 80 (by decide +kernel) (by decide +kernel), g_tb_in 44 (by decide +kernel) (by decide +kernel), g_tb_1 11 (by decide +kernel) (by decide +kernel), g_tb_5 81 (by decide +kernel) (by decide +kernel)⟩
theorem wy_X11_init : Cond.instanceMethod yX11_init ∈ g_tb ∧ Cond.initialized yX11_init.cls ∈ g_tb ∧ Cond.code yX11_init cX11_init 1 none ∈ g_tb := ⟨g_tb_1 28 (by decide +kernel) (by decide +kernel), g_tb_1 1 (by decide +kernel) (by decide +kernel), g_tb_1 29 (by decide +kernel) (by decide +kernel)⟩
theorem wy_X11_person : Cond.instanceMethod yX11_person ∈ g_tb ∧ Cond.selects RX11 yX11_person yX11_person ∈ g_tb ∧ Cond.initialized yX11_person.cls ∈ g_tb ∧ Cond.code yX11_person cX11_person 8 (some .int) ∈ g_tb := ⟨g_tb_2 87 (by decide +kernel) (by decide +kernel), g_tb_2 88 (by decide +kernel) (by decide +kernel), g_tb_1 1 (by decide +kernel) (by decide +kernel), g_tb_2 89 (by decide +kernel) (by decide +kernel)⟩
theorem wy_X11_friends : Cond.instanceMethod yX11_friends ∈ g_tb ∧ Cond.selects RX11 yX11_friends yX11_friends ∈ g_tb ∧ Cond.initialized yX11_friends.cls ∈ g_tb ∧ Cond.code yX11_friends cX11_friends 6 (some .boolean) ∈ g_tb := ⟨g_tb_2 159 (by decide +kernel) (by decide +kernel), g_tb_2 160 (by decide +kernel) (by decide +kernel), g_tb_1 1 (by decide +kernel) (by decide +kernel), g_tb_2 161 (by decide +kernel) (by decide +kernel)⟩
theorem wy_X11_bar : Cond.instanceMethod yX11_bar ∈ g_tb ∧ Cond.selects RX11 yX11_bar yX11_bar ∈ g_tb ∧ Cond.initialized yX11_bar.cls ∈ g_tb ∧ Cond.code yX11_bar cX11_bar 6 (some .boolean) ∈ g_tb := ⟨g_tb_2 167 (by decide +kernel) (by decide +kernel), g_tb_2 168 (by decide +kernel) (by decide +kernel), g_tb_1 1 (by decide +kernel) (by decide +kernel), g_tb_2 169 (by decide +kernel) (by decide +kernel)⟩
theorem wy_X11_stays : Cond.instanceMethod yX11_stays ∈ g_tb ∧ Cond.selects RX11 yX11_stays yX11_stays ∈ g_tb ∧ Cond.initialized yX11_stays.cls ∈ g_tb ∧ Cond.code yX11_stays cX11_stays 5 (some .boolean) ∈ g_tb := ⟨g_tb_2 175 (by decide +kernel) (by decide +kernel), g_tb_2 176 (by decide +kernel) (by decide +kernel), g_tb_1 1 (by decide +kernel) (by decide +kernel), g_tb_2 177 (by decide +kernel) (by decide +kernel)⟩
theorem wy_X11_gone : Cond.instanceMethod yX11_gone ∈ g_tb ∧ Cond.selects RX11 yX11_gone yX11_gone ∈ g_tb ∧ Cond.initialized yX11_gone.cls ∈ g_tb ∧ Cond.code yX11_gone cX11_gone 4 (some .boolean) ∈ g_tb := ⟨g_tb_2 211 (by decide +kernel) (by decide +kernel), g_tb_2 212 (by decide +kernel) (by decide +kernel), g_tb_1 1 (by decide +kernel) (by decide +kernel), g_tb_2 213 (by decide +kernel) (by decide +kernel)⟩
theorem wy_X11_absent : Cond.instanceMethod yX11_absent ∈ g_tb ∧ Cond.selects RX11 yX11_absent yX11_absent ∈ g_tb ∧ Cond.initialized yX11_absent.cls ∈ g_tb ∧ Cond.code yX11_absent cX11_absent 6 (some .boolean) ∈ g_tb := ⟨g_tb_2 215 (by decide +kernel) (by decide +kernel), g_tb_2 216 (by decide +kernel) (by decide +kernel), g_tb_1 1 (by decide +kernel) (by decide +kernel), g_tb_2 217 (by decide +kernel) (by decide +kernel)⟩
theorem wy_X11_town : Cond.instanceMethod yX11_town ∈ g_tb ∧ Cond.selects RX11 yX11_town yX11_town ∈ g_tb ∧ Cond.initialized yX11_town.cls ∈ g_tb ∧ Cond.code yX11_town cX11_town 2 (some .int) ∈ g_tb := ⟨g_tb_2 219 (by decide +kernel) (by decide +kernel), g_tb_2 220 (by decide +kernel) (by decide +kernel), g_tb_1 1 (by decide +kernel) (by decide +kernel), g_tb_2 221 (by decide +kernel) (by decide +kernel)⟩
theorem wy_X11_start : Cond.instanceMethod yX11_start ∈ g_tb ∧ Cond.selects RX11 yX11_start yX11_start ∈ g_tb ∧ Cond.initialized yX11_start.cls ∈ g_tb ∧ Cond.code yX11_start cX11_start 2 (some .boolean) ∈ g_tb := ⟨g_tb_3 47 (by decide +kernel) (by decide +kernel), g_tb_3 48 (by decide +kernel) (by decide +kernel), g_tb_1 1 (by decide +kernel) (by decide +kernel), g_tb_3 49 (by decide +kernel) (by decide +kernel)⟩
theorem wy_X11_season : Cond.instanceMethod yX11_season ∈ g_tb ∧ Cond.selects RX11 yX11_season yX11_season ∈ g_tb ∧ Cond.initialized yX11_season.cls ∈ g_tb ∧ Cond.code yX11_season cX11_season 2 (some .boolean) ∈ g_tb := ⟨g_tb_3 51 (by decide +kernel) (by decide +kernel), g_tb_3 52 (by decide +kernel) (by decide +kernel), g_tb_1 1 (by decide +kernel) (by decide +kernel), g_tb_3 53 (by decide +kernel) (by decide +kernel)⟩
theorem wy_X11_day : Cond.instanceMethod yX11_day ∈ g_tb ∧ Cond.selects RX11 yX11_day yX11_day ∈ g_tb ∧ Cond.initialized yX11_day.cls ∈ g_tb ∧ Cond.code yX11_day cX11_day 2 (some .int) ∈ g_tb := ⟨g_tb_3 55 (by decide +kernel) (by decide +kernel), g_tb_3 56 (by decide +kernel) (by decide +kernel), g_tb_1 1 (by decide +kernel) (by decide +kernel), g_tb_3 57 (by decide +kernel) (by decide +kernel)⟩
theorem wy_X11_room : Cond.instanceMethod yX11_room ∈ g_tb ∧ Cond.selects RX11 yX11_room yX11_room ∈ g_tb ∧ Cond.initialized yX11_room.cls ∈ g_tb ∧ Cond.code yX11_room cX11_room 6 (some .int) ∈ g_tb := ⟨g_tb_3 59 (by decide +kernel) (by decide +kernel), g_tb_3 60 (by decide +kernel) (by decide +kernel), g_tb_1 1 (by decide +kernel) (by decide +kernel), g_tb_3 61 (by decide +kernel) (by decide +kernel)⟩
theorem wy_X11_put : Cond.instanceMethod yX11_put ∈ g_tb ∧ Cond.selects RX11 yX11_put yX11_put ∈ g_tb ∧ Cond.initialized yX11_put.cls ∈ g_tb ∧ Cond.code yX11_put cX11_put 5 (some .boolean) ∈ g_tb := ⟨g_tb_3 107 (by decide +kernel) (by decide +kernel), g_tb_3 108 (by decide +kernel) (by decide +kernel), g_tb_1 1 (by decide +kernel) (by decide +kernel), g_tb_3 109 (by decide +kernel) (by decide +kernel)⟩
theorem wy_X11_settle : Cond.instanceMethod yX11_settle ∈ g_tb ∧ Cond.selects RX11 yX11_settle yX11_settle ∈ g_tb ∧ Cond.initialized yX11_settle.cls ∈ g_tb ∧ Cond.code yX11_settle cX11_settle 5 (some .int) ∈ g_tb := ⟨g_tb_3 147 (by decide +kernel) (by decide +kernel), g_tb_3 148 (by decide +kernel) (by decide +kernel), g_tb_1 1 (by decide +kernel) (by decide +kernel), g_tb_3 149 (by decide +kernel) (by decide +kernel)⟩
theorem wy_X11_moved : Cond.instanceMethod yX11_moved ∈ g_tb ∧ Cond.selects RX11 yX11_moved yX11_moved ∈ g_tb ∧ Cond.initialized yX11_moved.cls ∈ g_tb ∧ Cond.code yX11_moved cX11_moved 1 (some .int) ∈ g_tb := ⟨g_tb_3 203 (by decide +kernel) (by decide +kernel), g_tb_3 204 (by decide +kernel) (by decide +kernel), g_tb_1 1 (by decide +kernel) (by decide +kernel), g_tb_3 205 (by decide +kernel) (by decide +kernel)⟩
theorem wy_X11_most : Cond.instanceMethod yX11_most ∈ g_tb ∧ Cond.selects RX11 yX11_most yX11_most ∈ g_tb ∧ Cond.initialized yX11_most.cls ∈ g_tb ∧ Cond.code yX11_most cX11_most 3 (some .int) ∈ g_tb := ⟨g_tb_3 207 (by decide +kernel) (by decide +kernel), g_tb_3 208 (by decide +kernel) (by decide +kernel), g_tb_1 1 (by decide +kernel) (by decide +kernel), g_tb_3 209 (by decide +kernel) (by decide +kernel)⟩
theorem wy_X11_right : Cond.instanceMethod yX11_right ∈ g_tb ∧ Cond.selects RX11 yX11_right yX11_right ∈ g_tb ∧ Cond.initialized yX11_right.cls ∈ g_tb ∧ Cond.code yX11_right cX11_right 3 (some .boolean) ∈ g_tb := ⟨g_tb_3 218 (by decide +kernel) (by decide +kernel), g_tb_3 219 (by decide +kernel) (by decide +kernel), g_tb_1 1 (by decide +kernel) (by decide +kernel), g_tb_3 220 (by decide +kernel) (by decide +kernel)⟩
theorem wy_X11_listed : Cond.instanceMethod yX11_listed ∈ g_tb ∧ Cond.selects RX11 yX11_listed yX11_listed ∈ g_tb ∧ Cond.initialized yX11_listed.cls ∈ g_tb ∧ Cond.code yX11_listed cX11_listed 4 (some .int) ∈ g_tb := ⟨g_tb_3 228 (by decide +kernel) (by decide +kernel), g_tb_3 229 (by decide +kernel) (by decide +kernel), g_tb_1 1 (by decide +kernel) (by decide +kernel), g_tb_3 230 (by decide +kernel) (by decide +kernel)⟩
theorem wy_X11_feed : Cond.instanceMethod yX11_feed ∈ g_tb ∧ Cond.selects RX11 yX11_feed yX11_feed ∈ g_tb ∧ Cond.initialized yX11_feed.cls ∈ g_tb ∧ Cond.code yX11_feed cX11_feed 7 (some .int) ∈ g_tb := ⟨g_tb_3 236 (by decide +kernel) (by decide +kernel), g_tb_3 237 (by decide +kernel) (by decide +kernel), g_tb_1 1 (by decide +kernel) (by decide +kernel), g_tb_3 238 (by decide +kernel) (by decide +kernel)⟩
theorem wy_X11_read : Cond.instanceMethod yX11_read ∈ g_tb ∧ Cond.selects RX11 yX11_read yX11_read ∈ g_tb ∧ Cond.initialized yX11_read.cls ∈ g_tb ∧ Cond.code yX11_read cX11_read 4 (some .int) ∈ g_tb := ⟨g_tb_4 4 (by decide +kernel) (by decide +kernel), g_tb_4 5 (by decide +kernel) (by decide +kernel), g_tb_1 1 (by decide +kernel) (by decide +kernel), g_tb_4 6 (by decide +kernel) (by decide +kernel)⟩
theorem wy_X11_worth : Cond.instanceMethod yX11_worth ∈ g_tb ∧ Cond.selects RX11 yX11_worth yX11_worth ∈ g_tb ∧ Cond.initialized yX11_worth.cls ∈ g_tb ∧ Cond.code yX11_worth cX11_worth 4 (some .int) ∈ g_tb := ⟨g_tb_4 137 (by decide +kernel) (by decide +kernel), g_tb_4 138 (by decide +kernel) (by decide +kernel), g_tb_1 1 (by decide +kernel) (by decide +kernel), g_tb_4 139 (by decide +kernel) (by decide +kernel)⟩
theorem wy_X11_give : Cond.instanceMethod yX11_give ∈ g_tb ∧ Cond.selects RX11 yX11_give yX11_give ∈ g_tb ∧ Cond.initialized yX11_give.cls ∈ g_tb ∧ Cond.code yX11_give cX11_give 6 (some .int) ∈ g_tb := ⟨g_tb_4 183 (by decide +kernel) (by decide +kernel), g_tb_4 184 (by decide +kernel) (by decide +kernel), g_tb_1 1 (by decide +kernel) (by decide +kernel), g_tb_4 185 (by decide +kernel) (by decide +kernel)⟩
theorem wy_X11_buy : Cond.instanceMethod yX11_buy ∈ g_tb ∧ Cond.selects RX11 yX11_buy yX11_buy ∈ g_tb ∧ Cond.initialized yX11_buy.cls ∈ g_tb ∧ Cond.code yX11_buy cX11_buy 6 (some .int) ∈ g_tb := ⟨g_tb_4 193 (by decide +kernel) (by decide +kernel), g_tb_4 194 (by decide +kernel) (by decide +kernel), g_tb_1 1 (by decide +kernel) (by decide +kernel), g_tb_4 195 (by decide +kernel) (by decide +kernel)⟩
theorem wy_X11_loss : Cond.instanceMethod yX11_loss ∈ g_tb ∧ Cond.selects RX11 yX11_loss yX11_loss ∈ g_tb ∧ Cond.initialized yX11_loss.cls ∈ g_tb ∧ Cond.code yX11_loss cX11_loss 6 (some .int) ∈ g_tb := ⟨g_tb_4 197 (by decide +kernel) (by decide +kernel), g_tb_4 198 (by decide +kernel) (by decide +kernel), g_tb_1 1 (by decide +kernel) (by decide +kernel), g_tb_4 199 (by decide +kernel) (by decide +kernel)⟩
theorem wy_X11_gives : Cond.instanceMethod yX11_gives ∈ g_tb ∧ Cond.selects RX11 yX11_gives yX11_gives ∈ g_tb ∧ Cond.initialized yX11_gives.cls ∈ g_tb ∧ Cond.code yX11_gives cX11_gives 6 (some .int) ∈ g_tb := ⟨g_tb_5 0 (by decide +kernel) (by decide +kernel), g_tb_5 1 (by decide +kernel) (by decide +kernel), g_tb_1 1 (by decide +kernel) (by decide +kernel), g_tb_5 2 (by decide +kernel) (by decide +kernel)⟩
theorem wy_X11_sight : Cond.instanceMethod yX11_sight ∈ g_tb ∧ Cond.selects RX11 yX11_sight yX11_sight ∈ g_tb ∧ Cond.initialized yX11_sight.cls ∈ g_tb ∧ Cond.code yX11_sight cX11_sight 4 (some .int) ∈ g_tb := ⟨g_tb_5 4 (by decide +kernel) (by decide +kernel), g_tb_5 5 (by decide +kernel) (by decide +kernel), g_tb_1 1 (by decide +kernel) (by decide +kernel), g_tb_5 6 (by decide +kernel) (by decide +kernel)⟩
theorem wy_X11_way : Cond.instanceMethod yX11_way ∈ g_tb ∧ Cond.selects RX11 yX11_way yX11_way ∈ g_tb ∧ Cond.initialized yX11_way.cls ∈ g_tb ∧ Cond.code yX11_way cX11_way 4 (some .boolean) ∈ g_tb := ⟨g_tb_5 13 (by decide +kernel) (by decide +kernel), g_tb_5 14 (by decide +kernel) (by decide +kernel), g_tb_1 1 (by decide +kernel) (by decide +kernel), g_tb_5 15 (by decide +kernel) (by decide +kernel)⟩
theorem wy_X11_clear : Cond.instanceMethod yX11_clear ∈ g_tb ∧ Cond.selects RX11 yX11_clear yX11_clear ∈ g_tb ∧ Cond.initialized yX11_clear.cls ∈ g_tb ∧ Cond.code yX11_clear cX11_clear 1 (some .int) ∈ g_tb := ⟨g_tb_5 21 (by decide +kernel) (by decide +kernel), g_tb_5 22 (by decide +kernel) (by decide +kernel), g_tb_1 1 (by decide +kernel) (by decide +kernel), g_tb_5 23 (by decide +kernel) (by decide +kernel)⟩
theorem wy_X11_trip : Cond.instanceMethod yX11_trip ∈ g_tb ∧ Cond.selects RX11 yX11_trip yX11_trip ∈ g_tb ∧ Cond.initialized yX11_trip.cls ∈ g_tb ∧ Cond.code yX11_trip cX11_trip 2 (some .int) ∈ g_tb := ⟨g_tb_5 29 (by decide +kernel) (by decide +kernel), g_tb_5 30 (by decide +kernel) (by decide +kernel), g_tb_1 1 (by decide +kernel) (by decide +kernel), g_tb_5 31 (by decide +kernel) (by decide +kernel)⟩
theorem wy_X11_tripOf : Cond.instanceMethod yX11_tripOf ∈ g_tb ∧ Cond.selects RX11 yX11_tripOf yX11_tripOf ∈ g_tb ∧ Cond.initialized yX11_tripOf.cls ∈ g_tb ∧ Cond.code yX11_tripOf cX11_tripOf 2 (some .int) ∈ g_tb := ⟨g_tb_5 50 (by decide +kernel) (by decide +kernel), g_tb_5 51 (by decide +kernel) (by decide +kernel), g_tb_1 1 (by decide +kernel) (by decide +kernel), g_tb_5 52 (by decide +kernel) (by decide +kernel)⟩
theorem wy_X11_night : Cond.instanceMethod yX11_night ∈ g_tb ∧ Cond.selects RX11 yX11_night yX11_night ∈ g_tb ∧ Cond.initialized yX11_night.cls ∈ g_tb ∧ Cond.code yX11_night cX11_night 4 (some .int) ∈ g_tb := ⟨g_tb_5 58 (by decide +kernel) (by decide +kernel), g_tb_5 59 (by decide +kernel) (by decide +kernel), g_tb_1 1 (by decide +kernel) (by decide +kernel), g_tb_5 60 (by decide +kernel) (by decide +kernel)⟩
theorem wy_X11_lay : Cond.instanceMethod yX11_lay ∈ g_tb ∧ Cond.selects RX11 yX11_lay yX11_lay ∈ g_tb ∧ Cond.initialized yX11_lay.cls ∈ g_tb ∧ Cond.code yX11_lay cX11_lay 3 (some .int) ∈ g_tb := ⟨g_tb_5 88 (by decide +kernel) (by decide +kernel), g_tb_5 89 (by decide +kernel) (by decide +kernel), g_tb_1 1 (by decide +kernel) (by decide +kernel), g_tb_5 90 (by decide +kernel) (by decide +kernel)⟩
theorem wy_X11_bill : Cond.instanceMethod yX11_bill ∈ g_tb ∧ Cond.selects RX11 yX11_bill yX11_bill ∈ g_tb ∧ Cond.initialized yX11_bill.cls ∈ g_tb ∧ Cond.code yX11_bill cX11_bill 2 (some .int) ∈ g_tb := ⟨g_tb_5 129 (by decide +kernel) (by decide +kernel), g_tb_5 130 (by decide +kernel) (by decide +kernel), g_tb_1 1 (by decide +kernel) (by decide +kernel), g_tb_5 131 (by decide +kernel) (by decide +kernel)⟩
theorem wy_X11_owes : Cond.instanceMethod yX11_owes ∈ g_tb ∧ Cond.selects RX11 yX11_owes yX11_owes ∈ g_tb ∧ Cond.initialized yX11_owes.cls ∈ g_tb ∧ Cond.code yX11_owes cX11_owes 3 (some .int) ∈ g_tb := ⟨g_tb_5 201 (by decide +kernel) (by decide +kernel), g_tb_5 202 (by decide +kernel) (by decide +kernel), g_tb_1 1 (by decide +kernel) (by decide +kernel), g_tb_5 203 (by decide +kernel) (by decide +kernel)⟩
theorem wy_X11_meals : Cond.instanceMethod yX11_meals ∈ g_tb ∧ Cond.selects RX11 yX11_meals yX11_meals ∈ g_tb ∧ Cond.initialized yX11_meals.cls ∈ g_tb ∧ Cond.code yX11_meals cX11_meals 4 (some .int) ∈ g_tb := ⟨g_tb_5 97 (by decide +kernel) (by decide +kernel), g_tb_5 98 (by decide +kernel) (by decide +kernel), g_tb_1 1 (by decide +kernel) (by decide +kernel), g_tb_5 99 (by decide +kernel) (by decide +kernel)⟩
theorem wy_X11_townOf : Cond.instanceMethod yX11_townOf ∈ g_tb ∧ Cond.selects RX11 yX11_townOf yX11_townOf ∈ g_tb ∧ Cond.initialized yX11_townOf.cls ∈ g_tb ∧ Cond.code yX11_townOf cX11_townOf 4 (some .int) ∈ g_tb := ⟨g_tb_5 105 (by decide +kernel) (by decide +kernel), g_tb_5 106 (by decide +kernel) (by decide +kernel), g_tb_1 1 (by decide +kernel) (by decide +kernel), g_tb_5 107 (by decide +kernel) (by decide +kernel)⟩
theorem wy_X11_roomOf : Cond.instanceMethod yX11_roomOf ∈ g_tb ∧ Cond.selects RX11 yX11_roomOf yX11_roomOf ∈ g_tb ∧ Cond.initialized yX11_roomOf.cls ∈ g_tb ∧ Cond.code yX11_roomOf cX11_roomOf 6 (some .int) ∈ g_tb := ⟨g_tb_5 109 (by decide +kernel) (by decide +kernel), g_tb_5 110 (by decide +kernel) (by decide +kernel), g_tb_1 1 (by decide +kernel) (by decide +kernel), g_tb_5 111 (by decide +kernel) (by decide +kernel)⟩
theorem wy_X11_personOf : Cond.instanceMethod yX11_personOf ∈ g_tb ∧ Cond.selects RX11 yX11_personOf yX11_personOf ∈ g_tb ∧ Cond.initialized yX11_personOf.cls ∈ g_tb ∧ Cond.code yX11_personOf cX11_personOf 4 (some .int) ∈ g_tb := ⟨g_tb_5 113 (by decide +kernel) (by decide +kernel), g_tb_5 114 (by decide +kernel) (by decide +kernel), g_tb_1 1 (by decide +kernel) (by decide +kernel), g_tb_5 115 (by decide +kernel) (by decide +kernel)⟩
theorem wy_X11_count : Cond.instanceMethod yX11_count ∈ g_tb ∧ Cond.selects RX11 yX11_count yX11_count ∈ g_tb ∧ Cond.initialized yX11_count.cls ∈ g_tb ∧ Cond.code yX11_count cX11_count 2 (some .int) ∈ g_tb := ⟨g_tb_5 121 (by decide +kernel) (by decide +kernel), g_tb_5 122 (by decide +kernel) (by decide +kernel), g_tb_1 1 (by decide +kernel) (by decide +kernel), g_tb_5 123 (by decide +kernel) (by decide +kernel)⟩
theorem wy_X11_isWithin : Cond.static yX11_isWithin ∈ g_tb ∧ Cond.initialized yX11_isWithin.cls ∈ g_tb ∧ Cond.code yX11_isWithin cX11_isWithin 3 (some .boolean) ∈ g_tb := ⟨g_tb_2 91 (by decide +kernel) (by decide +kernel), g_tb_1 1 (by decide +kernel) (by decide +kernel), g_tb_2 92 (by decide +kernel) (by decide +kernel)⟩
theorem wy_X11_isStay : Cond.static yX11_isStay ∈ g_tb ∧ Cond.initialized yX11_isStay.cls ∈ g_tb ∧ Cond.code yX11_isStay cX11_isStay 2 (some .boolean) ∈ g_tb := ⟨g_tb_2 94 (by decide +kernel) (by decide +kernel), g_tb_1 1 (by decide +kernel) (by decide +kernel), g_tb_2 95 (by decide +kernel) (by decide +kernel)⟩
theorem wy_X11_townAt : Cond.instanceMethod yX11_townAt ∈ g_tb ∧ Cond.selects RX11 yX11_townAt yX11_townAt ∈ g_tb ∧ Cond.initialized yX11_townAt.cls ∈ g_tb ∧ Cond.code yX11_townAt cX11_townAt 2 (some (.object RX10)) ∈ g_tb := ⟨g_tb_3 68 (by decide +kernel) (by decide +kernel), g_tb_in 5 (by decide +kernel) (by decide +kernel), g_tb_1 1 (by decide +kernel) (by decide +kernel), g_tb_3 69 (by decide +kernel) (by decide +kernel)⟩
theorem wy_X11_isOver : Cond.instanceMethod yX11_isOver ∈ g_tb ∧ Cond.selects RX11 yX11_isOver yX11_isOver ∈ g_tb ∧ Cond.initialized yX11_isOver.cls ∈ g_tb ∧ Cond.code yX11_isOver cX11_isOver 2 (some .boolean) ∈ g_tb := ⟨g_tb_2 188 (by decide +kernel) (by decide +kernel), g_tb_in 2 (by decide +kernel) (by decide +kernel), g_tb_1 1 (by decide +kernel) (by decide +kernel), g_tb_2 189 (by decide +kernel) (by decide +kernel)⟩
theorem wy_X11_townThatLasts : Cond.instanceMethod yX11_townThatLasts ∈ g_tb ∧ Cond.selects RX11 yX11_townThatLasts yX11_townThatLasts ∈ g_tb ∧ Cond.initialized yX11_townThatLasts.cls ∈ g_tb ∧ Cond.code yX11_townThatLasts cX11_townThatLasts 3 (some (.object RX10)) ∈ g_tb := ⟨g_tb_3 64 (by decide +kernel) (by decide +kernel), g_tb_in 4 (by decide +kernel) (by decide +kernel), g_tb_1 1 (by decide +kernel) (by decide +kernel), g_tb_3 65 (by decide +kernel) (by decide +kernel)⟩
theorem wy_X11_townOfNight : Cond.instanceMethod yX11_townOfNight ∈ g_tb ∧ Cond.selects RX11 yX11_townOfNight yX11_townOfNight ∈ g_tb ∧ Cond.initialized yX11_townOfNight.cls ∈ g_tb ∧ Cond.code yX11_townOfNight cX11_townOfNight 4 (some (.object RX10)) ∈ g_tb := ⟨g_tb_5 63 (by decide +kernel) (by decide +kernel), g_tb_in 42 (by decide +kernel) (by decide +kernel), g_tb_1 1 (by decide +kernel) (by decide +kernel), g_tb_5 64 (by decide +kernel) (by decide +kernel)⟩
theorem wy_X11_list : Cond.instanceMethod yX11_list ∈ g_tb ∧ Cond.selects RX11 yX11_list yX11_list ∈ g_tb ∧ Cond.initialized yX11_list.cls ∈ g_tb ∧ Cond.code yX11_list cX11_list 4 none ∈ g_tb := ⟨g_tb_2 200 (by decide +kernel) (by decide +kernel), g_tb_in 3 (by decide +kernel) (by decide +kernel), g_tb_1 1 (by decide +kernel) (by decide +kernel), g_tb_2 201 (by decide +kernel) (by decide +kernel)⟩
theorem wy_X11_leave : Cond.instanceMethod yX11_leave ∈ g_tb ∧ Cond.selects RX11 yX11_leave yX11_leave ∈ g_tb ∧ Cond.initialized yX11_leave.cls ∈ g_tb ∧ Cond.code yX11_leave cX11_leave 6 (some .boolean) ∈ g_tb := ⟨g_tb_2 180 (by decide +kernel) (by decide +kernel), g_tb_in 0 (by decide +kernel) (by decide +kernel), g_tb_1 1 (by decide +kernel) (by decide +kernel), g_tb_2 181 (by decide +kernel) (by decide +kernel)⟩
theorem wy_X11_mustLeave : Cond.instanceMethod yX11_mustLeave ∈ g_tb ∧ Cond.selects RX11 yX11_mustLeave yX11_mustLeave ∈ g_tb ∧ Cond.initialized yX11_mustLeave.cls ∈ g_tb ∧ Cond.code yX11_mustLeave cX11_mustLeave 6 (some .boolean) ∈ g_tb := ⟨g_tb_2 184 (by decide +kernel) (by decide +kernel), g_tb_in 1 (by decide +kernel) (by decide +kernel), g_tb_1 1 (by decide +kernel) (by decide +kernel), g_tb_2 185 (by decide +kernel) (by decide +kernel)⟩
theorem wy_X11_learnFacts : Cond.instanceMethod yX11_learnFacts ∈ g_tb ∧ Cond.selects RX11 yX11_learnFacts yX11_learnFacts ∈ g_tb ∧ Cond.initialized yX11_learnFacts.cls ∈ g_tb ∧ Cond.code yX11_learnFacts cX11_learnFacts 4 none ∈ g_tb := ⟨g_tb_4 146 (by decide +kernel) (by decide +kernel), g_tb_in 29 (by decide +kernel) (by decide +kernel), g_tb_1 1 (by decide +kernel) (by decide +kernel), g_tb_4 147 (by decide +kernel) (by decide +kernel)⟩
theorem wy_X11_worthNow : Cond.instanceMethod yX11_worthNow ∈ g_tb ∧ Cond.selects RX11 yX11_worthNow yX11_worthNow ∈ g_tb ∧ Cond.initialized yX11_worthNow.cls ∈ g_tb ∧ Cond.code yX11_worthNow cX11_worthNow 3 (some .int) ∈ g_tb := ⟨g_tb_4 142 (by decide +kernel) (by decide +kernel), g_tb_in 28 (by decide +kernel) (by decide +kernel), g_tb_1 1 (by decide +kernel) (by decide +kernel), g_tb_4 143 (by decide +kernel) (by decide +kernel)⟩
theorem wy_X11_priceOfChange : Cond.instanceMethod yX11_priceOfChange ∈ g_tb ∧ Cond.selects RX11 yX11_priceOfChange yX11_priceOfChange ∈ g_tb ∧ Cond.initialized yX11_priceOfChange.cls ∈ g_tb ∧ Cond.code yX11_priceOfChange cX11_priceOfChange 6 (some .int) ∈ g_tb := ⟨g_tb_4 190 (by decide +kernel) (by decide +kernel), g_tb_in 31 (by decide +kernel) (by decide +kernel), g_tb_1 1 (by decide +kernel) (by decide +kernel), g_tb_4 191 (by decide +kernel) (by decide +kernel)⟩
theorem wy_X11_foresee : Cond.instanceMethod yX11_foresee ∈ g_tb ∧ Cond.selects RX11 yX11_foresee yX11_foresee ∈ g_tb ∧ Cond.initialized yX11_foresee.cls ∈ g_tb ∧ Cond.code yX11_foresee cX11_foresee 7 (some .boolean) ∈ g_tb := ⟨g_tb_4 202 (by decide +kernel) (by decide +kernel), g_tb_in 32 (by decide +kernel) (by decide +kernel), g_tb_1 1 (by decide +kernel) (by decide +kernel), g_tb_4 203 (by decide +kernel) (by decide +kernel)⟩
theorem wy_X11_charge : Cond.instanceMethod yX11_charge ∈ g_tb ∧ Cond.selects RX11 yX11_charge yX11_charge ∈ g_tb ∧ Cond.initialized yX11_charge.cls ∈ g_tb ∧ Cond.code yX11_charge cX11_charge 10 none ∈ g_tb := ⟨g_tb_5 67 (by decide +kernel) (by decide +kernel), g_tb_in 43 (by decide +kernel) (by decide +kernel), g_tb_1 1 (by decide +kernel) (by decide +kernel), g_tb_5 68 (by decide +kernel) (by decide +kernel)⟩
theorem wy_X12_thrown : Cond.instanceMethod yX12_thrown ∈ g_tb ∧ Cond.selects RX12 yX12_thrown yX12_thrown ∈ g_tb ∧ Cond.initialized yX12_thrown.cls ∈ g_tb ∧ Cond.code yX12_thrown cX12_thrown 1 (some .int) ∈ g_tb := ⟨g_tb_5 206 (by decide +kernel) (by decide +kernel), g_tb_5 207 (by decide +kernel) (by decide +kernel), g_tb_1 9 (by decide +kernel) (by decide +kernel), g_tb_5 208 (by decide +kernel) (by decide +kernel)⟩
theorem wy_X12_in : Cond.static yX12_in ∈ g_tb ∧ Cond.initialized yX12_in.cls ∈ g_tb ∧ Cond.code yX12_in cX12_in 3 (some .boolean) ∈ g_tb := ⟨g_tb_6 215 (by decide +kernel) (by decide +kernel), g_tb_1 9 (by decide +kernel) (by decide +kernel), g_tb_6 216 (by decide +kernel) (by decide +kernel)⟩
theorem wy_X12_init : Cond.instanceMethod yX12_init ∈ g_tb ∧ Cond.initialized yX12_init.cls ∈ g_tb ∧ Cond.code yX12_init cX12_init 2 none ∈ g_tb := ⟨g_tb_5 212 (by decide +kernel) (by decide +kernel), g_tb_1 9 (by decide +kernel) (by decide +kernel), g_tb_5 213 (by decide +kernel) (by decide +kernel)⟩
theorem wy_X12_isPerson : Cond.instanceMethod yX12_isPerson ∈ g_tb ∧ Cond.selects RX12 yX12_isPerson yX12_isPerson ∈ g_tb ∧ Cond.initialized yX12_isPerson.cls ∈ g_tb ∧ Cond.code yX12_isPerson cX12_isPerson 2 (some .boolean) ∈ g_tb := ⟨g_tb_6 223 (by decide +kernel) (by decide +kernel), g_tb_in 46 (by decide +kernel) (by decide +kernel), g_tb_1 9 (by decide +kernel) (by decide +kernel), g_tb_6 224 (by decide +kernel) (by decide +kernel)⟩
theorem wy_X12_isTown : Cond.instanceMethod yX12_isTown ∈ g_tb ∧ Cond.selects RX12 yX12_isTown yX12_isTown ∈ g_tb ∧ Cond.initialized yX12_isTown.cls ∈ g_tb ∧ Cond.code yX12_isTown cX12_isTown 2 (some .boolean) ∈ g_tb := ⟨g_tb_7 39 (by decide +kernel) (by decide +kernel), g_tb_in 51 (by decide +kernel) (by decide +kernel), g_tb_1 9 (by decide +kernel) (by decide +kernel), g_tb_7 40 (by decide +kernel) (by decide +kernel)⟩
theorem wy_X12_isOver : Cond.instanceMethod yX12_isOver ∈ g_tb ∧ Cond.selects RX12 yX12_isOver yX12_isOver ∈ g_tb ∧ Cond.initialized yX12_isOver.cls ∈ g_tb ∧ Cond.code yX12_isOver cX12_isOver 2 (some .boolean) ∈ g_tb := ⟨g_tb_6 239 (by decide +kernel) (by decide +kernel), g_tb_in 48 (by decide +kernel) (by decide +kernel), g_tb_1 9 (by decide +kernel) (by decide +kernel), g_tb_7 0 (by decide +kernel) (by decide +kernel)⟩
theorem wy_X12_isOpen : Cond.instanceMethod yX12_isOpen ∈ g_tb ∧ Cond.selects RX12 yX12_isOpen yX12_isOpen ∈ g_tb ∧ Cond.initialized yX12_isOpen.cls ∈ g_tb ∧ Cond.code yX12_isOpen cX12_isOpen 2 (some .boolean) ∈ g_tb := ⟨g_tb_7 35 (by decide +kernel) (by decide +kernel), g_tb_in 50 (by decide +kernel) (by decide +kernel), g_tb_1 9 (by decide +kernel) (by decide +kernel), g_tb_7 36 (by decide +kernel) (by decide +kernel)⟩
theorem wy_X12_isThere : Cond.instanceMethod yX12_isThere ∈ g_tb ∧ Cond.selects RX12 yX12_isThere yX12_isThere ∈ g_tb ∧ Cond.initialized yX12_isThere.cls ∈ g_tb ∧ Cond.code yX12_isThere cX12_isThere 3 (some .boolean) ∈ g_tb := ⟨g_tb_7 47 (by decide +kernel) (by decide +kernel), g_tb_in 52 (by decide +kernel) (by decide +kernel), g_tb_1 9 (by decide +kernel) (by decide +kernel), g_tb_7 48 (by decide +kernel) (by decide +kernel)⟩
theorem wy_X12_isRoom : Cond.instanceMethod yX12_isRoom ∈ g_tb ∧ Cond.selects RX12 yX12_isRoom yX12_isRoom ∈ g_tb ∧ Cond.initialized yX12_isRoom.cls ∈ g_tb ∧ Cond.code yX12_isRoom cX12_isRoom 3 (some .boolean) ∈ g_tb := ⟨g_tb_7 51 (by decide +kernel) (by decide +kernel), g_tb_in 53 (by decide +kernel) (by decide +kernel), g_tb_1 9 (by decide +kernel) (by decide +kernel), g_tb_7 52 (by decide +kernel) (by decide +kernel)⟩
theorem wy_X12_mayShare : Cond.instanceMethod yX12_mayShare ∈ g_tb ∧ Cond.selects RX12 yX12_mayShare yX12_mayShare ∈ g_tb ∧ Cond.initialized yX12_mayShare.cls ∈ g_tb ∧ Cond.code yX12_mayShare cX12_mayShare 3 (some .boolean) ∈ g_tb := ⟨g_tb_7 59 (by decide +kernel) (by decide +kernel), g_tb_in 55 (by decide +kernel) (by decide +kernel), g_tb_1 9 (by decide +kernel) (by decide +kernel), g_tb_7 60 (by decide +kernel) (by decide +kernel)⟩
theorem wy_X12_person : Cond.instanceMethod yX12_person ∈ g_tb ∧ Cond.selects RX12 yX12_person yX12_person ∈ g_tb ∧ Cond.initialized yX12_person.cls ∈ g_tb ∧ Cond.code yX12_person cX12_person 7 (some .int) ∈ g_tb := ⟨g_tb_6 211 (by decide +kernel) (by decide +kernel), g_tb_6 212 (by decide +kernel) (by decide +kernel), g_tb_1 9 (by decide +kernel) (by decide +kernel), g_tb_6 213 (by decide +kernel) (by decide +kernel)⟩
theorem wy_X12_friends : Cond.instanceMethod yX12_friends ∈ g_tb ∧ Cond.selects RX12 yX12_friends yX12_friends ∈ g_tb ∧ Cond.initialized yX12_friends.cls ∈ g_tb ∧ Cond.code yX12_friends cX12_friends 4 (some .boolean) ∈ g_tb := ⟨g_tb_6 218 (by decide +kernel) (by decide +kernel), g_tb_6 219 (by decide +kernel) (by decide +kernel), g_tb_1 9 (by decide +kernel) (by decide +kernel), g_tb_6 220 (by decide +kernel) (by decide +kernel)⟩
theorem wy_X12_bar : Cond.instanceMethod yX12_bar ∈ g_tb ∧ Cond.selects RX12 yX12_bar yX12_bar ∈ g_tb ∧ Cond.initialized yX12_bar.cls ∈ g_tb ∧ Cond.code yX12_bar cX12_bar 4 (some .boolean) ∈ g_tb := ⟨g_tb_6 226 (by decide +kernel) (by decide +kernel), g_tb_6 227 (by decide +kernel) (by decide +kernel), g_tb_1 9 (by decide +kernel) (by decide +kernel), g_tb_6 228 (by decide +kernel) (by decide +kernel)⟩
theorem wy_X12_notes : Cond.instanceMethod yX12_notes ∈ g_tb ∧ Cond.selects RX12 yX12_notes yX12_notes ∈ g_tb ∧ Cond.initialized yX12_notes.cls ∈ g_tb ∧ Cond.code yX12_notes cX12_notes 5 none ∈ g_tb := ⟨g_tb_7 3 (by decide +kernel) (by decide +kernel), g_tb_in 49 (by decide +kernel) (by decide +kernel), g_tb_1 9 (by decide +kernel) (by decide +kernel), g_tb_7 4 (by decide +kernel) (by decide +kernel)⟩
theorem wy_X12_leaves : Cond.instanceMethod yX12_leaves ∈ g_tb ∧ Cond.selects RX12 yX12_leaves yX12_leaves ∈ g_tb ∧ Cond.initialized yX12_leaves.cls ∈ g_tb ∧ Cond.code yX12_leaves cX12_leaves 6 (some .boolean) ∈ g_tb := ⟨g_tb_6 235 (by decide +kernel) (by decide +kernel), g_tb_in 47 (by decide +kernel) (by decide +kernel), g_tb_1 9 (by decide +kernel) (by decide +kernel), g_tb_6 236 (by decide +kernel) (by decide +kernel)⟩
theorem wy_X12_stays : Cond.instanceMethod yX12_stays ∈ g_tb ∧ Cond.selects RX12 yX12_stays yX12_stays ∈ g_tb ∧ Cond.initialized yX12_stays.cls ∈ g_tb ∧ Cond.code yX12_stays cX12_stays 4 (some .boolean) ∈ g_tb := ⟨g_tb_6 230 (by decide +kernel) (by decide +kernel), g_tb_6 231 (by decide +kernel) (by decide +kernel), g_tb_1 9 (by decide +kernel) (by decide +kernel), g_tb_6 232 (by decide +kernel) (by decide +kernel)⟩
theorem wy_X12_gone : Cond.instanceMethod yX12_gone ∈ g_tb ∧ Cond.selects RX12 yX12_gone yX12_gone ∈ g_tb ∧ Cond.initialized yX12_gone.cls ∈ g_tb ∧ Cond.code yX12_gone cX12_gone 2 (some .boolean) ∈ g_tb := ⟨g_tb_7 6 (by decide +kernel) (by decide +kernel), g_tb_7 7 (by decide +kernel) (by decide +kernel), g_tb_1 9 (by decide +kernel) (by decide +kernel), g_tb_7 8 (by decide +kernel) (by decide +kernel)⟩
theorem wy_X12_absent : Cond.instanceMethod yX12_absent ∈ g_tb ∧ Cond.selects RX12 yX12_absent yX12_absent ∈ g_tb ∧ Cond.initialized yX12_absent.cls ∈ g_tb ∧ Cond.code yX12_absent cX12_absent 4 (some .boolean) ∈ g_tb := ⟨g_tb_7 10 (by decide +kernel) (by decide +kernel), g_tb_7 11 (by decide +kernel) (by decide +kernel), g_tb_1 9 (by decide +kernel) (by decide +kernel), g_tb_7 12 (by decide +kernel) (by decide +kernel)⟩
theorem wy_X12_town : Cond.instanceMethod yX12_town ∈ g_tb ∧ Cond.selects RX12 yX12_town yX12_town ∈ g_tb ∧ Cond.initialized yX12_town.cls ∈ g_tb ∧ Cond.code yX12_town cX12_town 2 (some .int) ∈ g_tb := ⟨g_tb_7 14 (by decide +kernel) (by decide +kernel), g_tb_7 15 (by decide +kernel) (by decide +kernel), g_tb_1 9 (by decide +kernel) (by decide +kernel), g_tb_7 16 (by decide +kernel) (by decide +kernel)⟩
theorem wy_X12_start : Cond.instanceMethod yX12_start ∈ g_tb ∧ Cond.selects RX12 yX12_start yX12_start ∈ g_tb ∧ Cond.initialized yX12_start.cls ∈ g_tb ∧ Cond.code yX12_start cX12_start 2 (some .boolean) ∈ g_tb := ⟨g_tb_7 18 (by decide +kernel) (by decide +kernel), g_tb_7 19 (by decide +kernel) (by decide +kernel), g_tb_1 9 (by decide +kernel) (by decide +kernel), g_tb_7 20 (by decide +kernel) (by decide +kernel)⟩
theorem wy_X12_season : Cond.instanceMethod yX12_season ∈ g_tb ∧ Cond.selects RX12 yX12_season yX12_season ∈ g_tb ∧ Cond.initialized yX12_season.cls ∈ g_tb ∧ Cond.code yX12_season cX12_season 2 (some .boolean) ∈ g_tb := ⟨g_tb_7 22 (by decide +kernel) (by decide +kernel), g_tb_7 23 (by decide +kernel) (by decide +kernel), g_tb_1 9 (by decide +kernel) (by decide +kernel), g_tb_7 24 (by decide +kernel) (by decide +kernel)⟩
theorem wy_X12_day : Cond.instanceMethod yX12_day ∈ g_tb ∧ Cond.selects RX12 yX12_day yX12_day ∈ g_tb ∧ Cond.initialized yX12_day.cls ∈ g_tb ∧ Cond.code yX12_day cX12_day 2 (some .int) ∈ g_tb := ⟨g_tb_7 26 (by decide +kernel) (by decide +kernel), g_tb_7 27 (by decide +kernel) (by decide +kernel), g_tb_1 9 (by decide +kernel) (by decide +kernel), g_tb_7 28 (by decide +kernel) (by decide +kernel)⟩
theorem wy_X12_room : Cond.instanceMethod yX12_room ∈ g_tb ∧ Cond.selects RX12 yX12_room yX12_room ∈ g_tb ∧ Cond.initialized yX12_room.cls ∈ g_tb ∧ Cond.code yX12_room cX12_room 6 (some .int) ∈ g_tb := ⟨g_tb_7 30 (by decide +kernel) (by decide +kernel), g_tb_7 31 (by decide +kernel) (by decide +kernel), g_tb_1 9 (by decide +kernel) (by decide +kernel), g_tb_7 32 (by decide +kernel) (by decide +kernel)⟩
theorem wy_X12_setIn : Cond.instanceMethod yX12_setIn ∈ g_tb ∧ Cond.selects RX12 yX12_setIn yX12_setIn ∈ g_tb ∧ Cond.initialized yX12_setIn.cls ∈ g_tb ∧ Cond.code yX12_setIn cX12_setIn 5 (some .int) ∈ g_tb := ⟨g_tb_7 55 (by decide +kernel) (by decide +kernel), g_tb_in 54 (by decide +kernel) (by decide +kernel), g_tb_1 9 (by decide +kernel) (by decide +kernel), g_tb_7 56 (by decide +kernel) (by decide +kernel)⟩
theorem wy_X12_mayBe : Cond.instanceMethod yX12_mayBe ∈ g_tb ∧ Cond.selects RX12 yX12_mayBe yX12_mayBe ∈ g_tb ∧ Cond.initialized yX12_mayBe.cls ∈ g_tb ∧ Cond.code yX12_mayBe cX12_mayBe 8 (some .boolean) ∈ g_tb := ⟨g_tb_7 75 (by decide +kernel) (by decide +kernel), g_tb_in 58 (by decide +kernel) (by decide +kernel), g_tb_1 9 (by decide +kernel) (by decide +kernel), g_tb_7 76 (by decide +kernel) (by decide +kernel)⟩
theorem wy_X12_put : Cond.instanceMethod yX12_put ∈ g_tb ∧ Cond.selects RX12 yX12_put yX12_put ∈ g_tb ∧ Cond.initialized yX12_put.cls ∈ g_tb ∧ Cond.code yX12_put cX12_put 9 (some .boolean) ∈ g_tb := ⟨g_tb_7 42 (by decide +kernel) (by decide +kernel), g_tb_7 43 (by decide +kernel) (by decide +kernel), g_tb_1 9 (by decide +kernel) (by decide +kernel), g_tb_7 44 (by decide +kernel) (by decide +kernel)⟩
theorem wy_X12_there : Cond.instanceMethod yX12_there ∈ g_tb ∧ Cond.selects RX12 yX12_there yX12_there ∈ g_tb ∧ Cond.initialized yX12_there.cls ∈ g_tb ∧ Cond.code yX12_there cX12_there 4 (some .int) ∈ g_tb := ⟨g_tb_7 71 (by decide +kernel) (by decide +kernel), g_tb_in 57 (by decide +kernel) (by decide +kernel), g_tb_1 9 (by decide +kernel) (by decide +kernel), g_tb_7 72 (by decide +kernel) (by decide +kernel)⟩
theorem wy_X12_findSets : Cond.instanceMethod yX12_findSets ∈ g_tb ∧ Cond.selects RX12 yX12_findSets yX12_findSets ∈ g_tb ∧ Cond.initialized yX12_findSets.cls ∈ g_tb ∧ Cond.code yX12_findSets cX12_findSets 5 none ∈ g_tb := ⟨g_tb_7 67 (by decide +kernel) (by decide +kernel), g_tb_in 56 (by decide +kernel) (by decide +kernel), g_tb_1 9 (by decide +kernel) (by decide +kernel), g_tb_7 68 (by decide +kernel) (by decide +kernel)⟩
theorem wy_X12_movedBy : Cond.instanceMethod yX12_movedBy ∈ g_tb ∧ Cond.selects RX12 yX12_movedBy yX12_movedBy ∈ g_tb ∧ Cond.initialized yX12_movedBy.cls ∈ g_tb ∧ Cond.code yX12_movedBy cX12_movedBy 6 (some .int) ∈ g_tb := ⟨g_tb_7 84 (by decide +kernel) (by decide +kernel), g_tb_in 60 (by decide +kernel) (by decide +kernel), g_tb_1 9 (by decide +kernel) (by decide +kernel), g_tb_7 85 (by decide +kernel) (by decide +kernel)⟩
theorem wy_X12_weight : Cond.instanceMethod yX12_weight ∈ g_tb ∧ Cond.selects RX12 yX12_weight yX12_weight ∈ g_tb ∧ Cond.initialized yX12_weight.cls ∈ g_tb ∧ Cond.code yX12_weight cX12_weight 7 (some .int) ∈ g_tb := ⟨g_tb_7 80 (by decide +kernel) (by decide +kernel), g_tb_in 59 (by decide +kernel) (by decide +kernel), g_tb_1 9 (by decide +kernel) (by decide +kernel), g_tb_7 81 (by decide +kernel) (by decide +kernel)⟩
theorem wy_X12_settle : Cond.instanceMethod yX12_settle ∈ g_tb ∧ Cond.selects RX12 yX12_settle yX12_settle ∈ g_tb ∧ Cond.initialized yX12_settle.cls ∈ g_tb ∧ Cond.code yX12_settle cX12_settle 12 (some .int) ∈ g_tb := ⟨g_tb_7 62 (by decide +kernel) (by decide +kernel), g_tb_7 63 (by decide +kernel) (by decide +kernel), g_tb_1 9 (by decide +kernel) (by decide +kernel), g_tb_7 64 (by decide +kernel) (by decide +kernel)⟩
theorem wy_X12_takes : Cond.instanceMethod yX12_takes ∈ g_tb ∧ Cond.selects RX12 yX12_takes yX12_takes ∈ g_tb ∧ Cond.initialized yX12_takes.cls ∈ g_tb ∧ Cond.code yX12_takes cX12_takes 11 (some .int) ∈ g_tb := ⟨g_tb_7 89 (by decide +kernel) (by decide +kernel), g_tb_in 61 (by decide +kernel) (by decide +kernel), g_tb_1 9 (by decide +kernel) (by decide +kernel), g_tb_7 90 (by decide +kernel) (by decide +kernel)⟩
theorem wy_X12_isLeast : Cond.instanceMethod yX12_isLeast ∈ g_tb ∧ Cond.selects RX12 yX12_isLeast yX12_isLeast ∈ g_tb ∧ Cond.initialized yX12_isLeast.cls ∈ g_tb ∧ Cond.code yX12_isLeast cX12_isLeast 7 (some .boolean) ∈ g_tb := ⟨g_tb_7 93 (by decide +kernel) (by decide +kernel), g_tb_in 62 (by decide +kernel) (by decide +kernel), g_tb_1 9 (by decide +kernel) (by decide +kernel), g_tb_7 94 (by decide +kernel) (by decide +kernel)⟩
theorem wy_X12_moved : Cond.instanceMethod yX12_moved ∈ g_tb ∧ Cond.selects RX12 yX12_moved yX12_moved ∈ g_tb ∧ Cond.initialized yX12_moved.cls ∈ g_tb ∧ Cond.code yX12_moved cX12_moved 1 (some .int) ∈ g_tb := ⟨g_tb_7 96 (by decide +kernel) (by decide +kernel), g_tb_7 97 (by decide +kernel) (by decide +kernel), g_tb_1 9 (by decide +kernel) (by decide +kernel), g_tb_7 98 (by decide +kernel) (by decide +kernel)⟩
theorem wy_X12_sizeOf : Cond.static yX12_sizeOf ∈ g_tb ∧ Cond.initialized yX12_sizeOf.cls ∈ g_tb ∧ Cond.code yX12_sizeOf cX12_sizeOf 3 (some .int) ∈ g_tb := ⟨g_tb_7 104 (by decide +kernel) (by decide +kernel), g_tb_1 9 (by decide +kernel) (by decide +kernel), g_tb_7 105 (by decide +kernel) (by decide +kernel)⟩
theorem wy_X12_most : Cond.instanceMethod yX12_most ∈ g_tb ∧ Cond.selects RX12 yX12_most yX12_most ∈ g_tb ∧ Cond.initialized yX12_most.cls ∈ g_tb ∧ Cond.code yX12_most cX12_most 6 (some .int) ∈ g_tb := ⟨g_tb_7 100 (by decide +kernel) (by decide +kernel), g_tb_7 101 (by decide +kernel) (by decide +kernel), g_tb_1 9 (by decide +kernel) (by decide +kernel), g_tb_7 102 (by decide +kernel) (by decide +kernel)⟩
theorem wy_X12_right : Cond.instanceMethod yX12_right ∈ g_tb ∧ Cond.selects RX12 yX12_right yX12_right ∈ g_tb ∧ Cond.initialized yX12_right.cls ∈ g_tb ∧ Cond.code yX12_right cX12_right 3 (some .boolean) ∈ g_tb := ⟨g_tb_7 107 (by decide +kernel) (by decide +kernel), g_tb_7 108 (by decide +kernel) (by decide +kernel), g_tb_1 9 (by decide +kernel) (by decide +kernel), g_tb_7 109 (by decide +kernel) (by decide +kernel)⟩
theorem wy_X12_listed : Cond.instanceMethod yX12_listed ∈ g_tb ∧ Cond.selects RX12 yX12_listed yX12_listed ∈ g_tb ∧ Cond.initialized yX12_listed.cls ∈ g_tb ∧ Cond.code yX12_listed cX12_listed 6 (some .int) ∈ g_tb := ⟨g_tb_7 111 (by decide +kernel) (by decide +kernel), g_tb_7 112 (by decide +kernel) (by decide +kernel), g_tb_1 9 (by decide +kernel) (by decide +kernel), g_tb_7 113 (by decide +kernel) (by decide +kernel)⟩
theorem wy_X12_feed : Cond.instanceMethod yX12_feed ∈ g_tb ∧ Cond.selects RX12 yX12_feed yX12_feed ∈ g_tb ∧ Cond.initialized yX12_feed.cls ∈ g_tb ∧ Cond.code yX12_feed cX12_feed 11 (some .int) ∈ g_tb := ⟨g_tb_7 115 (by decide +kernel) (by decide +kernel), g_tb_7 116 (by decide +kernel) (by decide +kernel), g_tb_1 9 (by decide +kernel) (by decide +kernel), g_tb_7 117 (by decide +kernel) (by decide +kernel)⟩
theorem wy_X12_isSmall : Cond.instanceMethod yX12_isSmall ∈ g_tb ∧ Cond.selects RX12 yX12_isSmall yX12_isSmall ∈ g_tb ∧ Cond.initialized yX12_isSmall.cls ∈ g_tb ∧ Cond.code yX12_isSmall cX12_isSmall 1 (some .boolean) ∈ g_tb := ⟨g_tb_7 132 (by decide +kernel) (by decide +kernel), g_tb_in 65 (by decide +kernel) (by decide +kernel), g_tb_1 9 (by decide +kernel) (by decide +kernel), g_tb_7 133 (by decide +kernel) (by decide +kernel)⟩
theorem wy_X12_isDigit : Cond.instanceMethod yX12_isDigit ∈ g_tb ∧ Cond.selects RX12 yX12_isDigit yX12_isDigit ∈ g_tb ∧ Cond.initialized yX12_isDigit.cls ∈ g_tb ∧ Cond.code yX12_isDigit cX12_isDigit 1 (some .boolean) ∈ g_tb := ⟨g_tb_7 138 (by decide +kernel) (by decide +kernel), g_tb_in 66 (by decide +kernel) (by decide +kernel), g_tb_1 9 (by decide +kernel) (by decide +kernel), g_tb_7 139 (by decide +kernel) (by decide +kernel)⟩
theorem wy_X12_next : Cond.instanceMethod yX12_next ∈ g_tb ∧ Cond.selects RX12 yX12_next yX12_next ∈ g_tb ∧ Cond.initialized yX12_next.cls ∈ g_tb ∧ Cond.code yX12_next cX12_next 1 none ∈ g_tb := ⟨g_tb_7 128 (by decide +kernel) (by decide +kernel), g_tb_in 64 (by decide +kernel) (by decide +kernel), g_tb_1 9 (by decide +kernel) (by decide +kernel), g_tb_7 129 (by decide +kernel) (by decide +kernel)⟩
theorem wy_X12_isSign : Cond.instanceMethod yX12_isSign ∈ g_tb ∧ Cond.selects RX12 yX12_isSign yX12_isSign ∈ g_tb ∧ Cond.initialized yX12_isSign.cls ∈ g_tb ∧ Cond.code yX12_isSign cX12_isSign 2 (some .boolean) ∈ g_tb := ⟨g_tb_7 183 (by decide +kernel) (by decide +kernel), g_tb_in 74 (by decide +kernel) (by decide +kernel), g_tb_1 9 (by decide +kernel) (by decide +kernel), g_tb_7 184 (by decide +kernel) (by decide +kernel)⟩
theorem wy_X12_isWord : Cond.instanceMethod yX12_isWord ∈ g_tb ∧ Cond.selects RX12 yX12_isWord yX12_isWord ∈ g_tb ∧ Cond.initialized yX12_isWord.cls ∈ g_tb ∧ Cond.code yX12_isWord cX12_isWord 3 (some .boolean) ∈ g_tb := ⟨g_tb_7 156 (by decide +kernel) (by decide +kernel), g_tb_in 68 (by decide +kernel) (by decide +kernel), g_tb_1 9 (by decide +kernel) (by decide +kernel), g_tb_7 157 (by decide +kernel) (by decide +kernel)⟩
theorem wy_X12_wrong : Cond.instanceMethod yX12_wrong ∈ g_tb ∧ Cond.selects RX12 yX12_wrong yX12_wrong ∈ g_tb ∧ Cond.initialized yX12_wrong.cls ∈ g_tb ∧ Cond.code yX12_wrong cX12_wrong 2 none ∈ g_tb := ⟨g_tb_7 163 (by decide +kernel) (by decide +kernel), g_tb_in 69 (by decide +kernel) (by decide +kernel), g_tb_1 9 (by decide +kernel) (by decide +kernel), g_tb_7 164 (by decide +kernel) (by decide +kernel)⟩
theorem wy_X12_part : Cond.instanceMethod yX12_part ∈ g_tb ∧ Cond.selects RX12 yX12_part yX12_part ∈ g_tb ∧ Cond.initialized yX12_part.cls ∈ g_tb ∧ Cond.code yX12_part cX12_part 2 (some .int) ∈ g_tb := ⟨g_tb_7 179 (by decide +kernel) (by decide +kernel), g_tb_in 73 (by decide +kernel) (by decide +kernel), g_tb_1 9 (by decide +kernel) (by decide +kernel), g_tb_7 180 (by decide +kernel) (by decide +kernel)⟩
theorem wy_X12_sum : Cond.instanceMethod yX12_sum ∈ g_tb ∧ Cond.selects RX12 yX12_sum yX12_sum ∈ g_tb ∧ Cond.initialized yX12_sum.cls ∈ g_tb ∧ Cond.code yX12_sum cX12_sum 4 (some .int) ∈ g_tb := ⟨g_tb_7 175 (by decide +kernel) (by decide +kernel), g_tb_in 72 (by decide +kernel) (by decide +kernel), g_tb_1 9 (by decide +kernel) (by decide +kernel), g_tb_7 176 (by decide +kernel) (by decide +kernel)⟩
theorem wy_X12_test : Cond.instanceMethod yX12_test ∈ g_tb ∧ Cond.selects RX12 yX12_test yX12_test ∈ g_tb ∧ Cond.initialized yX12_test.cls ∈ g_tb ∧ Cond.code yX12_test cX12_test 4 (some .int) ∈ g_tb := ⟨g_tb_7 171 (by decide +kernel) (by decide +kernel), g_tb_in 71 (by decide +kernel) (by decide +kernel), g_tb_1 9 (by decide +kernel) (by decide +kernel), g_tb_7 172 (by decide +kernel) (by decide +kernel)⟩
theorem wy_X12_whole : Cond.instanceMethod yX12_whole ∈ g_tb ∧ Cond.selects RX12 yX12_whole yX12_whole ∈ g_tb ∧ Cond.initialized yX12_whole.cls ∈ g_tb ∧ Cond.code yX12_whole cX12_whole 3 (some .int) ∈ g_tb := ⟨g_tb_7 167 (by decide +kernel) (by decide +kernel), g_tb_in 70 (by decide +kernel) (by decide +kernel), g_tb_1 9 (by decide +kernel) (by decide +kernel), g_tb_7 168 (by decide +kernel) (by decide +kernel)⟩
theorem wy_X12_kindHere : Cond.instanceMethod yX12_kindHere ∈ g_tb ∧ Cond.selects RX12 yX12_kindHere yX12_kindHere ∈ g_tb ∧ Cond.initialized yX12_kindHere.cls ∈ g_tb ∧ Cond.code yX12_kindHere cX12_kindHere 1 (some .int) ∈ g_tb := ⟨g_tb_7 151 (by decide +kernel) (by decide +kernel), g_tb_in 67 (by decide +kernel) (by decide +kernel), g_tb_1 9 (by decide +kernel) (by decide +kernel), g_tb_7 152 (by decide +kernel) (by decide +kernel)⟩
theorem wy_X12_goes : Cond.instanceMethod yX12_goes ∈ g_tb ∧ Cond.selects RX12 yX12_goes yX12_goes ∈ g_tb ∧ Cond.initialized yX12_goes.cls ∈ g_tb ∧ Cond.code yX12_goes cX12_goes 5 none ∈ g_tb := ⟨g_tb_7 124 (by decide +kernel) (by decide +kernel), g_tb_in 63 (by decide +kernel) (by decide +kernel), g_tb_1 9 (by decide +kernel) (by decide +kernel), g_tb_7 125 (by decide +kernel) (by decide +kernel)⟩
theorem wy_X12_read : Cond.instanceMethod yX12_read ∈ g_tb ∧ Cond.selects RX12 yX12_read yX12_read ∈ g_tb ∧ Cond.initialized yX12_read.cls ∈ g_tb ∧ Cond.code yX12_read cX12_read 3 (some .int) ∈ g_tb := ⟨g_tb_7 119 (by decide +kernel) (by decide +kernel), g_tb_7 120 (by decide +kernel) (by decide +kernel), g_tb_1 9 (by decide +kernel) (by decide +kernel), g_tb_7 121 (by decide +kernel) (by decide +kernel)⟩
theorem wy_X12_told : Cond.instanceMethod yX12_told ∈ g_tb ∧ Cond.selects RX12 yX12_told yX12_told ∈ g_tb ∧ Cond.initialized yX12_told.cls ∈ g_tb ∧ Cond.code yX12_told cX12_told 4 (some .int) ∈ g_tb := ⟨g_tb_7 214 (by decide +kernel) (by decide +kernel), g_tb_in 79 (by decide +kernel) (by decide +kernel), g_tb_1 9 (by decide +kernel) (by decide +kernel), g_tb_7 215 (by decide +kernel) (by decide +kernel)⟩
theorem wy_X12_heldIn : Cond.instanceMethod yX12_heldIn ∈ g_tb ∧ Cond.selects RX12 yX12_heldIn yX12_heldIn ∈ g_tb ∧ Cond.initialized yX12_heldIn.cls ∈ g_tb ∧ Cond.code yX12_heldIn cX12_heldIn 4 (some .int) ∈ g_tb := ⟨g_tb_7 202 (by decide +kernel) (by decide +kernel), g_tb_in 76 (by decide +kernel) (by decide +kernel), g_tb_1 9 (by decide +kernel) (by decide +kernel), g_tb_7 203 (by decide +kernel) (by decide +kernel)⟩
theorem wy_X12_usedIn : Cond.instanceMethod yX12_usedIn ∈ g_tb ∧ Cond.selects RX12 yX12_usedIn yX12_usedIn ∈ g_tb ∧ Cond.initialized yX12_usedIn.cls ∈ g_tb ∧ Cond.code yX12_usedIn cX12_usedIn 4 (some .int) ∈ g_tb := ⟨g_tb_7 206 (by decide +kernel) (by decide +kernel), g_tb_in 77 (by decide +kernel) (by decide +kernel), g_tb_1 9 (by decide +kernel) (by decide +kernel), g_tb_7 207 (by decide +kernel) (by decide +kernel)⟩
theorem wy_X12_peopleIn : Cond.instanceMethod yX12_peopleIn ∈ g_tb ∧ Cond.selects RX12 yX12_peopleIn yX12_peopleIn ∈ g_tb ∧ Cond.initialized yX12_peopleIn.cls ∈ g_tb ∧ Cond.code yX12_peopleIn cX12_peopleIn 4 (some .int) ∈ g_tb := ⟨g_tb_7 210 (by decide +kernel) (by decide +kernel), g_tb_in 78 (by decide +kernel) (by decide +kernel), g_tb_1 9 (by decide +kernel) (by decide +kernel), g_tb_7 211 (by decide +kernel) (by decide +kernel)⟩
theorem wy_X12_now : Cond.instanceMethod yX12_now ∈ g_tb ∧ Cond.selects RX12 yX12_now yX12_now ∈ g_tb ∧ Cond.initialized yX12_now.cls ∈ g_tb ∧ Cond.code yX12_now cX12_now 3 (some .int) ∈ g_tb := ⟨g_tb_7 198 (by decide +kernel) (by decide +kernel), g_tb_in 75 (by decide +kernel) (by decide +kernel), g_tb_1 9 (by decide +kernel) (by decide +kernel), g_tb_7 199 (by decide +kernel) (by decide +kernel)⟩
theorem wy_X12_worth : Cond.instanceMethod yX12_worth ∈ g_tb ∧ Cond.selects RX12 yX12_worth yX12_worth ∈ g_tb ∧ Cond.initialized yX12_worth.cls ∈ g_tb ∧ Cond.code yX12_worth cX12_worth 3 (some .int) ∈ g_tb := ⟨g_tb_7 193 (by decide +kernel) (by decide +kernel), g_tb_7 194 (by decide +kernel) (by decide +kernel), g_tb_1 9 (by decide +kernel) (by decide +kernel), g_tb_7 195 (by decide +kernel) (by decide +kernel)⟩
theorem wy_X12_part_ : Cond.instanceMethod yX12_part_ ∈ g_tb ∧ Cond.selects RX12 yX12_part_ yX12_part_ ∈ g_tb ∧ Cond.initialized yX12_part_.cls ∈ g_tb ∧ Cond.code yX12_part_ cX12_part_ 4 (some .int) ∈ g_tb := ⟨g_tb_7 222 (by decide +kernel) (by decide +kernel), g_tb_in 80 (by decide +kernel) (by decide +kernel), g_tb_1 9 (by decide +kernel) (by decide +kernel), g_tb_7 223 (by decide +kernel) (by decide +kernel)⟩
theorem wy_X12_give : Cond.instanceMethod yX12_give ∈ g_tb ∧ Cond.selects RX12 yX12_give yX12_give ∈ g_tb ∧ Cond.initialized yX12_give.cls ∈ g_tb ∧ Cond.code yX12_give cX12_give 4 (some .int) ∈ g_tb := ⟨g_tb_7 217 (by decide +kernel) (by decide +kernel), g_tb_7 218 (by decide +kernel) (by decide +kernel), g_tb_1 9 (by decide +kernel) (by decide +kernel), g_tb_7 219 (by decide +kernel) (by decide +kernel)⟩
theorem wy_X12_buy : Cond.instanceMethod yX12_buy ∈ g_tb ∧ Cond.selects RX12 yX12_buy yX12_buy ∈ g_tb ∧ Cond.initialized yX12_buy.cls ∈ g_tb ∧ Cond.code yX12_buy cX12_buy 4 (some .int) ∈ g_tb := ⟨g_tb_7 225 (by decide +kernel) (by decide +kernel), g_tb_7 226 (by decide +kernel) (by decide +kernel), g_tb_1 9 (by decide +kernel) (by decide +kernel), g_tb_7 227 (by decide +kernel) (by decide +kernel)⟩
theorem wy_X12_isLoss : Cond.instanceMethod yX12_isLoss ∈ g_tb ∧ Cond.selects RX12 yX12_isLoss yX12_isLoss ∈ g_tb ∧ Cond.initialized yX12_isLoss.cls ∈ g_tb ∧ Cond.code yX12_isLoss cX12_isLoss 6 (some .boolean) ∈ g_tb := ⟨g_tb_7 234 (by decide +kernel) (by decide +kernel), g_tb_in 81 (by decide +kernel) (by decide +kernel), g_tb_1 9 (by decide +kernel) (by decide +kernel), g_tb_7 235 (by decide +kernel) (by decide +kernel)⟩
theorem wy_X12_losses : Cond.instanceMethod yX12_losses ∈ g_tb ∧ Cond.selects RX12 yX12_losses yX12_losses ∈ g_tb ∧ Cond.initialized yX12_losses.cls ∈ g_tb ∧ Cond.code yX12_losses cX12_losses 16 none ∈ g_tb := ⟨g_tb_7 238 (by decide +kernel) (by decide +kernel), g_tb_in 82 (by decide +kernel) (by decide +kernel), g_tb_1 9 (by decide +kernel) (by decide +kernel), g_tb_7 239 (by decide +kernel) (by decide +kernel)⟩
theorem wy_X12_loss : Cond.instanceMethod yX12_loss ∈ g_tb ∧ Cond.selects RX12 yX12_loss yX12_loss ∈ g_tb ∧ Cond.initialized yX12_loss.cls ∈ g_tb ∧ Cond.code yX12_loss cX12_loss 6 (some .int) ∈ g_tb := ⟨g_tb_7 229 (by decide +kernel) (by decide +kernel), g_tb_7 230 (by decide +kernel) (by decide +kernel), g_tb_1 9 (by decide +kernel) (by decide +kernel), g_tb_7 231 (by decide +kernel) (by decide +kernel)⟩
theorem wy_X12_gives : Cond.instanceMethod yX12_gives ∈ g_tb ∧ Cond.selects RX12 yX12_gives yX12_gives ∈ g_tb ∧ Cond.initialized yX12_gives.cls ∈ g_tb ∧ Cond.code yX12_gives cX12_gives 6 (some .int) ∈ g_tb := ⟨g_tb_8 1 (by decide +kernel) (by decide +kernel), g_tb_8 2 (by decide +kernel) (by decide +kernel), g_tb_1 9 (by decide +kernel) (by decide +kernel), g_tb_8 3 (by decide +kernel) (by decide +kernel)⟩
theorem wy_X12_sight : Cond.instanceMethod yX12_sight ∈ g_tb ∧ Cond.selects RX12 yX12_sight yX12_sight ∈ g_tb ∧ Cond.initialized yX12_sight.cls ∈ g_tb ∧ Cond.code yX12_sight cX12_sight 4 (some .int) ∈ g_tb := ⟨g_tb_8 5 (by decide +kernel) (by decide +kernel), g_tb_8 6 (by decide +kernel) (by decide +kernel), g_tb_1 9 (by decide +kernel) (by decide +kernel), g_tb_8 7 (by decide +kernel) (by decide +kernel)⟩
theorem wy_X12_way : Cond.instanceMethod yX12_way ∈ g_tb ∧ Cond.selects RX12 yX12_way yX12_way ∈ g_tb ∧ Cond.initialized yX12_way.cls ∈ g_tb ∧ Cond.code yX12_way cX12_way 4 (some .boolean) ∈ g_tb := ⟨g_tb_8 9 (by decide +kernel) (by decide +kernel), g_tb_8 10 (by decide +kernel) (by decide +kernel), g_tb_1 9 (by decide +kernel) (by decide +kernel), g_tb_8 11 (by decide +kernel) (by decide +kernel)⟩
theorem wy_X12_clear : Cond.instanceMethod yX12_clear ∈ g_tb ∧ Cond.selects RX12 yX12_clear yX12_clear ∈ g_tb ∧ Cond.initialized yX12_clear.cls ∈ g_tb ∧ Cond.code yX12_clear cX12_clear 3 (some .int) ∈ g_tb := ⟨g_tb_8 13 (by decide +kernel) (by decide +kernel), g_tb_8 14 (by decide +kernel) (by decide +kernel), g_tb_1 9 (by decide +kernel) (by decide +kernel), g_tb_8 15 (by decide +kernel) (by decide +kernel)⟩
theorem wy_X12_goesOn : Cond.instanceMethod yX12_goesOn ∈ g_tb ∧ Cond.selects RX12 yX12_goesOn yX12_goesOn ∈ g_tb ∧ Cond.initialized yX12_goesOn.cls ∈ g_tb ∧ Cond.code yX12_goesOn cX12_goesOn 15 none ∈ g_tb := ⟨g_tb_8 22 (by decide +kernel) (by decide +kernel), g_tb_in 83 (by decide +kernel) (by decide +kernel), g_tb_1 9 (by decide +kernel) (by decide +kernel), g_tb_8 23 (by decide +kernel) (by decide +kernel)⟩
theorem wy_X12_home : Cond.instanceMethod yX12_home ∈ g_tb ∧ Cond.selects RX12 yX12_home yX12_home ∈ g_tb ∧ Cond.initialized yX12_home.cls ∈ g_tb ∧ Cond.code yX12_home cX12_home 11 none ∈ g_tb := ⟨g_tb_8 26 (by decide +kernel) (by decide +kernel), g_tb_in 84 (by decide +kernel) (by decide +kernel), g_tb_1 9 (by decide +kernel) (by decide +kernel), g_tb_8 27 (by decide +kernel) (by decide +kernel)⟩
theorem wy_X12_trip : Cond.instanceMethod yX12_trip ∈ g_tb ∧ Cond.selects RX12 yX12_trip yX12_trip ∈ g_tb ∧ Cond.initialized yX12_trip.cls ∈ g_tb ∧ Cond.code yX12_trip cX12_trip 2 (some .int) ∈ g_tb := ⟨g_tb_8 17 (by decide +kernel) (by decide +kernel), g_tb_8 18 (by decide +kernel) (by decide +kernel), g_tb_1 9 (by decide +kernel) (by decide +kernel), g_tb_8 19 (by decide +kernel) (by decide +kernel)⟩
theorem wy_X12_tripOf : Cond.instanceMethod yX12_tripOf ∈ g_tb ∧ Cond.selects RX12 yX12_tripOf yX12_tripOf ∈ g_tb ∧ Cond.initialized yX12_tripOf.cls ∈ g_tb ∧ Cond.code yX12_tripOf cX12_tripOf 2 (some .int) ∈ g_tb := ⟨g_tb_8 29 (by decide +kernel) (by decide +kernel), g_tb_8 30 (by decide +kernel) (by decide +kernel), g_tb_1 9 (by decide +kernel) (by decide +kernel), g_tb_8 31 (by decide +kernel) (by decide +kernel)⟩
theorem wy_X12_townAt : Cond.instanceMethod yX12_townAt ∈ g_tb ∧ Cond.selects RX12 yX12_townAt yX12_townAt ∈ g_tb ∧ Cond.initialized yX12_townAt.cls ∈ g_tb ∧ Cond.code yX12_townAt cX12_townAt 3 (some .int) ∈ g_tb := ⟨g_tb_8 38 (by decide +kernel) (by decide +kernel), g_tb_in 85 (by decide +kernel) (by decide +kernel), g_tb_1 9 (by decide +kernel) (by decide +kernel), g_tb_8 39 (by decide +kernel) (by decide +kernel)⟩
theorem wy_X12_owes : Cond.instanceMethod yX12_owes ∈ g_tb ∧ Cond.selects RX12 yX12_owes yX12_owes ∈ g_tb ∧ Cond.initialized yX12_owes.cls ∈ g_tb ∧ Cond.code yX12_owes cX12_owes 5 none ∈ g_tb := ⟨g_tb_8 47 (by decide +kernel) (by decide +kernel), g_tb_in 87 (by decide +kernel) (by decide +kernel), g_tb_1 9 (by decide +kernel) (by decide +kernel), g_tb_8 48 (by decide +kernel) (by decide +kernel)⟩
theorem wy_X12_billOf : Cond.instanceMethod yX12_billOf ∈ g_tb ∧ Cond.selects RX12 yX12_billOf yX12_billOf ∈ g_tb ∧ Cond.initialized yX12_billOf.cls ∈ g_tb ∧ Cond.code yX12_billOf cX12_billOf 7 (some .int) ∈ g_tb := ⟨g_tb_8 43 (by decide +kernel) (by decide +kernel), g_tb_in 86 (by decide +kernel) (by decide +kernel), g_tb_1 9 (by decide +kernel) (by decide +kernel), g_tb_8 44 (by decide +kernel) (by decide +kernel)⟩
theorem wy_X12_night : Cond.instanceMethod yX12_night ∈ g_tb ∧ Cond.selects RX12 yX12_night yX12_night ∈ g_tb ∧ Cond.initialized yX12_night.cls ∈ g_tb ∧ Cond.code yX12_night cX12_night 10 (some .int) ∈ g_tb := ⟨g_tb_8 33 (by decide +kernel) (by decide +kernel), g_tb_8 34 (by decide +kernel) (by decide +kernel), g_tb_1 9 (by decide +kernel) (by decide +kernel), g_tb_8 35 (by decide +kernel) (by decide +kernel)⟩
theorem wy_X12_lay : Cond.instanceMethod yX12_lay ∈ g_tb ∧ Cond.selects RX12 yX12_lay yX12_lay ∈ g_tb ∧ Cond.initialized yX12_lay.cls ∈ g_tb ∧ Cond.code yX12_lay cX12_lay 3 (some .int) ∈ g_tb := ⟨g_tb_8 50 (by decide +kernel) (by decide +kernel), g_tb_8 51 (by decide +kernel) (by decide +kernel), g_tb_1 9 (by decide +kernel) (by decide +kernel), g_tb_8 52 (by decide +kernel) (by decide +kernel)⟩
theorem wy_X12_bill : Cond.instanceMethod yX12_bill ∈ g_tb ∧ Cond.selects RX12 yX12_bill yX12_bill ∈ g_tb ∧ Cond.initialized yX12_bill.cls ∈ g_tb ∧ Cond.code yX12_bill cX12_bill 2 (some .int) ∈ g_tb := ⟨g_tb_8 54 (by decide +kernel) (by decide +kernel), g_tb_8 55 (by decide +kernel) (by decide +kernel), g_tb_1 9 (by decide +kernel) (by decide +kernel), g_tb_8 56 (by decide +kernel) (by decide +kernel)⟩
theorem wy_X12_owes_ : Cond.instanceMethod yX12_owes_ ∈ g_tb ∧ Cond.selects RX12 yX12_owes_ yX12_owes_ ∈ g_tb ∧ Cond.initialized yX12_owes_.cls ∈ g_tb ∧ Cond.code yX12_owes_ cX12_owes_ 2 (some .int) ∈ g_tb := ⟨g_tb_8 58 (by decide +kernel) (by decide +kernel), g_tb_8 59 (by decide +kernel) (by decide +kernel), g_tb_1 9 (by decide +kernel) (by decide +kernel), g_tb_8 60 (by decide +kernel) (by decide +kernel)⟩
theorem wy_X12_meals : Cond.instanceMethod yX12_meals ∈ g_tb ∧ Cond.selects RX12 yX12_meals yX12_meals ∈ g_tb ∧ Cond.initialized yX12_meals.cls ∈ g_tb ∧ Cond.code yX12_meals cX12_meals 5 (some .int) ∈ g_tb := ⟨g_tb_8 62 (by decide +kernel) (by decide +kernel), g_tb_8 63 (by decide +kernel) (by decide +kernel), g_tb_1 9 (by decide +kernel) (by decide +kernel), g_tb_8 64 (by decide +kernel) (by decide +kernel)⟩
theorem wy_X12_costOf : Cond.instanceMethod yX12_costOf ∈ g_tb ∧ Cond.selects RX12 yX12_costOf yX12_costOf ∈ g_tb ∧ Cond.initialized yX12_costOf.cls ∈ g_tb ∧ Cond.code yX12_costOf cX12_costOf 4 (some .int) ∈ g_tb := ⟨g_tb_8 71 (by decide +kernel) (by decide +kernel), g_tb_in 88 (by decide +kernel) (by decide +kernel), g_tb_1 9 (by decide +kernel) (by decide +kernel), g_tb_8 72 (by decide +kernel) (by decide +kernel)⟩
theorem wy_X12_townOf : Cond.instanceMethod yX12_townOf ∈ g_tb ∧ Cond.selects RX12 yX12_townOf yX12_townOf ∈ g_tb ∧ Cond.initialized yX12_townOf.cls ∈ g_tb ∧ Cond.code yX12_townOf cX12_townOf 3 (some .int) ∈ g_tb := ⟨g_tb_8 66 (by decide +kernel) (by decide +kernel), g_tb_8 67 (by decide +kernel) (by decide +kernel), g_tb_1 9 (by decide +kernel) (by decide +kernel), g_tb_8 68 (by decide +kernel) (by decide +kernel)⟩
theorem wy_X12_roomOf : Cond.instanceMethod yX12_roomOf ∈ g_tb ∧ Cond.selects RX12 yX12_roomOf yX12_roomOf ∈ g_tb ∧ Cond.initialized yX12_roomOf.cls ∈ g_tb ∧ Cond.code yX12_roomOf cX12_roomOf 5 (some .int) ∈ g_tb := ⟨g_tb_8 74 (by decide +kernel) (by decide +kernel), g_tb_8 75 (by decide +kernel) (by decide +kernel), g_tb_1 9 (by decide +kernel) (by decide +kernel), g_tb_8 76 (by decide +kernel) (by decide +kernel)⟩
theorem wy_X12_personOf : Cond.instanceMethod yX12_personOf ∈ g_tb ∧ Cond.selects RX12 yX12_personOf yX12_personOf ∈ g_tb ∧ Cond.initialized yX12_personOf.cls ∈ g_tb ∧ Cond.code yX12_personOf cX12_personOf 5 (some .int) ∈ g_tb := ⟨g_tb_8 78 (by decide +kernel) (by decide +kernel), g_tb_8 79 (by decide +kernel) (by decide +kernel), g_tb_1 9 (by decide +kernel) (by decide +kernel), g_tb_8 80 (by decide +kernel) (by decide +kernel)⟩
theorem wy_X12_count : Cond.instanceMethod yX12_count ∈ g_tb ∧ Cond.selects RX12 yX12_count yX12_count ∈ g_tb ∧ Cond.initialized yX12_count.cls ∈ g_tb ∧ Cond.code yX12_count cX12_count 2 (some .int) ∈ g_tb := ⟨g_tb_8 82 (by decide +kernel) (by decide +kernel), g_tb_8 83 (by decide +kernel) (by decide +kernel), g_tb_1 9 (by decide +kernel) (by decide +kernel), g_tb_8 84 (by decide +kernel) (by decide +kernel)⟩
theorem wy_J_bitCount : Cond.static yJ_bitCount ∈ g_tb ∧ Cond.initialized yJ_bitCount.cls ∈ g_tb ∧ Cond.code yJ_bitCount prog_16_method_49_code 1 (some .int) ∈ g_tb := ⟨g_tb_3 132 (by decide +kernel) (by decide +kernel), g_tb_1 14 (by decide +kernel) (by decide +kernel), g_tb_3 133 (by decide +kernel) (by decide +kernel)⟩
theorem wi_0 : Cond.instantiable RX0 3 ∈ g_tb ∧ Cond.initialized RX0 ∈ g_tb := ⟨g_tb_2 23 (by decide +kernel) (by decide +kernel), g_tb_1 8 (by decide +kernel) (by decide +kernel)⟩
theorem df_0 : ∀ k, k < 3 → defaultValue (g_ty 0 k) = if g_fc (g_ty 0 k) = 0 then .int 0 else if g_fc (g_ty 0 k) = 1 then .long 0 else .null := by decide
theorem wi_1 : Cond.instantiable RX1 14 ∈ g_tb ∧ Cond.initialized RX1 ∈ g_tb := ⟨g_tb_1 213 (by decide +kernel) (by decide +kernel), g_tb_1 7 (by decide +kernel) (by decide +kernel)⟩
theorem df_1 : ∀ k, k < 14 → defaultValue (g_ty 1 k) = if g_fc (g_ty 1 k) = 0 then .int 0 else if g_fc (g_ty 1 k) = 1 then .long 0 else .null := by decide
theorem wi_2 : Cond.instantiable RX2 6 ∈ g_tb ∧ Cond.initialized RX2 ∈ g_tb := ⟨g_tb_2 229 (by decide +kernel) (by decide +kernel), g_tb_1 12 (by decide +kernel) (by decide +kernel)⟩
theorem df_2 : ∀ k, k < 6 → defaultValue (g_ty 2 k) = if g_fc (g_ty 2 k) = 0 then .int 0 else if g_fc (g_ty 2 k) = 1 then .long 0 else .null := by decide
theorem wi_3 : Cond.instantiable RX3 10 ∈ g_tb ∧ Cond.initialized RX3 ∈ g_tb := ⟨g_tb_1 174 (by decide +kernel) (by decide +kernel), g_tb_1 6 (by decide +kernel) (by decide +kernel)⟩
theorem df_3 : ∀ k, k < 10 → defaultValue (g_ty 3 k) = if g_fc (g_ty 3 k) = 0 then .int 0 else if g_fc (g_ty 3 k) = 1 then .long 0 else .null := by decide
theorem wi_4 : Cond.instantiable RX4 2 ∈ g_tb ∧ Cond.initialized RX4 ∈ g_tb := ⟨g_tb_1 55 (by decide +kernel) (by decide +kernel), g_tb_1 3 (by decide +kernel) (by decide +kernel)⟩
theorem df_4 : ∀ k, k < 2 → defaultValue (g_ty 4 k) = if g_fc (g_ty 4 k) = 0 then .int 0 else if g_fc (g_ty 4 k) = 1 then .long 0 else .null := by decide
theorem wi_5 : Cond.instantiable RX5 2 ∈ g_tb ∧ Cond.initialized RX5 ∈ g_tb := ⟨g_tb_1 34 (by decide +kernel) (by decide +kernel), g_tb_1 2 (by decide +kernel) (by decide +kernel)⟩
theorem df_5 : ∀ k, k < 2 → defaultValue (g_ty 5 k) = if g_fc (g_ty 5 k) = 0 then .int 0 else if g_fc (g_ty 5 k) = 1 then .long 0 else .null := by decide
theorem wi_6 : Cond.instantiable RX6 11 ∈ g_tb ∧ Cond.initialized RX6 ∈ g_tb := ⟨g_tb_2 97 (by decide +kernel) (by decide +kernel), g_tb_1 10 (by decide +kernel) (by decide +kernel)⟩
theorem df_6 : ∀ k, k < 11 → defaultValue (g_ty 6 k) = if g_fc (g_ty 6 k) = 0 then .int 0 else if g_fc (g_ty 6 k) = 1 then .long 0 else .null := by decide
theorem wi_7 : Cond.instantiable RX7 12 ∈ g_tb ∧ Cond.initialized RX7 ∈ g_tb := ⟨g_tb_1 70 (by decide +kernel) (by decide +kernel), g_tb_1 4 (by decide +kernel) (by decide +kernel)⟩
theorem df_7 : ∀ k, k < 12 → defaultValue (g_ty 7 k) = if g_fc (g_ty 7 k) = 0 then .int 0 else if g_fc (g_ty 7 k) = 1 then .long 0 else .null := by decide
theorem wi_8 : Cond.instantiable RX8 4 ∈ g_tb ∧ Cond.initialized RX8 ∈ g_tb := ⟨g_tb_3 71 (by decide +kernel) (by decide +kernel), g_tb_1 13 (by decide +kernel) (by decide +kernel)⟩
theorem df_8 : ∀ k, k < 4 → defaultValue (g_ty 8 k) = if g_fc (g_ty 8 k) = 0 then .int 0 else if g_fc (g_ty 8 k) = 1 then .long 0 else .null := by decide
theorem wi_9 : Cond.instantiable RX9 14 ∈ g_tb ∧ Cond.initialized RX9 ∈ g_tb := ⟨g_tb_1 119 (by decide +kernel) (by decide +kernel), g_tb_1 5 (by decide +kernel) (by decide +kernel)⟩
theorem df_9 : ∀ k, k < 14 → defaultValue (g_ty 9 k) = if g_fc (g_ty 9 k) = 0 then .int 0 else if g_fc (g_ty 9 k) = 1 then .long 0 else .null := by decide
theorem wi_10 : Cond.instantiable RX10 7 ∈ g_tb ∧ Cond.initialized RX10 ∈ g_tb := ⟨g_tb_2 222 (by decide +kernel) (by decide +kernel), g_tb_1 11 (by decide +kernel) (by decide +kernel)⟩
theorem df_10 : ∀ k, k < 7 → defaultValue (g_ty 10 k) = if g_fc (g_ty 10 k) = 0 then .int 0 else if g_fc (g_ty 10 k) = 1 then .long 0 else .null := by decide
theorem wi_11 : Cond.instantiable RX11 15 ∈ g_tb ∧ Cond.initialized RX11 ∈ g_tb := ⟨g_tb_1 26 (by decide +kernel) (by decide +kernel), g_tb_1 1 (by decide +kernel) (by decide +kernel)⟩
theorem df_11 : ∀ k, k < 15 → defaultValue (g_ty 11 k) = if g_fc (g_ty 11 k) = 0 then .int 0 else if g_fc (g_ty 11 k) = 1 then .long 0 else .null := by decide
theorem wi_12 : Cond.instantiable RX12 78 ∈ g_tb ∧ Cond.initialized RX12 ∈ g_tb := ⟨g_tb_5 210 (by decide +kernel) (by decide +kernel), g_tb_1 9 (by decide +kernel) (by decide +kernel)⟩
theorem df_12 : ∀ k, k < 78 → defaultValue (g_ty 12 k) = if g_fc (g_ty 12 k) = 0 then .int 0 else if g_fc (g_ty 12 k) = 1 then .long 0 else .null := by decide
theorem wa_int : Cond.arrayClass .int ∈ g_tb := g_tb_1 68 (by decide +kernel) (by decide +kernel)
theorem wa_byte : Cond.arrayClass .byte ∈ g_tb := g_tb_4 135 (by decide +kernel) (by decide +kernel)
theorem wa_boolean : Cond.arrayClass .boolean ∈ g_tb := g_tb_1 172 (by decide +kernel) (by decide +kernel)
theorem wa_long : Cond.arrayClass .long ∈ g_tb := g_tb_8 86 (by decide +kernel) (by decide +kernel)
def lSC : List (Nat × Nat × Nat) := [(1, 11, 0), (2, 5, 0), (3, 17, 10), (4, 19, 6), (5, 4, 0), (6, 14, 500), (7, 7, 0), (8, 14, 12), (9, 14, 36), (10, 14, 400), (11, 14, 400), (12, 9, 0), (13, 14, 10), (14, 14, 10), (15, 14, 10), (16, 14, 10), (17, 15, 10), (18, 18, 10), (19, 14, 10), (20, 3, 0), (21, 14, 121), (22, 14, 121), (23, 14, 121), (24, 1, 0), (25, 14, 7), (26, 14, 7), (27, 14, 7), (28, 14, 49), (29, 14, 6), (30, 14, 6), (31, 14, 6), (32, 14, 6), (33, 0, 0), (34, 14, 30), (35, 14, 300)]
def lRC : List (Nat × Nat × Nat) := [(1, 0, 2), (1, 1, 4), (1, 2, 5), (1, 3, 7), (1, 4, 12), (1, 5, 20), (1, 6, 24), (1, 7, 33), (2, 0, 3), (5, 0, 6), (7, 0, 8), (7, 1, 9), (7, 2, 10), (7, 3, 11), (12, 0, 13), (12, 3, 14), (12, 4, 15), (12, 5, 16), (12, 6, 17), (12, 7, 18), (12, 8, 19), (20, 2, 21), (20, 3, 22), (20, 4, 23), (24, 1, 25), (24, 2, 26), (24, 3, 27), (24, 4, 28), (24, 5, 29), (24, 6, 30), (24, 7, 31), (24, 8, 32), (33, 1, 34), (33, 2, 35)]
def g_layC (σ : gS) : Prop := (∀ q ∈ lSC, σ.1 q.1 = some q.2) ∧ ∀ q ∈ lRC, σ.2 q.1 q.2.1 = q.2.2
def g_layCB (σ : gS) : Bool := (lSC.all fun q => decide (σ.1 q.1 = some q.2)) && lRC.all fun q => decide (σ.2 q.1 q.2.1 = q.2.2)
theorem g_layC.of {σ : gS} (h : g_layCB σ = true) : g_layC σ := by
  obtain ⟨h1, h2⟩ := (Bool.and_eq_true _ _).mp h
  exact ⟨fun q hq => of_decide_eq_true (List.all_eq_true.mp h1 q hq), fun q hq => of_decide_eq_true (List.all_eq_true.mp h2 q hq)⟩
theorem ly_1 {σ : gS} (h : g_layC σ) : σ.1 1 = some (11, 0) := h.1 (1, 11, 0) (List.mem_of_getElem? (i := 0) rfl)
theorem ly_2 {σ : gS} (h : g_layC σ) : σ.1 2 = some (5, 0) := h.1 (2, 5, 0) (List.mem_of_getElem? (i := 1) rfl)
theorem ly_3 {σ : gS} (h : g_layC σ) : σ.1 3 = some (17, 10) := h.1 (3, 17, 10) (List.mem_of_getElem? (i := 2) rfl)
theorem ly_4 {σ : gS} (h : g_layC σ) : σ.1 4 = some (19, 6) := h.1 (4, 19, 6) (List.mem_of_getElem? (i := 3) rfl)
theorem ly_5 {σ : gS} (h : g_layC σ) : σ.1 5 = some (4, 0) := h.1 (5, 4, 0) (List.mem_of_getElem? (i := 4) rfl)
theorem ly_6 {σ : gS} (h : g_layC σ) : σ.1 6 = some (14, 500) := h.1 (6, 14, 500) (List.mem_of_getElem? (i := 5) rfl)
theorem ly_7 {σ : gS} (h : g_layC σ) : σ.1 7 = some (7, 0) := h.1 (7, 7, 0) (List.mem_of_getElem? (i := 6) rfl)
theorem ly_8 {σ : gS} (h : g_layC σ) : σ.1 8 = some (14, 12) := h.1 (8, 14, 12) (List.mem_of_getElem? (i := 7) rfl)
theorem ly_9 {σ : gS} (h : g_layC σ) : σ.1 9 = some (14, 36) := h.1 (9, 14, 36) (List.mem_of_getElem? (i := 8) rfl)
theorem ly_10 {σ : gS} (h : g_layC σ) : σ.1 10 = some (14, 400) := h.1 (10, 14, 400) (List.mem_of_getElem? (i := 9) rfl)
theorem ly_11 {σ : gS} (h : g_layC σ) : σ.1 11 = some (14, 400) := h.1 (11, 14, 400) (List.mem_of_getElem? (i := 10) rfl)
theorem ly_12 {σ : gS} (h : g_layC σ) : σ.1 12 = some (9, 0) := h.1 (12, 9, 0) (List.mem_of_getElem? (i := 11) rfl)
theorem ly_13 {σ : gS} (h : g_layC σ) : σ.1 13 = some (14, 10) := h.1 (13, 14, 10) (List.mem_of_getElem? (i := 12) rfl)
theorem ly_14 {σ : gS} (h : g_layC σ) : σ.1 14 = some (14, 10) := h.1 (14, 14, 10) (List.mem_of_getElem? (i := 13) rfl)
theorem ly_15 {σ : gS} (h : g_layC σ) : σ.1 15 = some (14, 10) := h.1 (15, 14, 10) (List.mem_of_getElem? (i := 14) rfl)
theorem ly_16 {σ : gS} (h : g_layC σ) : σ.1 16 = some (14, 10) := h.1 (16, 14, 10) (List.mem_of_getElem? (i := 15) rfl)
theorem ly_17 {σ : gS} (h : g_layC σ) : σ.1 17 = some (15, 10) := h.1 (17, 15, 10) (List.mem_of_getElem? (i := 16) rfl)
theorem ly_18 {σ : gS} (h : g_layC σ) : σ.1 18 = some (18, 10) := h.1 (18, 18, 10) (List.mem_of_getElem? (i := 17) rfl)
theorem ly_19 {σ : gS} (h : g_layC σ) : σ.1 19 = some (14, 10) := h.1 (19, 14, 10) (List.mem_of_getElem? (i := 18) rfl)
theorem ly_20 {σ : gS} (h : g_layC σ) : σ.1 20 = some (3, 0) := h.1 (20, 3, 0) (List.mem_of_getElem? (i := 19) rfl)
theorem ly_21 {σ : gS} (h : g_layC σ) : σ.1 21 = some (14, 121) := h.1 (21, 14, 121) (List.mem_of_getElem? (i := 20) rfl)
theorem ly_22 {σ : gS} (h : g_layC σ) : σ.1 22 = some (14, 121) := h.1 (22, 14, 121) (List.mem_of_getElem? (i := 21) rfl)
theorem ly_23 {σ : gS} (h : g_layC σ) : σ.1 23 = some (14, 121) := h.1 (23, 14, 121) (List.mem_of_getElem? (i := 22) rfl)
theorem ly_24 {σ : gS} (h : g_layC σ) : σ.1 24 = some (1, 0) := h.1 (24, 1, 0) (List.mem_of_getElem? (i := 23) rfl)
theorem ly_25 {σ : gS} (h : g_layC σ) : σ.1 25 = some (14, 7) := h.1 (25, 14, 7) (List.mem_of_getElem? (i := 24) rfl)
theorem ly_26 {σ : gS} (h : g_layC σ) : σ.1 26 = some (14, 7) := h.1 (26, 14, 7) (List.mem_of_getElem? (i := 25) rfl)
theorem ly_27 {σ : gS} (h : g_layC σ) : σ.1 27 = some (14, 7) := h.1 (27, 14, 7) (List.mem_of_getElem? (i := 26) rfl)
theorem ly_28 {σ : gS} (h : g_layC σ) : σ.1 28 = some (14, 49) := h.1 (28, 14, 49) (List.mem_of_getElem? (i := 27) rfl)
theorem ly_29 {σ : gS} (h : g_layC σ) : σ.1 29 = some (14, 6) := h.1 (29, 14, 6) (List.mem_of_getElem? (i := 28) rfl)
theorem ly_30 {σ : gS} (h : g_layC σ) : σ.1 30 = some (14, 6) := h.1 (30, 14, 6) (List.mem_of_getElem? (i := 29) rfl)
theorem ly_31 {σ : gS} (h : g_layC σ) : σ.1 31 = some (14, 6) := h.1 (31, 14, 6) (List.mem_of_getElem? (i := 30) rfl)
theorem ly_32 {σ : gS} (h : g_layC σ) : σ.1 32 = some (14, 6) := h.1 (32, 14, 6) (List.mem_of_getElem? (i := 31) rfl)
theorem ly_33 {σ : gS} (h : g_layC σ) : σ.1 33 = some (0, 0) := h.1 (33, 0, 0) (List.mem_of_getElem? (i := 32) rfl)
theorem ly_34 {σ : gS} (h : g_layC σ) : σ.1 34 = some (14, 30) := h.1 (34, 14, 30) (List.mem_of_getElem? (i := 33) rfl)
theorem ly_35 {σ : gS} (h : g_layC σ) : σ.1 35 = some (14, 300) := h.1 (35, 14, 300) (List.mem_of_getElem? (i := 34) rfl)
theorem lr_1_0 {σ : gS} (h : g_layC σ) : σ.2 1 0 = 2 := h.2 (1, 0, 2) (List.mem_of_getElem? (i := 0) rfl)
theorem lr_1_1 {σ : gS} (h : g_layC σ) : σ.2 1 1 = 4 := h.2 (1, 1, 4) (List.mem_of_getElem? (i := 1) rfl)
theorem lr_1_2 {σ : gS} (h : g_layC σ) : σ.2 1 2 = 5 := h.2 (1, 2, 5) (List.mem_of_getElem? (i := 2) rfl)
theorem lr_1_3 {σ : gS} (h : g_layC σ) : σ.2 1 3 = 7 := h.2 (1, 3, 7) (List.mem_of_getElem? (i := 3) rfl)
theorem lr_1_4 {σ : gS} (h : g_layC σ) : σ.2 1 4 = 12 := h.2 (1, 4, 12) (List.mem_of_getElem? (i := 4) rfl)
theorem lr_1_5 {σ : gS} (h : g_layC σ) : σ.2 1 5 = 20 := h.2 (1, 5, 20) (List.mem_of_getElem? (i := 5) rfl)
theorem lr_1_6 {σ : gS} (h : g_layC σ) : σ.2 1 6 = 24 := h.2 (1, 6, 24) (List.mem_of_getElem? (i := 6) rfl)
theorem lr_1_7 {σ : gS} (h : g_layC σ) : σ.2 1 7 = 33 := h.2 (1, 7, 33) (List.mem_of_getElem? (i := 7) rfl)
theorem lr_2_0 {σ : gS} (h : g_layC σ) : σ.2 2 0 = 3 := h.2 (2, 0, 3) (List.mem_of_getElem? (i := 8) rfl)
theorem lr_5_0 {σ : gS} (h : g_layC σ) : σ.2 5 0 = 6 := h.2 (5, 0, 6) (List.mem_of_getElem? (i := 9) rfl)
theorem lr_7_0 {σ : gS} (h : g_layC σ) : σ.2 7 0 = 8 := h.2 (7, 0, 8) (List.mem_of_getElem? (i := 10) rfl)
theorem lr_7_1 {σ : gS} (h : g_layC σ) : σ.2 7 1 = 9 := h.2 (7, 1, 9) (List.mem_of_getElem? (i := 11) rfl)
theorem lr_7_2 {σ : gS} (h : g_layC σ) : σ.2 7 2 = 10 := h.2 (7, 2, 10) (List.mem_of_getElem? (i := 12) rfl)
theorem lr_7_3 {σ : gS} (h : g_layC σ) : σ.2 7 3 = 11 := h.2 (7, 3, 11) (List.mem_of_getElem? (i := 13) rfl)
theorem lr_12_0 {σ : gS} (h : g_layC σ) : σ.2 12 0 = 13 := h.2 (12, 0, 13) (List.mem_of_getElem? (i := 14) rfl)
theorem lr_12_3 {σ : gS} (h : g_layC σ) : σ.2 12 3 = 14 := h.2 (12, 3, 14) (List.mem_of_getElem? (i := 15) rfl)
theorem lr_12_4 {σ : gS} (h : g_layC σ) : σ.2 12 4 = 15 := h.2 (12, 4, 15) (List.mem_of_getElem? (i := 16) rfl)
theorem lr_12_5 {σ : gS} (h : g_layC σ) : σ.2 12 5 = 16 := h.2 (12, 5, 16) (List.mem_of_getElem? (i := 17) rfl)
theorem lr_12_6 {σ : gS} (h : g_layC σ) : σ.2 12 6 = 17 := h.2 (12, 6, 17) (List.mem_of_getElem? (i := 18) rfl)
theorem lr_12_7 {σ : gS} (h : g_layC σ) : σ.2 12 7 = 18 := h.2 (12, 7, 18) (List.mem_of_getElem? (i := 19) rfl)
theorem lr_12_8 {σ : gS} (h : g_layC σ) : σ.2 12 8 = 19 := h.2 (12, 8, 19) (List.mem_of_getElem? (i := 20) rfl)
theorem lr_20_2 {σ : gS} (h : g_layC σ) : σ.2 20 2 = 21 := h.2 (20, 2, 21) (List.mem_of_getElem? (i := 21) rfl)
theorem lr_20_3 {σ : gS} (h : g_layC σ) : σ.2 20 3 = 22 := h.2 (20, 3, 22) (List.mem_of_getElem? (i := 22) rfl)
theorem lr_20_4 {σ : gS} (h : g_layC σ) : σ.2 20 4 = 23 := h.2 (20, 4, 23) (List.mem_of_getElem? (i := 23) rfl)
theorem lr_24_1 {σ : gS} (h : g_layC σ) : σ.2 24 1 = 25 := h.2 (24, 1, 25) (List.mem_of_getElem? (i := 24) rfl)
theorem lr_24_2 {σ : gS} (h : g_layC σ) : σ.2 24 2 = 26 := h.2 (24, 2, 26) (List.mem_of_getElem? (i := 25) rfl)
theorem lr_24_3 {σ : gS} (h : g_layC σ) : σ.2 24 3 = 27 := h.2 (24, 3, 27) (List.mem_of_getElem? (i := 26) rfl)
theorem lr_24_4 {σ : gS} (h : g_layC σ) : σ.2 24 4 = 28 := h.2 (24, 4, 28) (List.mem_of_getElem? (i := 27) rfl)
theorem lr_24_5 {σ : gS} (h : g_layC σ) : σ.2 24 5 = 29 := h.2 (24, 5, 29) (List.mem_of_getElem? (i := 28) rfl)
theorem lr_24_6 {σ : gS} (h : g_layC σ) : σ.2 24 6 = 30 := h.2 (24, 6, 30) (List.mem_of_getElem? (i := 29) rfl)
theorem lr_24_7 {σ : gS} (h : g_layC σ) : σ.2 24 7 = 31 := h.2 (24, 7, 31) (List.mem_of_getElem? (i := 30) rfl)
theorem lr_24_8 {σ : gS} (h : g_layC σ) : σ.2 24 8 = 32 := h.2 (24, 8, 32) (List.mem_of_getElem? (i := 31) rfl)
theorem lr_33_1 {σ : gS} (h : g_layC σ) : σ.2 33 1 = 34 := h.2 (33, 1, 34) (List.mem_of_getElem? (i := 32) rfl)
theorem lr_33_2 {σ : gS} (h : g_layC σ) : σ.2 33 2 = 35 := h.2 (33, 2, 35) (List.mem_of_getElem? (i := 33) rfl)
def lSM : List (Nat × Nat × Nat) := [(40, 12, 0), (41, 15, 10), (42, 14, 10), (43, 15, 10), (44, 14, 10), (45, 14, 10), (46, 14, 10), (47, 15, 10), (48, 14, 10), (49, 15, 100), (50, 14, 6), (51, 14, 6), (52, 14, 6), (53, 14, 60), (54, 15, 60), (55, 14, 60), (56, 15, 60), (57, 14, 60), (58, 14, 500), (59, 14, 500), (60, 14, 500), (61, 15, 300), (62, 14, 300), (63, 14, 30), (64, 14, 10), (65, 14, 640), (66, 14, 10), (67, 14, 11264), (68, 14, 10), (69, 15, 11264), (70, 13, 400), (71, 13, 2400), (72, 14, 6), (73, 14, 6), (74, 13, 400), (75, 14, 121), (76, 14, 121), (77, 14, 7), (78, 14, 7), (79, 14, 7), (80, 14, 49), (81, 14, 7), (82, 14, 7), (83, 14, 6), (84, 14, 6), (85, 15, 10)]
def lRM : List (Nat × Nat × Nat) := [(40, 2, 41), (40, 3, 42), (40, 4, 43), (40, 5, 44), (40, 6, 45), (40, 7, 46), (40, 8, 47), (40, 9, 48), (40, 10, 49), (40, 18, 50), (40, 19, 51), (40, 20, 52), (40, 21, 53), (40, 22, 54), (40, 23, 55), (40, 24, 56), (40, 25, 57), (40, 27, 58), (40, 28, 59), (40, 29, 60), (40, 30, 61), (40, 31, 62), (40, 32, 63), (40, 33, 64), (40, 34, 65), (40, 35, 66), (40, 36, 67), (40, 38, 68), (40, 39, 69), (40, 40, 70), (40, 42, 71), (40, 43, 72), (40, 44, 73), (40, 45, 74), (40, 60, 75), (40, 61, 76), (40, 64, 77), (40, 65, 78), (40, 66, 79), (40, 67, 80), (40, 68, 81), (40, 69, 82), (40, 75, 83), (40, 76, 84), (40, 77, 85)]
def g_layM (σ : gS) : Prop := (∀ q ∈ lSM, σ.1 q.1 = some q.2) ∧ ∀ q ∈ lRM, σ.2 q.1 q.2.1 = q.2.2
def g_layMB (σ : gS) : Bool := (lSM.all fun q => decide (σ.1 q.1 = some q.2)) && lRM.all fun q => decide (σ.2 q.1 q.2.1 = q.2.2)
theorem g_layM.of {σ : gS} (h : g_layMB σ = true) : g_layM σ := by
  obtain ⟨h1, h2⟩ := (Bool.and_eq_true _ _).mp h
  exact ⟨fun q hq => of_decide_eq_true (List.all_eq_true.mp h1 q hq), fun q hq => of_decide_eq_true (List.all_eq_true.mp h2 q hq)⟩
theorem ly_40 {σ : gS} (h : g_layM σ) : σ.1 40 = some (12, 0) := h.1 (40, 12, 0) (List.mem_of_getElem? (i := 0) rfl)
theorem ly_41 {σ : gS} (h : g_layM σ) : σ.1 41 = some (15, 10) := h.1 (41, 15, 10) (List.mem_of_getElem? (i := 1) rfl)
theorem ly_42 {σ : gS} (h : g_layM σ) : σ.1 42 = some (14, 10) := h.1 (42, 14, 10) (List.mem_of_getElem? (i := 2) rfl)
theorem ly_43 {σ : gS} (h : g_layM σ) : σ.1 43 = some (15, 10) := h.1 (43, 15, 10) (List.mem_of_getElem? (i := 3) rfl)
theorem ly_44 {σ : gS} (h : g_layM σ) : σ.1 44 = some (14, 10) := h.1 (44, 14, 10) (List.mem_of_getElem? (i := 4) rfl)
theorem ly_45 {σ : gS} (h : g_layM σ) : σ.1 45 = some (14, 10) := h.1 (45, 14, 10) (List.mem_of_getElem? (i := 5) rfl)
theorem ly_46 {σ : gS} (h : g_layM σ) : σ.1 46 = some (14, 10) := h.1 (46, 14, 10) (List.mem_of_getElem? (i := 6) rfl)
theorem ly_47 {σ : gS} (h : g_layM σ) : σ.1 47 = some (15, 10) := h.1 (47, 15, 10) (List.mem_of_getElem? (i := 7) rfl)
theorem ly_48 {σ : gS} (h : g_layM σ) : σ.1 48 = some (14, 10) := h.1 (48, 14, 10) (List.mem_of_getElem? (i := 8) rfl)
theorem ly_49 {σ : gS} (h : g_layM σ) : σ.1 49 = some (15, 100) := h.1 (49, 15, 100) (List.mem_of_getElem? (i := 9) rfl)
theorem ly_50 {σ : gS} (h : g_layM σ) : σ.1 50 = some (14, 6) := h.1 (50, 14, 6) (List.mem_of_getElem? (i := 10) rfl)
theorem ly_51 {σ : gS} (h : g_layM σ) : σ.1 51 = some (14, 6) := h.1 (51, 14, 6) (List.mem_of_getElem? (i := 11) rfl)
theorem ly_52 {σ : gS} (h : g_layM σ) : σ.1 52 = some (14, 6) := h.1 (52, 14, 6) (List.mem_of_getElem? (i := 12) rfl)
theorem ly_53 {σ : gS} (h : g_layM σ) : σ.1 53 = some (14, 60) := h.1 (53, 14, 60) (List.mem_of_getElem? (i := 13) rfl)
theorem ly_54 {σ : gS} (h : g_layM σ) : σ.1 54 = some (15, 60) := h.1 (54, 15, 60) (List.mem_of_getElem? (i := 14) rfl)
theorem ly_55 {σ : gS} (h : g_layM σ) : σ.1 55 = some (14, 60) := h.1 (55, 14, 60) (List.mem_of_getElem? (i := 15) rfl)
theorem ly_56 {σ : gS} (h : g_layM σ) : σ.1 56 = some (15, 60) := h.1 (56, 15, 60) (List.mem_of_getElem? (i := 16) rfl)
theorem ly_57 {σ : gS} (h : g_layM σ) : σ.1 57 = some (14, 60) := h.1 (57, 14, 60) (List.mem_of_getElem? (i := 17) rfl)
theorem ly_58 {σ : gS} (h : g_layM σ) : σ.1 58 = some (14, 500) := h.1 (58, 14, 500) (List.mem_of_getElem? (i := 18) rfl)
theorem ly_59 {σ : gS} (h : g_layM σ) : σ.1 59 = some (14, 500) := h.1 (59, 14, 500) (List.mem_of_getElem? (i := 19) rfl)
theorem ly_60 {σ : gS} (h : g_layM σ) : σ.1 60 = some (14, 500) := h.1 (60, 14, 500) (List.mem_of_getElem? (i := 20) rfl)
theorem ly_61 {σ : gS} (h : g_layM σ) : σ.1 61 = some (15, 300) := h.1 (61, 15, 300) (List.mem_of_getElem? (i := 21) rfl)
theorem ly_62 {σ : gS} (h : g_layM σ) : σ.1 62 = some (14, 300) := h.1 (62, 14, 300) (List.mem_of_getElem? (i := 22) rfl)
theorem ly_63 {σ : gS} (h : g_layM σ) : σ.1 63 = some (14, 30) := h.1 (63, 14, 30) (List.mem_of_getElem? (i := 23) rfl)
theorem ly_64 {σ : gS} (h : g_layM σ) : σ.1 64 = some (14, 10) := h.1 (64, 14, 10) (List.mem_of_getElem? (i := 24) rfl)
theorem ly_65 {σ : gS} (h : g_layM σ) : σ.1 65 = some (14, 640) := h.1 (65, 14, 640) (List.mem_of_getElem? (i := 25) rfl)
theorem ly_66 {σ : gS} (h : g_layM σ) : σ.1 66 = some (14, 10) := h.1 (66, 14, 10) (List.mem_of_getElem? (i := 26) rfl)
theorem ly_67 {σ : gS} (h : g_layM σ) : σ.1 67 = some (14, 11264) := h.1 (67, 14, 11264) (List.mem_of_getElem? (i := 27) rfl)
theorem ly_68 {σ : gS} (h : g_layM σ) : σ.1 68 = some (14, 10) := h.1 (68, 14, 10) (List.mem_of_getElem? (i := 28) rfl)
theorem ly_69 {σ : gS} (h : g_layM σ) : σ.1 69 = some (15, 11264) := h.1 (69, 15, 11264) (List.mem_of_getElem? (i := 29) rfl)
theorem ly_70 {σ : gS} (h : g_layM σ) : σ.1 70 = some (13, 400) := h.1 (70, 13, 400) (List.mem_of_getElem? (i := 30) rfl)
theorem ly_71 {σ : gS} (h : g_layM σ) : σ.1 71 = some (13, 2400) := h.1 (71, 13, 2400) (List.mem_of_getElem? (i := 31) rfl)
theorem ly_72 {σ : gS} (h : g_layM σ) : σ.1 72 = some (14, 6) := h.1 (72, 14, 6) (List.mem_of_getElem? (i := 32) rfl)
theorem ly_73 {σ : gS} (h : g_layM σ) : σ.1 73 = some (14, 6) := h.1 (73, 14, 6) (List.mem_of_getElem? (i := 33) rfl)
theorem ly_74 {σ : gS} (h : g_layM σ) : σ.1 74 = some (13, 400) := h.1 (74, 13, 400) (List.mem_of_getElem? (i := 34) rfl)
theorem ly_75 {σ : gS} (h : g_layM σ) : σ.1 75 = some (14, 121) := h.1 (75, 14, 121) (List.mem_of_getElem? (i := 35) rfl)
theorem ly_76 {σ : gS} (h : g_layM σ) : σ.1 76 = some (14, 121) := h.1 (76, 14, 121) (List.mem_of_getElem? (i := 36) rfl)
theorem ly_77 {σ : gS} (h : g_layM σ) : σ.1 77 = some (14, 7) := h.1 (77, 14, 7) (List.mem_of_getElem? (i := 37) rfl)
theorem ly_78 {σ : gS} (h : g_layM σ) : σ.1 78 = some (14, 7) := h.1 (78, 14, 7) (List.mem_of_getElem? (i := 38) rfl)
theorem ly_79 {σ : gS} (h : g_layM σ) : σ.1 79 = some (14, 7) := h.1 (79, 14, 7) (List.mem_of_getElem? (i := 39) rfl)
theorem ly_80 {σ : gS} (h : g_layM σ) : σ.1 80 = some (14, 49) := h.1 (80, 14, 49) (List.mem_of_getElem? (i := 40) rfl)
theorem ly_81 {σ : gS} (h : g_layM σ) : σ.1 81 = some (14, 7) := h.1 (81, 14, 7) (List.mem_of_getElem? (i := 41) rfl)
theorem ly_82 {σ : gS} (h : g_layM σ) : σ.1 82 = some (14, 7) := h.1 (82, 14, 7) (List.mem_of_getElem? (i := 42) rfl)
theorem ly_83 {σ : gS} (h : g_layM σ) : σ.1 83 = some (14, 6) := h.1 (83, 14, 6) (List.mem_of_getElem? (i := 43) rfl)
theorem ly_84 {σ : gS} (h : g_layM σ) : σ.1 84 = some (14, 6) := h.1 (84, 14, 6) (List.mem_of_getElem? (i := 44) rfl)
theorem ly_85 {σ : gS} (h : g_layM σ) : σ.1 85 = some (15, 10) := h.1 (85, 15, 10) (List.mem_of_getElem? (i := 45) rfl)
theorem lr_40_2 {σ : gS} (h : g_layM σ) : σ.2 40 2 = 41 := h.2 (40, 2, 41) (List.mem_of_getElem? (i := 0) rfl)
theorem lr_40_3 {σ : gS} (h : g_layM σ) : σ.2 40 3 = 42 := h.2 (40, 3, 42) (List.mem_of_getElem? (i := 1) rfl)
theorem lr_40_4 {σ : gS} (h : g_layM σ) : σ.2 40 4 = 43 := h.2 (40, 4, 43) (List.mem_of_getElem? (i := 2) rfl)
theorem lr_40_5 {σ : gS} (h : g_layM σ) : σ.2 40 5 = 44 := h.2 (40, 5, 44) (List.mem_of_getElem? (i := 3) rfl)
theorem lr_40_6 {σ : gS} (h : g_layM σ) : σ.2 40 6 = 45 := h.2 (40, 6, 45) (List.mem_of_getElem? (i := 4) rfl)
theorem lr_40_7 {σ : gS} (h : g_layM σ) : σ.2 40 7 = 46 := h.2 (40, 7, 46) (List.mem_of_getElem? (i := 5) rfl)
theorem lr_40_8 {σ : gS} (h : g_layM σ) : σ.2 40 8 = 47 := h.2 (40, 8, 47) (List.mem_of_getElem? (i := 6) rfl)
theorem lr_40_9 {σ : gS} (h : g_layM σ) : σ.2 40 9 = 48 := h.2 (40, 9, 48) (List.mem_of_getElem? (i := 7) rfl)
theorem lr_40_10 {σ : gS} (h : g_layM σ) : σ.2 40 10 = 49 := h.2 (40, 10, 49) (List.mem_of_getElem? (i := 8) rfl)
theorem lr_40_18 {σ : gS} (h : g_layM σ) : σ.2 40 18 = 50 := h.2 (40, 18, 50) (List.mem_of_getElem? (i := 9) rfl)
theorem lr_40_19 {σ : gS} (h : g_layM σ) : σ.2 40 19 = 51 := h.2 (40, 19, 51) (List.mem_of_getElem? (i := 10) rfl)
theorem lr_40_20 {σ : gS} (h : g_layM σ) : σ.2 40 20 = 52 := h.2 (40, 20, 52) (List.mem_of_getElem? (i := 11) rfl)
theorem lr_40_21 {σ : gS} (h : g_layM σ) : σ.2 40 21 = 53 := h.2 (40, 21, 53) (List.mem_of_getElem? (i := 12) rfl)
theorem lr_40_22 {σ : gS} (h : g_layM σ) : σ.2 40 22 = 54 := h.2 (40, 22, 54) (List.mem_of_getElem? (i := 13) rfl)
theorem lr_40_23 {σ : gS} (h : g_layM σ) : σ.2 40 23 = 55 := h.2 (40, 23, 55) (List.mem_of_getElem? (i := 14) rfl)
theorem lr_40_24 {σ : gS} (h : g_layM σ) : σ.2 40 24 = 56 := h.2 (40, 24, 56) (List.mem_of_getElem? (i := 15) rfl)
theorem lr_40_25 {σ : gS} (h : g_layM σ) : σ.2 40 25 = 57 := h.2 (40, 25, 57) (List.mem_of_getElem? (i := 16) rfl)
theorem lr_40_27 {σ : gS} (h : g_layM σ) : σ.2 40 27 = 58 := h.2 (40, 27, 58) (List.mem_of_getElem? (i := 17) rfl)
theorem lr_40_28 {σ : gS} (h : g_layM σ) : σ.2 40 28 = 59 := h.2 (40, 28, 59) (List.mem_of_getElem? (i := 18) rfl)
theorem lr_40_29 {σ : gS} (h : g_layM σ) : σ.2 40 29 = 60 := h.2 (40, 29, 60) (List.mem_of_getElem? (i := 19) rfl)
theorem lr_40_30 {σ : gS} (h : g_layM σ) : σ.2 40 30 = 61 := h.2 (40, 30, 61) (List.mem_of_getElem? (i := 20) rfl)
theorem lr_40_31 {σ : gS} (h : g_layM σ) : σ.2 40 31 = 62 := h.2 (40, 31, 62) (List.mem_of_getElem? (i := 21) rfl)
theorem lr_40_32 {σ : gS} (h : g_layM σ) : σ.2 40 32 = 63 := h.2 (40, 32, 63) (List.mem_of_getElem? (i := 22) rfl)
theorem lr_40_33 {σ : gS} (h : g_layM σ) : σ.2 40 33 = 64 := h.2 (40, 33, 64) (List.mem_of_getElem? (i := 23) rfl)
theorem lr_40_34 {σ : gS} (h : g_layM σ) : σ.2 40 34 = 65 := h.2 (40, 34, 65) (List.mem_of_getElem? (i := 24) rfl)
theorem lr_40_35 {σ : gS} (h : g_layM σ) : σ.2 40 35 = 66 := h.2 (40, 35, 66) (List.mem_of_getElem? (i := 25) rfl)
theorem lr_40_36 {σ : gS} (h : g_layM σ) : σ.2 40 36 = 67 := h.2 (40, 36, 67) (List.mem_of_getElem? (i := 26) rfl)
theorem lr_40_38 {σ : gS} (h : g_layM σ) : σ.2 40 38 = 68 := h.2 (40, 38, 68) (List.mem_of_getElem? (i := 27) rfl)
theorem lr_40_39 {σ : gS} (h : g_layM σ) : σ.2 40 39 = 69 := h.2 (40, 39, 69) (List.mem_of_getElem? (i := 28) rfl)
theorem lr_40_40 {σ : gS} (h : g_layM σ) : σ.2 40 40 = 70 := h.2 (40, 40, 70) (List.mem_of_getElem? (i := 29) rfl)
theorem lr_40_42 {σ : gS} (h : g_layM σ) : σ.2 40 42 = 71 := h.2 (40, 42, 71) (List.mem_of_getElem? (i := 30) rfl)
theorem lr_40_43 {σ : gS} (h : g_layM σ) : σ.2 40 43 = 72 := h.2 (40, 43, 72) (List.mem_of_getElem? (i := 31) rfl)
theorem lr_40_44 {σ : gS} (h : g_layM σ) : σ.2 40 44 = 73 := h.2 (40, 44, 73) (List.mem_of_getElem? (i := 32) rfl)
theorem lr_40_45 {σ : gS} (h : g_layM σ) : σ.2 40 45 = 74 := h.2 (40, 45, 74) (List.mem_of_getElem? (i := 33) rfl)
theorem lr_40_60 {σ : gS} (h : g_layM σ) : σ.2 40 60 = 75 := h.2 (40, 60, 75) (List.mem_of_getElem? (i := 34) rfl)
theorem lr_40_61 {σ : gS} (h : g_layM σ) : σ.2 40 61 = 76 := h.2 (40, 61, 76) (List.mem_of_getElem? (i := 35) rfl)
theorem lr_40_64 {σ : gS} (h : g_layM σ) : σ.2 40 64 = 77 := h.2 (40, 64, 77) (List.mem_of_getElem? (i := 36) rfl)
theorem lr_40_65 {σ : gS} (h : g_layM σ) : σ.2 40 65 = 78 := h.2 (40, 65, 78) (List.mem_of_getElem? (i := 37) rfl)
theorem lr_40_66 {σ : gS} (h : g_layM σ) : σ.2 40 66 = 79 := h.2 (40, 66, 79) (List.mem_of_getElem? (i := 38) rfl)
theorem lr_40_67 {σ : gS} (h : g_layM σ) : σ.2 40 67 = 80 := h.2 (40, 67, 80) (List.mem_of_getElem? (i := 39) rfl)
theorem lr_40_68 {σ : gS} (h : g_layM σ) : σ.2 40 68 = 81 := h.2 (40, 68, 81) (List.mem_of_getElem? (i := 40) rfl)
theorem lr_40_69 {σ : gS} (h : g_layM σ) : σ.2 40 69 = 82 := h.2 (40, 69, 82) (List.mem_of_getElem? (i := 41) rfl)
theorem lr_40_75 {σ : gS} (h : g_layM σ) : σ.2 40 75 = 83 := h.2 (40, 75, 83) (List.mem_of_getElem? (i := 42) rfl)
theorem lr_40_76 {σ : gS} (h : g_layM σ) : σ.2 40 76 = 84 := h.2 (40, 76, 84) (List.mem_of_getElem? (i := 43) rfl)
theorem lr_40_77 {σ : gS} (h : g_layM σ) : σ.2 40 77 = 85 := h.2 (40, 77, 85) (List.mem_of_getElem? (i := 44) rfl)
