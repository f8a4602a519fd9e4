/-! the words that every method may use -/
def qx_BW : List Cond := lw_tbl.filter goodWord
theorem qx_in {w : Cond} {i : Nat} (h : lw_tbl[i]? = some w) (hg : goodWord w = true) : w ∈ qx_BW := List.mem_filter.mpr ⟨List.mem_of_getElem? h, hg⟩
theorem qx_ins {ws : List Cond} (ps : List Nat) (h : ws = ps.filterMap (fun i => lw_tbl[i]?)) (hg : ws.all goodWord = true) : ∀ w ∈ ws, w ∈ qx_BW := by
  intro w hw
  have h1 := List.all_eq_true.mp hg w hw
  rw [h] at hw
  obtain ⟨i, -, hi⟩ := List.mem_filterMap.mp hw
  exact qx_in hi h1
set_option maxRecDepth 100000 in
theorem inlX1 : ∀ w ∈ wsX10, w ∈ qx_BW := qx_ins [232, 234, 236, 238, 240, 242, 244, 246, 248, 250, 252, 254, 256, 258] rfl rfl
set_option maxRecDepth 100000 in
theorem inlX2 : ∀ w ∈ wsX20, w ∈ qx_BW := qx_ins [284, 286, 288, 290, 292] rfl rfl
set_option maxRecDepth 100000 in
theorem inlX3 : ∀ w ∈ wsX30, w ∈ qx_BW := qx_ins [77, 79, 81, 83, 85] rfl rfl
set_option maxRecDepth 100000 in
theorem inlX4 : ∀ w ∈ wsX40, w ∈ qx_BW := qx_ins [92, 94] rfl rfl
set_option maxRecDepth 100000 in
theorem inlX5 : ∀ w ∈ wsX50, w ∈ qx_BW := qx_ins [167, 169, 171, 173, 175, 177, 179, 181, 183, 185] rfl rfl
set_option maxRecDepth 100000 in
theorem inlX6 : ∀ w ∈ wsX60, w ∈ qx_BW := qx_ins [270, 272, 274, 276] rfl rfl
set_option maxRecDepth 100000 in
theorem inlX8 : ∀ w ∈ wsX80, w ∈ qx_BW := qx_ins [130, 132, 134, 136, 138] rfl rfl
set_option maxRecDepth 100000 in
theorem inlX9 : ∀ w ∈ wsX90, w ∈ qx_BW := qx_ins [299, 301, 303, 305] rfl rfl
set_option maxRecDepth 100000 in
theorem inlX10 : ∀ w ∈ wsX100, w ∈ qx_BW := qx_ins [625, 627, 629, 631, 633, 635, 637, 639, 641, 643, 645, 647, 649, 651, 653, 655, 657, 659, 661, 663, 665, 667, 669, 671, 673, 675, 677, 679, 681, 683, 685, 687, 689, 691, 693, 695, 697, 699, 701, 703, 705, 707, 709, 711, 713, 715, 717, 719, 721] rfl rfl
/-! families of cells and their shapes -/
abbrev qx_Sh : Type := (Nat × List (Option Nat)) ⊕ (Nat × Nat) ⊕ (Nat × Nat × Nat)
def qx_shL : List qx_Sh := [.inl (7, [some 1, some 3, some 7, some 9]), .inl (3, [some 2, none]), .inr (.inr (2, 32, 17)), .inl (6, [some 4, some 5, some 6, none, none]), .inr (.inl (0, 64)), .inr (.inl (0, 13)), .inr (.inl (0, 240)), .inl (4, [some 8, none, none, none, none, none, none, none, none, none]), .inr (.inl (0, 280)), .inl (1, [some 1, some 3, some 7, some 10, some 11]), .inr (.inr (3, 8, 12)), .inr (.inr (4, 8, 14)), .inl (0, [some 13, none, none, none, none, none, none, none, none, none, none, none, none, none]), .inr (.inl (0, 8)), .inl (5, [some 15, some 16, none, none]), .inr (.inl (0, 64)), .inr (.inl (0, 13)), .inl (2, [some 18, some 19, some 20, none, none]), .inr (.inl (0, 20)), .inr (.inl (0, 20)), .inr (.inl (0, 20)), .inr (.inl (0, 0)), .inr (.inl (0, 0)), .inr (.inl (0, 0)), .inr (.inl (0, 0)), .inr (.inl (0, 0)), .inr (.inl (0, 0)), .inr (.inl (0, 0)), .inr (.inl (0, 0)), .inr (.inl (0, 0)), .inl (8, [none, some 31, some 32, none, some 33, some 34, some 35, some 36, some 37, some 38, none, none, none, some 39, some 40, some 41, some 42, some 43, some 44, some 45, some 46, some 47, some 48, some 49, some 50, some 51, some 52, some 53, some 54, some 55, none, some 56, some 57, some 58, some 59, none, none, none, some 60, some 61, some 62, some 63, some 64, some 65, none, none, none, none, none]), .inr (.inl (0, 4)), .inr (.inl (0, 8)), .inr (.inl (0, 64)), .inr (.inl (0, 32)), .inr (.inl (1, 32)), .inr (.inl (0, 640)), .inr (.inl (0, 640)), .inr (.inl (0, 640)), .inr (.inl (0, 8)), .inr (.inl (0, 8)), .inr (.inl (0, 8)), .inr (.inl (0, 8)), .inr (.inl (0, 8)), .inr (.inl (0, 8)), .inr (.inl (0, 8)), .inr (.inl (0, 8)), .inr (.inl (0, 8)), .inr (.inl (0, 8)), .inr (.inl (1, 8)), .inr (.inl (0, 64)), .inr (.inl (0, 512)), .inr (.inl (0, 32)), .inr (.inl (0, 64)), .inr (.inl (0, 8)), .inr (.inl (0, 8)), .inr (.inl (0, 60)), .inr (.inl (0, 60)), .inr (.inl (0, 60)), .inr (.inl (0, 60)), .inr (.inl (0, 40)), .inr (.inl (0, 40)), .inr (.inl (0, 40)), .inr (.inl (0, 40)), .inr (.inl (0, 40)), .inr (.inl (1, 40))]
def qx_sh (f : Nat) : qx_Sh := qx_shL.getD f (.inr (.inl (0, 0)))
def qx_cntL : List Nat := [1, 1, 1, 1, 1, 1, 1, 1, 1, 1, 1, 1, 8, 8, 8, 8, 8, 32, 32, 32, 32, 0, 0, 0, 0, 0, 0, 0, 0, 0, 1, 1, 1, 1, 1, 1, 1, 1, 1, 1, 1, 1, 1, 1, 1, 1, 1, 1, 1, 1, 1, 1, 1, 1, 1, 1, 1, 1, 1, 1, 1, 1, 1, 1, 1, 1]
def qx_cnt (f : Nat) : Nat := qx_cntL.getD f 0
def qx_cells : List (Nat × Nat) := (List.range 66).flatMap (fun f => (List.range (qx_cnt f)).map (fun i => (f, i)))
theorem qx_cells_mem {f i : Nat} (hf : f < 66) (h : i < qx_cnt f) : (f, i) ∈ qx_cells := List.mem_flatMap.mpr ⟨f, List.mem_range.mpr hf, List.mem_map.mpr ⟨i, List.mem_range.mpr h, rfl⟩⟩
/-- a class of the worlds, by its number -/
def qx_CP (ci : Nat) (C : String) (T : u_T) (N : Nat) (ty : Nat → FieldType) : Prop := vwCl[ci]? = some (C, T, N) ∧ (∀ w ∈ u_ws C T N, w ∈ qx_BW) ∧ (∀ k, k < N → parseFieldDescriptor (T k).2.2.1 = some (ty k)) ∧ ∀ a, a < N → ∀ b, b < N → a ≠ b → (T a).2.1 ≠ (T b).2.1
theorem qx_cpX1 : qx_CP 0 RX1 TX1 14 tyX1 := ⟨rfl, inlX1, tyX1_ok, nmX1⟩
theorem qx_cpX2 : qx_CP 1 RX2 TX2 5 tyX2 := ⟨rfl, inlX2, tyX2_ok, nmX2⟩
theorem qx_cpX3 : qx_CP 2 RX3 TX3 5 tyX3 := ⟨rfl, inlX3, tyX3_ok, nmX3⟩
theorem qx_cpX4 : qx_CP 3 RX4 TX4 2 tyX4 := ⟨rfl, inlX4, tyX4_ok, nmX4⟩
theorem qx_cpX5 : qx_CP 4 RX5 TX5 10 tyX5 := ⟨rfl, inlX5, tyX5_ok, nmX5⟩
theorem qx_cpX6 : qx_CP 5 RX6 TX6 4 tyX6 := ⟨rfl, inlX6, tyX6_ok, nmX6⟩
theorem qx_cpX8 : qx_CP 6 RX8 TX8 5 tyX8 := ⟨rfl, inlX8, tyX8_ok, nmX8⟩
theorem qx_cpX9 : qx_CP 7 RX9 TX9 4 tyX9 := ⟨rfl, inlX9, tyX9_ok, nmX9⟩
theorem qx_cpX10 : qx_CP 8 RX10 TX10 49 tyX10 := ⟨rfl, inlX10, tyX10_ok, nmX10⟩
/-- field entry idx of class own: slot j of family f, which holds an int (tg none) or a reference to family tg -/
def qx_FG (own : String) (idx f j : Nat) (tg : Option Nat) : Prop := ∃ (ci : Nat) (sl : List (Option Nat)) (C : String) (T : u_T) (N : Nat) (ty : Nat → FieldType), qx_sh f = .inl (ci, sl) ∧ qx_CP ci C T N ty ∧ sl.length = N ∧ sl[j]? = some tg ∧ Cond.fieldLink own idx (T j).1 (T j).2.1 (T j).2.2.1 ∈ qx_BW
/-- the same for a putfield: of type t, not final -/
def qx_FP (own : String) (idx f j : Nat) (t : FieldType) : Prop := ∃ (ci : Nat) (sl : List (Option Nat)) (C : String) (T : u_T) (N : Nat) (ty : Nat → FieldType), qx_sh f = .inl (ci, sl) ∧ qx_CP ci C T N ty ∧ sl.length = N ∧ sl[j]? = some none ∧ Cond.fieldLink own idx (T j).1 (T j).2.1 (T j).2.2.1 ∈ qx_BW ∧ (T j).2.2.2 = false ∧ parseFieldDescriptor (T j).2.2.1 = some t
/-- the same for a putfield of a final reference in a constructor -/
def qx_FF (own : String) (idx f j : Nat) (tg : Nat) : Prop := ∃ (ci : Nat) (sl : List (Option Nat)) (C : String) (T : u_T) (N : Nat) (ty : Nat → FieldType) (t : FieldType), qx_sh f = .inl (ci, sl) ∧ qx_CP ci C T N ty ∧ sl.length = N ∧ sl[j]? = some (some tg) ∧ Cond.fieldLink own idx (T j).1 (T j).2.1 (T j).2.2.1 ∈ qx_BW ∧ (T j).2.2.2 = true ∧ (T j).1 = own ∧ parseFieldDescriptor (T j).2.2.1 = some t ∧ (∀ a : Nat, narrow t (.ref a) = .ref a) ∧ ∀ a : Nat, fits t (.ref a) = true
set_option maxRecDepth 100000 in
theorem qx_wfRX9_10 : Cond.fieldLink RX9 10 "ContractFrames" "program" "LContractFrames$Program;" ∈ qx_BW := qx_in (i := 295) rfl rfl
theorem qx_gRX9_10 : qx_FG RX9 10 0 0 (some 1) := ⟨_, _, _, _, _, _, rfl, qx_cpX9, rfl, rfl, qx_wfRX9_10⟩
theorem qx_fRX9_10 : qx_FF RX9 10 0 0 1 := ⟨_, _, _, _, _, _, tyX9 0, rfl, qx_cpX9, rfl, rfl, qx_wfRX9_10, rfl, rfl, by decide +kernel, fun _ => rfl, fun _ => rfl⟩
set_option maxRecDepth 100000 in
theorem qx_wfRX9_19 : Cond.fieldLink RX9 19 "ContractFrames" "world" "LContractFrames$World;" ∈ qx_BW := qx_in (i := 296) rfl rfl
theorem qx_gRX9_19 : qx_FG RX9 19 0 1 (some 3) := ⟨_, _, _, _, _, _, rfl, qx_cpX9, rfl, rfl, qx_wfRX9_19⟩
theorem qx_fRX9_19 : qx_FF RX9 19 0 1 3 := ⟨_, _, _, _, _, _, tyX9 1, rfl, qx_cpX9, rfl, rfl, qx_wfRX9_19, rfl, rfl, by decide +kernel, fun _ => rfl, fun _ => rfl⟩
set_option maxRecDepth 100000 in
theorem qx_wfRX9_26 : Cond.fieldLink RX9 26 "ContractFrames" "report" "LContractFrames$Report;" ∈ qx_BW := qx_in (i := 297) rfl rfl
theorem qx_gRX9_26 : qx_FG RX9 26 0 2 (some 7) := ⟨_, _, _, _, _, _, rfl, qx_cpX9, rfl, rfl, qx_wfRX9_26⟩
theorem qx_fRX9_26 : qx_FF RX9 26 0 2 7 := ⟨_, _, _, _, _, _, tyX9 2, rfl, qx_cpX9, rfl, rfl, qx_wfRX9_26, rfl, rfl, by decide +kernel, fun _ => rfl, fun _ => rfl⟩
set_option maxRecDepth 100000 in
theorem qx_wfRX9_35 : Cond.fieldLink RX9 35 "ContractFrames" "machine" "LContractFrames$Machine;" ∈ qx_BW := qx_in (i := 298) rfl rfl
theorem qx_gRX9_35 : qx_FG RX9 35 0 3 (some 9) := ⟨_, _, _, _, _, _, rfl, qx_cpX9, rfl, rfl, qx_wfRX9_35⟩
theorem qx_fRX9_35 : qx_FF RX9 35 0 3 9 := ⟨_, _, _, _, _, _, tyX9 3, rfl, qx_cpX9, rfl, rfl, qx_wfRX9_35, rfl, rfl, by decide +kernel, fun _ => rfl, fun _ => rfl⟩
set_option maxRecDepth 100000 in
theorem qx_wfRX4_11 : Cond.fieldLink RX4 11 "ContractFrames$Program" "members" "[LContractFrames$Member;" ∈ qx_BW := qx_in (i := 89) rfl rfl
theorem qx_gRX4_11 : qx_FG RX4 11 1 0 (some 2) := ⟨_, _, _, _, _, _, rfl, qx_cpX4, rfl, rfl, qx_wfRX4_11⟩
theorem qx_fRX4_11 : qx_FF RX4 11 1 0 2 := ⟨_, _, _, _, _, _, tyX4 0, rfl, qx_cpX4, rfl, rfl, qx_wfRX4_11, rfl, rfl, by decide +kernel, fun _ => rfl, fun _ => rfl⟩
set_option maxRecDepth 100000 in
theorem qx_wfRX3_9 : Cond.fieldLink RX3 9 "ContractFrames$Member" "codes" "[I" ∈ qx_BW := qx_in (i := 64) rfl rfl
theorem qx_gRX3_9 : qx_FG RX3 9 17 0 (some 18) := ⟨_, _, _, _, _, _, rfl, qx_cpX3, rfl, rfl, qx_wfRX3_9⟩
theorem qx_fRX3_9 : qx_FF RX3 9 17 0 18 := ⟨_, _, _, _, _, _, tyX3 0, rfl, qx_cpX3, rfl, rfl, qx_wfRX3_9, rfl, rfl, by decide +kernel, fun _ => rfl, fun _ => rfl⟩
set_option maxRecDepth 100000 in
theorem qx_wfRX3_15 : Cond.fieldLink RX3 15 "ContractFrames$Member" "firsts" "[I" ∈ qx_BW := qx_in (i := 66) rfl rfl
theorem qx_gRX3_15 : qx_FG RX3 15 17 1 (some 19) := ⟨_, _, _, _, _, _, rfl, qx_cpX3, rfl, rfl, qx_wfRX3_15⟩
theorem qx_fRX3_15 : qx_FF RX3 15 17 1 19 := ⟨_, _, _, _, _, _, tyX3 1, rfl, qx_cpX3, rfl, rfl, qx_wfRX3_15, rfl, rfl, by decide +kernel, fun _ => rfl, fun _ => rfl⟩
set_option maxRecDepth 100000 in
theorem qx_wfRX3_18 : Cond.fieldLink RX3 18 "ContractFrames$Member" "seconds" "[I" ∈ qx_BW := qx_in (i := 68) rfl rfl
theorem qx_gRX3_18 : qx_FG RX3 18 17 2 (some 20) := ⟨_, _, _, _, _, _, rfl, qx_cpX3, rfl, rfl, qx_wfRX3_18⟩
theorem qx_fRX3_18 : qx_FF RX3 18 17 2 20 := ⟨_, _, _, _, _, _, tyX3 2, rfl, qx_cpX3, rfl, rfl, qx_wfRX3_18, rfl, rfl, by decide +kernel, fun _ => rfl, fun _ => rfl⟩
set_option maxRecDepth 100000 in
theorem qx_wfRX8_11 : Cond.fieldLink RX8 11 "ContractFrames$World" "stores" "[I" ∈ qx_BW := qx_in (i := 113) rfl rfl
theorem qx_gRX8_11 : qx_FG RX8 11 3 0 (some 4) := ⟨_, _, _, _, _, _, rfl, qx_cpX8, rfl, rfl, qx_wfRX8_11⟩
theorem qx_fRX8_11 : qx_FF RX8 11 3 0 4 := ⟨_, _, _, _, _, _, tyX8 0, rfl, qx_cpX8, rfl, rfl, qx_wfRX8_11, rfl, rfl, by decide +kernel, fun _ => rfl, fun _ => rfl⟩
set_option maxRecDepth 100000 in
theorem qx_wfRX8_15 : Cond.fieldLink RX8 15 "ContractFrames$World" "purses" "[I" ∈ qx_BW := qx_in (i := 117) rfl rfl
theorem qx_gRX8_15 : qx_FG RX8 15 3 1 (some 5) := ⟨_, _, _, _, _, _, rfl, qx_cpX8, rfl, rfl, qx_wfRX8_15⟩
theorem qx_fRX8_15 : qx_FF RX8 15 3 1 5 := ⟨_, _, _, _, _, _, tyX8 1, rfl, qx_cpX8, rfl, rfl, qx_wfRX8_15, rfl, rfl, by decide +kernel, fun _ => rfl, fun _ => rfl⟩
set_option maxRecDepth 100000 in
theorem qx_wfRX8_18 : Cond.fieldLink RX8 18 "ContractFrames$World" "eventRows" "[I" ∈ qx_BW := qx_in (i := 121) rfl rfl
theorem qx_gRX8_18 : qx_FG RX8 18 3 2 (some 6) := ⟨_, _, _, _, _, _, rfl, qx_cpX8, rfl, rfl, qx_wfRX8_18⟩
theorem qx_fRX8_18 : qx_FF RX8 18 3 2 6 := ⟨_, _, _, _, _, _, tyX8 2, rfl, qx_cpX8, rfl, rfl, qx_wfRX8_18, rfl, rfl, by decide +kernel, fun _ => rfl, fun _ => rfl⟩
set_option maxRecDepth 100000 in
theorem qx_wfRX5_9 : Cond.fieldLink RX5 9 "ContractFrames$Report" "rows" "[I" ∈ qx_BW := qx_in (i := 147) rfl rfl
theorem qx_gRX5_9 : qx_FG RX5 9 7 0 (some 8) := ⟨_, _, _, _, _, _, rfl, qx_cpX5, rfl, rfl, qx_wfRX5_9⟩
theorem qx_fRX5_9 : qx_FF RX5 9 7 0 8 := ⟨_, _, _, _, _, _, tyX5 0, rfl, qx_cpX5, rfl, rfl, qx_wfRX5_9, rfl, rfl, by decide +kernel, fun _ => rfl, fun _ => rfl⟩
set_option maxRecDepth 100000 in
theorem qx_wfRX2_11 : Cond.fieldLink RX2 11 "ContractFrames$Machine" "frames" "[LContractFrames$Frame;" ∈ qx_BW := qx_in (i := 282) rfl rfl
theorem qx_gRX2_11 : qx_FG RX2 11 9 3 (some 10) := ⟨_, _, _, _, _, _, rfl, qx_cpX2, rfl, rfl, qx_wfRX2_11⟩
theorem qx_fRX2_11 : qx_FF RX2 11 9 3 10 := ⟨_, _, _, _, _, _, tyX2 3, rfl, qx_cpX2, rfl, rfl, qx_wfRX2_11, rfl, rfl, by decide +kernel, fun _ => rfl, fun _ => rfl⟩
set_option maxRecDepth 100000 in
theorem qx_wfRX2_19 : Cond.fieldLink RX2 19 "ContractFrames$Machine" "snapshots" "[LContractFrames$Snapshot;" ∈ qx_BW := qx_in (i := 283) rfl rfl
theorem qx_gRX2_19 : qx_FG RX2 19 9 4 (some 11) := ⟨_, _, _, _, _, _, rfl, qx_cpX2, rfl, rfl, qx_wfRX2_19⟩
theorem qx_fRX2_19 : qx_FF RX2 19 9 4 11 := ⟨_, _, _, _, _, _, tyX2 4, rfl, qx_cpX2, rfl, rfl, qx_wfRX2_19, rfl, rfl, by decide +kernel, fun _ => rfl, fun _ => rfl⟩
set_option maxRecDepth 100000 in
theorem qx_wfRX2_23 : Cond.fieldLink RX2 23 "ContractFrames$Machine" "program" "LContractFrames$Program;" ∈ qx_BW := qx_in (i := 279) rfl rfl
theorem qx_gRX2_23 : qx_FG RX2 23 9 0 (some 1) := ⟨_, _, _, _, _, _, rfl, qx_cpX2, rfl, rfl, qx_wfRX2_23⟩
theorem qx_fRX2_23 : qx_FF RX2 23 9 0 1 := ⟨_, _, _, _, _, _, tyX2 0, rfl, qx_cpX2, rfl, rfl, qx_wfRX2_23, rfl, rfl, by decide +kernel, fun _ => rfl, fun _ => rfl⟩
set_option maxRecDepth 100000 in
theorem qx_wfRX2_27 : Cond.fieldLink RX2 27 "ContractFrames$Machine" "world" "LContractFrames$World;" ∈ qx_BW := qx_in (i := 280) rfl rfl
theorem qx_gRX2_27 : qx_FG RX2 27 9 1 (some 3) := ⟨_, _, _, _, _, _, rfl, qx_cpX2, rfl, rfl, qx_wfRX2_27⟩
theorem qx_fRX2_27 : qx_FF RX2 27 9 1 3 := ⟨_, _, _, _, _, _, tyX2 1, rfl, qx_cpX2, rfl, rfl, qx_wfRX2_27, rfl, rfl, by decide +kernel, fun _ => rfl, fun _ => rfl⟩
set_option maxRecDepth 100000 in
theorem qx_wfRX2_31 : Cond.fieldLink RX2 31 "ContractFrames$Machine" "report" "LContractFrames$Report;" ∈ qx_BW := qx_in (i := 281) rfl rfl
theorem qx_gRX2_31 : qx_FG RX2 31 9 2 (some 7) := ⟨_, _, _, _, _, _, rfl, qx_cpX2, rfl, rfl, qx_wfRX2_31⟩
theorem qx_fRX2_31 : qx_FF RX2 31 9 2 7 := ⟨_, _, _, _, _, _, tyX2 2, rfl, qx_cpX2, rfl, rfl, qx_wfRX2_31, rfl, rfl, by decide +kernel, fun _ => rfl, fun _ => rfl⟩
set_option maxRecDepth 100000 in
theorem qx_wfRX1_9 : Cond.fieldLink RX1 9 "ContractFrames$Frame" "stack" "[I" ∈ qx_BW := qx_in (i := 203) rfl rfl
theorem qx_gRX1_9 : qx_FG RX1 9 12 0 (some 13) := ⟨_, _, _, _, _, _, rfl, qx_cpX1, rfl, rfl, qx_wfRX1_9⟩
theorem qx_fRX1_9 : qx_FF RX1 9 12 0 13 := ⟨_, _, _, _, _, _, tyX1 0, rfl, qx_cpX1, rfl, rfl, qx_wfRX1_9, rfl, rfl, by decide +kernel, fun _ => rfl, fun _ => rfl⟩
set_option maxRecDepth 100000 in
theorem qx_wfRX6_9 : Cond.fieldLink RX6 9 "ContractFrames$Snapshot" "stores" "[I" ∈ qx_BW := qx_in (i := 266) rfl rfl
theorem qx_gRX6_9 : qx_FG RX6 9 14 0 (some 15) := ⟨_, _, _, _, _, _, rfl, qx_cpX6, rfl, rfl, qx_wfRX6_9⟩
theorem qx_fRX6_9 : qx_FF RX6 9 14 0 15 := ⟨_, _, _, _, _, _, tyX6 0, rfl, qx_cpX6, rfl, rfl, qx_wfRX6_9, rfl, rfl, by decide +kernel, fun _ => rfl, fun _ => rfl⟩
set_option maxRecDepth 100000 in
theorem qx_wfRX6_17 : Cond.fieldLink RX6 17 "ContractFrames$Snapshot" "purses" "[I" ∈ qx_BW := qx_in (i := 267) rfl rfl
theorem qx_gRX6_17 : qx_FG RX6 17 14 1 (some 16) := ⟨_, _, _, _, _, _, rfl, qx_cpX6, rfl, rfl, qx_wfRX6_17⟩
theorem qx_fRX6_17 : qx_FF RX6 17 14 1 16 := ⟨_, _, _, _, _, _, tyX6 1, rfl, qx_cpX6, rfl, rfl, qx_wfRX6_17, rfl, rfl, by decide +kernel, fun _ => rfl, fun _ => rfl⟩
set_option maxRecDepth 100000 in
theorem qx_wfRX10_7 : Cond.fieldLink RX10 7 "ContractFramesModel" "userCoins" "[I" ∈ qx_BW := qx_in (i := 577) rfl rfl
theorem qx_gRX10_7 : qx_FG RX10 7 30 1 (some 31) := ⟨_, _, _, _, _, _, rfl, qx_cpX10, rfl, rfl, qx_wfRX10_7⟩
theorem qx_fRX10_7 : qx_FF RX10 7 30 1 31 := ⟨_, _, _, _, _, _, tyX10 1, rfl, qx_cpX10, rfl, rfl, qx_wfRX10_7, rfl, rfl, by decide +kernel, fun _ => rfl, fun _ => rfl⟩
set_option maxRecDepth 100000 in
theorem qx_wfRX10_13 : Cond.fieldLink RX10 13 "ContractFramesModel" "contractCoins" "[I" ∈ qx_BW := qx_in (i := 578) rfl rfl
theorem qx_gRX10_13 : qx_FG RX10 13 30 2 (some 32) := ⟨_, _, _, _, _, _, rfl, qx_cpX10, rfl, rfl, qx_wfRX10_13⟩
theorem qx_fRX10_13 : qx_FF RX10 13 30 2 32 := ⟨_, _, _, _, _, _, tyX10 2, rfl, qx_cpX10, rfl, rfl, qx_wfRX10_13, rfl, rfl, by decide +kernel, fun _ => rfl, fun _ => rfl⟩
set_option maxRecDepth 100000 in
theorem qx_wfRX10_16 : Cond.fieldLink RX10 16 "ContractFramesModel" "stores" "[I" ∈ qx_BW := qx_in (i := 580) rfl rfl
theorem qx_gRX10_16 : qx_FG RX10 16 30 4 (some 33) := ⟨_, _, _, _, _, _, rfl, qx_cpX10, rfl, rfl, qx_wfRX10_16⟩
theorem qx_fRX10_16 : qx_FF RX10 16 30 4 33 := ⟨_, _, _, _, _, _, tyX10 4, rfl, qx_cpX10, rfl, rfl, qx_wfRX10_16, rfl, rfl, by decide +kernel, fun _ => rfl, fun _ => rfl⟩
set_option maxRecDepth 100000 in
theorem qx_wfRX10_19 : Cond.fieldLink RX10 19 "ContractFramesModel" "lengths" "[I" ∈ qx_BW := qx_in (i := 581) rfl rfl
theorem qx_gRX10_19 : qx_FG RX10 19 30 5 (some 34) := ⟨_, _, _, _, _, _, rfl, qx_cpX10, rfl, rfl, qx_wfRX10_19⟩
theorem qx_fRX10_19 : qx_FF RX10 19 30 5 34 := ⟨_, _, _, _, _, _, tyX10 5, rfl, qx_cpX10, rfl, rfl, qx_wfRX10_19, rfl, rfl, by decide +kernel, fun _ => rfl, fun _ => rfl⟩
set_option maxRecDepth 100000 in
theorem qx_wfRX10_22 : Cond.fieldLink RX10 22 "ContractFramesModel" "guarded" "[Z" ∈ qx_BW := qx_in (i := 582) rfl rfl
theorem qx_gRX10_22 : qx_FG RX10 22 30 6 (some 35) := ⟨_, _, _, _, _, _, rfl, qx_cpX10, rfl, rfl, qx_wfRX10_22⟩
theorem qx_fRX10_22 : qx_FF RX10 22 30 6 35 := ⟨_, _, _, _, _, _, tyX10 6, rfl, qx_cpX10, rfl, rfl, qx_wfRX10_22, rfl, rfl, by decide +kernel, fun _ => rfl, fun _ => rfl⟩
set_option maxRecDepth 100000 in
theorem qx_wfRX10_26 : Cond.fieldLink RX10 26 "ContractFramesModel" "codes" "[I" ∈ qx_BW := qx_in (i := 583) rfl rfl
theorem qx_gRX10_26 : qx_FG RX10 26 30 7 (some 36) := ⟨_, _, _, _, _, _, rfl, qx_cpX10, rfl, rfl, qx_wfRX10_26⟩
theorem qx_fRX10_26 : qx_FF RX10 26 30 7 36 := ⟨_, _, _, _, _, _, tyX10 7, rfl, qx_cpX10, rfl, rfl, qx_wfRX10_26, rfl, rfl, by decide +kernel, fun _ => rfl, fun _ => rfl⟩
set_option maxRecDepth 100000 in
theorem qx_wfRX10_29 : Cond.fieldLink RX10 29 "ContractFramesModel" "as" "[I" ∈ qx_BW := qx_in (i := 584) rfl rfl
theorem qx_gRX10_29 : qx_FG RX10 29 30 8 (some 37) := ⟨_, _, _, _, _, _, rfl, qx_cpX10, rfl, rfl, qx_wfRX10_29⟩
theorem qx_fRX10_29 : qx_FF RX10 29 30 8 37 := ⟨_, _, _, _, _, _, tyX10 8, rfl, qx_cpX10, rfl, rfl, qx_wfRX10_29, rfl, rfl, by decide +kernel, fun _ => rfl, fun _ => rfl⟩
set_option maxRecDepth 100000 in
theorem qx_wfRX10_32 : Cond.fieldLink RX10 32 "ContractFramesModel" "bs" "[I" ∈ qx_BW := qx_in (i := 585) rfl rfl
theorem qx_gRX10_32 : qx_FG RX10 32 30 9 (some 38) := ⟨_, _, _, _, _, _, rfl, qx_cpX10, rfl, rfl, qx_wfRX10_32⟩
theorem qx_fRX10_32 : qx_FF RX10 32 30 9 38 := ⟨_, _, _, _, _, _, tyX10 9, rfl, qx_cpX10, rfl, rfl, qx_wfRX10_32, rfl, rfl, by decide +kernel, fun _ => rfl, fun _ => rfl⟩
set_option maxRecDepth 100000 in
theorem qx_wfRX10_35 : Cond.fieldLink RX10 35 "ContractFramesModel" "fMember" "[I" ∈ qx_BW := qx_in (i := 589) rfl rfl
theorem qx_gRX10_35 : qx_FG RX10 35 30 13 (some 39) := ⟨_, _, _, _, _, _, rfl, qx_cpX10, rfl, rfl, qx_wfRX10_35⟩
theorem qx_fRX10_35 : qx_FF RX10 35 30 13 39 := ⟨_, _, _, _, _, _, tyX10 13, rfl, qx_cpX10, rfl, rfl, qx_wfRX10_35, rfl, rfl, by decide +kernel, fun _ => rfl, fun _ => rfl⟩
set_option maxRecDepth 100000 in
theorem qx_wfRX10_38 : Cond.fieldLink RX10 38 "ContractFramesModel" "fArgument" "[I" ∈ qx_BW := qx_in (i := 590) rfl rfl
theorem qx_gRX10_38 : qx_FG RX10 38 30 14 (some 40) := ⟨_, _, _, _, _, _, rfl, qx_cpX10, rfl, rfl, qx_wfRX10_38⟩
theorem qx_fRX10_38 : qx_FF RX10 38 30 14 40 := ⟨_, _, _, _, _, _, tyX10 14, rfl, qx_cpX10, rfl, rfl, qx_wfRX10_38, rfl, rfl, by decide +kernel, fun _ => rfl, fun _ => rfl⟩
set_option maxRecDepth 100000 in
theorem qx_wfRX10_41 : Cond.fieldLink RX10 41 "ContractFramesModel" "fValue" "[I" ∈ qx_BW := qx_in (i := 591) rfl rfl
theorem qx_gRX10_41 : qx_FG RX10 41 30 15 (some 41) := ⟨_, _, _, _, _, _, rfl, qx_cpX10, rfl, rfl, qx_wfRX10_41⟩
theorem qx_fRX10_41 : qx_FF RX10 41 30 15 41 := ⟨_, _, _, _, _, _, tyX10 15, rfl, qx_cpX10, rfl, rfl, qx_wfRX10_41, rfl, rfl, by decide +kernel, fun _ => rfl, fun _ => rfl⟩
set_option maxRecDepth 100000 in
theorem qx_wfRX10_44 : Cond.fieldLink RX10 44 "ContractFramesModel" "fCaller" "[I" ∈ qx_BW := qx_in (i := 592) rfl rfl
theorem qx_gRX10_44 : qx_FG RX10 44 30 16 (some 42) := ⟨_, _, _, _, _, _, rfl, qx_cpX10, rfl, rfl, qx_wfRX10_44⟩
theorem qx_fRX10_44 : qx_FF RX10 44 30 16 42 := ⟨_, _, _, _, _, _, tyX10 16, rfl, qx_cpX10, rfl, rfl, qx_wfRX10_44, rfl, rfl, by decide +kernel, fun _ => rfl, fun _ => rfl⟩
set_option maxRecDepth 100000 in
theorem qx_wfRX10_47 : Cond.fieldLink RX10 47 "ContractFramesModel" "fLimit" "[I" ∈ qx_BW := qx_in (i := 593) rfl rfl
theorem qx_gRX10_47 : qx_FG RX10 47 30 17 (some 43) := ⟨_, _, _, _, _, _, rfl, qx_cpX10, rfl, rfl, qx_wfRX10_47⟩
theorem qx_fRX10_47 : qx_FF RX10 47 30 17 43 := ⟨_, _, _, _, _, _, tyX10 17, rfl, qx_cpX10, rfl, rfl, qx_wfRX10_47, rfl, rfl, by decide +kernel, fun _ => rfl, fun _ => rfl⟩
set_option maxRecDepth 100000 in
theorem qx_wfRX10_50 : Cond.fieldLink RX10 50 "ContractFramesModel" "fUsed" "[I" ∈ qx_BW := qx_in (i := 594) rfl rfl
theorem qx_gRX10_50 : qx_FG RX10 50 30 18 (some 44) := ⟨_, _, _, _, _, _, rfl, qx_cpX10, rfl, rfl, qx_wfRX10_50⟩
theorem qx_fRX10_50 : qx_FF RX10 50 30 18 44 := ⟨_, _, _, _, _, _, tyX10 18, rfl, qx_cpX10, rfl, rfl, qx_wfRX10_50, rfl, rfl, by decide +kernel, fun _ => rfl, fun _ => rfl⟩
set_option maxRecDepth 100000 in
theorem qx_wfRX10_53 : Cond.fieldLink RX10 53 "ContractFramesModel" "fAt" "[I" ∈ qx_BW := qx_in (i := 595) rfl rfl
theorem qx_gRX10_53 : qx_FG RX10 53 30 19 (some 45) := ⟨_, _, _, _, _, _, rfl, qx_cpX10, rfl, rfl, qx_wfRX10_53⟩
theorem qx_fRX10_53 : qx_FF RX10 53 30 19 45 := ⟨_, _, _, _, _, _, tyX10 19, rfl, qx_cpX10, rfl, rfl, qx_wfRX10_53, rfl, rfl, by decide +kernel, fun _ => rfl, fun _ => rfl⟩
set_option maxRecDepth 100000 in
theorem qx_wfRX10_56 : Cond.fieldLink RX10 56 "ContractFramesModel" "fHas" "[I" ∈ qx_BW := qx_in (i := 596) rfl rfl
theorem qx_gRX10_56 : qx_FG RX10 56 30 20 (some 46) := ⟨_, _, _, _, _, _, rfl, qx_cpX10, rfl, rfl, qx_wfRX10_56⟩
theorem qx_fRX10_56 : qx_FF RX10 56 30 20 46 := ⟨_, _, _, _, _, _, tyX10 20, rfl, qx_cpX10, rfl, rfl, qx_wfRX10_56, rfl, rfl, by decide +kernel, fun _ => rfl, fun _ => rfl⟩
set_option maxRecDepth 100000 in
theorem qx_wfRX10_59 : Cond.fieldLink RX10 59 "ContractFramesModel" "fHow" "[I" ∈ qx_BW := qx_in (i := 597) rfl rfl
theorem qx_gRX10_59 : qx_FG RX10 59 30 21 (some 47) := ⟨_, _, _, _, _, _, rfl, qx_cpX10, rfl, rfl, qx_wfRX10_59⟩
theorem qx_fRX10_59 : qx_FF RX10 59 30 21 47 := ⟨_, _, _, _, _, _, tyX10 21, rfl, qx_cpX10, rfl, rfl, qx_wfRX10_59, rfl, rfl, by decide +kernel, fun _ => rfl, fun _ => rfl⟩
set_option maxRecDepth 100000 in
theorem qx_wfRX10_62 : Cond.fieldLink RX10 62 "ContractFramesModel" "fRecord" "[I" ∈ qx_BW := qx_in (i := 598) rfl rfl
theorem qx_gRX10_62 : qx_FG RX10 62 30 22 (some 48) := ⟨_, _, _, _, _, _, rfl, qx_cpX10, rfl, rfl, qx_wfRX10_62⟩
theorem qx_fRX10_62 : qx_FF RX10 62 30 22 48 := ⟨_, _, _, _, _, _, tyX10 22, rfl, qx_cpX10, rfl, rfl, qx_wfRX10_62, rfl, rfl, by decide +kernel, fun _ => rfl, fun _ => rfl⟩
set_option maxRecDepth 100000 in
theorem qx_wfRX10_65 : Cond.fieldLink RX10 65 "ContractFramesModel" "fReads" "[Z" ∈ qx_BW := qx_in (i := 599) rfl rfl
theorem qx_gRX10_65 : qx_FG RX10 65 30 23 (some 49) := ⟨_, _, _, _, _, _, rfl, qx_cpX10, rfl, rfl, qx_wfRX10_65⟩
theorem qx_fRX10_65 : qx_FF RX10 65 30 23 49 := ⟨_, _, _, _, _, _, tyX10 23, rfl, qx_cpX10, rfl, rfl, qx_wfRX10_65, rfl, rfl, by decide +kernel, fun _ => rfl, fun _ => rfl⟩
set_option maxRecDepth 100000 in
theorem qx_wfRX10_68 : Cond.fieldLink RX10 68 "ContractFramesModel" "stack" "[I" ∈ qx_BW := qx_in (i := 600) rfl rfl
theorem qx_gRX10_68 : qx_FG RX10 68 30 24 (some 50) := ⟨_, _, _, _, _, _, rfl, qx_cpX10, rfl, rfl, qx_wfRX10_68⟩
theorem qx_fRX10_68 : qx_FF RX10 68 30 24 50 := ⟨_, _, _, _, _, _, tyX10 24, rfl, qx_cpX10, rfl, rfl, qx_wfRX10_68, rfl, rfl, by decide +kernel, fun _ => rfl, fun _ => rfl⟩
set_option maxRecDepth 100000 in
theorem qx_wfRX10_71 : Cond.fieldLink RX10 71 "ContractFramesModel" "oldStores" "[I" ∈ qx_BW := qx_in (i := 601) rfl rfl
theorem qx_gRX10_71 : qx_FG RX10 71 30 25 (some 51) := ⟨_, _, _, _, _, _, rfl, qx_cpX10, rfl, rfl, qx_wfRX10_71⟩
theorem qx_fRX10_71 : qx_FF RX10 71 30 25 51 := ⟨_, _, _, _, _, _, tyX10 25, rfl, qx_cpX10, rfl, rfl, qx_wfRX10_71, rfl, rfl, by decide +kernel, fun _ => rfl, fun _ => rfl⟩
set_option maxRecDepth 100000 in
theorem qx_wfRX10_74 : Cond.fieldLink RX10 74 "ContractFramesModel" "oldUsers" "[I" ∈ qx_BW := qx_in (i := 602) rfl rfl
theorem qx_gRX10_74 : qx_FG RX10 74 30 26 (some 52) := ⟨_, _, _, _, _, _, rfl, qx_cpX10, rfl, rfl, qx_wfRX10_74⟩
theorem qx_fRX10_74 : qx_FF RX10 74 30 26 52 := ⟨_, _, _, _, _, _, tyX10 26, rfl, qx_cpX10, rfl, rfl, qx_wfRX10_74, rfl, rfl, by decide +kernel, fun _ => rfl, fun _ => rfl⟩
set_option maxRecDepth 100000 in
theorem qx_wfRX10_77 : Cond.fieldLink RX10 77 "ContractFramesModel" "oldContracts" "[I" ∈ qx_BW := qx_in (i := 603) rfl rfl
theorem qx_gRX10_77 : qx_FG RX10 77 30 27 (some 53) := ⟨_, _, _, _, _, _, rfl, qx_cpX10, rfl, rfl, qx_wfRX10_77⟩
theorem qx_fRX10_77 : qx_FF RX10 77 30 27 53 := ⟨_, _, _, _, _, _, tyX10 27, rfl, qx_cpX10, rfl, rfl, qx_wfRX10_77, rfl, rfl, by decide +kernel, fun _ => rfl, fun _ => rfl⟩
set_option maxRecDepth 100000 in
theorem qx_wfRX10_80 : Cond.fieldLink RX10 80 "ContractFramesModel" "oldEvents" "[I" ∈ qx_BW := qx_in (i := 604) rfl rfl
theorem qx_gRX10_80 : qx_FG RX10 80 30 28 (some 54) := ⟨_, _, _, _, _, _, rfl, qx_cpX10, rfl, rfl, qx_wfRX10_80⟩
theorem qx_fRX10_80 : qx_FF RX10 80 30 28 54 := ⟨_, _, _, _, _, _, tyX10 28, rfl, qx_cpX10, rfl, rfl, qx_wfRX10_80, rfl, rfl, by decide +kernel, fun _ => rfl, fun _ => rfl⟩
set_option maxRecDepth 100000 in
theorem qx_wfRX10_83 : Cond.fieldLink RX10 83 "ContractFramesModel" "oldFreed" "[I" ∈ qx_BW := qx_in (i := 605) rfl rfl
theorem qx_gRX10_83 : qx_FG RX10 83 30 29 (some 55) := ⟨_, _, _, _, _, _, rfl, qx_cpX10, rfl, rfl, qx_wfRX10_83⟩
theorem qx_fRX10_83 : qx_FF RX10 83 30 29 55 := ⟨_, _, _, _, _, _, tyX10 29, rfl, qx_cpX10, rfl, rfl, qx_wfRX10_83, rfl, rfl, by decide +kernel, fun _ => rfl, fun _ => rfl⟩
set_option maxRecDepth 100000 in
theorem qx_wfRX10_86 : Cond.fieldLink RX10 86 "ContractFramesModel" "eContract" "[I" ∈ qx_BW := qx_in (i := 607) rfl rfl
theorem qx_gRX10_86 : qx_FG RX10 86 30 31 (some 56) := ⟨_, _, _, _, _, _, rfl, qx_cpX10, rfl, rfl, qx_wfRX10_86⟩
theorem qx_fRX10_86 : qx_FF RX10 86 30 31 56 := ⟨_, _, _, _, _, _, tyX10 31, rfl, qx_cpX10, rfl, rfl, qx_wfRX10_86, rfl, rfl, by decide +kernel, fun _ => rfl, fun _ => rfl⟩
set_option maxRecDepth 100000 in
theorem qx_wfRX10_89 : Cond.fieldLink RX10 89 "ContractFramesModel" "eKind" "[I" ∈ qx_BW := qx_in (i := 608) rfl rfl
theorem qx_gRX10_89 : qx_FG RX10 89 30 32 (some 57) := ⟨_, _, _, _, _, _, rfl, qx_cpX10, rfl, rfl, qx_wfRX10_89⟩
theorem qx_fRX10_89 : qx_FF RX10 89 30 32 57 := ⟨_, _, _, _, _, _, tyX10 32, rfl, qx_cpX10, rfl, rfl, qx_wfRX10_89, rfl, rfl, by decide +kernel, fun _ => rfl, fun _ => rfl⟩
set_option maxRecDepth 100000 in
theorem qx_wfRX10_92 : Cond.fieldLink RX10 92 "ContractFramesModel" "eValue" "[I" ∈ qx_BW := qx_in (i := 609) rfl rfl
theorem qx_gRX10_92 : qx_FG RX10 92 30 33 (some 58) := ⟨_, _, _, _, _, _, rfl, qx_cpX10, rfl, rfl, qx_wfRX10_92⟩
theorem qx_fRX10_92 : qx_FF RX10 92 30 33 58 := ⟨_, _, _, _, _, _, tyX10 33, rfl, qx_cpX10, rfl, rfl, qx_wfRX10_92, rfl, rfl, by decide +kernel, fun _ => rfl, fun _ => rfl⟩
set_option maxRecDepth 100000 in
theorem qx_wfRX10_95 : Cond.fieldLink RX10 95 "ContractFramesModel" "eDeep" "[I" ∈ qx_BW := qx_in (i := 610) rfl rfl
theorem qx_gRX10_95 : qx_FG RX10 95 30 34 (some 59) := ⟨_, _, _, _, _, _, rfl, qx_cpX10, rfl, rfl, qx_wfRX10_95⟩
theorem qx_fRX10_95 : qx_FF RX10 95 30 34 59 := ⟨_, _, _, _, _, _, tyX10 34, rfl, qx_cpX10, rfl, rfl, qx_wfRX10_95, rfl, rfl, by decide +kernel, fun _ => rfl, fun _ => rfl⟩
set_option maxRecDepth 100000 in
theorem qx_wfRX10_98 : Cond.fieldLink RX10 98 "ContractFramesModel" "rMember" "[I" ∈ qx_BW := qx_in (i := 614) rfl rfl
theorem qx_gRX10_98 : qx_FG RX10 98 30 38 (some 60) := ⟨_, _, _, _, _, _, rfl, qx_cpX10, rfl, rfl, qx_wfRX10_98⟩
theorem qx_fRX10_98 : qx_FF RX10 98 30 38 60 := ⟨_, _, _, _, _, _, tyX10 38, rfl, qx_cpX10, rfl, rfl, qx_wfRX10_98, rfl, rfl, by decide +kernel, fun _ => rfl, fun _ => rfl⟩
set_option maxRecDepth 100000 in
theorem qx_wfRX10_101 : Cond.fieldLink RX10 101 "ContractFramesModel" "rDeep" "[I" ∈ qx_BW := qx_in (i := 615) rfl rfl
theorem qx_gRX10_101 : qx_FG RX10 101 30 39 (some 61) := ⟨_, _, _, _, _, _, rfl, qx_cpX10, rfl, rfl, qx_wfRX10_101⟩
theorem qx_fRX10_101 : qx_FF RX10 101 30 39 61 := ⟨_, _, _, _, _, _, tyX10 39, rfl, qx_cpX10, rfl, rfl, qx_wfRX10_101, rfl, rfl, by decide +kernel, fun _ => rfl, fun _ => rfl⟩
set_option maxRecDepth 100000 in
theorem qx_wfRX10_104 : Cond.fieldLink RX10 104 "ContractFramesModel" "rUsed" "[I" ∈ qx_BW := qx_in (i := 616) rfl rfl
theorem qx_gRX10_104 : qx_FG RX10 104 30 40 (some 62) := ⟨_, _, _, _, _, _, rfl, qx_cpX10, rfl, rfl, qx_wfRX10_104⟩
theorem qx_fRX10_104 : qx_FF RX10 104 30 40 62 := ⟨_, _, _, _, _, _, tyX10 40, rfl, qx_cpX10, rfl, rfl, qx_wfRX10_104, rfl, rfl, by decide +kernel, fun _ => rfl, fun _ => rfl⟩
set_option maxRecDepth 100000 in
theorem qx_wfRX10_107 : Cond.fieldLink RX10 107 "ContractFramesModel" "rThrew" "[I" ∈ qx_BW := qx_in (i := 617) rfl rfl
theorem qx_gRX10_107 : qx_FG RX10 107 30 41 (some 63) := ⟨_, _, _, _, _, _, rfl, qx_cpX10, rfl, rfl, qx_wfRX10_107⟩
theorem qx_fRX10_107 : qx_FF RX10 107 30 41 63 := ⟨_, _, _, _, _, _, tyX10 41, rfl, qx_cpX10, rfl, rfl, qx_wfRX10_107, rfl, rfl, by decide +kernel, fun _ => rfl, fun _ => rfl⟩
set_option maxRecDepth 100000 in
theorem qx_wfRX10_110 : Cond.fieldLink RX10 110 "ContractFramesModel" "rGave" "[I" ∈ qx_BW := qx_in (i := 618) rfl rfl
theorem qx_gRX10_110 : qx_FG RX10 110 30 42 (some 64) := ⟨_, _, _, _, _, _, rfl, qx_cpX10, rfl, rfl, qx_wfRX10_110⟩
theorem qx_fRX10_110 : qx_FF RX10 110 30 42 64 := ⟨_, _, _, _, _, _, tyX10 42, rfl, qx_cpX10, rfl, rfl, qx_wfRX10_110, rfl, rfl, by decide +kernel, fun _ => rfl, fun _ => rfl⟩
set_option maxRecDepth 100000 in
theorem qx_wfRX10_113 : Cond.fieldLink RX10 113 "ContractFramesModel" "rReads" "[Z" ∈ qx_BW := qx_in (i := 619) rfl rfl
theorem qx_gRX10_113 : qx_FG RX10 113 30 43 (some 65) := ⟨_, _, _, _, _, _, rfl, qx_cpX10, rfl, rfl, qx_wfRX10_113⟩
theorem qx_fRX10_113 : qx_FF RX10 113 30 43 65 := ⟨_, _, _, _, _, _, tyX10 43, rfl, qx_cpX10, rfl, rfl, qx_wfRX10_113, rfl, rfl, by decide +kernel, fun _ => rfl, fun _ => rfl⟩
set_option maxRecDepth 100000 in
theorem qx_wfRX10_119 : Cond.fieldLink RX10 119 "ContractFramesModel" "contracts" "I" ∈ qx_BW := qx_in (i := 576) rfl rfl
theorem qx_gRX10_119 : qx_FG RX10 119 30 0 none := ⟨_, _, _, _, _, _, rfl, qx_cpX10, rfl, rfl, qx_wfRX10_119⟩
theorem qx_pRX10_119 : qx_FP RX10 119 30 0 .int := ⟨_, _, _, _, _, _, rfl, qx_cpX10, rfl, rfl, qx_wfRX10_119, rfl, by decide +kernel⟩
set_option maxRecDepth 100000 in
theorem qx_wfRX10_123 : Cond.fieldLink RX10 123 "ContractFramesModel" "pot" "I" ∈ qx_BW := qx_in (i := 579) rfl rfl
theorem qx_gRX10_123 : qx_FG RX10 123 30 3 none := ⟨_, _, _, _, _, _, rfl, qx_cpX10, rfl, rfl, qx_wfRX10_123⟩
theorem qx_pRX10_123 : qx_FP RX10 123 30 3 .int := ⟨_, _, _, _, _, _, rfl, qx_cpX10, rfl, rfl, qx_wfRX10_123, rfl, by decide +kernel⟩
set_option maxRecDepth 100000 in
theorem qx_wfRX10_126 : Cond.fieldLink RX10 126 "ContractFramesModel" "gaveMany" "I" ∈ qx_BW := qx_in (i := 586) rfl rfl
theorem qx_gRX10_126 : qx_FG RX10 126 30 10 none := ⟨_, _, _, _, _, _, rfl, qx_cpX10, rfl, rfl, qx_wfRX10_126⟩
theorem qx_pRX10_126 : qx_FP RX10 126 30 10 .int := ⟨_, _, _, _, _, _, rfl, qx_cpX10, rfl, rfl, qx_wfRX10_126, rfl, by decide +kernel⟩
set_option maxRecDepth 100000 in
theorem qx_wfRX10_129 : Cond.fieldLink RX10 129 "ContractFramesModel" "threwMany" "I" ∈ qx_BW := qx_in (i := 587) rfl rfl
theorem qx_gRX10_129 : qx_FG RX10 129 30 11 none := ⟨_, _, _, _, _, _, rfl, qx_cpX10, rfl, rfl, qx_wfRX10_129⟩
theorem qx_pRX10_129 : qx_FP RX10 129 30 11 .int := ⟨_, _, _, _, _, _, rfl, qx_cpX10, rfl, rfl, qx_wfRX10_129, rfl, by decide +kernel⟩
set_option maxRecDepth 100000 in
theorem qx_wfRX10_132 : Cond.fieldLink RX10 132 "ContractFramesModel" "hasCalled" "Z" ∈ qx_BW := qx_in (i := 620) rfl rfl
theorem qx_gRX10_132 : qx_FG RX10 132 30 44 none := ⟨_, _, _, _, _, _, rfl, qx_cpX10, rfl, rfl, qx_wfRX10_132⟩
theorem qx_pRX10_132 : qx_FP RX10 132 30 44 .boolean := ⟨_, _, _, _, _, _, rfl, qx_cpX10, rfl, rfl, qx_wfRX10_132, rfl, by decide +kernel⟩
set_option maxRecDepth 100000 in
theorem qx_wfRX10_136 : Cond.fieldLink RX10 136 "ContractFramesModel" "events" "I" ∈ qx_BW := qx_in (i := 606) rfl rfl
theorem qx_gRX10_136 : qx_FG RX10 136 30 30 none := ⟨_, _, _, _, _, _, rfl, qx_cpX10, rfl, rfl, qx_wfRX10_136⟩
theorem qx_pRX10_136 : qx_FP RX10 136 30 30 .int := ⟨_, _, _, _, _, _, rfl, qx_cpX10, rfl, rfl, qx_wfRX10_136, rfl, by decide +kernel⟩
set_option maxRecDepth 100000 in
theorem qx_wfRX10_139 : Cond.fieldLink RX10 139 "ContractFramesModel" "entered" "I" ∈ qx_BW := qx_in (i := 612) rfl rfl
theorem qx_gRX10_139 : qx_FG RX10 139 30 36 none := ⟨_, _, _, _, _, _, rfl, qx_cpX10, rfl, rfl, qx_wfRX10_139⟩
theorem qx_pRX10_139 : qx_FP RX10 139 30 36 .int := ⟨_, _, _, _, _, _, rfl, qx_cpX10, rfl, rfl, qx_wfRX10_139, rfl, by decide +kernel⟩
set_option maxRecDepth 100000 in
theorem qx_wfRX9_39 : Cond.fieldLink RX9 39 "ContractFrames$Program" "contracts" "I" ∈ qx_BW := qx_in (i := 90) rfl rfl
theorem qx_gRX9_39 : qx_FG RX9 39 1 1 none := ⟨_, _, _, _, _, _, rfl, qx_cpX4, rfl, rfl, qx_wfRX9_39⟩
theorem qx_pRX9_39 : qx_FP RX9 39 1 1 .int := ⟨_, _, _, _, _, _, rfl, qx_cpX4, rfl, rfl, qx_wfRX9_39, rfl, by decide +kernel⟩
set_option maxRecDepth 100000 in
theorem qx_wfRX9_57 : Cond.fieldLink RX9 57 "ContractFrames$Member" "size" "I" ∈ qx_BW := qx_in (i := 71) rfl rfl
theorem qx_gRX9_57 : qx_FG RX9 57 17 3 none := ⟨_, _, _, _, _, _, rfl, qx_cpX3, rfl, rfl, qx_wfRX9_57⟩
theorem qx_pRX9_57 : qx_FP RX9 57 17 3 .int := ⟨_, _, _, _, _, _, rfl, qx_cpX3, rfl, rfl, qx_wfRX9_57, rfl, by decide +kernel⟩
set_option maxRecDepth 100000 in
theorem qx_wfRX4_18 : Cond.fieldLink RX4 18 "ContractFrames$Program" "contracts" "I" ∈ qx_BW := qx_in (i := 91) rfl rfl
theorem qx_gRX4_18 : qx_FG RX4 18 1 1 none := ⟨_, _, _, _, _, _, rfl, qx_cpX4, rfl, rfl, qx_wfRX4_18⟩
theorem qx_pRX4_18 : qx_FP RX4 18 1 1 .int := ⟨_, _, _, _, _, _, rfl, qx_cpX4, rfl, rfl, qx_wfRX4_18, rfl, by decide +kernel⟩
set_option maxRecDepth 100000 in
theorem qx_wfRX3_21 : Cond.fieldLink RX3 21 "ContractFrames$Member" "size" "I" ∈ qx_BW := qx_in (i := 70) rfl rfl
theorem qx_gRX3_21 : qx_FG RX3 21 17 3 none := ⟨_, _, _, _, _, _, rfl, qx_cpX3, rfl, rfl, qx_wfRX3_21⟩
theorem qx_pRX3_21 : qx_FP RX3 21 17 3 .int := ⟨_, _, _, _, _, _, rfl, qx_cpX3, rfl, rfl, qx_wfRX3_21, rfl, by decide +kernel⟩
set_option maxRecDepth 100000 in
theorem qx_wfRX9_66 : Cond.fieldLink RX9 66 "ContractFrames$Member" "guarded" "Z" ∈ qx_BW := qx_in (i := 74) rfl rfl
theorem qx_gRX9_66 : qx_FG RX9 66 17 4 none := ⟨_, _, _, _, _, _, rfl, qx_cpX3, rfl, rfl, qx_wfRX9_66⟩
theorem qx_pRX9_66 : qx_FP RX9 66 17 4 .boolean := ⟨_, _, _, _, _, _, rfl, qx_cpX3, rfl, rfl, qx_wfRX9_66, rfl, by decide +kernel⟩
set_option maxRecDepth 100000 in
theorem qx_wfRX9_78 : Cond.fieldLink RX9 78 "ContractFrames$Report" "threw" "Z" ∈ qx_BW := qx_in (i := 151) rfl rfl
theorem qx_gRX9_78 : qx_FG RX9 78 7 2 none := ⟨_, _, _, _, _, _, rfl, qx_cpX5, rfl, rfl, qx_wfRX9_78⟩
theorem qx_pRX9_78 : qx_FP RX9 78 7 2 .boolean := ⟨_, _, _, _, _, _, rfl, qx_cpX5, rfl, rfl, qx_wfRX9_78, rfl, by decide +kernel⟩
set_option maxRecDepth 100000 in
theorem qx_wfRX9_123 : Cond.fieldLink RX9 123 "ContractFrames$World" "purses" "[I" ∈ qx_BW := qx_in (i := 120) rfl rfl
theorem qx_gRX9_123 : qx_FG RX9 123 3 1 (some 5) := ⟨_, _, _, _, _, _, rfl, qx_cpX8, rfl, rfl, qx_wfRX9_123⟩
set_option maxRecDepth 100000 in
theorem qx_wfRX2_49 : Cond.fieldLink RX2 49 "ContractFrames$Frame" "caller" "I" ∈ qx_BW := qx_in (i := 216) rfl rfl
theorem qx_gRX2_49 : qx_FG RX2 49 12 6 none := ⟨_, _, _, _, _, _, rfl, qx_cpX1, rfl, rfl, qx_wfRX2_49⟩
theorem qx_pRX2_49 : qx_FP RX2 49 12 6 .int := ⟨_, _, _, _, _, _, rfl, qx_cpX1, rfl, rfl, qx_wfRX2_49, rfl, by decide +kernel⟩
set_option maxRecDepth 100000 in
theorem qx_wfRX2_53 : Cond.fieldLink RX2 53 "ContractFrames$Frame" "onlyReads" "Z" ∈ qx_BW := qx_in (i := 217) rfl rfl
theorem qx_gRX2_53 : qx_FG RX2 53 12 7 none := ⟨_, _, _, _, _, _, rfl, qx_cpX1, rfl, rfl, qx_wfRX2_53⟩
theorem qx_pRX2_53 : qx_FP RX2 53 12 7 .boolean := ⟨_, _, _, _, _, _, rfl, qx_cpX1, rfl, rfl, qx_wfRX2_53, rfl, by decide +kernel⟩
set_option maxRecDepth 100000 in
theorem qx_wfRX2_61 : Cond.fieldLink RX2 61 "ContractFrames$World" "zeroings" "I" ∈ qx_BW := qx_in (i := 128) rfl rfl
theorem qx_gRX2_61 : qx_FG RX2 61 3 4 none := ⟨_, _, _, _, _, _, rfl, qx_cpX8, rfl, rfl, qx_wfRX2_61⟩
theorem qx_pRX2_61 : qx_FP RX2 61 3 4 .int := ⟨_, _, _, _, _, _, rfl, qx_cpX8, rfl, rfl, qx_wfRX2_61, rfl, by decide +kernel⟩
set_option maxRecDepth 100000 in
theorem qx_wfRX8_36 : Cond.fieldLink RX8 36 "ContractFrames$World" "events" "I" ∈ qx_BW := qx_in (i := 124) rfl rfl
theorem qx_gRX8_36 : qx_FG RX8 36 3 3 none := ⟨_, _, _, _, _, _, rfl, qx_cpX8, rfl, rfl, qx_wfRX8_36⟩
theorem qx_pRX8_36 : qx_FP RX8 36 3 3 .int := ⟨_, _, _, _, _, _, rfl, qx_cpX8, rfl, rfl, qx_wfRX8_36, rfl, by decide +kernel⟩
set_option maxRecDepth 100000 in
theorem qx_wfRX8_40 : Cond.fieldLink RX8 40 "ContractFrames$World" "zeroings" "I" ∈ qx_BW := qx_in (i := 129) rfl rfl
theorem qx_gRX8_40 : qx_FG RX8 40 3 4 none := ⟨_, _, _, _, _, _, rfl, qx_cpX8, rfl, rfl, qx_wfRX8_40⟩
theorem qx_pRX8_40 : qx_FP RX8 40 3 4 .int := ⟨_, _, _, _, _, _, rfl, qx_cpX8, rfl, rfl, qx_wfRX8_40, rfl, by decide +kernel⟩
set_option maxRecDepth 100000 in
theorem qx_wfRX5_27 : Cond.fieldLink RX5 27 "ContractFrames$Report" "entered" "I" ∈ qx_BW := qx_in (i := 159) rfl rfl
theorem qx_gRX5_27 : qx_FG RX5 27 7 6 none := ⟨_, _, _, _, _, _, rfl, qx_cpX5, rfl, rfl, qx_wfRX5_27⟩
theorem qx_pRX5_27 : qx_FP RX5 27 7 6 .int := ⟨_, _, _, _, _, _, rfl, qx_cpX5, rfl, rfl, qx_wfRX5_27, rfl, by decide +kernel⟩
set_option maxRecDepth 100000 in
theorem qx_wfRX5_30 : Cond.fieldLink RX5 30 "ContractFrames$Report" "deepest" "I" ∈ qx_BW := qx_in (i := 161) rfl rfl
theorem qx_gRX5_30 : qx_FG RX5 30 7 7 none := ⟨_, _, _, _, _, _, rfl, qx_cpX5, rfl, rfl, qx_wfRX5_30⟩
theorem qx_pRX5_30 : qx_FP RX5 30 7 7 .int := ⟨_, _, _, _, _, _, rfl, qx_cpX5, rfl, rfl, qx_wfRX5_30, rfl, by decide +kernel⟩
set_option maxRecDepth 100000 in
theorem qx_wfRX1_13 : Cond.fieldLink RX1 13 "ContractFrames$Frame" "contract" "I" ∈ qx_BW := qx_in (i := 206) rfl rfl
theorem qx_gRX1_13 : qx_FG RX1 13 12 2 none := ⟨_, _, _, _, _, _, rfl, qx_cpX1, rfl, rfl, qx_wfRX1_13⟩
theorem qx_pRX1_13 : qx_FP RX1 13 12 2 .int := ⟨_, _, _, _, _, _, rfl, qx_cpX1, rfl, rfl, qx_wfRX1_13, rfl, by decide +kernel⟩
set_option maxRecDepth 100000 in
theorem qx_wfRX1_17 : Cond.fieldLink RX1 17 "ContractFrames$Frame" "member" "I" ∈ qx_BW := qx_in (i := 209) rfl rfl
theorem qx_gRX1_17 : qx_FG RX1 17 12 3 none := ⟨_, _, _, _, _, _, rfl, qx_cpX1, rfl, rfl, qx_wfRX1_17⟩
theorem qx_pRX1_17 : qx_FP RX1 17 12 3 .int := ⟨_, _, _, _, _, _, rfl, qx_cpX1, rfl, rfl, qx_wfRX1_17, rfl, by decide +kernel⟩
set_option maxRecDepth 100000 in
theorem qx_wfRX1_20 : Cond.fieldLink RX1 20 "ContractFrames$Frame" "argument" "I" ∈ qx_BW := qx_in (i := 212) rfl rfl
theorem qx_gRX1_20 : qx_FG RX1 20 12 4 none := ⟨_, _, _, _, _, _, rfl, qx_cpX1, rfl, rfl, qx_wfRX1_20⟩
theorem qx_pRX1_20 : qx_FP RX1 20 12 4 .int := ⟨_, _, _, _, _, _, rfl, qx_cpX1, rfl, rfl, qx_wfRX1_20, rfl, by decide +kernel⟩
set_option maxRecDepth 100000 in
theorem qx_wfRX1_23 : Cond.fieldLink RX1 23 "ContractFrames$Frame" "value" "I" ∈ qx_BW := qx_in (i := 214) rfl rfl
theorem qx_gRX1_23 : qx_FG RX1 23 12 5 none := ⟨_, _, _, _, _, _, rfl, qx_cpX1, rfl, rfl, qx_wfRX1_23⟩
theorem qx_pRX1_23 : qx_FP RX1 23 12 5 .int := ⟨_, _, _, _, _, _, rfl, qx_cpX1, rfl, rfl, qx_wfRX1_23, rfl, by decide +kernel⟩
set_option maxRecDepth 100000 in
theorem qx_wfRX1_26 : Cond.fieldLink RX1 26 "ContractFrames$Frame" "limit" "I" ∈ qx_BW := qx_in (i := 219) rfl rfl
theorem qx_gRX1_26 : qx_FG RX1 26 12 8 none := ⟨_, _, _, _, _, _, rfl, qx_cpX1, rfl, rfl, qx_wfRX1_26⟩
theorem qx_pRX1_26 : qx_FP RX1 26 12 8 .int := ⟨_, _, _, _, _, _, rfl, qx_cpX1, rfl, rfl, qx_wfRX1_26, rfl, by decide +kernel⟩
set_option maxRecDepth 100000 in
theorem qx_wfRX1_29 : Cond.fieldLink RX1 29 "ContractFrames$Frame" "left" "I" ∈ qx_BW := qx_in (i := 220) rfl rfl
theorem qx_gRX1_29 : qx_FG RX1 29 12 9 none := ⟨_, _, _, _, _, _, rfl, qx_cpX1, rfl, rfl, qx_wfRX1_29⟩
theorem qx_pRX1_29 : qx_FP RX1 29 12 9 .int := ⟨_, _, _, _, _, _, rfl, qx_cpX1, rfl, rfl, qx_wfRX1_29, rfl, by decide +kernel⟩
set_option maxRecDepth 100000 in
theorem qx_wfRX1_32 : Cond.fieldLink RX1 32 "ContractFrames$Frame" "height" "I" ∈ qx_BW := qx_in (i := 204) rfl rfl
theorem qx_gRX1_32 : qx_FG RX1 32 12 1 none := ⟨_, _, _, _, _, _, rfl, qx_cpX1, rfl, rfl, qx_wfRX1_32⟩
theorem qx_pRX1_32 : qx_FP RX1 32 12 1 .int := ⟨_, _, _, _, _, _, rfl, qx_cpX1, rfl, rfl, qx_wfRX1_32, rfl, by decide +kernel⟩
set_option maxRecDepth 100000 in
theorem qx_wfRX1_35 : Cond.fieldLink RX1 35 "ContractFrames$Frame" "position" "I" ∈ qx_BW := qx_in (i := 222) rfl rfl
theorem qx_gRX1_35 : qx_FG RX1 35 12 10 none := ⟨_, _, _, _, _, _, rfl, qx_cpX1, rfl, rfl, qx_wfRX1_35⟩
theorem qx_pRX1_35 : qx_FP RX1 35 12 10 .int := ⟨_, _, _, _, _, _, rfl, qx_cpX1, rfl, rfl, qx_wfRX1_35, rfl, by decide +kernel⟩
set_option maxRecDepth 100000 in
theorem qx_wfRX1_38 : Cond.fieldLink RX1 38 "ContractFrames$Frame" "ended" "Z" ∈ qx_BW := qx_in (i := 224) rfl rfl
theorem qx_gRX1_38 : qx_FG RX1 38 12 11 none := ⟨_, _, _, _, _, _, rfl, qx_cpX1, rfl, rfl, qx_wfRX1_38⟩
theorem qx_pRX1_38 : qx_FP RX1 38 12 11 .boolean := ⟨_, _, _, _, _, _, rfl, qx_cpX1, rfl, rfl, qx_wfRX1_38, rfl, by decide +kernel⟩
set_option maxRecDepth 100000 in
theorem qx_wfRX1_44 : Cond.fieldLink RX1 44 "ContractFrames$Frame" "threw" "I" ∈ qx_BW := qx_in (i := 226) rfl rfl
theorem qx_gRX1_44 : qx_FG RX1 44 12 12 none := ⟨_, _, _, _, _, _, rfl, qx_cpX1, rfl, rfl, qx_wfRX1_44⟩
theorem qx_pRX1_44 : qx_FP RX1 44 12 12 .int := ⟨_, _, _, _, _, _, rfl, qx_cpX1, rfl, rfl, qx_wfRX1_44, rfl, by decide +kernel⟩
set_option maxRecDepth 100000 in
theorem qx_wfRX1_47 : Cond.fieldLink RX1 47 "ContractFrames$Frame" "gave" "I" ∈ qx_BW := qx_in (i := 229) rfl rfl
theorem qx_gRX1_47 : qx_FG RX1 47 12 13 none := ⟨_, _, _, _, _, _, rfl, qx_cpX1, rfl, rfl, qx_wfRX1_47⟩
theorem qx_pRX1_47 : qx_FP RX1 47 12 13 .int := ⟨_, _, _, _, _, _, rfl, qx_cpX1, rfl, rfl, qx_wfRX1_47, rfl, by decide +kernel⟩
set_option maxRecDepth 100000 in
theorem qx_wfRX2_82 : Cond.fieldLink RX2 82 "ContractFrames$Frame" "contract" "I" ∈ qx_BW := qx_in (i := 207) rfl rfl
theorem qx_gRX2_82 : qx_FG RX2 82 12 2 none := ⟨_, _, _, _, _, _, rfl, qx_cpX1, rfl, rfl, qx_wfRX2_82⟩
theorem qx_pRX2_82 : qx_FP RX2 82 12 2 .int := ⟨_, _, _, _, _, _, rfl, qx_cpX1, rfl, rfl, qx_wfRX2_82, rfl, by decide +kernel⟩
set_option maxRecDepth 100000 in
theorem qx_wfRX2_85 : Cond.fieldLink RX2 85 "ContractFrames$Frame" "member" "I" ∈ qx_BW := qx_in (i := 210) rfl rfl
theorem qx_gRX2_85 : qx_FG RX2 85 12 3 none := ⟨_, _, _, _, _, _, rfl, qx_cpX1, rfl, rfl, qx_wfRX2_85⟩
theorem qx_pRX2_85 : qx_FP RX2 85 12 3 .int := ⟨_, _, _, _, _, _, rfl, qx_cpX1, rfl, rfl, qx_wfRX2_85, rfl, by decide +kernel⟩
set_option maxRecDepth 100000 in
theorem qx_wfRX2_102 : Cond.fieldLink RX2 102 "ContractFrames$Frame" "value" "I" ∈ qx_BW := qx_in (i := 215) rfl rfl
theorem qx_gRX2_102 : qx_FG RX2 102 12 5 none := ⟨_, _, _, _, _, _, rfl, qx_cpX1, rfl, rfl, qx_wfRX2_102⟩
theorem qx_pRX2_102 : qx_FP RX2 102 12 5 .int := ⟨_, _, _, _, _, _, rfl, qx_cpX1, rfl, rfl, qx_wfRX2_102, rfl, by decide +kernel⟩
set_option maxRecDepth 100000 in
theorem qx_wfRX2_105 : Cond.fieldLink RX2 105 "ContractFrames$Frame" "ended" "Z" ∈ qx_BW := qx_in (i := 225) rfl rfl
theorem qx_gRX2_105 : qx_FG RX2 105 12 11 none := ⟨_, _, _, _, _, _, rfl, qx_cpX1, rfl, rfl, qx_wfRX2_105⟩
theorem qx_pRX2_105 : qx_FP RX2 105 12 11 .boolean := ⟨_, _, _, _, _, _, rfl, qx_cpX1, rfl, rfl, qx_wfRX2_105, rfl, by decide +kernel⟩
set_option maxRecDepth 100000 in
theorem qx_wfRX2_108 : Cond.fieldLink RX2 108 "ContractFrames$Frame" "position" "I" ∈ qx_BW := qx_in (i := 223) rfl rfl
theorem qx_gRX2_108 : qx_FG RX2 108 12 10 none := ⟨_, _, _, _, _, _, rfl, qx_cpX1, rfl, rfl, qx_wfRX2_108⟩
theorem qx_pRX2_108 : qx_FP RX2 108 12 10 .int := ⟨_, _, _, _, _, _, rfl, qx_cpX1, rfl, rfl, qx_wfRX2_108, rfl, by decide +kernel⟩
set_option maxRecDepth 100000 in
theorem qx_wfRX2_111 : Cond.fieldLink RX2 111 "ContractFrames$Member" "size" "I" ∈ qx_BW := qx_in (i := 72) rfl rfl
theorem qx_gRX2_111 : qx_FG RX2 111 17 3 none := ⟨_, _, _, _, _, _, rfl, qx_cpX3, rfl, rfl, qx_wfRX2_111⟩
theorem qx_pRX2_111 : qx_FP RX2 111 17 3 .int := ⟨_, _, _, _, _, _, rfl, qx_cpX3, rfl, rfl, qx_wfRX2_111, rfl, by decide +kernel⟩
set_option maxRecDepth 100000 in
theorem qx_wfRX2_120 : Cond.fieldLink RX2 120 "ContractFrames$Frame" "left" "I" ∈ qx_BW := qx_in (i := 221) rfl rfl
theorem qx_gRX2_120 : qx_FG RX2 120 12 9 none := ⟨_, _, _, _, _, _, rfl, qx_cpX1, rfl, rfl, qx_wfRX2_120⟩
theorem qx_pRX2_120 : qx_FP RX2 120 12 9 .int := ⟨_, _, _, _, _, _, rfl, qx_cpX1, rfl, rfl, qx_wfRX2_120, rfl, by decide +kernel⟩
set_option maxRecDepth 100000 in
theorem qx_wfRX6_20 : Cond.fieldLink RX6 20 "ContractFrames$World" "stores" "[I" ∈ qx_BW := qx_in (i := 114) rfl rfl
theorem qx_gRX6_20 : qx_FG RX6 20 3 0 (some 4) := ⟨_, _, _, _, _, _, rfl, qx_cpX8, rfl, rfl, qx_wfRX6_20⟩
set_option maxRecDepth 100000 in
theorem qx_wfRX6_27 : Cond.fieldLink RX6 27 "ContractFrames$World" "purses" "[I" ∈ qx_BW := qx_in (i := 118) rfl rfl
theorem qx_gRX6_27 : qx_FG RX6 27 3 1 (some 5) := ⟨_, _, _, _, _, _, rfl, qx_cpX8, rfl, rfl, qx_wfRX6_27⟩
set_option maxRecDepth 100000 in
theorem qx_wfRX6_28 : Cond.fieldLink RX6 28 "ContractFrames$World" "events" "I" ∈ qx_BW := qx_in (i := 123) rfl rfl
theorem qx_gRX6_28 : qx_FG RX6 28 3 3 none := ⟨_, _, _, _, _, _, rfl, qx_cpX8, rfl, rfl, qx_wfRX6_28⟩
theorem qx_pRX6_28 : qx_FP RX6 28 3 3 .int := ⟨_, _, _, _, _, _, rfl, qx_cpX8, rfl, rfl, qx_wfRX6_28, rfl, by decide +kernel⟩
set_option maxRecDepth 100000 in
theorem qx_wfRX6_32 : Cond.fieldLink RX6 32 "ContractFrames$Snapshot" "events" "I" ∈ qx_BW := qx_in (i := 268) rfl rfl
theorem qx_gRX6_32 : qx_FG RX6 32 14 2 none := ⟨_, _, _, _, _, _, rfl, qx_cpX6, rfl, rfl, qx_wfRX6_32⟩
theorem qx_pRX6_32 : qx_FP RX6 32 14 2 .int := ⟨_, _, _, _, _, _, rfl, qx_cpX6, rfl, rfl, qx_wfRX6_32, rfl, by decide +kernel⟩
set_option maxRecDepth 100000 in
theorem qx_wfRX6_33 : Cond.fieldLink RX6 33 "ContractFrames$World" "zeroings" "I" ∈ qx_BW := qx_in (i := 127) rfl rfl
theorem qx_gRX6_33 : qx_FG RX6 33 3 4 none := ⟨_, _, _, _, _, _, rfl, qx_cpX8, rfl, rfl, qx_wfRX6_33⟩
theorem qx_pRX6_33 : qx_FP RX6 33 3 4 .int := ⟨_, _, _, _, _, _, rfl, qx_cpX8, rfl, rfl, qx_wfRX6_33, rfl, by decide +kernel⟩
set_option maxRecDepth 100000 in
theorem qx_wfRX6_36 : Cond.fieldLink RX6 36 "ContractFrames$Snapshot" "zeroings" "I" ∈ qx_BW := qx_in (i := 269) rfl rfl
theorem qx_gRX6_36 : qx_FG RX6 36 14 3 none := ⟨_, _, _, _, _, _, rfl, qx_cpX6, rfl, rfl, qx_wfRX6_36⟩
theorem qx_pRX6_36 : qx_FP RX6 36 14 3 .int := ⟨_, _, _, _, _, _, rfl, qx_cpX6, rfl, rfl, qx_wfRX6_36, rfl, by decide +kernel⟩
set_option maxRecDepth 100000 in
theorem qx_wfRX5_42 : Cond.fieldLink RX5 42 "ContractFrames$Frame" "contract" "I" ∈ qx_BW := qx_in (i := 208) rfl rfl
theorem qx_gRX5_42 : qx_FG RX5 42 12 2 none := ⟨_, _, _, _, _, _, rfl, qx_cpX1, rfl, rfl, qx_wfRX5_42⟩
theorem qx_pRX5_42 : qx_FP RX5 42 12 2 .int := ⟨_, _, _, _, _, _, rfl, qx_cpX1, rfl, rfl, qx_wfRX5_42, rfl, by decide +kernel⟩
set_option maxRecDepth 100000 in
theorem qx_wfRX5_47 : Cond.fieldLink RX5 47 "ContractFrames$Frame" "member" "I" ∈ qx_BW := qx_in (i := 211) rfl rfl
theorem qx_gRX5_47 : qx_FG RX5 47 12 3 none := ⟨_, _, _, _, _, _, rfl, qx_cpX1, rfl, rfl, qx_wfRX5_47⟩
theorem qx_pRX5_47 : qx_FP RX5 47 12 3 .int := ⟨_, _, _, _, _, _, rfl, qx_cpX1, rfl, rfl, qx_wfRX5_47, rfl, by decide +kernel⟩
set_option maxRecDepth 100000 in
theorem qx_wfRX5_54 : Cond.fieldLink RX5 54 "ContractFrames$Frame" "threw" "I" ∈ qx_BW := qx_in (i := 227) rfl rfl
theorem qx_gRX5_54 : qx_FG RX5 54 12 12 none := ⟨_, _, _, _, _, _, rfl, qx_cpX1, rfl, rfl, qx_wfRX5_54⟩
theorem qx_pRX5_54 : qx_FP RX5 54 12 12 .int := ⟨_, _, _, _, _, _, rfl, qx_cpX1, rfl, rfl, qx_wfRX5_54, rfl, by decide +kernel⟩
set_option maxRecDepth 100000 in
theorem qx_wfRX5_57 : Cond.fieldLink RX5 57 "ContractFrames$Frame" "gave" "I" ∈ qx_BW := qx_in (i := 230) rfl rfl
theorem qx_gRX5_57 : qx_FG RX5 57 12 13 none := ⟨_, _, _, _, _, _, rfl, qx_cpX1, rfl, rfl, qx_wfRX5_57⟩
theorem qx_pRX5_57 : qx_FP RX5 57 12 13 .int := ⟨_, _, _, _, _, _, rfl, qx_cpX1, rfl, rfl, qx_wfRX5_57, rfl, by decide +kernel⟩
set_option maxRecDepth 100000 in
theorem qx_wfRX5_60 : Cond.fieldLink RX5 60 "ContractFrames$Frame" "onlyReads" "Z" ∈ qx_BW := qx_in (i := 218) rfl rfl
theorem qx_gRX5_60 : qx_FG RX5 60 12 7 none := ⟨_, _, _, _, _, _, rfl, qx_cpX1, rfl, rfl, qx_wfRX5_60⟩
theorem qx_pRX5_60 : qx_FP RX5 60 12 7 .boolean := ⟨_, _, _, _, _, _, rfl, qx_cpX1, rfl, rfl, qx_wfRX5_60, rfl, by decide +kernel⟩
set_option maxRecDepth 100000 in
theorem qx_wfRX2_236 : Cond.fieldLink RX2 236 "ContractFrames$Frame" "threw" "I" ∈ qx_BW := qx_in (i := 228) rfl rfl
theorem qx_gRX2_236 : qx_FG RX2 236 12 12 none := ⟨_, _, _, _, _, _, rfl, qx_cpX1, rfl, rfl, qx_wfRX2_236⟩
theorem qx_pRX2_236 : qx_FP RX2 236 12 12 .int := ⟨_, _, _, _, _, _, rfl, qx_cpX1, rfl, rfl, qx_wfRX2_236, rfl, by decide +kernel⟩
set_option maxRecDepth 100000 in
theorem qx_wfRX2_239 : Cond.fieldLink RX2 239 "ContractFrames$Frame" "gave" "I" ∈ qx_BW := qx_in (i := 231) rfl rfl
theorem qx_gRX2_239 : qx_FG RX2 239 12 13 none := ⟨_, _, _, _, _, _, rfl, qx_cpX1, rfl, rfl, qx_wfRX2_239⟩
theorem qx_pRX2_239 : qx_FP RX2 239 12 13 .int := ⟨_, _, _, _, _, _, rfl, qx_cpX1, rfl, rfl, qx_wfRX2_239, rfl, by decide +kernel⟩
set_option maxRecDepth 100000 in
theorem qx_wfRX2_248 : Cond.fieldLink RX2 248 "ContractFrames$Member" "guarded" "Z" ∈ qx_BW := qx_in (i := 76) rfl rfl
theorem qx_gRX2_248 : qx_FG RX2 248 17 4 none := ⟨_, _, _, _, _, _, rfl, qx_cpX3, rfl, rfl, qx_wfRX2_248⟩
theorem qx_pRX2_248 : qx_FP RX2 248 17 4 .boolean := ⟨_, _, _, _, _, _, rfl, qx_cpX3, rfl, rfl, qx_wfRX2_248, rfl, by decide +kernel⟩
set_option maxRecDepth 100000 in
theorem qx_wfRX2_143 : Cond.fieldLink RX2 143 "ContractFrames$Member" "codes" "[I" ∈ qx_BW := qx_in (i := 65) rfl rfl
theorem qx_gRX2_143 : qx_FG RX2 143 17 0 (some 18) := ⟨_, _, _, _, _, _, rfl, qx_cpX3, rfl, rfl, qx_wfRX2_143⟩
set_option maxRecDepth 100000 in
theorem qx_wfRX2_147 : Cond.fieldLink RX2 147 "ContractFrames$Member" "firsts" "[I" ∈ qx_BW := qx_in (i := 67) rfl rfl
theorem qx_gRX2_147 : qx_FG RX2 147 17 1 (some 19) := ⟨_, _, _, _, _, _, rfl, qx_cpX3, rfl, rfl, qx_wfRX2_147⟩
set_option maxRecDepth 100000 in
theorem qx_wfRX2_150 : Cond.fieldLink RX2 150 "ContractFrames$Frame" "height" "I" ∈ qx_BW := qx_in (i := 205) rfl rfl
theorem qx_gRX2_150 : qx_FG RX2 150 12 1 none := ⟨_, _, _, _, _, _, rfl, qx_cpX1, rfl, rfl, qx_wfRX2_150⟩
theorem qx_pRX2_150 : qx_FP RX2 150 12 1 .int := ⟨_, _, _, _, _, _, rfl, qx_cpX1, rfl, rfl, qx_wfRX2_150, rfl, by decide +kernel⟩
set_option maxRecDepth 100000 in
theorem qx_wfRX2_177 : Cond.fieldLink RX2 177 "ContractFrames$Member" "seconds" "[I" ∈ qx_BW := qx_in (i := 69) rfl rfl
theorem qx_gRX2_177 : qx_FG RX2 177 17 2 (some 20) := ⟨_, _, _, _, _, _, rfl, qx_cpX3, rfl, rfl, qx_wfRX2_177⟩
set_option maxRecDepth 100000 in
theorem qx_wfRX2_188 : Cond.fieldLink RX2 188 "ContractFrames$Frame" "argument" "I" ∈ qx_BW := qx_in (i := 213) rfl rfl
theorem qx_gRX2_188 : qx_FG RX2 188 12 4 none := ⟨_, _, _, _, _, _, rfl, qx_cpX1, rfl, rfl, qx_wfRX2_188⟩
theorem qx_pRX2_188 : qx_FP RX2 188 12 4 .int := ⟨_, _, _, _, _, _, rfl, qx_cpX1, rfl, rfl, qx_wfRX2_188, rfl, by decide +kernel⟩
set_option maxRecDepth 100000 in
theorem qx_wfRX2_191 : Cond.fieldLink RX2 191 "ContractFrames$World" "purses" "[I" ∈ qx_BW := qx_in (i := 119) rfl rfl
theorem qx_gRX2_191 : qx_FG RX2 191 3 1 (some 5) := ⟨_, _, _, _, _, _, rfl, qx_cpX8, rfl, rfl, qx_wfRX2_191⟩
set_option maxRecDepth 100000 in
theorem qx_wfRX2_194 : Cond.fieldLink RX2 194 "ContractFrames$World" "stores" "[I" ∈ qx_BW := qx_in (i := 115) rfl rfl
theorem qx_gRX2_194 : qx_FG RX2 194 3 0 (some 4) := ⟨_, _, _, _, _, _, rfl, qx_cpX8, rfl, rfl, qx_wfRX2_194⟩
set_option maxRecDepth 100000 in
theorem qx_wfRX2_219 : Cond.fieldLink RX2 219 "ContractFrames$World" "events" "I" ∈ qx_BW := qx_in (i := 126) rfl rfl
theorem qx_gRX2_219 : qx_FG RX2 219 3 3 none := ⟨_, _, _, _, _, _, rfl, qx_cpX8, rfl, rfl, qx_wfRX2_219⟩
theorem qx_pRX2_219 : qx_FP RX2 219 3 3 .int := ⟨_, _, _, _, _, _, rfl, qx_cpX8, rfl, rfl, qx_wfRX2_219, rfl, by decide +kernel⟩
set_option maxRecDepth 100000 in
theorem qx_wfRX5_13 : Cond.fieldLink RX5 13 "ContractFrames$Report" "made" "Z" ∈ qx_BW := qx_in (i := 149) rfl rfl
theorem qx_gRX5_13 : qx_FG RX5 13 7 1 none := ⟨_, _, _, _, _, _, rfl, qx_cpX5, rfl, rfl, qx_wfRX5_13⟩
theorem qx_pRX5_13 : qx_FP RX5 13 7 1 .boolean := ⟨_, _, _, _, _, _, rfl, qx_cpX5, rfl, rfl, qx_wfRX5_13, rfl, by decide +kernel⟩
set_option maxRecDepth 100000 in
theorem qx_wfRX5_67 : Cond.fieldLink RX5 67 "ContractFrames$Report" "threw" "Z" ∈ qx_BW := qx_in (i := 152) rfl rfl
theorem qx_gRX5_67 : qx_FG RX5 67 7 2 none := ⟨_, _, _, _, _, _, rfl, qx_cpX5, rfl, rfl, qx_wfRX5_67⟩
theorem qx_pRX5_67 : qx_FP RX5 67 7 2 .boolean := ⟨_, _, _, _, _, _, rfl, qx_cpX5, rfl, rfl, qx_wfRX5_67, rfl, by decide +kernel⟩
set_option maxRecDepth 100000 in
theorem qx_wfRX5_69 : Cond.fieldLink RX5 69 "ContractFrames$Report" "result" "I" ∈ qx_BW := qx_in (i := 153) rfl rfl
theorem qx_gRX5_69 : qx_FG RX5 69 7 3 none := ⟨_, _, _, _, _, _, rfl, qx_cpX5, rfl, rfl, qx_wfRX5_69⟩
theorem qx_pRX5_69 : qx_FP RX5 69 7 3 .int := ⟨_, _, _, _, _, _, rfl, qx_cpX5, rfl, rfl, qx_wfRX5_69, rfl, by decide +kernel⟩
set_option maxRecDepth 100000 in
theorem qx_wfRX5_72 : Cond.fieldLink RX5 72 "ContractFrames$Report" "used" "I" ∈ qx_BW := qx_in (i := 155) rfl rfl
theorem qx_gRX5_72 : qx_FG RX5 72 7 4 none := ⟨_, _, _, _, _, _, rfl, qx_cpX5, rfl, rfl, qx_wfRX5_72⟩
theorem qx_pRX5_72 : qx_FP RX5 72 7 4 .int := ⟨_, _, _, _, _, _, rfl, qx_cpX5, rfl, rfl, qx_wfRX5_72, rfl, by decide +kernel⟩
set_option maxRecDepth 100000 in
theorem qx_wfRX5_74 : Cond.fieldLink RX5 74 "ContractFrames$Report" "backToUser" "I" ∈ qx_BW := qx_in (i := 157) rfl rfl
theorem qx_gRX5_74 : qx_FG RX5 74 7 5 none := ⟨_, _, _, _, _, _, rfl, qx_cpX5, rfl, rfl, qx_wfRX5_74⟩
theorem qx_pRX5_74 : qx_FP RX5 74 7 5 .int := ⟨_, _, _, _, _, _, rfl, qx_cpX5, rfl, rfl, qx_wfRX5_74, rfl, by decide +kernel⟩
set_option maxRecDepth 100000 in
theorem qx_wfRX5_21 : Cond.fieldLink RX5 21 "ContractFrames$Report" "callsThatThrew" "I" ∈ qx_BW := qx_in (i := 165) rfl rfl
theorem qx_gRX5_21 : qx_FG RX5 21 7 9 none := ⟨_, _, _, _, _, _, rfl, qx_cpX5, rfl, rfl, qx_wfRX5_21⟩
theorem qx_pRX5_21 : qx_FP RX5 21 7 9 .int := ⟨_, _, _, _, _, _, rfl, qx_cpX5, rfl, rfl, qx_wfRX5_21, rfl, by decide +kernel⟩
set_option maxRecDepth 100000 in
theorem qx_wfRX5_17 : Cond.fieldLink RX5 17 "ContractFrames$Report" "callsThatGave" "I" ∈ qx_BW := qx_in (i := 163) rfl rfl
theorem qx_gRX5_17 : qx_FG RX5 17 7 8 none := ⟨_, _, _, _, _, _, rfl, qx_cpX5, rfl, rfl, qx_wfRX5_17⟩
theorem qx_pRX5_17 : qx_FP RX5 17 7 8 .int := ⟨_, _, _, _, _, _, rfl, qx_cpX5, rfl, rfl, qx_wfRX5_17, rfl, by decide +kernel⟩
set_option maxRecDepth 100000 in
theorem qx_wfRX10_156 : Cond.fieldLink RX10 156 "ContractFramesModel" "deep" "I" ∈ qx_BW := qx_in (i := 588) rfl rfl
theorem qx_gRX10_156 : qx_FG RX10 156 30 12 none := ⟨_, _, _, _, _, _, rfl, qx_cpX10, rfl, rfl, qx_wfRX10_156⟩
theorem qx_pRX10_156 : qx_FP RX10 156 30 12 .int := ⟨_, _, _, _, _, _, rfl, qx_cpX10, rfl, rfl, qx_wfRX10_156, rfl, by decide +kernel⟩
set_option maxRecDepth 100000 in
theorem qx_wfRX10_163 : Cond.fieldLink RX10 163 "ContractFramesModel" "deepest" "I" ∈ qx_BW := qx_in (i := 613) rfl rfl
theorem qx_gRX10_163 : qx_FG RX10 163 30 37 none := ⟨_, _, _, _, _, _, rfl, qx_cpX10, rfl, rfl, qx_wfRX10_163⟩
theorem qx_pRX10_163 : qx_FP RX10 163 30 37 .int := ⟨_, _, _, _, _, _, rfl, qx_cpX10, rfl, rfl, qx_wfRX10_163, rfl, by decide +kernel⟩
set_option maxRecDepth 100000 in
theorem qx_wfRX10_153 : Cond.fieldLink RX10 153 "ContractFramesModel" "freed" "I" ∈ qx_BW := qx_in (i := 611) rfl rfl
theorem qx_gRX10_153 : qx_FG RX10 153 30 35 none := ⟨_, _, _, _, _, _, rfl, qx_cpX10, rfl, rfl, qx_wfRX10_153⟩
theorem qx_pRX10_153 : qx_FP RX10 153 30 35 .int := ⟨_, _, _, _, _, _, rfl, qx_cpX10, rfl, rfl, qx_wfRX10_153, rfl, by decide +kernel⟩
set_option maxRecDepth 100000 in
theorem qx_wfRX10_169 : Cond.fieldLink RX10 169 "ContractFramesModel" "lastUsed" "I" ∈ qx_BW := qx_in (i := 622) rfl rfl
theorem qx_gRX10_169 : qx_FG RX10 169 30 46 none := ⟨_, _, _, _, _, _, rfl, qx_cpX10, rfl, rfl, qx_wfRX10_169⟩
theorem qx_pRX10_169 : qx_FP RX10 169 30 46 .int := ⟨_, _, _, _, _, _, rfl, qx_cpX10, rfl, rfl, qx_wfRX10_169, rfl, by decide +kernel⟩
set_option maxRecDepth 100000 in
theorem qx_wfRX10_229 : Cond.fieldLink RX10 229 "ContractFramesModel" "lastBack" "I" ∈ qx_BW := qx_in (i := 623) rfl rfl
theorem qx_gRX10_229 : qx_FG RX10 229 30 47 none := ⟨_, _, _, _, _, _, rfl, qx_cpX10, rfl, rfl, qx_wfRX10_229⟩
theorem qx_pRX10_229 : qx_FP RX10 229 30 47 .int := ⟨_, _, _, _, _, _, rfl, qx_cpX10, rfl, rfl, qx_wfRX10_229, rfl, by decide +kernel⟩
set_option maxRecDepth 100000 in
theorem qx_wfRX10_172 : Cond.fieldLink RX10 172 "ContractFramesModel" "lastThrew" "I" ∈ qx_BW := qx_in (i := 624) rfl rfl
theorem qx_gRX10_172 : qx_FG RX10 172 30 48 none := ⟨_, _, _, _, _, _, rfl, qx_cpX10, rfl, rfl, qx_wfRX10_172⟩
theorem qx_pRX10_172 : qx_FP RX10 172 30 48 .int := ⟨_, _, _, _, _, _, rfl, qx_cpX10, rfl, rfl, qx_wfRX10_172, rfl, by decide +kernel⟩
set_option maxRecDepth 100000 in
theorem qx_wfRX10_175 : Cond.fieldLink RX10 175 "ContractFramesModel" "lastWhat" "I" ∈ qx_BW := qx_in (i := 621) rfl rfl
theorem qx_gRX10_175 : qx_FG RX10 175 30 45 none := ⟨_, _, _, _, _, _, rfl, qx_cpX10, rfl, rfl, qx_wfRX10_175⟩
theorem qx_pRX10_175 : qx_FP RX10 175 30 45 .int := ⟨_, _, _, _, _, _, rfl, qx_cpX10, rfl, rfl, qx_wfRX10_175, rfl, by decide +kernel⟩
set_option maxRecDepth 100000 in
theorem qx_wfRX9_84 : Cond.fieldLink RX9 84 "ContractFrames$Report" "made" "Z" ∈ qx_BW := qx_in (i := 150) rfl rfl
theorem qx_gRX9_84 : qx_FG RX9 84 7 1 none := ⟨_, _, _, _, _, _, rfl, qx_cpX5, rfl, rfl, qx_wfRX9_84⟩
theorem qx_pRX9_84 : qx_FP RX9 84 7 1 .boolean := ⟨_, _, _, _, _, _, rfl, qx_cpX5, rfl, rfl, qx_wfRX9_84, rfl, by decide +kernel⟩
set_option maxRecDepth 100000 in
theorem qx_wfRX9_87 : Cond.fieldLink RX9 87 "ContractFrames$Report" "result" "I" ∈ qx_BW := qx_in (i := 154) rfl rfl
theorem qx_gRX9_87 : qx_FG RX9 87 7 3 none := ⟨_, _, _, _, _, _, rfl, qx_cpX5, rfl, rfl, qx_wfRX9_87⟩
theorem qx_pRX9_87 : qx_FP RX9 87 7 3 .int := ⟨_, _, _, _, _, _, rfl, qx_cpX5, rfl, rfl, qx_wfRX9_87, rfl, by decide +kernel⟩
set_option maxRecDepth 100000 in
theorem qx_wfRX9_90 : Cond.fieldLink RX9 90 "ContractFrames$Report" "used" "I" ∈ qx_BW := qx_in (i := 156) rfl rfl
theorem qx_gRX9_90 : qx_FG RX9 90 7 4 none := ⟨_, _, _, _, _, _, rfl, qx_cpX5, rfl, rfl, qx_wfRX9_90⟩
theorem qx_pRX9_90 : qx_FP RX9 90 7 4 .int := ⟨_, _, _, _, _, _, rfl, qx_cpX5, rfl, rfl, qx_wfRX9_90, rfl, by decide +kernel⟩
set_option maxRecDepth 100000 in
theorem qx_wfRX9_93 : Cond.fieldLink RX9 93 "ContractFrames$Report" "backToUser" "I" ∈ qx_BW := qx_in (i := 158) rfl rfl
theorem qx_gRX9_93 : qx_FG RX9 93 7 5 none := ⟨_, _, _, _, _, _, rfl, qx_cpX5, rfl, rfl, qx_wfRX9_93⟩
theorem qx_pRX9_93 : qx_FP RX9 93 7 5 .int := ⟨_, _, _, _, _, _, rfl, qx_cpX5, rfl, rfl, qx_wfRX9_93, rfl, by decide +kernel⟩
set_option maxRecDepth 100000 in
theorem qx_wfRX9_96 : Cond.fieldLink RX9 96 "ContractFrames$Report" "entered" "I" ∈ qx_BW := qx_in (i := 160) rfl rfl
theorem qx_gRX9_96 : qx_FG RX9 96 7 6 none := ⟨_, _, _, _, _, _, rfl, qx_cpX5, rfl, rfl, qx_wfRX9_96⟩
theorem qx_pRX9_96 : qx_FP RX9 96 7 6 .int := ⟨_, _, _, _, _, _, rfl, qx_cpX5, rfl, rfl, qx_wfRX9_96, rfl, by decide +kernel⟩
set_option maxRecDepth 100000 in
theorem qx_wfRX9_99 : Cond.fieldLink RX9 99 "ContractFrames$Report" "deepest" "I" ∈ qx_BW := qx_in (i := 162) rfl rfl
theorem qx_gRX9_99 : qx_FG RX9 99 7 7 none := ⟨_, _, _, _, _, _, rfl, qx_cpX5, rfl, rfl, qx_wfRX9_99⟩
theorem qx_pRX9_99 : qx_FP RX9 99 7 7 .int := ⟨_, _, _, _, _, _, rfl, qx_cpX5, rfl, rfl, qx_wfRX9_99, rfl, by decide +kernel⟩
set_option maxRecDepth 100000 in
theorem qx_wfRX9_102 : Cond.fieldLink RX9 102 "ContractFrames$World" "events" "I" ∈ qx_BW := qx_in (i := 125) rfl rfl
theorem qx_gRX9_102 : qx_FG RX9 102 3 3 none := ⟨_, _, _, _, _, _, rfl, qx_cpX8, rfl, rfl, qx_wfRX9_102⟩
theorem qx_pRX9_102 : qx_FP RX9 102 3 3 .int := ⟨_, _, _, _, _, _, rfl, qx_cpX8, rfl, rfl, qx_wfRX9_102, rfl, by decide +kernel⟩
set_option maxRecDepth 100000 in
theorem qx_wfRX9_109 : Cond.fieldLink RX9 109 "ContractFrames$Report" "rows" "[I" ∈ qx_BW := qx_in (i := 148) rfl rfl
theorem qx_gRX9_109 : qx_FG RX9 109 7 0 (some 8) := ⟨_, _, _, _, _, _, rfl, qx_cpX5, rfl, rfl, qx_wfRX9_109⟩
set_option maxRecDepth 100000 in
theorem qx_wfRX9_113 : Cond.fieldLink RX9 113 "ContractFrames$World" "eventRows" "[I" ∈ qx_BW := qx_in (i := 122) rfl rfl
theorem qx_gRX9_113 : qx_FG RX9 113 3 2 (some 6) := ⟨_, _, _, _, _, _, rfl, qx_cpX8, rfl, rfl, qx_wfRX9_113⟩
set_option maxRecDepth 100000 in
theorem qx_wfRX9_120 : Cond.fieldLink RX9 120 "ContractFrames$World" "stores" "[I" ∈ qx_BW := qx_in (i := 116) rfl rfl
theorem qx_gRX9_120 : qx_FG RX9 120 3 0 (some 4) := ⟨_, _, _, _, _, _, rfl, qx_cpX8, rfl, rfl, qx_wfRX9_120⟩
set_option maxRecDepth 100000 in
theorem qx_wfRX9_129 : Cond.fieldLink RX9 129 "ContractFrames$Report" "callsThatGave" "I" ∈ qx_BW := qx_in (i := 164) rfl rfl
theorem qx_gRX9_129 : qx_FG RX9 129 7 8 none := ⟨_, _, _, _, _, _, rfl, qx_cpX5, rfl, rfl, qx_wfRX9_129⟩
theorem qx_pRX9_129 : qx_FP RX9 129 7 8 .int := ⟨_, _, _, _, _, _, rfl, qx_cpX5, rfl, rfl, qx_wfRX9_129, rfl, by decide +kernel⟩
set_option maxRecDepth 100000 in
theorem qx_wfRX9_132 : Cond.fieldLink RX9 132 "ContractFrames$Report" "callsThatThrew" "I" ∈ qx_BW := qx_in (i := 166) rfl rfl
theorem qx_gRX9_132 : qx_FG RX9 132 7 9 none := ⟨_, _, _, _, _, _, rfl, qx_cpX5, rfl, rfl, qx_wfRX9_132⟩
theorem qx_pRX9_132 : qx_FP RX9 132 7 9 .int := ⟨_, _, _, _, _, _, rfl, qx_cpX5, rfl, rfl, qx_wfRX9_132, rfl, by decide +kernel⟩
set_option maxRecDepth 100000 in
theorem qx_wfRX4_22 : Cond.fieldLink RX4 22 "ContractFrames$Member" "size" "I" ∈ qx_BW := qx_in (i := 73) rfl rfl
theorem qx_gRX4_22 : qx_FG RX4 22 17 3 none := ⟨_, _, _, _, _, _, rfl, qx_cpX3, rfl, rfl, qx_wfRX4_22⟩
theorem qx_pRX4_22 : qx_FP RX4 22 17 3 .int := ⟨_, _, _, _, _, _, rfl, qx_cpX3, rfl, rfl, qx_wfRX4_22, rfl, by decide +kernel⟩
set_option maxRecDepth 100000 in
theorem qx_wfRX4_25 : Cond.fieldLink RX4 25 "ContractFrames$Member" "guarded" "Z" ∈ qx_BW := qx_in (i := 75) rfl rfl
theorem qx_gRX4_25 : qx_FG RX4 25 17 4 none := ⟨_, _, _, _, _, _, rfl, qx_cpX3, rfl, rfl, qx_wfRX4_25⟩
theorem qx_pRX4_25 : qx_FP RX4 25 17 4 .boolean := ⟨_, _, _, _, _, _, rfl, qx_cpX3, rfl, rfl, qx_wfRX4_25, rfl, by decide +kernel⟩
abbrev qx_w (y : MethodName) (b : ByteArray) (n : Nat) (r : Option FieldType) : List Cond := Cond.code y b n r :: qx_BW
def qx_MH (y : MethodName) (k : Nat) : Prop := y.cls ≠ "java/lang/invoke/MethodHandle" ∧ y.cls ≠ "java/lang/invoke/VarHandle" ∧ (parseMethodDescriptor y.desc).map (fun d => d.parameters.length) = some k
/-- a method with code, its parameters, whether static -/
def qx_MC (y : MethodName) (b : ByteArray) (n : Nat) (r : Option FieldType) (k : Nat) : Prop := Cond.code y b n r ∈ qx_BW ∧ Cond.initialized y.cls ∈ qx_BW ∧ qx_MH y k ∧ plainName y.cls = true
set_option maxRecDepth 100000 in
theorem qx_mcX0_fits : qx_MC yX0_fits cX0_fits 3 (some .boolean) 3 := ⟨qx_in (i := 329) rfl rfl, qx_in (i := 40) rfl rfl, ⟨by decide +kernel, by decide +kernel, by decide +kernel⟩, by decide +kernel⟩
set_option maxRecDepth 100000 in
theorem qx_sX0_fits : Cond.static yX0_fits ∈ qx_BW := qx_in (i := 328) rfl rfl
set_option maxRecDepth 100000 in
theorem qx_mcX0_writes : qx_MC yX0_writes cX0_writes 1 (some .boolean) 1 := ⟨qx_in (i := 418) rfl rfl, qx_in (i := 40) rfl rfl, ⟨by decide +kernel, by decide +kernel, by decide +kernel⟩, by decide +kernel⟩
set_option maxRecDepth 100000 in
theorem qx_sX0_writes : Cond.static yX0_writes ∈ qx_BW := qx_in (i := 417) rfl rfl
set_option maxRecDepth 100000 in
theorem qx_mcX0_fitsStack : qx_MC yX0_fitsStack cX0_fitsStack 2 (some .boolean) 2 := ⟨qx_in (i := 411) rfl rfl, qx_in (i := 40) rfl rfl, ⟨by decide +kernel, by decide +kernel, by decide +kernel⟩, by decide +kernel⟩
set_option maxRecDepth 100000 in
theorem qx_sX0_fitsStack : Cond.static yX0_fitsStack ∈ qx_BW := qx_in (i := 410) rfl rfl
set_option maxRecDepth 100000 in
theorem qx_mcX1_init : qx_MC yX1_init cX1_init 1 none 0 := ⟨qx_in (i := 201) rfl rfl, qx_in (i := 37) rfl rfl, ⟨by decide +kernel, by decide +kernel, by decide +kernel⟩, by decide +kernel⟩
set_option maxRecDepth 100000 in
theorem qx_iX1_init : Cond.instanceMethod yX1_init ∈ qx_BW := qx_in (i := 200) rfl rfl
set_option maxRecDepth 100000 in
theorem qx_mcX1_begin : qx_MC yX1_begin cX1_begin 6 none 5 := ⟨qx_in (i := 373) rfl rfl, qx_in (i := 37) rfl rfl, ⟨by decide +kernel, by decide +kernel, by decide +kernel⟩, by decide +kernel⟩
set_option maxRecDepth 100000 in
theorem qx_iX1_begin : Cond.instanceMethod yX1_begin ∈ qx_BW := qx_in (i := 371) rfl rfl
set_option maxRecDepth 100000 in
theorem qx_selX1_begin : Cond.selects RX1 yX1_begin yX1_begin ∈ qx_BW := qx_in (i := 372) rfl rfl
set_option maxRecDepth 100000 in
theorem qx_mcX1_used : qx_MC yX1_used cX1_used 1 (some .int) 0 := ⟨qx_in (i := 470) rfl rfl, qx_in (i := 37) rfl rfl, ⟨by decide +kernel, by decide +kernel, by decide +kernel⟩, by decide +kernel⟩
set_option maxRecDepth 100000 in
theorem qx_iX1_used : Cond.instanceMethod yX1_used ∈ qx_BW := qx_in (i := 468) rfl rfl
set_option maxRecDepth 100000 in
theorem qx_selX1_used : Cond.selects RX1 yX1_used yX1_used ∈ qx_BW := qx_in (i := 469) rfl rfl
set_option maxRecDepth 100000 in
theorem qx_mcX1_hasThrown : qx_MC yX1_hasThrown cX1_hasThrown 1 (some .boolean) 0 := ⟨qx_in (i := 474) rfl rfl, qx_in (i := 37) rfl rfl, ⟨by decide +kernel, by decide +kernel, by decide +kernel⟩, by decide +kernel⟩
set_option maxRecDepth 100000 in
theorem qx_iX1_hasThrown : Cond.instanceMethod yX1_hasThrown ∈ qx_BW := qx_in (i := 472) rfl rfl
set_option maxRecDepth 100000 in
theorem qx_selX1_hasThrown : Cond.selects RX1 yX1_hasThrown yX1_hasThrown ∈ qx_BW := qx_in (i := 473) rfl rfl
set_option maxRecDepth 100000 in
theorem qx_mcX1_put : qx_MC yX1_put cX1_put 2 none 1 := ⟨qx_in (i := 426) rfl rfl, qx_in (i := 37) rfl rfl, ⟨by decide +kernel, by decide +kernel, by decide +kernel⟩, by decide +kernel⟩
set_option maxRecDepth 100000 in
theorem qx_iX1_put : Cond.instanceMethod yX1_put ∈ qx_BW := qx_in (i := 424) rfl rfl
set_option maxRecDepth 100000 in
theorem qx_selX1_put : Cond.selects RX1 yX1_put yX1_put ∈ qx_BW := qx_in (i := 425) rfl rfl
set_option maxRecDepth 100000 in
theorem qx_mcX1_take : qx_MC yX1_take cX1_take 1 (some .int) 0 := ⟨qx_in (i := 433) rfl rfl, qx_in (i := 37) rfl rfl, ⟨by decide +kernel, by decide +kernel, by decide +kernel⟩, by decide +kernel⟩
set_option maxRecDepth 100000 in
theorem qx_iX1_take : Cond.instanceMethod yX1_take ∈ qx_BW := qx_in (i := 431) rfl rfl
set_option maxRecDepth 100000 in
theorem qx_selX1_take : Cond.selects RX1 yX1_take yX1_take ∈ qx_BW := qx_in (i := 432) rfl rfl
set_option maxRecDepth 100000 in
theorem qx_mcX1_endGiving : qx_MC yX1_endGiving cX1_endGiving 2 none 1 := ⟨qx_in (i := 400) rfl rfl, qx_in (i := 37) rfl rfl, ⟨by decide +kernel, by decide +kernel, by decide +kernel⟩, by decide +kernel⟩
set_option maxRecDepth 100000 in
theorem qx_iX1_endGiving : Cond.instanceMethod yX1_endGiving ∈ qx_BW := qx_in (i := 398) rfl rfl
set_option maxRecDepth 100000 in
theorem qx_selX1_endGiving : Cond.selects RX1 yX1_endGiving yX1_endGiving ∈ qx_BW := qx_in (i := 399) rfl rfl
set_option maxRecDepth 100000 in
theorem qx_mcX1_endThrowing : qx_MC yX1_endThrowing cX1_endThrowing 2 none 1 := ⟨qx_in (i := 404) rfl rfl, qx_in (i := 37) rfl rfl, ⟨by decide +kernel, by decide +kernel, by decide +kernel⟩, by decide +kernel⟩
set_option maxRecDepth 100000 in
theorem qx_iX1_endThrowing : Cond.instanceMethod yX1_endThrowing ∈ qx_BW := qx_in (i := 402) rfl rfl
set_option maxRecDepth 100000 in
theorem qx_selX1_endThrowing : Cond.selects RX1 yX1_endThrowing yX1_endThrowing ∈ qx_BW := qx_in (i := 403) rfl rfl
set_option maxRecDepth 100000 in
theorem qx_mcX2_init : qx_MC yX2_init cX2_init 5 none 3 := ⟨qx_in (i := 192) rfl rfl, qx_in (i := 36) rfl rfl, ⟨by decide +kernel, by decide +kernel, by decide +kernel⟩, by decide +kernel⟩
set_option maxRecDepth 100000 in
theorem qx_iX2_init : Cond.instanceMethod yX2_init ∈ qx_BW := qx_in (i := 191) rfl rfl
set_option maxRecDepth 100000 in
theorem qx_mcX2_runForUser : qx_MC yX2_runForUser cX2_runForUser 10 none 6 := ⟨qx_in (i := 361) rfl rfl, qx_in (i := 36) rfl rfl, ⟨by decide +kernel, by decide +kernel, by decide +kernel⟩, by decide +kernel⟩
set_option maxRecDepth 100000 in
theorem qx_iX2_runForUser : Cond.instanceMethod yX2_runForUser ∈ qx_BW := qx_in (i := 359) rfl rfl
set_option maxRecDepth 100000 in
theorem qx_selX2_runForUser : Cond.selects RX2 yX2_runForUser yX2_runForUser ∈ qx_BW := qx_in (i := 360) rfl rfl
set_option maxRecDepth 100000 in
theorem qx_mcX2_runFrame : qx_MC yX2_runFrame cX2_runFrame 8 none 2 := ⟨qx_in (i := 377) rfl rfl, qx_in (i := 36) rfl rfl, ⟨by decide +kernel, by decide +kernel, by decide +kernel⟩, by decide +kernel⟩
set_option maxRecDepth 100000 in
theorem qx_iX2_runFrame : Cond.instanceMethod yX2_runFrame ∈ qx_BW := qx_in (i := 376) rfl rfl
set_option maxRecDepth 100000 in
theorem qx_selX2_runFrame : Cond.selects RX2 yX2_runFrame yX2_runFrame ∈ qx_BW := qx_in (i := 3) rfl rfl
set_option maxRecDepth 100000 in
theorem qx_mcX2_doStep : qx_MC yX2_doStep cX2_doStep 7 none 3 := ⟨qx_in (i := 408) rfl rfl, qx_in (i := 36) rfl rfl, ⟨by decide +kernel, by decide +kernel, by decide +kernel⟩, by decide +kernel⟩
set_option maxRecDepth 100000 in
theorem qx_iX2_doStep : Cond.instanceMethod yX2_doStep ∈ qx_BW := qx_in (i := 407) rfl rfl
set_option maxRecDepth 100000 in
theorem qx_selX2_doStep : Cond.selects RX2 yX2_doStep yX2_doStep ∈ qx_BW := qx_in (i := 4) rfl rfl
set_option maxRecDepth 100000 in
theorem qx_mcX2_numberFor : qx_MC yX2_numberFor cX2_numberFor 4 (some .int) 3 := ⟨qx_in (i := 422) rfl rfl, qx_in (i := 36) rfl rfl, ⟨by decide +kernel, by decide +kernel, by decide +kernel⟩, by decide +kernel⟩
set_option maxRecDepth 100000 in
theorem qx_iX2_numberFor : Cond.instanceMethod yX2_numberFor ∈ qx_BW := qx_in (i := 421) rfl rfl
set_option maxRecDepth 100000 in
theorem qx_selX2_numberFor : Cond.selects RX2 yX2_numberFor yX2_numberFor ∈ qx_BW := qx_in (i := 5) rfl rfl
set_option maxRecDepth 100000 in
theorem qx_mcX2_combine : qx_MC yX2_combine cX2_combine 4 none 2 := ⟨qx_in (i := 429) rfl rfl, qx_in (i := 36) rfl rfl, ⟨by decide +kernel, by decide +kernel, by decide +kernel⟩, by decide +kernel⟩
set_option maxRecDepth 100000 in
theorem qx_sX2_combine : Cond.static yX2_combine ∈ qx_BW := qx_in (i := 428) rfl rfl
set_option maxRecDepth 100000 in
theorem qx_mcX2_divide : qx_MC yX2_divide cX2_divide 3 none 3 := ⟨qx_in (i := 436) rfl rfl, qx_in (i := 36) rfl rfl, ⟨by decide +kernel, by decide +kernel, by decide +kernel⟩, by decide +kernel⟩
set_option maxRecDepth 100000 in
theorem qx_sX2_divide : Cond.static yX2_divide ∈ qx_BW := qx_in (i := 435) rfl rfl
set_option maxRecDepth 100000 in
theorem qx_mcX2_combined : qx_MC yX2_combined cX2_combined 3 (some .int) 3 := ⟨qx_in (i := 439) rfl rfl, qx_in (i := 36) rfl rfl, ⟨by decide +kernel, by decide +kernel, by decide +kernel⟩, by decide +kernel⟩
set_option maxRecDepth 100000 in
theorem qx_sX2_combined : Cond.static yX2_combined ∈ qx_BW := qx_in (i := 438) rfl rfl
set_option maxRecDepth 100000 in
theorem qx_mcX2_arrange : qx_MC yX2_arrange cX2_arrange 5 none 3 := ⟨qx_in (i := 442) rfl rfl, qx_in (i := 36) rfl rfl, ⟨by decide +kernel, by decide +kernel, by decide +kernel⟩, by decide +kernel⟩
set_option maxRecDepth 100000 in
theorem qx_sX2_arrange : Cond.static yX2_arrange ∈ qx_BW := qx_in (i := 441) rfl rfl
set_option maxRecDepth 100000 in
theorem qx_mcX2_act : qx_MC yX2_act cX2_act 6 none 4 := ⟨qx_in (i := 481) rfl rfl, qx_in (i := 36) rfl rfl, ⟨by decide +kernel, by decide +kernel, by decide +kernel⟩, by decide +kernel⟩
set_option maxRecDepth 100000 in
theorem qx_iX2_act : Cond.instanceMethod yX2_act ∈ qx_BW := qx_in (i := 480) rfl rfl
set_option maxRecDepth 100000 in
theorem qx_selX2_act : Cond.selects RX2 yX2_act yX2_act ∈ qx_BW := qx_in (i := 9) rfl rfl
set_option maxRecDepth 100000 in
theorem qx_mcX2_tell : qx_MC yX2_tell cX2_tell 5 none 4 := ⟨qx_in (i := 489) rfl rfl, qx_in (i := 36) rfl rfl, ⟨by decide +kernel, by decide +kernel, by decide +kernel⟩, by decide +kernel⟩
set_option maxRecDepth 100000 in
theorem qx_iX2_tell : Cond.instanceMethod yX2_tell ∈ qx_BW := qx_in (i := 488) rfl rfl
set_option maxRecDepth 100000 in
theorem qx_selX2_tell : Cond.selects RX2 yX2_tell yX2_tell ∈ qx_BW := qx_in (i := 10) rfl rfl
set_option maxRecDepth 100000 in
theorem qx_mcX2_send : qx_MC yX2_send cX2_send 4 none 3 := ⟨qx_in (i := 497) rfl rfl, qx_in (i := 36) rfl rfl, ⟨by decide +kernel, by decide +kernel, by decide +kernel⟩, by decide +kernel⟩
set_option maxRecDepth 100000 in
theorem qx_iX2_send : Cond.instanceMethod yX2_send ∈ qx_BW := qx_in (i := 496) rfl rfl
set_option maxRecDepth 100000 in
theorem qx_selX2_send : Cond.selects RX2 yX2_send yX2_send ∈ qx_BW := qx_in (i := 11) rfl rfl
set_option maxRecDepth 100000 in
theorem qx_mcX2_callOther : qx_MC yX2_callOther cX2_callOther 11 none 5 := ⟨qx_in (i := 447) rfl rfl, qx_in (i := 36) rfl rfl, ⟨by decide +kernel, by decide +kernel, by decide +kernel⟩, by decide +kernel⟩
set_option maxRecDepth 100000 in
theorem qx_iX2_callOther : Cond.instanceMethod yX2_callOther ∈ qx_BW := qx_in (i := 446) rfl rfl
set_option maxRecDepth 100000 in
theorem qx_selX2_callOther : Cond.selects RX2 yX2_callOther yX2_callOther ∈ qx_BW := qx_in (i := 6) rfl rfl
set_option maxRecDepth 100000 in
theorem qx_mcX2_whyNotEntered : qx_MC yX2_whyNotEntered cX2_whyNotEntered 6 (some .int) 5 := ⟨qx_in (i := 454) rfl rfl, qx_in (i := 36) rfl rfl, ⟨by decide +kernel, by decide +kernel, by decide +kernel⟩, by decide +kernel⟩
set_option maxRecDepth 100000 in
theorem qx_iX2_whyNotEntered : Cond.instanceMethod yX2_whyNotEntered ∈ qx_BW := qx_in (i := 453) rfl rfl
set_option maxRecDepth 100000 in
theorem qx_selX2_whyNotEntered : Cond.selects RX2 yX2_whyNotEntered yX2_whyNotEntered ∈ qx_BW := qx_in (i := 7) rfl rfl
set_option maxRecDepth 100000 in
theorem qx_mcX2_isGuardedInside : qx_MC yX2_isGuardedInside cX2_isGuardedInside 5 (some .boolean) 2 := ⟨qx_in (i := 459) rfl rfl, qx_in (i := 36) rfl rfl, ⟨by decide +kernel, by decide +kernel, by decide +kernel⟩, by decide +kernel⟩
set_option maxRecDepth 100000 in
theorem qx_iX2_isGuardedInside : Cond.instanceMethod yX2_isGuardedInside ∈ qx_BW := qx_in (i := 458) rfl rfl
set_option maxRecDepth 100000 in
theorem qx_selX2_isGuardedInside : Cond.selects RX2 yX2_isGuardedInside yX2_isGuardedInside ∈ qx_BW := qx_in (i := 8) rfl rfl
set_option maxRecDepth 100000 in
theorem qx_mcX2_answerGiven : qx_MC yX2_answerGiven cX2_answerGiven 3 none 3 := ⟨qx_in (i := 477) rfl rfl, qx_in (i := 36) rfl rfl, ⟨by decide +kernel, by decide +kernel, by decide +kernel⟩, by decide +kernel⟩
set_option maxRecDepth 100000 in
theorem qx_sX2_answerGiven : Cond.static yX2_answerGiven ∈ qx_BW := qx_in (i := 476) rfl rfl
set_option maxRecDepth 100000 in
theorem qx_mcX2_answerThrown : qx_MC yX2_answerThrown cX2_answerThrown 3 none 3 := ⟨qx_in (i := 466) rfl rfl, qx_in (i := 36) rfl rfl, ⟨by decide +kernel, by decide +kernel, by decide +kernel⟩, by decide +kernel⟩
set_option maxRecDepth 100000 in
theorem qx_sX2_answerThrown : Cond.static yX2_answerThrown ∈ qx_BW := qx_in (i := 465) rfl rfl
set_option maxRecDepth 100000 in
theorem qx_mcX3_init : qx_MC yX3_init cX3_init 1 none 0 := ⟨qx_in (i := 62) rfl rfl, qx_in (i := 32) rfl rfl, ⟨by decide +kernel, by decide +kernel, by decide +kernel⟩, by decide +kernel⟩
set_option maxRecDepth 100000 in
theorem qx_iX3_init : Cond.instanceMethod yX3_init ∈ qx_BW := qx_in (i := 61) rfl rfl
set_option maxRecDepth 100000 in
theorem qx_mcX3_append : qx_MC yX3_append cX3_append 4 none 3 := ⟨qx_in (i := 338) rfl rfl, qx_in (i := 32) rfl rfl, ⟨by decide +kernel, by decide +kernel, by decide +kernel⟩, by decide +kernel⟩
set_option maxRecDepth 100000 in
theorem qx_iX3_append : Cond.instanceMethod yX3_append ∈ qx_BW := qx_in (i := 336) rfl rfl
set_option maxRecDepth 100000 in
theorem qx_selX3_append : Cond.selects RX3 yX3_append yX3_append ∈ qx_BW := qx_in (i := 337) rfl rfl
set_option maxRecDepth 100000 in
theorem qx_mcX4_init : qx_MC yX4_init cX4_init 2 none 0 := ⟨qx_in (i := 55) rfl rfl, qx_in (i := 31) rfl rfl, ⟨by decide +kernel, by decide +kernel, by decide +kernel⟩, by decide +kernel⟩
set_option maxRecDepth 100000 in
theorem qx_iX4_init : Cond.instanceMethod yX4_init ∈ qx_BW := qx_in (i := 54) rfl rfl
set_option maxRecDepth 100000 in
theorem qx_mcX4_has : qx_MC yX4_has cX4_has 2 (some .boolean) 1 := ⟨qx_in (i := 323) rfl rfl, qx_in (i := 31) rfl rfl, ⟨by decide +kernel, by decide +kernel, by decide +kernel⟩, by decide +kernel⟩
set_option maxRecDepth 100000 in
theorem qx_iX4_has : Cond.instanceMethod yX4_has ∈ qx_BW := qx_in (i := 321) rfl rfl
set_option maxRecDepth 100000 in
theorem qx_selX4_has : Cond.selects RX4 yX4_has yX4_has ∈ qx_BW := qx_in (i := 322) rfl rfl
set_option maxRecDepth 100000 in
theorem qx_mcX4_memberOf : qx_MC yX4_memberOf cX4_memberOf 3 (some (.object "ContractFrames$Member")) 2 := ⟨qx_in (i := 334) rfl rfl, qx_in (i := 31) rfl rfl, ⟨by decide +kernel, by decide +kernel, by decide +kernel⟩, by decide +kernel⟩
set_option maxRecDepth 100000 in
theorem qx_iX4_memberOf : Cond.instanceMethod yX4_memberOf ∈ qx_BW := qx_in (i := 332) rfl rfl
set_option maxRecDepth 100000 in
theorem qx_selX4_memberOf : Cond.selects RX4 yX4_memberOf yX4_memberOf ∈ qx_BW := qx_in (i := 333) rfl rfl
set_option maxRecDepth 100000 in
theorem qx_mcX4_stepsInAll : qx_MC yX4_stepsInAll cX4_stepsInAll 3 (some .int) 0 := ⟨qx_in (i := 544) rfl rfl, qx_in (i := 31) rfl rfl, ⟨by decide +kernel, by decide +kernel, by decide +kernel⟩, by decide +kernel⟩
set_option maxRecDepth 100000 in
theorem qx_iX4_stepsInAll : Cond.instanceMethod yX4_stepsInAll ∈ qx_BW := qx_in (i := 542) rfl rfl
set_option maxRecDepth 100000 in
theorem qx_selX4_stepsInAll : Cond.selects RX4 yX4_stepsInAll yX4_stepsInAll ∈ qx_BW := qx_in (i := 543) rfl rfl
set_option maxRecDepth 100000 in
theorem qx_mcX4_reset : qx_MC yX4_reset cX4_reset 2 none 0 := ⟨qx_in (i := 552) rfl rfl, qx_in (i := 31) rfl rfl, ⟨by decide +kernel, by decide +kernel, by decide +kernel⟩, by decide +kernel⟩
set_option maxRecDepth 100000 in
theorem qx_iX4_reset : Cond.instanceMethod yX4_reset ∈ qx_BW := qx_in (i := 550) rfl rfl
set_option maxRecDepth 100000 in
theorem qx_selX4_reset : Cond.selects RX4 yX4_reset yX4_reset ∈ qx_BW := qx_in (i := 551) rfl rfl
set_option maxRecDepth 100000 in
theorem qx_mcX5_init : qx_MC yX5_init cX5_init 1 none 0 := ⟨qx_in (i := 145) rfl rfl, qx_in (i := 35) rfl rfl, ⟨by decide +kernel, by decide +kernel, by decide +kernel⟩, by decide +kernel⟩
set_option maxRecDepth 100000 in
theorem qx_iX5_init : Cond.instanceMethod yX5_init ∈ qx_BW := qx_in (i := 144) rfl rfl
set_option maxRecDepth 100000 in
theorem qx_mcX5_reset : qx_MC yX5_reset cX5_reset 1 none 0 := ⟨qx_in (i := 564) rfl rfl, qx_in (i := 35) rfl rfl, ⟨by decide +kernel, by decide +kernel, by decide +kernel⟩, by decide +kernel⟩
set_option maxRecDepth 100000 in
theorem qx_iX5_reset : Cond.instanceMethod yX5_reset ∈ qx_BW := qx_in (i := 562) rfl rfl
set_option maxRecDepth 100000 in
theorem qx_selX5_reset : Cond.selects RX5 yX5_reset yX5_reset ∈ qx_BW := qx_in (i := 563) rfl rfl
set_option maxRecDepth 100000 in
theorem qx_mcX5_startCall : qx_MC yX5_startCall cX5_startCall 1 none 0 := ⟨qx_in (i := 369) rfl rfl, qx_in (i := 35) rfl rfl, ⟨by decide +kernel, by decide +kernel, by decide +kernel⟩, by decide +kernel⟩
set_option maxRecDepth 100000 in
theorem qx_iX5_startCall : Cond.instanceMethod yX5_startCall ∈ qx_BW := qx_in (i := 367) rfl rfl
set_option maxRecDepth 100000 in
theorem qx_selX5_startCall : Cond.selects RX5 yX5_startCall yX5_startCall ∈ qx_BW := qx_in (i := 368) rfl rfl
set_option maxRecDepth 100000 in
theorem qx_mcX5_rowsKept : qx_MC yX5_rowsKept cX5_rowsKept 1 (some .int) 0 := ⟨qx_in (i := 523) rfl rfl, qx_in (i := 35) rfl rfl, ⟨by decide +kernel, by decide +kernel, by decide +kernel⟩, by decide +kernel⟩
set_option maxRecDepth 100000 in
theorem qx_iX5_rowsKept : Cond.instanceMethod yX5_rowsKept ∈ qx_BW := qx_in (i := 521) rfl rfl
set_option maxRecDepth 100000 in
theorem qx_selX5_rowsKept : Cond.selects RX5 yX5_rowsKept yX5_rowsKept ∈ qx_BW := qx_in (i := 522) rfl rfl
set_option maxRecDepth 100000 in
theorem qx_mcX5_enter : qx_MC yX5_enter cX5_enter 2 (some .int) 1 := ⟨qx_in (i := 382) rfl rfl, qx_in (i := 35) rfl rfl, ⟨by decide +kernel, by decide +kernel, by decide +kernel⟩, by decide +kernel⟩
set_option maxRecDepth 100000 in
theorem qx_iX5_enter : Cond.instanceMethod yX5_enter ∈ qx_BW := qx_in (i := 380) rfl rfl
set_option maxRecDepth 100000 in
theorem qx_selX5_enter : Cond.selects RX5 yX5_enter yX5_enter ∈ qx_BW := qx_in (i := 381) rfl rfl
set_option maxRecDepth 100000 in
theorem qx_mcX5_writeRow : qx_MC yX5_writeRow cX5_writeRow 5 none 3 := ⟨qx_in (i := 505) rfl rfl, qx_in (i := 35) rfl rfl, ⟨by decide +kernel, by decide +kernel, by decide +kernel⟩, by decide +kernel⟩
set_option maxRecDepth 100000 in
theorem qx_iX5_writeRow : Cond.instanceMethod yX5_writeRow ∈ qx_BW := qx_in (i := 503) rfl rfl
set_option maxRecDepth 100000 in
theorem qx_selX5_writeRow : Cond.selects RX5 yX5_writeRow yX5_writeRow ∈ qx_BW := qx_in (i := 504) rfl rfl
set_option maxRecDepth 100000 in
theorem qx_mcX5_endCall : qx_MC yX5_endCall cX5_endCall 3 none 2 := ⟨qx_in (i := 510) rfl rfl, qx_in (i := 35) rfl rfl, ⟨by decide +kernel, by decide +kernel, by decide +kernel⟩, by decide +kernel⟩
set_option maxRecDepth 100000 in
theorem qx_iX5_endCall : Cond.instanceMethod yX5_endCall ∈ qx_BW := qx_in (i := 508) rfl rfl
set_option maxRecDepth 100000 in
theorem qx_selX5_endCall : Cond.selects RX5 yX5_endCall yX5_endCall ∈ qx_BW := qx_in (i := 509) rfl rfl
set_option maxRecDepth 100000 in
theorem qx_mcX6_init : qx_MC yX6_init cX6_init 1 none 0 := ⟨qx_in (i := 264) rfl rfl, qx_in (i := 38) rfl rfl, ⟨by decide +kernel, by decide +kernel, by decide +kernel⟩, by decide +kernel⟩
set_option maxRecDepth 100000 in
theorem qx_iX6_init : Cond.instanceMethod yX6_init ∈ qx_BW := qx_in (i := 263) rfl rfl
set_option maxRecDepth 100000 in
theorem qx_mcX6_keep : qx_MC yX6_keep cX6_keep 2 none 1 := ⟨qx_in (i := 389) rfl rfl, qx_in (i := 38) rfl rfl, ⟨by decide +kernel, by decide +kernel, by decide +kernel⟩, by decide +kernel⟩
set_option maxRecDepth 100000 in
theorem qx_iX6_keep : Cond.instanceMethod yX6_keep ∈ qx_BW := qx_in (i := 387) rfl rfl
set_option maxRecDepth 100000 in
theorem qx_selX6_keep : Cond.selects RX6 yX6_keep yX6_keep ∈ qx_BW := qx_in (i := 388) rfl rfl
set_option maxRecDepth 100000 in
theorem qx_mcX6_putBack : qx_MC yX6_putBack cX6_putBack 2 none 1 := ⟨qx_in (i := 501) rfl rfl, qx_in (i := 38) rfl rfl, ⟨by decide +kernel, by decide +kernel, by decide +kernel⟩, by decide +kernel⟩
set_option maxRecDepth 100000 in
theorem qx_iX6_putBack : Cond.instanceMethod yX6_putBack ∈ qx_BW := qx_in (i := 499) rfl rfl
set_option maxRecDepth 100000 in
theorem qx_selX6_putBack : Cond.selects RX6 yX6_putBack yX6_putBack ∈ qx_BW := qx_in (i := 500) rfl rfl
set_option maxRecDepth 100000 in
theorem qx_mcX8_init : qx_MC yX8_init cX8_init 1 none 0 := ⟨qx_in (i := 101) rfl rfl, qx_in (i := 33) rfl rfl, ⟨by decide +kernel, by decide +kernel, by decide +kernel⟩, by decide +kernel⟩
set_option maxRecDepth 100000 in
theorem qx_iX8_init : Cond.instanceMethod yX8_init ∈ qx_BW := qx_in (i := 100) rfl rfl
set_option maxRecDepth 100000 in
theorem qx_mcX8_fillUsersPurses : qx_MC yX8_fillUsersPurses cX8_fillUsersPurses 1 none 0 := ⟨qx_in (i := 106) rfl rfl, qx_in (i := 33) rfl rfl, ⟨by decide +kernel, by decide +kernel, by decide +kernel⟩, by decide +kernel⟩
set_option maxRecDepth 100000 in
theorem qx_iX8_fillUsersPurses : Cond.instanceMethod yX8_fillUsersPurses ∈ qx_BW := qx_in (i := 105) rfl rfl
set_option maxRecDepth 100000 in
theorem qx_selX8_fillUsersPurses : Cond.selects RX8 yX8_fillUsersPurses yX8_fillUsersPurses ∈ qx_BW := qx_in (i := 0) rfl rfl
set_option maxRecDepth 100000 in
theorem qx_mcX8_reset : qx_MC yX8_reset cX8_reset 1 none 0 := ⟨qx_in (i := 556) rfl rfl, qx_in (i := 33) rfl rfl, ⟨by decide +kernel, by decide +kernel, by decide +kernel⟩, by decide +kernel⟩
set_option maxRecDepth 100000 in
theorem qx_iX8_reset : Cond.instanceMethod yX8_reset ∈ qx_BW := qx_in (i := 554) rfl rfl
set_option maxRecDepth 100000 in
theorem qx_selX8_reset : Cond.selects RX8 yX8_reset yX8_reset ∈ qx_BW := qx_in (i := 555) rfl rfl
set_option maxRecDepth 100000 in
theorem qx_mcX8_startCall : qx_MC yX8_startCall cX8_startCall 1 none 0 := ⟨qx_in (i := 365) rfl rfl, qx_in (i := 33) rfl rfl, ⟨by decide +kernel, by decide +kernel, by decide +kernel⟩, by decide +kernel⟩
set_option maxRecDepth 100000 in
theorem qx_iX8_startCall : Cond.instanceMethod yX8_startCall ∈ qx_BW := qx_in (i := 363) rfl rfl
set_option maxRecDepth 100000 in
theorem qx_selX8_startCall : Cond.selects RX8 yX8_startCall yX8_startCall ∈ qx_BW := qx_in (i := 364) rfl rfl
set_option maxRecDepth 100000 in
theorem qx_mcX8_save : qx_MC yX8_save cX8_save 5 none 3 := ⟨qx_in (i := 485) rfl rfl, qx_in (i := 33) rfl rfl, ⟨by decide +kernel, by decide +kernel, by decide +kernel⟩, by decide +kernel⟩
set_option maxRecDepth 100000 in
theorem qx_iX8_save : Cond.instanceMethod yX8_save ∈ qx_BW := qx_in (i := 483) rfl rfl
set_option maxRecDepth 100000 in
theorem qx_selX8_save : Cond.selects RX8 yX8_save yX8_save ∈ qx_BW := qx_in (i := 484) rfl rfl
set_option maxRecDepth 100000 in
theorem qx_mcX8_canPay : qx_MC yX8_canPay cX8_canPay 3 (some .boolean) 2 := ⟨qx_in (i := 463) rfl rfl, qx_in (i := 33) rfl rfl, ⟨by decide +kernel, by decide +kernel, by decide +kernel⟩, by decide +kernel⟩
set_option maxRecDepth 100000 in
theorem qx_iX8_canPay : Cond.instanceMethod yX8_canPay ∈ qx_BW := qx_in (i := 461) rfl rfl
set_option maxRecDepth 100000 in
theorem qx_selX8_canPay : Cond.selects RX8 yX8_canPay yX8_canPay ∈ qx_BW := qx_in (i := 462) rfl rfl
set_option maxRecDepth 100000 in
theorem qx_mcX8_move : qx_MC yX8_move cX8_move 4 none 3 := ⟨qx_in (i := 396) rfl rfl, qx_in (i := 33) rfl rfl, ⟨by decide +kernel, by decide +kernel, by decide +kernel⟩, by decide +kernel⟩
set_option maxRecDepth 100000 in
theorem qx_iX8_move : Cond.instanceMethod yX8_move ∈ qx_BW := qx_in (i := 394) rfl rfl
set_option maxRecDepth 100000 in
theorem qx_selX8_move : Cond.selects RX8 yX8_move yX8_move ∈ qx_BW := qx_in (i := 395) rfl rfl
set_option maxRecDepth 100000 in
theorem qx_mcX8_addEvent : qx_MC yX8_addEvent cX8_addEvent 6 none 4 := ⟨qx_in (i := 493) rfl rfl, qx_in (i := 33) rfl rfl, ⟨by decide +kernel, by decide +kernel, by decide +kernel⟩, by decide +kernel⟩
set_option maxRecDepth 100000 in
theorem qx_iX8_addEvent : Cond.instanceMethod yX8_addEvent ∈ qx_BW := qx_in (i := 491) rfl rfl
set_option maxRecDepth 100000 in
theorem qx_selX8_addEvent : Cond.selects RX8 yX8_addEvent yX8_addEvent ∈ qx_BW := qx_in (i := 492) rfl rfl
set_option maxRecDepth 100000 in
theorem qx_mcX9_init : qx_MC yX9_init cX9_init 1 none 0 := ⟨qx_in (i := 47) rfl rfl, qx_in (i := 30) rfl rfl, ⟨by decide +kernel, by decide +kernel, by decide +kernel⟩, by decide +kernel⟩
set_option maxRecDepth 100000 in
theorem qx_iX9_init : Cond.instanceMethod yX9_init ∈ qx_BW := qx_in (i := 46) rfl rfl
set_option maxRecDepth 100000 in
theorem qx_mcX9_contract : qx_MC yX9_contract cX9_contract 1 (some .int) 0 := ⟨qx_in (i := 311) rfl rfl, qx_in (i := 30) rfl rfl, ⟨by decide +kernel, by decide +kernel, by decide +kernel⟩, by decide +kernel⟩
set_option maxRecDepth 100000 in
theorem qx_iX9_contract : Cond.instanceMethod yX9_contract ∈ qx_BW := qx_in (i := 309) rfl rfl
set_option maxRecDepth 100000 in
theorem qx_selX9_contract : Cond.selects RX9 yX9_contract yX9_contract ∈ qx_BW := qx_in (i := 310) rfl rfl
set_option maxRecDepth 100000 in
theorem qx_mcX9_step : qx_MC yX9_step cX9_step 8 (some .int) 5 := ⟨qx_in (i := 315) rfl rfl, qx_in (i := 30) rfl rfl, ⟨by decide +kernel, by decide +kernel, by decide +kernel⟩, by decide +kernel⟩
set_option maxRecDepth 100000 in
theorem qx_iX9_step : Cond.instanceMethod yX9_step ∈ qx_BW := qx_in (i := 313) rfl rfl
set_option maxRecDepth 100000 in
theorem qx_selX9_step : Cond.selects RX9 yX9_step yX9_step ∈ qx_BW := qx_in (i := 314) rfl rfl
set_option maxRecDepth 100000 in
theorem qx_mcX9_empty : qx_MC yX9_empty cX9_empty 6 (some .int) 2 := ⟨qx_in (i := 342) rfl rfl, qx_in (i := 30) rfl rfl, ⟨by decide +kernel, by decide +kernel, by decide +kernel⟩, by decide +kernel⟩
set_option maxRecDepth 100000 in
theorem qx_iX9_empty : Cond.instanceMethod yX9_empty ∈ qx_BW := qx_in (i := 340) rfl rfl
set_option maxRecDepth 100000 in
theorem qx_selX9_empty : Cond.selects RX9 yX9_empty yX9_empty ∈ qx_BW := qx_in (i := 341) rfl rfl
set_option maxRecDepth 100000 in
theorem qx_mcX9_guard : qx_MC yX9_guard cX9_guard 7 (some .int) 3 := ⟨qx_in (i := 346) rfl rfl, qx_in (i := 30) rfl rfl, ⟨by decide +kernel, by decide +kernel, by decide +kernel⟩, by decide +kernel⟩
set_option maxRecDepth 100000 in
theorem qx_iX9_guard : Cond.instanceMethod yX9_guard ∈ qx_BW := qx_in (i := 344) rfl rfl
set_option maxRecDepth 100000 in
theorem qx_selX9_guard : Cond.selects RX9 yX9_guard yX9_guard ∈ qx_BW := qx_in (i := 345) rfl rfl
set_option maxRecDepth 100000 in
theorem qx_mcX9_call : qx_MC yX9_call cX9_call 8 (some .int) 6 := ⟨qx_in (i := 350) rfl rfl, qx_in (i := 30) rfl rfl, ⟨by decide +kernel, by decide +kernel, by decide +kernel⟩, by decide +kernel⟩
set_option maxRecDepth 100000 in
theorem qx_iX9_call : Cond.instanceMethod yX9_call ∈ qx_BW := qx_in (i := 348) rfl rfl
set_option maxRecDepth 100000 in
theorem qx_selX9_call : Cond.selects RX9 yX9_call yX9_call ∈ qx_BW := qx_in (i := 349) rfl rfl
set_option maxRecDepth 100000 in
theorem qx_mcX9_told : qx_MC yX9_told cX9_told 2 (some .int) 1 := ⟨qx_in (i := 515) rfl rfl, qx_in (i := 30) rfl rfl, ⟨by decide +kernel, by decide +kernel, by decide +kernel⟩, by decide +kernel⟩
set_option maxRecDepth 100000 in
theorem qx_iX9_told : Cond.instanceMethod yX9_told ∈ qx_BW := qx_in (i := 513) rfl rfl
set_option maxRecDepth 100000 in
theorem qx_selX9_told : Cond.selects RX9 yX9_told yX9_told ∈ qx_BW := qx_in (i := 514) rfl rfl
set_option maxRecDepth 100000 in
theorem qx_mcX9_frame : qx_MC yX9_frame cX9_frame 3 (some .int) 2 := ⟨qx_in (i := 519) rfl rfl, qx_in (i := 30) rfl rfl, ⟨by decide +kernel, by decide +kernel, by decide +kernel⟩, by decide +kernel⟩
set_option maxRecDepth 100000 in
theorem qx_iX9_frame : Cond.instanceMethod yX9_frame ∈ qx_BW := qx_in (i := 517) rfl rfl
set_option maxRecDepth 100000 in
theorem qx_selX9_frame : Cond.selects RX9 yX9_frame yX9_frame ∈ qx_BW := qx_in (i := 518) rfl rfl
set_option maxRecDepth 100000 in
theorem qx_mcX9_event : qx_MC yX9_event cX9_event 3 (some .int) 2 := ⟨qx_in (i := 528) rfl rfl, qx_in (i := 30) rfl rfl, ⟨by decide +kernel, by decide +kernel, by decide +kernel⟩, by decide +kernel⟩
set_option maxRecDepth 100000 in
theorem qx_iX9_event : Cond.instanceMethod yX9_event ∈ qx_BW := qx_in (i := 526) rfl rfl
set_option maxRecDepth 100000 in
theorem qx_selX9_event : Cond.selects RX9 yX9_event yX9_event ∈ qx_BW := qx_in (i := 527) rfl rfl
set_option maxRecDepth 100000 in
theorem qx_mcX9_store : qx_MC yX9_store cX9_store 3 (some .int) 2 := ⟨qx_in (i := 532) rfl rfl, qx_in (i := 30) rfl rfl, ⟨by decide +kernel, by decide +kernel, by decide +kernel⟩, by decide +kernel⟩
set_option maxRecDepth 100000 in
theorem qx_iX9_store : Cond.instanceMethod yX9_store ∈ qx_BW := qx_in (i := 530) rfl rfl
set_option maxRecDepth 100000 in
theorem qx_selX9_store : Cond.selects RX9 yX9_store yX9_store ∈ qx_BW := qx_in (i := 531) rfl rfl
set_option maxRecDepth 100000 in
theorem qx_mcX9_coins : qx_MC yX9_coins cX9_coins 3 (some .int) 2 := ⟨qx_in (i := 536) rfl rfl, qx_in (i := 30) rfl rfl, ⟨by decide +kernel, by decide +kernel, by decide +kernel⟩, by decide +kernel⟩
set_option maxRecDepth 100000 in
theorem qx_iX9_coins : Cond.instanceMethod yX9_coins ∈ qx_BW := qx_in (i := 534) rfl rfl
set_option maxRecDepth 100000 in
theorem qx_selX9_coins : Cond.selects RX9 yX9_coins yX9_coins ∈ qx_BW := qx_in (i := 535) rfl rfl
set_option maxRecDepth 100000 in
theorem qx_mcX9_count : qx_MC yX9_count cX9_count 2 (some .int) 1 := ⟨qx_in (i := 540) rfl rfl, qx_in (i := 30) rfl rfl, ⟨by decide +kernel, by decide +kernel, by decide +kernel⟩, by decide +kernel⟩
set_option maxRecDepth 100000 in
theorem qx_iX9_count : Cond.instanceMethod yX9_count ∈ qx_BW := qx_in (i := 538) rfl rfl
set_option maxRecDepth 100000 in
theorem qx_selX9_count : Cond.selects RX9 yX9_count yX9_count ∈ qx_BW := qx_in (i := 539) rfl rfl
set_option maxRecDepth 100000 in
theorem qx_mcX9_clear : qx_MC yX9_clear cX9_clear 2 (some .int) 0 := ⟨qx_in (i := 548) rfl rfl, qx_in (i := 30) rfl rfl, ⟨by decide +kernel, by decide +kernel, by decide +kernel⟩, by decide +kernel⟩
set_option maxRecDepth 100000 in
theorem qx_iX9_clear : Cond.instanceMethod yX9_clear ∈ qx_BW := qx_in (i := 546) rfl rfl
set_option maxRecDepth 100000 in
theorem qx_selX9_clear : Cond.selects RX9 yX9_clear yX9_clear ∈ qx_BW := qx_in (i := 547) rfl rfl
set_option maxRecDepth 100000 in
theorem qx_mcX9_refusedMember : qx_MC yX9_refusedMember cX9_refusedMember 3 (some .int) 2 := ⟨qx_in (i := 319) rfl rfl, qx_in (i := 30) rfl rfl, ⟨by decide +kernel, by decide +kernel, by decide +kernel⟩, by decide +kernel⟩
set_option maxRecDepth 100000 in
theorem qx_iX9_refusedMember : Cond.instanceMethod yX9_refusedMember ∈ qx_BW := qx_in (i := 318) rfl rfl
set_option maxRecDepth 100000 in
theorem qx_selX9_refusedMember : Cond.selects RX9 yX9_refusedMember yX9_refusedMember ∈ qx_BW := qx_in (i := 1) rfl rfl
set_option maxRecDepth 100000 in
theorem qx_mcX9_refusedCall : qx_MC yX9_refusedCall cX9_refusedCall 8 (some .int) 5 := ⟨qx_in (i := 354) rfl rfl, qx_in (i := 30) rfl rfl, ⟨by decide +kernel, by decide +kernel, by decide +kernel⟩, by decide +kernel⟩
set_option maxRecDepth 100000 in
theorem qx_iX9_refusedCall : Cond.instanceMethod yX9_refusedCall ∈ qx_BW := qx_in (i := 353) rfl rfl
set_option maxRecDepth 100000 in
theorem qx_selX9_refusedCall : Cond.selects RX9 yX9_refusedCall yX9_refusedCall ∈ qx_BW := qx_in (i := 2) rfl rfl
set_option maxRecDepth 100000 in
theorem qx_mcX9_isUser : qx_MC yX9_isUser cX9_isUser 1 (some .boolean) 1 := ⟨qx_in (i := 357) rfl rfl, qx_in (i := 30) rfl rfl, ⟨by decide +kernel, by decide +kernel, by decide +kernel⟩, by decide +kernel⟩
set_option maxRecDepth 100000 in
theorem qx_sX9_isUser : Cond.static yX9_isUser ∈ qx_BW := qx_in (i := 356) rfl rfl
set_option maxRecDepth 100000 in
theorem qx_mcX9_within : qx_MC yX9_within cX9_within 3 (some .boolean) 3 := ⟨qx_in (i := 326) rfl rfl, qx_in (i := 30) rfl rfl, ⟨by decide +kernel, by decide +kernel, by decide +kernel⟩, by decide +kernel⟩
set_option maxRecDepth 100000 in
theorem qx_sX9_within : Cond.static yX9_within ∈ qx_BW := qx_in (i := 325) rfl rfl
set_option maxRecDepth 100000 in
theorem qx_mcX10_init : qx_MC yX10_init cX10_init 1 none 0 := ⟨qx_in (i := 570) rfl rfl, qx_in (i := 39) rfl rfl, ⟨by decide +kernel, by decide +kernel, by decide +kernel⟩, by decide +kernel⟩
set_option maxRecDepth 100000 in
theorem qx_iX10_init : Cond.instanceMethod yX10_init ∈ qx_BW := qx_in (i := 569) rfl rfl
set_option maxRecDepth 100000 in
theorem qx_mcX10_in : qx_MC yX10_in cX10_in 3 (some .boolean) 3 := ⟨qx_in (i := 739) rfl rfl, qx_in (i := 39) rfl rfl, ⟨by decide +kernel, by decide +kernel, by decide +kernel⟩, by decide +kernel⟩
set_option maxRecDepth 100000 in
theorem qx_sX10_in : Cond.static yX10_in ∈ qx_BW := qx_in (i := 738) rfl rfl
set_option maxRecDepth 100000 in
theorem qx_mcX10_begin : qx_MC yX10_begin cX10_begin 2 none 0 := ⟨qx_in (i := 575) rfl rfl, qx_in (i := 39) rfl rfl, ⟨by decide +kernel, by decide +kernel, by decide +kernel⟩, by decide +kernel⟩
set_option maxRecDepth 100000 in
theorem qx_iX10_begin : Cond.instanceMethod yX10_begin ∈ qx_BW := qx_in (i := 574) rfl rfl
set_option maxRecDepth 100000 in
theorem qx_selX10_begin : Cond.selects RX10 yX10_begin yX10_begin ∈ qx_BW := qx_in (i := 12) rfl rfl
set_option maxRecDepth 100000 in
theorem qx_mcX10_contract : qx_MC yX10_contract cX10_contract 3 (some .int) 0 := ⟨qx_in (i := 728) rfl rfl, qx_in (i := 39) rfl rfl, ⟨by decide +kernel, by decide +kernel, by decide +kernel⟩, by decide +kernel⟩
set_option maxRecDepth 100000 in
theorem qx_iX10_contract : Cond.instanceMethod yX10_contract ∈ qx_BW := qx_in (i := 726) rfl rfl
set_option maxRecDepth 100000 in
theorem qx_selX10_contract : Cond.selects RX10 yX10_contract yX10_contract ∈ qx_BW := qx_in (i := 727) rfl rfl
set_option maxRecDepth 100000 in
theorem qx_mcX10_noContract : qx_MC yX10_noContract cX10_noContract 2 (some .boolean) 1 := ⟨qx_in (i := 736) rfl rfl, qx_in (i := 39) rfl rfl, ⟨by decide +kernel, by decide +kernel, by decide +kernel⟩, by decide +kernel⟩
set_option maxRecDepth 100000 in
theorem qx_iX10_noContract : Cond.instanceMethod yX10_noContract ∈ qx_BW := qx_in (i := 735) rfl rfl
set_option maxRecDepth 100000 in
theorem qx_selX10_noContract : Cond.selects RX10 yX10_noContract yX10_noContract ∈ qx_BW := qx_in (i := 13) rfl rfl
set_option maxRecDepth 100000 in
theorem qx_mcX10_isCode : qx_MC yX10_isCode cX10_isCode 3 (some .boolean) 3 := ⟨qx_in (i := 742) rfl rfl, qx_in (i := 39) rfl rfl, ⟨by decide +kernel, by decide +kernel, by decide +kernel⟩, by decide +kernel⟩
set_option maxRecDepth 100000 in
theorem qx_sX10_isCode : Cond.static yX10_isCode ∈ qx_BW := qx_in (i := 741) rfl rfl
set_option maxRecDepth 100000 in
theorem qx_mcX10_step : qx_MC yX10_step cX10_step 8 (some .int) 5 := ⟨qx_in (i := 732) rfl rfl, qx_in (i := 39) rfl rfl, ⟨by decide +kernel, by decide +kernel, by decide +kernel⟩, by decide +kernel⟩
set_option maxRecDepth 100000 in
theorem qx_iX10_step : Cond.instanceMethod yX10_step ∈ qx_BW := qx_in (i := 730) rfl rfl
set_option maxRecDepth 100000 in
theorem qx_selX10_step : Cond.selects RX10 yX10_step yX10_step ∈ qx_BW := qx_in (i := 731) rfl rfl
set_option maxRecDepth 100000 in
theorem qx_mcX10_empty : qx_MC yX10_empty cX10_empty 4 (some .int) 2 := ⟨qx_in (i := 746) rfl rfl, qx_in (i := 39) rfl rfl, ⟨by decide +kernel, by decide +kernel, by decide +kernel⟩, by decide +kernel⟩
set_option maxRecDepth 100000 in
theorem qx_iX10_empty : Cond.instanceMethod yX10_empty ∈ qx_BW := qx_in (i := 744) rfl rfl
set_option maxRecDepth 100000 in
theorem qx_selX10_empty : Cond.selects RX10 yX10_empty yX10_empty ∈ qx_BW := qx_in (i := 745) rfl rfl
set_option maxRecDepth 100000 in
theorem qx_mcX10_guard : qx_MC yX10_guard cX10_guard 5 (some .int) 3 := ⟨qx_in (i := 750) rfl rfl, qx_in (i := 39) rfl rfl, ⟨by decide +kernel, by decide +kernel, by decide +kernel⟩, by decide +kernel⟩
set_option maxRecDepth 100000 in
theorem qx_iX10_guard : Cond.instanceMethod yX10_guard ∈ qx_BW := qx_in (i := 748) rfl rfl
set_option maxRecDepth 100000 in
theorem qx_selX10_guard : Cond.selects RX10 yX10_guard yX10_guard ∈ qx_BW := qx_in (i := 749) rfl rfl
set_option maxRecDepth 100000 in
theorem qx_mcX10_hold : qx_MC yX10_hold cX10_hold 3 none 1 := ⟨qx_in (i := 762) rfl rfl, qx_in (i := 39) rfl rfl, ⟨by decide +kernel, by decide +kernel, by decide +kernel⟩, by decide +kernel⟩
set_option maxRecDepth 100000 in
theorem qx_iX10_hold : Cond.instanceMethod yX10_hold ∈ qx_BW := qx_in (i := 761) rfl rfl
set_option maxRecDepth 100000 in
theorem qx_selX10_hold : Cond.selects RX10 yX10_hold yX10_hold ∈ qx_BW := qx_in (i := 15) rfl rfl
set_option maxRecDepth 100000 in
theorem qx_mcX10_undo : qx_MC yX10_undo cX10_undo 3 none 1 := ⟨qx_in (i := 774) rfl rfl, qx_in (i := 39) rfl rfl, ⟨by decide +kernel, by decide +kernel, by decide +kernel⟩, by decide +kernel⟩
set_option maxRecDepth 100000 in
theorem qx_iX10_undo : Cond.instanceMethod yX10_undo ∈ qx_BW := qx_in (i := 773) rfl rfl
set_option maxRecDepth 100000 in
theorem qx_selX10_undo : Cond.selects RX10 yX10_undo yX10_undo ∈ qx_BW := qx_in (i := 18) rfl rfl
set_option maxRecDepth 100000 in
theorem qx_mcX10_enter : qx_MC yX10_enter cX10_enter 9 none 7 := ⟨qx_in (i := 758) rfl rfl, qx_in (i := 39) rfl rfl, ⟨by decide +kernel, by decide +kernel, by decide +kernel⟩, by decide +kernel⟩
set_option maxRecDepth 100000 in
theorem qx_iX10_enter : Cond.instanceMethod yX10_enter ∈ qx_BW := qx_in (i := 757) rfl rfl
set_option maxRecDepth 100000 in
theorem qx_selX10_enter : Cond.selects RX10 yX10_enter yX10_enter ∈ qx_BW := qx_in (i := 14) rfl rfl
set_option maxRecDepth 100000 in
theorem qx_mcX10_push : qx_MC yX10_push cX10_push 3 none 2 := ⟨qx_in (i := 778) rfl rfl, qx_in (i := 39) rfl rfl, ⟨by decide +kernel, by decide +kernel, by decide +kernel⟩, by decide +kernel⟩
set_option maxRecDepth 100000 in
theorem qx_iX10_push : Cond.instanceMethod yX10_push ∈ qx_BW := qx_in (i := 777) rfl rfl
set_option maxRecDepth 100000 in
theorem qx_selX10_push : Cond.selects RX10 yX10_push yX10_push ∈ qx_BW := qx_in (i := 19) rfl rfl
set_option maxRecDepth 100000 in
theorem qx_mcX10_pop : qx_MC yX10_pop cX10_pop 2 (some .int) 1 := ⟨qx_in (i := 800) rfl rfl, qx_in (i := 39) rfl rfl, ⟨by decide +kernel, by decide +kernel, by decide +kernel⟩, by decide +kernel⟩
set_option maxRecDepth 100000 in
theorem qx_iX10_pop : Cond.instanceMethod yX10_pop ∈ qx_BW := qx_in (i := 799) rfl rfl
set_option maxRecDepth 100000 in
theorem qx_selX10_pop : Cond.selects RX10 yX10_pop yX10_pop ∈ qx_BW := qx_in (i := 23) rfl rfl
set_option maxRecDepth 100000 in
theorem qx_mcX10_takes : qx_MC yX10_takes cX10_takes 1 (some .int) 1 := ⟨qx_in (i := 781) rfl rfl, qx_in (i := 39) rfl rfl, ⟨by decide +kernel, by decide +kernel, by decide +kernel⟩, by decide +kernel⟩
set_option maxRecDepth 100000 in
theorem qx_sX10_takes : Cond.static yX10_takes ∈ qx_BW := qx_in (i := 780) rfl rfl
set_option maxRecDepth 100000 in
theorem qx_mcX10_leaves : qx_MC yX10_leaves cX10_leaves 1 (some .int) 1 := ⟨qx_in (i := 784) rfl rfl, qx_in (i := 39) rfl rfl, ⟨by decide +kernel, by decide +kernel, by decide +kernel⟩, by decide +kernel⟩
set_option maxRecDepth 100000 in
theorem qx_sX10_leaves : Cond.static yX10_leaves ∈ qx_BW := qx_in (i := 783) rfl rfl
set_option maxRecDepth 100000 in
theorem qx_mcX10_ends : qx_MC yX10_ends cX10_ends 8 none 2 := ⟨qx_in (i := 770) rfl rfl, qx_in (i := 39) rfl rfl, ⟨by decide +kernel, by decide +kernel, by decide +kernel⟩, by decide +kernel⟩
set_option maxRecDepth 100000 in
theorem qx_iX10_ends : Cond.instanceMethod yX10_ends ∈ qx_BW := qx_in (i := 769) rfl rfl
set_option maxRecDepth 100000 in
theorem qx_selX10_ends : Cond.selects RX10 yX10_ends yX10_ends ∈ qx_BW := qx_in (i := 17) rfl rfl
set_option maxRecDepth 100000 in
theorem qx_mcX10_gives : qx_MC yX10_gives cX10_gives 5 (some .int) 3 := ⟨qx_in (i := 792) rfl rfl, qx_in (i := 39) rfl rfl, ⟨by decide +kernel, by decide +kernel, by decide +kernel⟩, by decide +kernel⟩
set_option maxRecDepth 100000 in
theorem qx_iX10_gives : Cond.instanceMethod yX10_gives ∈ qx_BW := qx_in (i := 791) rfl rfl
set_option maxRecDepth 100000 in
theorem qx_selX10_gives : Cond.selects RX10 yX10_gives yX10_gives ∈ qx_BW := qx_in (i := 21) rfl rfl
set_option maxRecDepth 100000 in
theorem qx_mcX10_reckon : qx_MC yX10_reckon cX10_reckon 5 none 2 := ⟨qx_in (i := 820) rfl rfl, qx_in (i := 39) rfl rfl, ⟨by decide +kernel, by decide +kernel, by decide +kernel⟩, by decide +kernel⟩
set_option maxRecDepth 100000 in
theorem qx_iX10_reckon : Cond.instanceMethod yX10_reckon ∈ qx_BW := qx_in (i := 819) rfl rfl
set_option maxRecDepth 100000 in
theorem qx_selX10_reckon : Cond.selects RX10 yX10_reckon yX10_reckon ∈ qx_BW := qx_in (i := 28) rfl rfl
set_option maxRecDepth 100000 in
theorem qx_mcX10_save : qx_MC yX10_save cX10_save 5 none 2 := ⟨qx_in (i := 796) rfl rfl, qx_in (i := 39) rfl rfl, ⟨by decide +kernel, by decide +kernel, by decide +kernel⟩, by decide +kernel⟩
set_option maxRecDepth 100000 in
theorem qx_iX10_save : Cond.instanceMethod yX10_save ∈ qx_BW := qx_in (i := 795) rfl rfl
set_option maxRecDepth 100000 in
theorem qx_selX10_save : Cond.selects RX10 yX10_save yX10_save ∈ qx_BW := qx_in (i := 22) rfl rfl
set_option maxRecDepth 100000 in
theorem qx_mcX10_tell : qx_MC yX10_tell cX10_tell 4 none 2 := ⟨qx_in (i := 812) rfl rfl, qx_in (i := 39) rfl rfl, ⟨by decide +kernel, by decide +kernel, by decide +kernel⟩, by decide +kernel⟩
set_option maxRecDepth 100000 in
theorem qx_iX10_tell : Cond.instanceMethod yX10_tell ∈ qx_BW := qx_in (i := 811) rfl rfl
set_option maxRecDepth 100000 in
theorem qx_selX10_tell : Cond.selects RX10 yX10_tell yX10_tell ∈ qx_BW := qx_in (i := 26) rfl rfl
set_option maxRecDepth 100000 in
theorem qx_mcX10_send : qx_MC yX10_send cX10_send 5 none 2 := ⟨qx_in (i := 816) rfl rfl, qx_in (i := 39) rfl rfl, ⟨by decide +kernel, by decide +kernel, by decide +kernel⟩, by decide +kernel⟩
set_option maxRecDepth 100000 in
theorem qx_iX10_send : Cond.instanceMethod yX10_send ∈ qx_BW := qx_in (i := 815) rfl rfl
set_option maxRecDepth 100000 in
theorem qx_selX10_send : Cond.selects RX10 yX10_send yX10_send ∈ qx_BW := qx_in (i := 27) rfl rfl
set_option maxRecDepth 100000 in
theorem qx_mcX10_shut : qx_MC yX10_shut cX10_shut 6 (some .int) 4 := ⟨qx_in (i := 808) rfl rfl, qx_in (i := 39) rfl rfl, ⟨by decide +kernel, by decide +kernel, by decide +kernel⟩, by decide +kernel⟩
set_option maxRecDepth 100000 in
theorem qx_iX10_shut : Cond.instanceMethod yX10_shut ∈ qx_BW := qx_in (i := 807) rfl rfl
set_option maxRecDepth 100000 in
theorem qx_selX10_shut : Cond.selects RX10 yX10_shut yX10_shut ∈ qx_BW := qx_in (i := 25) rfl rfl
set_option maxRecDepth 100000 in
theorem qx_mcX10_callOut : qx_MC yX10_callOut cX10_callOut 10 none 4 := ⟨qx_in (i := 804) rfl rfl, qx_in (i := 39) rfl rfl, ⟨by decide +kernel, by decide +kernel, by decide +kernel⟩, by decide +kernel⟩
set_option maxRecDepth 100000 in
theorem qx_iX10_callOut : Cond.instanceMethod yX10_callOut ∈ qx_BW := qx_in (i := 803) rfl rfl
set_option maxRecDepth 100000 in
theorem qx_selX10_callOut : Cond.selects RX10 yX10_callOut yX10_callOut ∈ qx_BW := qx_in (i := 24) rfl rfl
set_option maxRecDepth 100000 in
theorem qx_mcX10_act : qx_MC yX10_act cX10_act 6 none 4 := ⟨qx_in (i := 788) rfl rfl, qx_in (i := 39) rfl rfl, ⟨by decide +kernel, by decide +kernel, by decide +kernel⟩, by decide +kernel⟩
set_option maxRecDepth 100000 in
theorem qx_iX10_act : Cond.instanceMethod yX10_act ∈ qx_BW := qx_in (i := 787) rfl rfl
set_option maxRecDepth 100000 in
theorem qx_selX10_act : Cond.selects RX10 yX10_act yX10_act ∈ qx_BW := qx_in (i := 20) rfl rfl
set_option maxRecDepth 100000 in
theorem qx_mcX10_oneStep : qx_MC yX10_oneStep cX10_oneStep 5 none 0 := ⟨qx_in (i := 766) rfl rfl, qx_in (i := 39) rfl rfl, ⟨by decide +kernel, by decide +kernel, by decide +kernel⟩, by decide +kernel⟩
set_option maxRecDepth 100000 in
theorem qx_iX10_oneStep : Cond.instanceMethod yX10_oneStep ∈ qx_BW := qx_in (i := 765) rfl rfl
set_option maxRecDepth 100000 in
theorem qx_selX10_oneStep : Cond.selects RX10 yX10_oneStep yX10_oneStep ∈ qx_BW := qx_in (i := 16) rfl rfl
set_option maxRecDepth 100000 in
theorem qx_mcX10_call : qx_MC yX10_call cX10_call 7 (some .int) 6 := ⟨qx_in (i := 754) rfl rfl, qx_in (i := 39) rfl rfl, ⟨by decide +kernel, by decide +kernel, by decide +kernel⟩, by decide +kernel⟩
set_option maxRecDepth 100000 in
theorem qx_iX10_call : Cond.instanceMethod yX10_call ∈ qx_BW := qx_in (i := 752) rfl rfl
set_option maxRecDepth 100000 in
theorem qx_selX10_call : Cond.selects RX10 yX10_call yX10_call ∈ qx_BW := qx_in (i := 753) rfl rfl
set_option maxRecDepth 100000 in
theorem qx_mcX10_told : qx_MC yX10_told cX10_told 2 (some .int) 1 := ⟨qx_in (i := 824) rfl rfl, qx_in (i := 39) rfl rfl, ⟨by decide +kernel, by decide +kernel, by decide +kernel⟩, by decide +kernel⟩
set_option maxRecDepth 100000 in
theorem qx_iX10_told : Cond.instanceMethod yX10_told ∈ qx_BW := qx_in (i := 822) rfl rfl
set_option maxRecDepth 100000 in
theorem qx_selX10_told : Cond.selects RX10 yX10_told yX10_told ∈ qx_BW := qx_in (i := 823) rfl rfl
set_option maxRecDepth 100000 in
theorem qx_mcX10_frame : qx_MC yX10_frame cX10_frame 3 (some .int) 2 := ⟨qx_in (i := 828) rfl rfl, qx_in (i := 39) rfl rfl, ⟨by decide +kernel, by decide +kernel, by decide +kernel⟩, by decide +kernel⟩
set_option maxRecDepth 100000 in
theorem qx_iX10_frame : Cond.instanceMethod yX10_frame ∈ qx_BW := qx_in (i := 826) rfl rfl
set_option maxRecDepth 100000 in
theorem qx_selX10_frame : Cond.selects RX10 yX10_frame yX10_frame ∈ qx_BW := qx_in (i := 827) rfl rfl
set_option maxRecDepth 100000 in
theorem qx_mcX10_event : qx_MC yX10_event cX10_event 3 (some .int) 2 := ⟨qx_in (i := 832) rfl rfl, qx_in (i := 39) rfl rfl, ⟨by decide +kernel, by decide +kernel, by decide +kernel⟩, by decide +kernel⟩
set_option maxRecDepth 100000 in
theorem qx_iX10_event : Cond.instanceMethod yX10_event ∈ qx_BW := qx_in (i := 830) rfl rfl
set_option maxRecDepth 100000 in
theorem qx_selX10_event : Cond.selects RX10 yX10_event yX10_event ∈ qx_BW := qx_in (i := 831) rfl rfl
set_option maxRecDepth 100000 in
theorem qx_mcX10_store : qx_MC yX10_store cX10_store 3 (some .int) 2 := ⟨qx_in (i := 836) rfl rfl, qx_in (i := 39) rfl rfl, ⟨by decide +kernel, by decide +kernel, by decide +kernel⟩, by decide +kernel⟩
set_option maxRecDepth 100000 in
theorem qx_iX10_store : Cond.instanceMethod yX10_store ∈ qx_BW := qx_in (i := 834) rfl rfl
set_option maxRecDepth 100000 in
theorem qx_selX10_store : Cond.selects RX10 yX10_store yX10_store ∈ qx_BW := qx_in (i := 835) rfl rfl
set_option maxRecDepth 100000 in
theorem qx_mcX10_coins : qx_MC yX10_coins cX10_coins 3 (some .int) 2 := ⟨qx_in (i := 840) rfl rfl, qx_in (i := 39) rfl rfl, ⟨by decide +kernel, by decide +kernel, by decide +kernel⟩, by decide +kernel⟩
set_option maxRecDepth 100000 in
theorem qx_iX10_coins : Cond.instanceMethod yX10_coins ∈ qx_BW := qx_in (i := 838) rfl rfl
set_option maxRecDepth 100000 in
theorem qx_selX10_coins : Cond.selects RX10 yX10_coins yX10_coins ∈ qx_BW := qx_in (i := 839) rfl rfl
set_option maxRecDepth 100000 in
theorem qx_mcX10_count : qx_MC yX10_count cX10_count 4 (some .int) 1 := ⟨qx_in (i := 844) rfl rfl, qx_in (i := 39) rfl rfl, ⟨by decide +kernel, by decide +kernel, by decide +kernel⟩, by decide +kernel⟩
set_option maxRecDepth 100000 in
theorem qx_iX10_count : Cond.instanceMethod yX10_count ∈ qx_BW := qx_in (i := 842) rfl rfl
set_option maxRecDepth 100000 in
theorem qx_selX10_count : Cond.selects RX10 yX10_count yX10_count ∈ qx_BW := qx_in (i := 843) rfl rfl
set_option maxRecDepth 100000 in
theorem qx_mcX10_clear : qx_MC yX10_clear cX10_clear 2 (some .int) 0 := ⟨qx_in (i := 848) rfl rfl, qx_in (i := 39) rfl rfl, ⟨by decide +kernel, by decide +kernel, by decide +kernel⟩, by decide +kernel⟩
set_option maxRecDepth 100000 in
theorem qx_iX10_clear : Cond.instanceMethod yX10_clear ∈ qx_BW := qx_in (i := 846) rfl rfl
set_option maxRecDepth 100000 in
theorem qx_selX10_clear : Cond.selects RX10 yX10_clear yX10_clear ∈ qx_BW := qx_in (i := 847) rfl rfl
set_option maxRecDepth 100000 in
theorem qx_mcJ7_rangeCheck_23922 : qx_MC yJ7_rangeCheck_23922 cJ7_rangeCheck_23922 3 none 3 := ⟨qx_in (i := 112) rfl rfl, qx_in (i := 34) rfl rfl, ⟨by decide +kernel, by decide +kernel, by decide +kernel⟩, by decide +kernel⟩
set_option maxRecDepth 100000 in
theorem qx_sJ7_rangeCheck_23922 : Cond.static yJ7_rangeCheck_23922 ∈ qx_BW := qx_in (i := 111) rfl rfl
set_option maxRecDepth 100000 in
theorem qx_mcJ7_fill_53178 : qx_MC yJ7_fill_53178 cJ7_fill_53178 4 none 2 := ⟨qx_in (i := 559) rfl rfl, qx_in (i := 34) rfl rfl, ⟨by decide +kernel, by decide +kernel, by decide +kernel⟩, by decide +kernel⟩
set_option maxRecDepth 100000 in
theorem qx_sJ7_fill_53178 : Cond.static yJ7_fill_53178 ∈ qx_BW := qx_in (i := 558) rfl rfl
set_option maxRecDepth 100000 in
theorem qx_mcJ7_fill_fda19 : qx_MC yJ7_fill_fda19 cJ7_fill_fda19 5 none 4 := ⟨qx_in (i := 109) rfl rfl, qx_in (i := 34) rfl rfl, ⟨by decide +kernel, by decide +kernel, by decide +kernel⟩, by decide +kernel⟩
set_option maxRecDepth 100000 in
theorem qx_sJ7_fill_fda19 : Cond.static yJ7_fill_fda19 ∈ qx_BW := qx_in (i := 108) rfl rfl
set_option maxRecDepth 100000 in
theorem qx_kRL_7 : Cond.classLink RL 7 RX9 ∈ qx_BW := qx_in (i := 43) rfl rfl
set_option maxRecDepth 100000 in
theorem qx_inRX9 : Cond.instantiable RX9 4 ∈ qx_BW := qx_in (i := 44) rfl rfl
set_option maxRecDepth 100000 in
theorem qx_iniRX9 : Cond.initialized RX9 ∈ qx_BW := qx_in (i := 30) rfl rfl
set_option maxRecDepth 100000 in
theorem qx_kRL_10 : Cond.classLink RL 10 RX10 ∈ qx_BW := qx_in (i := 566) rfl rfl
set_option maxRecDepth 100000 in
theorem qx_inRX10 : Cond.instantiable RX10 49 ∈ qx_BW := qx_in (i := 567) rfl rfl
set_option maxRecDepth 100000 in
theorem qx_iniRX10 : Cond.initialized RX10 ∈ qx_BW := qx_in (i := 39) rfl rfl
set_option maxRecDepth 100000 in
theorem qx_lRL_9 : Cond.methodLink RL 9 yX9_init ∈ qx_BW := qx_in (i := 45) rfl rfl
set_option maxRecDepth 100000 in
theorem qx_lRX9_1 : Cond.methodLink RX9 1 objectInit ∈ qx_BW := qx_in (i := 48) rfl rfl
set_option maxRecDepth 100000 in
theorem qx_kRX9_7 : Cond.classLink RX9 7 RX4 ∈ qx_BW := qx_in (i := 51) rfl rfl
set_option maxRecDepth 100000 in
theorem qx_inRX4 : Cond.instantiable RX4 2 ∈ qx_BW := qx_in (i := 52) rfl rfl
set_option maxRecDepth 100000 in
theorem qx_iniRX4 : Cond.initialized RX4 ∈ qx_BW := qx_in (i := 31) rfl rfl
set_option maxRecDepth 100000 in
theorem qx_kRX9_16 : Cond.classLink RX9 16 RX8 ∈ qx_BW := qx_in (i := 97) rfl rfl
set_option maxRecDepth 100000 in
theorem qx_inRX8 : Cond.instantiable RX8 5 ∈ qx_BW := qx_in (i := 98) rfl rfl
set_option maxRecDepth 100000 in
theorem qx_iniRX8 : Cond.initialized RX8 ∈ qx_BW := qx_in (i := 33) rfl rfl
set_option maxRecDepth 100000 in
theorem qx_kRX9_23 : Cond.classLink RX9 23 RX5 ∈ qx_BW := qx_in (i := 141) rfl rfl
set_option maxRecDepth 100000 in
theorem qx_inRX5 : Cond.instantiable RX5 10 ∈ qx_BW := qx_in (i := 142) rfl rfl
set_option maxRecDepth 100000 in
theorem qx_iniRX5 : Cond.initialized RX5 ∈ qx_BW := qx_in (i := 35) rfl rfl
set_option maxRecDepth 100000 in
theorem qx_kRX9_30 : Cond.classLink RX9 30 RX2 ∈ qx_BW := qx_in (i := 188) rfl rfl
set_option maxRecDepth 100000 in
theorem qx_inRX2 : Cond.instantiable RX2 5 ∈ qx_BW := qx_in (i := 189) rfl rfl
set_option maxRecDepth 100000 in
theorem qx_iniRX2 : Cond.initialized RX2 ∈ qx_BW := qx_in (i := 36) rfl rfl
set_option maxRecDepth 100000 in
theorem qx_lRX9_9 : Cond.methodLink RX9 9 yX4_init ∈ qx_BW := qx_in (i := 53) rfl rfl
set_option maxRecDepth 100000 in
theorem qx_lRX4_3 : Cond.methodLink RX4 3 objectInit ∈ qx_BW := qx_in (i := 56) rfl rfl
set_option maxRecDepth 100000 in
theorem qx_kRX4_9 : Cond.classLink RX4 9 RX3 ∈ qx_BW := qx_in (i := 57) rfl rfl
set_option maxRecDepth 100000 in
theorem qx_inRX3 : Cond.instantiable RX3 5 ∈ qx_BW := qx_in (i := 59) rfl rfl
set_option maxRecDepth 100000 in
theorem qx_iniRX3 : Cond.initialized RX3 ∈ qx_BW := qx_in (i := 32) rfl rfl
set_option maxRecDepth 100000 in
theorem qx_lRX3_3 : Cond.methodLink RX3 3 objectInit ∈ qx_BW := qx_in (i := 63) rfl rfl
set_option maxRecDepth 100000 in
theorem qx_lRX9_18 : Cond.methodLink RX9 18 yX8_init ∈ qx_BW := qx_in (i := 99) rfl rfl
set_option maxRecDepth 100000 in
theorem qx_lRX8_5 : Cond.methodLink RX8 5 objectInit ∈ qx_BW := qx_in (i := 102) rfl rfl
set_option maxRecDepth 100000 in
theorem qx_lRX8_21 : Cond.methodLink RX8 21 yX8_fillUsersPurses ∈ qx_BW := qx_in (i := 103) rfl rfl
set_option maxRecDepth 100000 in
theorem qx_lRX8_24 : Cond.methodLink RX8 24 yJ7_fill_fda19 ∈ qx_BW := qx_in (i := 107) rfl rfl
set_option maxRecDepth 100000 in
theorem qx_iniRJ7 : Cond.initialized RJ7 ∈ qx_BW := qx_in (i := 34) rfl rfl
set_option maxRecDepth 100000 in
theorem qx_lRJ7_13 : Cond.methodLink RJ7 13 yJ7_rangeCheck_23922 ∈ qx_BW := qx_in (i := 110) rfl rfl
set_option maxRecDepth 100000 in
theorem qx_lRX5_1 : Cond.methodLink RX5 1 objectInit ∈ qx_BW := qx_in (i := 146) rfl rfl
set_option maxRecDepth 100000 in
theorem qx_lRX9_32 : Cond.methodLink RX9 32 yX2_init ∈ qx_BW := qx_in (i := 190) rfl rfl
set_option maxRecDepth 100000 in
theorem qx_lRX2_3 : Cond.methodLink RX2 3 objectInit ∈ qx_BW := qx_in (i := 193) rfl rfl
set_option maxRecDepth 100000 in
theorem qx_kRX2_9 : Cond.classLink RX2 9 RX1 ∈ qx_BW := qx_in (i := 194) rfl rfl
set_option maxRecDepth 100000 in
theorem qx_kRX2_17 : Cond.classLink RX2 17 RX6 ∈ qx_BW := qx_in (i := 196) rfl rfl
set_option maxRecDepth 100000 in
theorem qx_inRX1 : Cond.instantiable RX1 14 ∈ qx_BW := qx_in (i := 198) rfl rfl
set_option maxRecDepth 100000 in
theorem qx_iniRX1 : Cond.initialized RX1 ∈ qx_BW := qx_in (i := 37) rfl rfl
set_option maxRecDepth 100000 in
theorem qx_inRX6 : Cond.instantiable RX6 4 ∈ qx_BW := qx_in (i := 261) rfl rfl
set_option maxRecDepth 100000 in
theorem qx_iniRX6 : Cond.initialized RX6 ∈ qx_BW := qx_in (i := 38) rfl rfl
set_option maxRecDepth 100000 in
theorem qx_lRX1_1 : Cond.methodLink RX1 1 objectInit ∈ qx_BW := qx_in (i := 202) rfl rfl
set_option maxRecDepth 100000 in
theorem qx_lRX6_3 : Cond.methodLink RX6 3 objectInit ∈ qx_BW := qx_in (i := 265) rfl rfl
set_option maxRecDepth 100000 in
theorem qx_lRL_12 : Cond.methodLink RL 12 yX10_init ∈ qx_BW := qx_in (i := 568) rfl rfl
set_option maxRecDepth 100000 in
theorem qx_lRX10_1 : Cond.methodLink RX10 1 objectInit ∈ qx_BW := qx_in (i := 571) rfl rfl
set_option maxRecDepth 100000 in
theorem qx_lRX10_116 : Cond.methodLink RX10 116 yX10_begin ∈ qx_BW := qx_in (i := 572) rfl rfl
set_option maxRecDepth 100000 in
theorem qx_lRL_13 : Cond.methodLink RL 13 yX9_contract ∈ qx_BW := qx_in (i := 308) rfl rfl
set_option maxRecDepth 100000 in
theorem qx_lRL_17 : Cond.methodLink RL 17 yX10_contract ∈ qx_BW := qx_in (i := 725) rfl rfl
set_option maxRecDepth 100000 in
theorem qx_lRL_18 : Cond.methodLink RL 18 yX9_step ∈ qx_BW := qx_in (i := 312) rfl rfl
set_option maxRecDepth 100000 in
theorem qx_lRX9_43 : Cond.methodLink RX9 43 yX9_refusedMember ∈ qx_BW := qx_in (i := 316) rfl rfl
set_option maxRecDepth 100000 in
theorem qx_lRX9_116 : Cond.methodLink RX9 116 yX4_has ∈ qx_BW := qx_in (i := 320) rfl rfl
set_option maxRecDepth 100000 in
theorem qx_lRX9_81 : Cond.methodLink RX9 81 yX9_within ∈ qx_BW := qx_in (i := 324) rfl rfl
set_option maxRecDepth 100000 in
theorem qx_lRX9_47 : Cond.methodLink RX9 47 yX0_fits ∈ qx_BW := qx_in (i := 327) rfl rfl
set_option maxRecDepth 100000 in
theorem qx_iniRX0 : Cond.initialized RX0 ∈ qx_BW := qx_in (i := 40) rfl rfl
set_option maxRecDepth 100000 in
theorem qx_lRX9_53 : Cond.methodLink RX9 53 yX4_memberOf ∈ qx_BW := qx_in (i := 331) rfl rfl
set_option maxRecDepth 100000 in
theorem qx_lRX9_62 : Cond.methodLink RX9 62 yX3_append ∈ qx_BW := qx_in (i := 335) rfl rfl
set_option maxRecDepth 100000 in
theorem qx_lRL_22 : Cond.methodLink RL 22 yX10_step ∈ qx_BW := qx_in (i := 729) rfl rfl
set_option maxRecDepth 100000 in
theorem qx_lRX10_146 : Cond.methodLink RX10 146 yX10_noContract ∈ qx_BW := qx_in (i := 733) rfl rfl
set_option maxRecDepth 100000 in
theorem qx_lRX10_142 : Cond.methodLink RX10 142 yX10_in ∈ qx_BW := qx_in (i := 737) rfl rfl
set_option maxRecDepth 100000 in
theorem qx_lRX10_150 : Cond.methodLink RX10 150 yX10_isCode ∈ qx_BW := qx_in (i := 740) rfl rfl
set_option maxRecDepth 100000 in
theorem qx_lRL_23 : Cond.methodLink RL 23 yX9_empty ∈ qx_BW := qx_in (i := 339) rfl rfl
set_option maxRecDepth 100000 in
theorem qx_lRL_27 : Cond.methodLink RL 27 yX10_empty ∈ qx_BW := qx_in (i := 743) rfl rfl
set_option maxRecDepth 100000 in
theorem qx_lRL_28 : Cond.methodLink RL 28 yX9_guard ∈ qx_BW := qx_in (i := 343) rfl rfl
set_option maxRecDepth 100000 in
theorem qx_lRL_32 : Cond.methodLink RL 32 yX10_guard ∈ qx_BW := qx_in (i := 747) rfl rfl
set_option maxRecDepth 100000 in
theorem qx_lRL_33 : Cond.methodLink RL 33 yX9_call ∈ qx_BW := qx_in (i := 347) rfl rfl
set_option maxRecDepth 100000 in
theorem qx_lRX9_70 : Cond.methodLink RX9 70 yX9_refusedCall ∈ qx_BW := qx_in (i := 351) rfl rfl
set_option maxRecDepth 100000 in
theorem qx_lRX9_126 : Cond.methodLink RX9 126 yX9_isUser ∈ qx_BW := qx_in (i := 355) rfl rfl
set_option maxRecDepth 100000 in
theorem qx_lRX9_74 : Cond.methodLink RX9 74 yX2_runForUser ∈ qx_BW := qx_in (i := 358) rfl rfl
set_option maxRecDepth 100000 in
theorem qx_lRX2_68 : Cond.methodLink RX2 68 Lib.Math.min.name ∈ qx_BW := qx_in (i := 448) rfl rfl
set_option maxRecDepth 100000 in
theorem qx_lRX2_39 : Cond.methodLink RX2 39 yX8_startCall ∈ qx_BW := qx_in (i := 362) rfl rfl
set_option maxRecDepth 100000 in
theorem qx_lRX2_42 : Cond.methodLink RX2 42 yX5_startCall ∈ qx_BW := qx_in (i := 366) rfl rfl
set_option maxRecDepth 100000 in
theorem qx_lRX2_45 : Cond.methodLink RX2 45 yX1_begin ∈ qx_BW := qx_in (i := 370) rfl rfl
set_option maxRecDepth 100000 in
theorem qx_lRX2_57 : Cond.methodLink RX2 57 yX2_runFrame ∈ qx_BW := qx_in (i := 374) rfl rfl
set_option maxRecDepth 100000 in
theorem qx_lRX2_88 : Cond.methodLink RX2 88 yX4_memberOf ∈ qx_BW := qx_in (i := 378) rfl rfl
set_option maxRecDepth 100000 in
theorem qx_lRX2_94 : Cond.methodLink RX2 94 yX5_enter ∈ qx_BW := qx_in (i := 379) rfl rfl
set_option maxRecDepth 100000 in
theorem qx_lRX5_39 : Cond.methodLink RX5 39 Lib.Math.max.name ∈ qx_BW := qx_in (i := 383) rfl rfl
set_option maxRecDepth 100000 in
theorem qx_lRX2_98 : Cond.methodLink RX2 98 yX6_keep ∈ qx_BW := qx_in (i := 386) rfl rfl
set_option maxRecDepth 100000 in
theorem qx_lRX6_21 : Cond.methodLink RX6 21 arraycopyName ∈ qx_BW := qx_in (i := 390) rfl rfl
set_option maxRecDepth 100000 in
theorem qx_lRX2_74 : Cond.methodLink RX2 74 yX8_move ∈ qx_BW := qx_in (i := 393) rfl rfl
set_option maxRecDepth 100000 in
theorem qx_lRX2_116 : Cond.methodLink RX2 116 yX1_endGiving ∈ qx_BW := qx_in (i := 397) rfl rfl
set_option maxRecDepth 100000 in
theorem qx_lRX2_125 : Cond.methodLink RX2 125 yX1_endThrowing ∈ qx_BW := qx_in (i := 401) rfl rfl
set_option maxRecDepth 100000 in
theorem qx_lRX2_128 : Cond.methodLink RX2 128 yX2_doStep ∈ qx_BW := qx_in (i := 405) rfl rfl
set_option maxRecDepth 100000 in
theorem qx_lRX2_132 : Cond.methodLink RX2 132 yX1_hasThrown ∈ qx_BW := qx_in (i := 471) rfl rfl
set_option maxRecDepth 100000 in
theorem qx_lRX2_136 : Cond.methodLink RX2 136 yX6_putBack ∈ qx_BW := qx_in (i := 498) rfl rfl
set_option maxRecDepth 100000 in
theorem qx_lRX2_139 : Cond.methodLink RX2 139 yX5_writeRow ∈ qx_BW := qx_in (i := 502) rfl rfl
set_option maxRecDepth 100000 in
theorem qx_lRX5_50 : Cond.methodLink RX5 50 yX1_used ∈ qx_BW := qx_in (i := 506) rfl rfl
set_option maxRecDepth 100000 in
theorem qx_lRX2_207 : Cond.methodLink RX2 207 Lib.Math.max.name ∈ qx_BW := qx_in (i := 443) rfl rfl
set_option maxRecDepth 100000 in
theorem qx_lRX2_197 : Cond.methodLink RX2 197 yX1_take ∈ qx_BW := qx_in (i := 430) rfl rfl
set_option maxRecDepth 100000 in
theorem qx_lRX2_229 : Cond.methodLink RX2 229 yX2_whyNotEntered ∈ qx_BW := qx_in (i := 451) rfl rfl
set_option maxRecDepth 100000 in
theorem qx_lRX2_245 : Cond.methodLink RX2 245 yX4_has ∈ qx_BW := qx_in (i := 455) rfl rfl
set_option maxRecDepth 100000 in
theorem qx_lRX2_251 : Cond.methodLink RX2 251 yX2_isGuardedInside ∈ qx_BW := qx_in (i := 456) rfl rfl
set_option maxRecDepth 100000 in
theorem qx_lRX2_226 : Cond.methodLink RX2 226 yX8_canPay ∈ qx_BW := qx_in (i := 460) rfl rfl
set_option maxRecDepth 100000 in
theorem qx_lRX2_233 : Cond.methodLink RX2 233 yX2_answerThrown ∈ qx_BW := qx_in (i := 464) rfl rfl
set_option maxRecDepth 100000 in
theorem qx_lRX2_167 : Cond.methodLink RX2 167 yX1_put ∈ qx_BW := qx_in (i := 423) rfl rfl
set_option maxRecDepth 100000 in
theorem qx_lRX2_64 : Cond.methodLink RX2 64 yX1_used ∈ qx_BW := qx_in (i := 467) rfl rfl
set_option maxRecDepth 100000 in
theorem qx_lRX2_242 : Cond.methodLink RX2 242 yX2_answerGiven ∈ qx_BW := qx_in (i := 475) rfl rfl
set_option maxRecDepth 100000 in
theorem qx_lRX2_153 : Cond.methodLink RX2 153 yX0_fitsStack ∈ qx_BW := qx_in (i := 409) rfl rfl
set_option maxRecDepth 100000 in
theorem qx_lRX2_159 : Cond.methodLink RX2 159 yX0_writes ∈ qx_BW := qx_in (i := 416) rfl rfl
set_option maxRecDepth 100000 in
theorem qx_lRX2_163 : Cond.methodLink RX2 163 yX2_numberFor ∈ qx_BW := qx_in (i := 419) rfl rfl
set_option maxRecDepth 100000 in
theorem qx_lRX2_170 : Cond.methodLink RX2 170 yX2_combine ∈ qx_BW := qx_in (i := 427) rfl rfl
set_option maxRecDepth 100000 in
theorem qx_lRX2_200 : Cond.methodLink RX2 200 yX2_divide ∈ qx_BW := qx_in (i := 434) rfl rfl
set_option maxRecDepth 100000 in
theorem qx_lRX2_203 : Cond.methodLink RX2 203 yX2_combined ∈ qx_BW := qx_in (i := 437) rfl rfl
set_option maxRecDepth 100000 in
theorem qx_lRX2_173 : Cond.methodLink RX2 173 yX2_arrange ∈ qx_BW := qx_in (i := 440) rfl rfl
set_option maxRecDepth 100000 in
theorem qx_lRX2_180 : Cond.methodLink RX2 180 yX2_callOther ∈ qx_BW := qx_in (i := 444) rfl rfl
set_option maxRecDepth 100000 in
theorem qx_lRX2_184 : Cond.methodLink RX2 184 yX2_act ∈ qx_BW := qx_in (i := 478) rfl rfl
set_option maxRecDepth 100000 in
theorem qx_lRX2_210 : Cond.methodLink RX2 210 yX8_save ∈ qx_BW := qx_in (i := 482) rfl rfl
set_option maxRecDepth 100000 in
theorem qx_lRX2_213 : Cond.methodLink RX2 213 yX2_tell ∈ qx_BW := qx_in (i := 486) rfl rfl
set_option maxRecDepth 100000 in
theorem qx_lRX2_222 : Cond.methodLink RX2 222 yX8_addEvent ∈ qx_BW := qx_in (i := 490) rfl rfl
set_option maxRecDepth 100000 in
theorem qx_lRX2_216 : Cond.methodLink RX2 216 yX2_send ∈ qx_BW := qx_in (i := 494) rfl rfl
set_option maxRecDepth 100000 in
theorem qx_lRX2_78 : Cond.methodLink RX2 78 yX5_endCall ∈ qx_BW := qx_in (i := 507) rfl rfl
set_option maxRecDepth 100000 in
theorem qx_lRX5_63 : Cond.methodLink RX5 63 yX1_hasThrown ∈ qx_BW := qx_in (i := 511) rfl rfl
set_option maxRecDepth 100000 in
theorem qx_lRL_37 : Cond.methodLink RL 37 yX10_call ∈ qx_BW := qx_in (i := 751) rfl rfl
set_option maxRecDepth 100000 in
theorem qx_lRX10_193 : Cond.methodLink RX10 193 yX10_enter ∈ qx_BW := qx_in (i := 755) rfl rfl
set_option maxRecDepth 100000 in
theorem qx_lRX10_159 : Cond.methodLink RX10 159 yX10_hold ∈ qx_BW := qx_in (i := 759) rfl rfl
set_option maxRecDepth 100000 in
theorem qx_lRX10_226 : Cond.methodLink RX10 226 yX10_oneStep ∈ qx_BW := qx_in (i := 763) rfl rfl
set_option maxRecDepth 100000 in
theorem qx_lRX10_186 : Cond.methodLink RX10 186 yX10_ends ∈ qx_BW := qx_in (i := 767) rfl rfl
set_option maxRecDepth 100000 in
theorem qx_lRX10_166 : Cond.methodLink RX10 166 yX10_undo ∈ qx_BW := qx_in (i := 771) rfl rfl
set_option maxRecDepth 100000 in
theorem qx_lRX10_178 : Cond.methodLink RX10 178 yX10_push ∈ qx_BW := qx_in (i := 775) rfl rfl
set_option maxRecDepth 100000 in
theorem qx_lRX10_217 : Cond.methodLink RX10 217 yX10_takes ∈ qx_BW := qx_in (i := 779) rfl rfl
set_option maxRecDepth 100000 in
theorem qx_lRX10_220 : Cond.methodLink RX10 220 yX10_leaves ∈ qx_BW := qx_in (i := 782) rfl rfl
set_option maxRecDepth 100000 in
theorem qx_lRX10_223 : Cond.methodLink RX10 223 yX10_act ∈ qx_BW := qx_in (i := 785) rfl rfl
set_option maxRecDepth 100000 in
theorem qx_lRX10_197 : Cond.methodLink RX10 197 yX10_gives ∈ qx_BW := qx_in (i := 789) rfl rfl
set_option maxRecDepth 100000 in
theorem qx_lRX10_201 : Cond.methodLink RX10 201 yX10_save ∈ qx_BW := qx_in (i := 793) rfl rfl
set_option maxRecDepth 100000 in
theorem qx_lRX10_182 : Cond.methodLink RX10 182 yX10_pop ∈ qx_BW := qx_in (i := 797) rfl rfl
set_option maxRecDepth 100000 in
theorem qx_lRX10_204 : Cond.methodLink RX10 204 yX10_callOut ∈ qx_BW := qx_in (i := 801) rfl rfl
set_option maxRecDepth 100000 in
theorem qx_lRX10_189 : Cond.methodLink RX10 189 yX10_shut ∈ qx_BW := qx_in (i := 805) rfl rfl
set_option maxRecDepth 100000 in
theorem qx_lRX10_208 : Cond.methodLink RX10 208 yX10_tell ∈ qx_BW := qx_in (i := 809) rfl rfl
set_option maxRecDepth 100000 in
theorem qx_lRX10_211 : Cond.methodLink RX10 211 yX10_send ∈ qx_BW := qx_in (i := 813) rfl rfl
set_option maxRecDepth 100000 in
theorem qx_lRX10_214 : Cond.methodLink RX10 214 yX10_reckon ∈ qx_BW := qx_in (i := 817) rfl rfl
set_option maxRecDepth 100000 in
theorem qx_lRL_38 : Cond.methodLink RL 38 yX9_told ∈ qx_BW := qx_in (i := 512) rfl rfl
set_option maxRecDepth 100000 in
theorem qx_lRL_42 : Cond.methodLink RL 42 yX10_told ∈ qx_BW := qx_in (i := 821) rfl rfl
set_option maxRecDepth 100000 in
theorem qx_lRL_43 : Cond.methodLink RL 43 yX9_frame ∈ qx_BW := qx_in (i := 516) rfl rfl
set_option maxRecDepth 100000 in
theorem qx_lRX9_105 : Cond.methodLink RX9 105 yX5_rowsKept ∈ qx_BW := qx_in (i := 520) rfl rfl
set_option maxRecDepth 100000 in
theorem qx_lRX5_33 : Cond.methodLink RX5 33 Lib.Math.min.name ∈ qx_BW := qx_in (i := 524) rfl rfl
set_option maxRecDepth 100000 in
theorem qx_lRL_46 : Cond.methodLink RL 46 yX10_frame ∈ qx_BW := qx_in (i := 825) rfl rfl
set_option maxRecDepth 100000 in
theorem qx_lRL_47 : Cond.methodLink RL 47 yX9_event ∈ qx_BW := qx_in (i := 525) rfl rfl
set_option maxRecDepth 100000 in
theorem qx_lRL_50 : Cond.methodLink RL 50 yX10_event ∈ qx_BW := qx_in (i := 829) rfl rfl
set_option maxRecDepth 100000 in
theorem qx_lRL_51 : Cond.methodLink RL 51 yX9_store ∈ qx_BW := qx_in (i := 529) rfl rfl
set_option maxRecDepth 100000 in
theorem qx_lRL_54 : Cond.methodLink RL 54 yX10_store ∈ qx_BW := qx_in (i := 833) rfl rfl
set_option maxRecDepth 100000 in
theorem qx_lRL_55 : Cond.methodLink RL 55 yX9_coins ∈ qx_BW := qx_in (i := 533) rfl rfl
set_option maxRecDepth 100000 in
theorem qx_lRL_58 : Cond.methodLink RL 58 yX10_coins ∈ qx_BW := qx_in (i := 837) rfl rfl
set_option maxRecDepth 100000 in
theorem qx_lRL_59 : Cond.methodLink RL 59 yX9_count ∈ qx_BW := qx_in (i := 537) rfl rfl
set_option maxRecDepth 100000 in
theorem qx_lRX9_135 : Cond.methodLink RX9 135 yX4_stepsInAll ∈ qx_BW := qx_in (i := 541) rfl rfl
set_option maxRecDepth 100000 in
theorem qx_lRL_62 : Cond.methodLink RL 62 yX10_count ∈ qx_BW := qx_in (i := 841) rfl rfl
set_option maxRecDepth 100000 in
theorem qx_lRL_63 : Cond.methodLink RL 63 yX9_clear ∈ qx_BW := qx_in (i := 545) rfl rfl
set_option maxRecDepth 100000 in
theorem qx_lRX9_138 : Cond.methodLink RX9 138 yX4_reset ∈ qx_BW := qx_in (i := 549) rfl rfl
set_option maxRecDepth 100000 in
theorem qx_lRX9_141 : Cond.methodLink RX9 141 yX8_reset ∈ qx_BW := qx_in (i := 553) rfl rfl
set_option maxRecDepth 100000 in
theorem qx_lRX8_30 : Cond.methodLink RX8 30 yJ7_fill_53178 ∈ qx_BW := qx_in (i := 557) rfl rfl
set_option maxRecDepth 100000 in
theorem qx_lRX8_33 : Cond.methodLink RX8 33 yX8_startCall ∈ qx_BW := qx_in (i := 560) rfl rfl
set_option maxRecDepth 100000 in
theorem qx_lRX9_142 : Cond.methodLink RX9 142 yX5_reset ∈ qx_BW := qx_in (i := 561) rfl rfl
set_option maxRecDepth 100000 in
theorem qx_lRX5_24 : Cond.methodLink RX5 24 yX5_startCall ∈ qx_BW := qx_in (i := 565) rfl rfl
set_option maxRecDepth 100000 in
theorem qx_lRL_66 : Cond.methodLink RL 66 yX10_clear ∈ qx_BW := qx_in (i := 845) rfl rfl
set_option maxRecDepth 100000 in
theorem qx_oIns : Cond.instanceMethod objectInit ∈ qx_BW := qx_in (i := 49) rfl rfl
set_option maxRecDepth 100000 in
theorem qx_oCode : Cond.code objectInit ⟨#[0xb1]⟩ 1 none ∈ qx_BW := qx_in (i := 50) rfl rfl
set_option maxRecDepth 100000 in
theorem qx_mMaxS : Cond.static Lib.Math.max.name ∈ qx_BW := qx_in (i := 384) rfl rfl
set_option maxRecDepth 100000 in
theorem qx_mMinS : Cond.static Lib.Math.min.name ∈ qx_BW := qx_in (i := 449) rfl rfl
set_option maxRecDepth 100000 in
theorem qx_mIni : Cond.initialized "java/lang/Math" ∈ qx_BW := qx_in (i := 41) rfl rfl
set_option maxRecDepth 100000 in
theorem qx_mMaxC : Cond.code Lib.Math.max.name Lib.Math.max.code 2 (some .int) ∈ qx_BW := qx_in (i := 385) rfl rfl
set_option maxRecDepth 100000 in
theorem qx_mMinC : Cond.code Lib.Math.min.name Lib.Math.min.code 2 (some .int) ∈ qx_BW := qx_in (i := 450) rfl rfl
set_option maxRecDepth 100000 in
theorem qx_cN : Cond.native arraycopyName ∈ qx_BW := qx_in (i := 392) rfl rfl
set_option maxRecDepth 100000 in
theorem qx_cS : Cond.static arraycopyName ∈ qx_BW := qx_in (i := 391) rfl rfl
set_option maxRecDepth 100000 in
theorem qx_cI : Cond.initialized "java/lang/System" ∈ qx_BW := qx_in (i := 42) rfl rfl
set_option maxRecDepth 100000 in
theorem qx_aI : Cond.arrayClass .int ∈ qx_BW := qx_in (i := 88) rfl rfl
set_option maxRecDepth 100000 in
theorem qx_aZ : Cond.arrayClass .boolean ∈ qx_BW := qx_in (i := 724) rfl rfl
