/-! ===== the words that a method may count on; the classes; the fields ===== -/
def ip_ws : List Cond := lw_tbl.filter goodWord
theorem ip_in {ws : List Cond} (ps : List Nat) (h : ws = ps.filterMap (fun i => lw_tbl[i]?)) (hg : ws.all goodWord = true) : ∀ w ∈ ws, w ∈ ip_ws := by
  intro w hw
  refine List.mem_filter.mpr ⟨?_, List.all_eq_true.mp hg w hw⟩
  rw [h] at hw
  obtain ⟨i, -, hi⟩ := List.mem_filterMap.mp hw
  exact List.mem_of_getElem? hi
theorem ip_ws_good : GoodIn ip_ws ip_ws := fun w hw => ⟨hw, good_of_word (List.mem_filter.mp hw).2⟩
theorem ip_ws_tbl : ∀ w ∈ ip_ws, w ∈ lw_tbl := fun w hw => (List.mem_filter.mp hw).1
set_option maxRecDepth 20000 in
theorem ip_inX0 : ∀ w ∈ u_ws RX0 TX0 4, w ∈ ip_ws := ip_in [103, 105, 107, 109] (by decide +kernel) (by decide +kernel)
set_option maxRecDepth 20000 in
theorem ip_inX2 : ∀ w ∈ u_ws RX2 TX2 3, w ∈ ip_ws := ip_in [81, 83, 85] (by decide +kernel) (by decide +kernel)
set_option maxRecDepth 20000 in
theorem ip_inX3 : ∀ w ∈ u_ws RX3 TX3 7, w ∈ ip_ws := ip_in [168, 170, 172, 174, 176, 178, 180] (by decide +kernel) (by decide +kernel)
set_option maxRecDepth 20000 in
theorem ip_inX4 : ∀ w ∈ u_ws RX4 TX4 4, w ∈ ip_ws := ip_in [123, 125, 127, 129] (by decide +kernel) (by decide +kernel)
set_option maxRecDepth 20000 in
theorem ip_inX5 : ∀ w ∈ u_ws RX5 TX5 4, w ∈ ip_ws := ip_in [195, 197, 199, 201] (by decide +kernel) (by decide +kernel)
set_option maxRecDepth 20000 in
theorem ip_inX6 : ∀ w ∈ u_ws RX6 TX6 3, w ∈ ip_ws := ip_in [147, 149, 151] (by decide +kernel) (by decide +kernel)
set_option maxRecDepth 20000 in
theorem ip_inX7 : ∀ w ∈ u_ws RX7 TX7 7, w ∈ ip_ws := ip_in [211, 213, 215, 217, 219, 221, 223] (by decide +kernel) (by decide +kernel)
set_option maxRecDepth 20000 in
theorem ip_inX8 : ∀ w ∈ u_ws RX8 TX8 28, w ∈ ip_ws := ip_in [652, 654, 656, 658, 660, 662, 664, 666, 668, 670, 672, 674, 676, 678, 680, 682, 684, 686, 688, 690, 692, 694, 696, 698, 700, 702, 704, 706] (by decide +kernel) (by decide +kernel)
/-- of a class of the worlds: its words, its fields' types, their names -/
theorem ip_cls {ci : Nat} {q : vw_C} (h : vwCl[ci]? = some q) : (∀ w ∈ u_ws q.1 q.2.1 q.2.2, w ∈ ip_ws) ∧ ∃ ty0 : Nat → FieldType, (∀ k, k < q.2.2 → parseFieldDescriptor (q.2.1 k).2.2.1 = some (ty0 k)) ∧ (∀ a, a < q.2.2 → ∀ b, b < q.2.2 → a ≠ b → (q.2.1 a).2.1 ≠ (q.2.1 b).2.1) := by
  match ci, h with
  | 0, h => cases h; exact ⟨ip_inX0, tyX0, tyX0_ok, nmX0⟩
  | 1, h => cases h; exact ⟨ip_inX2, tyX2, tyX2_ok, nmX2⟩
  | 2, h => cases h; exact ⟨ip_inX3, tyX3, tyX3_ok, nmX3⟩
  | 3, h => cases h; exact ⟨ip_inX4, tyX4, tyX4_ok, nmX4⟩
  | 4, h => cases h; exact ⟨ip_inX5, tyX5, tyX5_ok, nmX5⟩
  | 5, h => cases h; exact ⟨ip_inX6, tyX6, tyX6_ok, nmX6⟩
  | 6, h => cases h; exact ⟨ip_inX7, tyX7, tyX7_ok, nmX7⟩
  | 7, h => cases h; exact ⟨ip_inX8, tyX8, tyX8_ok, nmX8⟩
  | _ + 8, h => simp [vwCl] at h
def ip_fw (own : String) (x : ip_F) : Cond := match vwCl[x.2.1]? with
  | some q => .fieldLink own x.1 (q.2.1 x.2.2.1).1 (q.2.1 x.2.2.1).2.1 (q.2.1 x.2.2.1).2.2.1
  | none => .fieldLink "" 0 "" "" ""
def ip_fc (x : ip_F) : Bool := match vwCl[x.2.1]? with
  | some q => Nat.blt x.2.2.1 q.2.2 && decide (parseFieldDescriptor (q.2.1 x.2.2.1).2.2.1 = some x.2.2.2.1) && (!x.2.2.2.2 || !(q.2.1 x.2.2.1).2.2.2)
  | none => false
def ip_flOk (own : String) (fl : List ip_F) : Prop := ∀ x ∈ fl, ip_fw own x ∈ ip_ws ∧ ip_fc x = true
theorem ip_flOk_of {own : String} {fl : List ip_F} (ps : List Nat) (h : fl.map (ip_fw own) = ps.filterMap (fun i => lw_tbl[i]?)) (hg : (fl.map (ip_fw own)).all goodWord = true) (hc : fl.all ip_fc = true) : ip_flOk own fl := fun x hx =>
  ⟨ip_in ps h hg _ (List.mem_map_of_mem hx), List.all_eq_true.mp hc x hx⟩
def ip_cc (own : String) (x : Nat × Value) : Cond := match x.2 with
  | .int v => .constant own x.1 v
  | .long v => .constantLong own x.1 v
  | _ => .constant "" 0 0
def ip_cnOk (own : String) (cn : List (Nat × Value)) : Prop := ∀ x ∈ cn, ip_cc own x ∈ ip_ws
theorem ip_cnOk_of {own : String} {cn : List (Nat × Value)} (ps : List Nat) (h : cn.map (ip_cc own) = ps.filterMap (fun i => lw_tbl[i]?)) (hg : (cn.map (ip_cc own)).all goodWord = true) : ip_cnOk own cn := fun _ hx => ip_in ps h hg _ (List.mem_map_of_mem hx)
def fl_X7 : List ip_F := [(13, 6, 0, .array (.object "ThunderAsks$Sheet"), false), (20, 6, 1, .object "ThunderAsks$County", false), (27, 6, 2, .object "ThunderAsks$Readings", false), (34, 6, 3, .object "ThunderAsks$Storm", false), (41, 6, 4, .object "ThunderAsks$Placing", false), (46, 6, 6, .int, true), (76, 3, 0, .int, true), (79, 0, 2, .int, true), (86, 1, 0, .int, true), (91, 1, 1, .int, true), (94, 1, 2, .int, true), (104, 0, 0, .int, true), (147, 2, 6, .int, true), (161, 0, 1, .int, true), (236, 4, 0, .boolean, true), (240, 4, 1, .int, true), (249, 4, 3, .array .int, false), (273, 6, 5, .int, true), (279, 5, 0, .int, true)]
set_option maxRecDepth 20000 in
theorem fl_X7_ok : ip_flOk RX7 fl_X7 := ip_flOk_of [204, 205, 206, 207, 208, 210, 119, 98, 70, 73, 78, 89, 167, 96, 189, 191, 194, 209, 142] (by decide +kernel) (by decide +kernel) (by decide +kernel)
def fl_X0 : List ip_F := [(11, 0, 3, .array (.object "ThunderAsks$Man"), false), (18, 0, 1, .int, true), (22, 0, 2, .int, true), (25, 1, 1, .int, true), (32, 0, 0, .int, true)]
set_option maxRecDepth 20000 in
theorem fl_X0_ok : ip_flOk RX0 fl_X0 := ip_flOk_of [101, 92, 99, 75, 90] (by decide +kernel) (by decide +kernel) (by decide +kernel)
def fl_X1 : List ip_F := [(37, 0, 0, .int, true), (43, 0, 1, .int, true), (52, 0, 2, .int, true), (55, 0, 3, .array (.object "ThunderAsks$Man"), false), (62, 1, 0, .int, true), (67, 1, 1, .int, true), (70, 1, 2, .int, true)]
set_option maxRecDepth 20000 in
theorem fl_X1_ok : ip_flOk RX1 fl_X1 := ip_flOk_of [91, 95, 100, 102, 72, 76, 80] (by decide +kernel) (by decide +kernel) (by decide +kernel)
def fl_X2 : List ip_F := [(9, 1, 0, .int, true), (15, 1, 2, .int, true)]
set_option maxRecDepth 20000 in
theorem fl_X2_ok : ip_flOk RX2 fl_X2 := ip_flOk_of [69, 77] (by decide +kernel) (by decide +kernel) (by decide +kernel)
def fl_X3 : List ip_F := [(9, 2, 0, .array .int, false), (15, 2, 1, .array .int, false), (18, 2, 2, .array .int, false), (21, 2, 3, .array .int, false), (24, 0, 1, .int, true), (36, 2, 4, .int, true), (37, 0, 2, .int, true), (40, 2, 5, .int, true), (53, 5, 0, .int, true), (58, 2, 6, .int, true), (69, 5, 1, .array .int, false), (71, 5, 2, .array .int, false)]
set_option maxRecDepth 20000 in
theorem fl_X3_ok : ip_flOk RX3 fl_X3 := ip_flOk_of [160, 161, 162, 163, 93, 164, 97, 165, 141, 166, 144, 146] (by decide +kernel) (by decide +kernel) (by decide +kernel)
def fl_X4 : List ip_F := [(9, 3, 1, .array .int, false), (15, 3, 2, .array .int, false), (18, 3, 3, .array .boolean, false), (22, 3, 0, .int, true), (32, 0, 0, .int, true), (39, 1, 1, .int, true), (44, 0, 1, .int, true), (46, 1, 0, .int, true), (49, 1, 2, .int, true)]
set_option maxRecDepth 20000 in
theorem fl_X4_ok : ip_flOk RX4 fl_X4 := ip_flOk_of [120, 121, 122, 118, 88, 74, 94, 71, 79] (by decide +kernel) (by decide +kernel) (by decide +kernel)
def fl_X5 : List ip_F := [(9, 4, 3, .array .int, false), (15, 4, 0, .boolean, true), (19, 4, 1, .int, true), (32, 4, 2, .int, true)]
set_option maxRecDepth 20000 in
theorem fl_X5_ok : ip_flOk RX5 fl_X5 := ip_flOk_of [193, 188, 190, 192] (by decide +kernel) (by decide +kernel) (by decide +kernel)
def fl_X6 : List ip_F := [(9, 5, 1, .array .int, false), (15, 5, 2, .array .int, false), (18, 5, 0, .int, true)]
set_option maxRecDepth 20000 in
theorem fl_X6_ok : ip_flOk RX6 fl_X6 := ip_flOk_of [143, 145, 140] (by decide +kernel) (by decide +kernel) (by decide +kernel)
def fl_X8 : List ip_F := [(9, 7, 2, .array .int, false), (13, 7, 3, .array .int, false), (16, 7, 4, .array .int, false), (19, 7, 8, .array .int, false), (22, 7, 9, .array .int, false), (25, 7, 10, .array .int, false), (28, 7, 16, .array .int, false), (31, 7, 18, .array .int, false), (34, 7, 19, .array .int, false), (37, 7, 20, .array .int, false), (40, 7, 21, .array .int, false), (43, 7, 22, .array .boolean, false), (47, 7, 23, .array .boolean, false), (50, 7, 25, .array .int, false), (53, 7, 26, .array .int, false), (56, 7, 27, .array .boolean, false), (59, 7, 0, .int, true), (69, 7, 7, .int, true), (72, 7, 6, .int, true), (75, 7, 12, .int, true), (100, 7, 13, .int, true), (103, 7, 5, .int, true), (106, 7, 14, .int, true), (109, 7, 15, .int, true), (112, 7, 24, .int, true), (144, 7, 11, .int, true), (153, 7, 17, .int, true), (195, 7, 1, .int, true)]
set_option maxRecDepth 20000 in
theorem fl_X8_ok : ip_flOk RX8 fl_X8 := ip_flOk_of [626, 627, 628, 632, 633, 634, 640, 642, 643, 644, 645, 646, 647, 649, 650, 651, 624, 631, 630, 636, 637, 629, 638, 639, 648, 635, 641, 625] (by decide +kernel) (by decide +kernel) (by decide +kernel)
def cn_X7 : List (Nat × Value) := [(179, .long (-9223372036854775808)), (189, .long (6))]
set_option maxRecDepth 20000 in
theorem cn_X7_ok : ip_cnOk RX7 cn_X7 := ip_cnOk_of [461, 462] (by decide +kernel) (by decide +kernel)
def cn_X8 : List (Nat × Value) := [(63, .long (-9223372036854775808)), (182, .long (6))]
set_option maxRecDepth 20000 in
theorem cn_X8_ok : ip_cnOk RX8 cn_X8 := ip_cnOk_of [854, 859] (by decide +kernel) (by decide +kernel)
def cn_J6 : List (Nat × Value) := [(265, .int (1431655765)), (266, .int (858993459)), (267, .int (252645135))]
set_option maxRecDepth 20000 in
theorem cn_J6_ok : ip_cnOk RJ6 cn_J6 := ip_cnOk_of [436, 437, 438] (by decide +kernel) (by decide +kernel)
def cn_J13 : List (Nat × Value) := [(314, .long (6148914691236517205)), (316, .long (3689348814741910323)), (318, .long (1085102592571150095))]
set_option maxRecDepth 20000 in
theorem cn_J13_ok : ip_cnOk RJ13 cn_J13 := ip_cnOk_of [506, 507, 508] (by decide +kernel) (by decide +kernel)
