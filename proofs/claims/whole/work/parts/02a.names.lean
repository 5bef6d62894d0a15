/-! ===== BEGIN printed: names, fields, word lists, decode rows ===== -/
def RX0 : String := "ForestPacker$Graph"
def TX0 : u_T := fun k => match k with
  | 0 => ("ForestPacker$Graph", "lesser", "[I", true)
  | 1 => ("ForestPacker$Graph", "greater", "[I", true)
  | 2 => ("ForestPacker$Graph", "present", "I", false)
  | _ => ("ForestPacker$Graph", "vertices", "I", false)
def tyX0 : Nat → FieldType := fun k => match k with
  | 0 => .array .int
  | 1 => .array .int
  | 2 => .int
  | _ => .int
abbrev wsX00 : List Cond := u_ws RX0 TX0 4
theorem nmX0 : ∀ a, a < 4 → ∀ b, b < 4 → a ≠ b → (TX0 a).2.1 ≠ (TX0 b).2.1 := by decide +kernel
theorem tyX0_ok : ∀ k, k < 4 → parseFieldDescriptor (TX0 k).2.2.1 = some (tyX0 k) := by decide +kernel
abbrev cX0_init : ByteArray := prog_2_method_1_code
def yX0_init : MethodName := ⟨RX0, "<init>", "()V"⟩
abbrev cX0_hasVertex : ByteArray := prog_2_method_2_code
def yX0_hasVertex : MethodName := ⟨RX0, "hasVertex", "(I)Z"⟩
abbrev cX0_hasEdge : ByteArray := prog_2_method_3_code
def yX0_hasEdge : MethodName := ⟨RX0, "hasEdge", "(I)Z"⟩
abbrev cX0_edgeCount : ByteArray := prog_2_method_4_code
def yX0_edgeCount : MethodName := ⟨RX0, "edgeCount", "()I"⟩
abbrev cX0_leastFree : ByteArray := prog_2_method_5_code
def yX0_leastFree : MethodName := ⟨RX0, "leastFree", "()I"⟩
abbrev cX0_edgesAmong : ByteArray := prog_2_method_6_code
def yX0_edgesAmong : MethodName := ⟨RX0, "edgesAmong", "(I)I"⟩
abbrev cX0_verticesOf : ByteArray := prog_2_method_7_code
def yX0_verticesOf : MethodName := ⟨RX0, "verticesOf", "(I)I"⟩
def RX1 : String := "ForestPacker$Packing"
def TX1 : u_T := fun k => match k with
  | 0 => ("ForestPacker$Packing", "place", "[I", true)
  | 1 => ("ForestPacker$Packing", "size", "I", false)
  | 2 => ("ForestPacker$Packing", "isPacked", "Z", false)
  | 3 => ("ForestPacker$Packing", "forests", "[LForestPacker$RootedForest;", true)
  | 4 => ("ForestPacker$Packing", "isSettled", "Z", false)
  | 5 => ("ForestPacker$Packing", "fixed", "I", false)
  | 6 => ("ForestPacker$Packing", "reached", "I", false)
  | 7 => ("ForestPacker$Packing", "queue", "[I", true)
  | 8 => ("ForestPacker$Packing", "queued", "I", false)
  | 9 => ("ForestPacker$Packing", "follower", "[I", true)
  | 10 => ("ForestPacker$Packing", "lastMoved", "I", false)
  | _ => ("ForestPacker$Packing", "room", "I", false)
def tyX1 : Nat → FieldType := fun k => match k with
  | 0 => .array .int
  | 1 => .int
  | 2 => .boolean
  | 3 => .array (.object "ForestPacker$RootedForest")
  | 4 => .boolean
  | 5 => .int
  | 6 => .int
  | 7 => .array .int
  | 8 => .int
  | 9 => .array .int
  | 10 => .int
  | _ => .int
abbrev wsX10 : List Cond := u_ws RX1 TX1 12
theorem nmX1 : ∀ a, a < 12 → ∀ b, b < 12 → a ≠ b → (TX1 a).2.1 ≠ (TX1 b).2.1 := by decide +kernel
theorem tyX1_ok : ∀ k, k < 12 → parseFieldDescriptor (TX1 k).2.2.1 = some (tyX1 k) := by decide +kernel
abbrev cX1_init : ByteArray := prog_3_method_1_code
def yX1_init : MethodName := ⟨RX1, "<init>", "(I)V"⟩
abbrev cX1_pack : ByteArray := prog_3_method_2_code
def yX1_pack : MethodName := ⟨RX1, "pack", "(LForestPacker$Graph;)V"⟩
abbrev cX1_settle : ByteArray := prog_3_method_3_code
def yX1_settle : MethodName := ⟨RX1, "settle", "(LForestPacker$Graph;)V"⟩
abbrev cX1_movesTo : ByteArray := prog_3_method_4_code
def yX1_movesTo : MethodName := ⟨RX1, "movesTo", "(LForestPacker$Graph;II)Z"⟩
abbrev cX1_reason : ByteArray := prog_3_method_5_code
def yX1_reason : MethodName := ⟨RX1, "reason", "(LForestPacker$Graph;I)I"⟩
abbrev cX1_isFirstOfClass : ByteArray := prog_3_method_6_code
def yX1_isFirstOfClass : MethodName := ⟨RX1, "isFirstOfClass", "(LForestPacker$Graph;I)Z"⟩
abbrev cX1_findRoom : ByteArray := prog_3_method_7_code
def yX1_findRoom : MethodName := ⟨RX1, "findRoom", "(LForestPacker$Graph;II)Z"⟩
abbrev cX1_reachFrom : ByteArray := prog_3_method_8_code
def yX1_reachFrom : MethodName := ⟨RX1, "reachFrom", "(III)Z"⟩
abbrev cX1_reach : ByteArray := prog_3_method_9_code
def yX1_reach : MethodName := ⟨RX1, "reach", "(II)V"⟩
abbrev cX1_takeIn : ByteArray := prog_3_method_10_code
def yX1_takeIn : MethodName := ⟨RX1, "takeIn", "(LForestPacker$Graph;I)V"⟩
abbrev cX1_put : ByteArray := prog_3_method_11_code
def yX1_put : MethodName := ⟨RX1, "put", "(LForestPacker$Graph;II)V"⟩
abbrev cX1_remove : ByteArray := prog_3_method_12_code
def yX1_remove : MethodName := ⟨RX1, "remove", "(I)V"⟩
abbrev cX1_leastOf : ByteArray := prog_3_method_13_code
def yX1_leastOf : MethodName := ⟨RX1, "leastOf", "(I)I"⟩
def RX2 : String := "ForestPacker$RootedForest"
def TX2 : u_T := fun k => match k with
  | 0 => ("ForestPacker$RootedForest", "parent", "[I", true)
  | _ => ("ForestPacker$RootedForest", "edgeUp", "[I", true)
def tyX2 : Nat → FieldType := fun k => match k with
  | 0 => .array .int
  | _ => .array .int
abbrev wsX20 : List Cond := u_ws RX2 TX2 2
theorem nmX2 : ∀ a, a < 2 → ∀ b, b < 2 → a ≠ b → (TX2 a).2.1 ≠ (TX2 b).2.1 := by decide +kernel
theorem tyX2_ok : ∀ k, k < 2 → parseFieldDescriptor (TX2 k).2.2.1 = some (tyX2 k) := by decide +kernel
abbrev cX2_init : ByteArray := prog_4_method_1_code
def yX2_init : MethodName := ⟨RX2, "<init>", "()V"⟩
abbrev cX2_clear : ByteArray := prog_4_method_2_code
def yX2_clear : MethodName := ⟨RX2, "clear", "()V"⟩
abbrev cX2_way : ByteArray := prog_4_method_3_code
def yX2_way : MethodName := ⟨RX2, "way", "(II)I"⟩
abbrev cX2_link : ByteArray := prog_4_method_4_code
def yX2_link : MethodName := ⟨RX2, "link", "(III)V"⟩
abbrev cX2_unlink : ByteArray := prog_4_method_5_code
def yX2_unlink : MethodName := ⟨RX2, "unlink", "(I)V"⟩
def RX3 : String := "ForestPacker"
def TX3 : u_T := fun k => match k with
  | 0 => ("ForestPacker", "graph", "LForestPacker$Graph;", true)
  | _ => ("ForestPacker", "packings", "[LForestPacker$Packing;", true)
def tyX3 : Nat → FieldType := fun k => match k with
  | 0 => .object "ForestPacker$Graph"
  | _ => .array (.object "ForestPacker$Packing")
abbrev wsX30 : List Cond := u_ws RX3 TX3 2
theorem nmX3 : ∀ a, a < 2 → ∀ b, b < 2 → a ≠ b → (TX3 a).2.1 ≠ (TX3 b).2.1 := by decide +kernel
theorem tyX3_ok : ∀ k, k < 2 → parseFieldDescriptor (TX3 k).2.2.1 = some (tyX3 k) := by decide +kernel
abbrev cX3_init : ByteArray := prog_1_method_1_code
def yX3_init : MethodName := ⟨RX3, "<init>", "()V"⟩
abbrev cX3_begin : ByteArray := prog_1_method_2_code
def yX3_begin : MethodName := ⟨RX3, "begin", "(I)I"⟩
abbrev cX3_join : ByteArray := prog_1_method_3_code
def yX3_join : MethodName := ⟨RX3, "join", "(II)I"⟩
abbrev cX3_cut : ByteArray := prog_1_method_4_code
def yX3_cut : MethodName := ⟨RX3, "cut", "(I)I"⟩
abbrev cX3_most : ByteArray := prog_1_method_5_code
def yX3_most : MethodName := ⟨RX3, "most", "(I)I"⟩
abbrev cX3_held : ByteArray := prog_1_method_6_code
def yX3_held : MethodName := ⟨RX3, "held", "(II)I"⟩
abbrev cX3_forest : ByteArray := prog_1_method_7_code
def yX3_forest : MethodName := ⟨RX3, "forest", "(II)I"⟩
abbrev cX3_why : ByteArray := prog_1_method_8_code
def yX3_why : MethodName := ⟨RX3, "why", "(III)I"⟩
abbrev cX3_tight : ByteArray := prog_1_method_9_code
def yX3_tight : MethodName := ⟨RX3, "tight", "(III)I"⟩
abbrev cX3_classes : ByteArray := prog_1_method_10_code
def yX3_classes : MethodName := ⟨RX3, "classes", "(I)I"⟩
abbrev cX3_crossing : ByteArray := prog_1_method_11_code
def yX3_crossing : MethodName := ⟨RX3, "crossing", "(I)I"⟩
abbrev cX3_arboricity : ByteArray := prog_1_method_12_code
def yX3_arboricity : MethodName := ⟨RX3, "arboricity", "()I"⟩
abbrev cX3_dense : ByteArray := prog_1_method_13_code
def yX3_dense : MethodName := ⟨RX3, "dense", "()I"⟩
abbrev cX3_spanning : ByteArray := prog_1_method_14_code
def yX3_spanning : MethodName := ⟨RX3, "spanning", "()I"⟩
abbrev cX3_told : ByteArray := prog_1_method_15_code
def yX3_told : MethodName := ⟨RX3, "told", "(II)I"⟩
abbrev cX3_isForestCount : ByteArray := prog_1_method_16_code
def yX3_isForestCount : MethodName := ⟨RX3, "isForestCount", "(I)Z"⟩
abbrev cX3_forgetPackings : ByteArray := prog_1_method_17_code
def yX3_forgetPackings : MethodName := ⟨RX3, "forgetPackings", "()V"⟩
abbrev cX3_packed : ByteArray := prog_1_method_18_code
def yX3_packed : MethodName := ⟨RX3, "packed", "(I)LForestPacker$Packing;"⟩
def RX4 : String := "ForestPackerModel"
def TX4 : u_T := fun k => match k with
  | 0 => ("ForestPackerModel", "n", "I", false)
  | 1 => ("ForestPackerModel", "ends", "[I", true)
  | 2 => ("ForestPackerModel", "isEdge", "[Z", true)
  | 3 => ("ForestPackerModel", "heldBits", "I", false)
  | 4 => ("ForestPackerModel", "forestOf", "[I", true)
  | 5 => ("ForestPackerModel", "isFixed", "[Z", true)
  | 6 => ("ForestPackerModel", "queue", "[I", true)
  | 7 => ("ForestPackerModel", "cameFrom", "[I", true)
  | 8 => ("ForestPackerModel", "cameTo", "[I", true)
  | 9 => ("ForestPackerModel", "lifted", "[I", true)
  | _ => ("ForestPackerModel", "saved", "[I", true)
def tyX4 : Nat → FieldType := fun k => match k with
  | 0 => .int
  | 1 => .array .int
  | 2 => .array .boolean
  | 3 => .int
  | 4 => .array .int
  | 5 => .array .boolean
  | 6 => .array .int
  | 7 => .array .int
  | 8 => .array .int
  | 9 => .array .int
  | _ => .array .int
abbrev wsX40 : List Cond := u_ws RX4 TX4 11
theorem nmX4 : ∀ a, a < 11 → ∀ b, b < 11 → a ≠ b → (TX4 a).2.1 ≠ (TX4 b).2.1 := by decide +kernel
theorem tyX4_ok : ∀ k, k < 11 → parseFieldDescriptor (TX4 k).2.2.1 = some (tyX4 k) := by decide +kernel
abbrev cX4_init : ByteArray := prog_6_method_1_code
def yX4_init : MethodName := ⟨RX4, "<init>", "()V"⟩
abbrev cX4_in : ByteArray := prog_6_method_2_code
def yX4_in : MethodName := ⟨RX4, "in", "(III)Z"⟩
abbrev cX4_has : ByteArray := prog_6_method_3_code
def yX4_has : MethodName := ⟨RX4, "has", "(I)Z"⟩
abbrev cX4_isK : ByteArray := prog_6_method_4_code
def yX4_isK : MethodName := ⟨RX4, "isK", "(I)Z"⟩
abbrev cX4_many : ByteArray := prog_6_method_5_code
def yX4_many : MethodName := ⟨RX4, "many", "()I"⟩
abbrev cX4_begin : ByteArray := prog_6_method_6_code
def yX4_begin : MethodName := ⟨RX4, "begin", "(I)I"⟩
abbrev cX4_isVertex : ByteArray := prog_6_method_7_code
def yX4_isVertex : MethodName := ⟨RX4, "isVertex", "(I)Z"⟩
abbrev cX4_join : ByteArray := prog_6_method_8_code
def yX4_join : MethodName := ⟨RX4, "join", "(II)I"⟩
abbrev cX4_cut : ByteArray := prog_6_method_9_code
def yX4_cut : MethodName := ⟨RX4, "cut", "(I)I"⟩
abbrev cX4_bitsOf : ByteArray := prog_6_method_10_code
def yX4_bitsOf : MethodName := ⟨RX4, "bitsOf", "(I)I"⟩
abbrev cX4_within : ByteArray := prog_6_method_11_code
def yX4_within : MethodName := ⟨RX4, "within", "(IIII)I"⟩
abbrev cX4_fits : ByteArray := prog_6_method_12_code
def yX4_fits : MethodName := ⟨RX4, "fits", "(IIII)Z"⟩
abbrev cX4_hold : ByteArray := prog_6_method_13_code
def yX4_hold : MethodName := ⟨RX4, "hold", "(I)V"⟩
abbrev cX4_heldMany : ByteArray := prog_6_method_14_code
def yX4_heldMany : MethodName := ⟨RX4, "heldMany", "()I"⟩
abbrev cX4_most : ByteArray := prog_6_method_15_code
def yX4_most : MethodName := ⟨RX4, "most", "(I)I"⟩
abbrev cX4_held : ByteArray := prog_6_method_16_code
def yX4_held : MethodName := ⟨RX4, "held", "(II)I"⟩
abbrev cX4_wayIn : ByteArray := prog_6_method_17_code
def yX4_wayIn : MethodName := ⟨RX4, "wayIn", "(II)I"⟩
abbrev cX4_place : ByteArray := prog_6_method_18_code
def yX4_place : MethodName := ⟨RX4, "place", "(II)Z"⟩
abbrev cX4_shift : ByteArray := prog_6_method_19_code
def yX4_shift : MethodName := ⟨RX4, "shift", "(III)V"⟩
abbrev cX4_move : ByteArray := prog_6_method_20_code
def yX4_move : MethodName := ⟨RX4, "move", "(III)Z"⟩
abbrev cX4_part : ByteArray := prog_6_method_21_code
def yX4_part : MethodName := ⟨RX4, "part", "(I)V"⟩
abbrev cX4_forest : ByteArray := prog_6_method_22_code
def yX4_forest : MethodName := ⟨RX4, "forest", "(II)I"⟩
abbrev cX4_whyBits : ByteArray := prog_6_method_23_code
def yX4_whyBits : MethodName := ⟨RX4, "whyBits", "(II)I"⟩
abbrev cX4_why : ByteArray := prog_6_method_24_code
def yX4_why : MethodName := ⟨RX4, "why", "(III)I"⟩
abbrev cX4_isTight : ByteArray := prog_6_method_25_code
def yX4_isTight : MethodName := ⟨RX4, "isTight", "(III)Z"⟩
abbrev cX4_tight : ByteArray := prog_6_method_26_code
def yX4_tight : MethodName := ⟨RX4, "tight", "(III)I"⟩
abbrev cX4_classes : ByteArray := prog_6_method_27_code
def yX4_classes : MethodName := ⟨RX4, "classes", "(I)I"⟩
abbrev cX4_crossing : ByteArray := prog_6_method_28_code
def yX4_crossing : MethodName := ⟨RX4, "crossing", "(I)I"⟩
abbrev cX4_arboricity : ByteArray := prog_6_method_29_code
def yX4_arboricity : MethodName := ⟨RX4, "arboricity", "()I"⟩
abbrev cX4_dense : ByteArray := prog_6_method_30_code
def yX4_dense : MethodName := ⟨RX4, "dense", "()I"⟩
abbrev cX4_spanning : ByteArray := prog_6_method_31_code
def yX4_spanning : MethodName := ⟨RX4, "spanning", "()I"⟩
abbrev cX4_told : ByteArray := prog_6_method_32_code
def yX4_told : MethodName := ⟨RX4, "told", "(II)I"⟩
def RJ6 : String := "java/lang/Integer"
def TJ6 : u_T := fun k => match k with
  | _ => ("", "", "", false)
def tyJ6 : Nat → FieldType := fun k => match k with
  | _ => .int
abbrev wsJ60 : List Cond := u_ws RJ6 TJ6 0
theorem nmJ6 : ∀ a, a < 0 → ∀ b, b < 0 → a ≠ b → (TJ6 a).2.1 ≠ (TJ6 b).2.1 := by decide +kernel
theorem tyJ6_ok : ∀ k, k < 0 → parseFieldDescriptor (TJ6 k).2.2.1 = some (tyJ6 k) := by decide +kernel
abbrev cJ6_bitCount_0f7a4 : ByteArray := prog_7_method_49_code
def yJ6_bitCount_0f7a4 : MethodName := ⟨RJ6, "bitCount", "(I)I"⟩
def RJ9 : String := "java/lang/Math"
def TJ9 : u_T := fun k => match k with
  | _ => ("", "", "", false)
def tyJ9 : Nat → FieldType := fun k => match k with
  | _ => .int
abbrev wsJ90 : List Cond := u_ws RJ9 TJ9 0
theorem nmJ9 : ∀ a, a < 0 → ∀ b, b < 0 → a ≠ b → (TJ9 a).2.1 ≠ (TJ9 b).2.1 := by decide +kernel
theorem tyJ9_ok : ∀ k, k < 0 → parseFieldDescriptor (TJ9 k).2.2.1 = some (tyJ9 k) := by decide +kernel
abbrev cJ9_max_7cf53 : ByteArray := prog_8_method_65_code
def yJ9_max_7cf53 : MethodName := ⟨RJ9, "max", "(II)I"⟩
abbrev cJ9_min_7cf53 : ByteArray := prog_8_method_69_code
def yJ9_min_7cf53 : MethodName := ⟨RJ9, "min", "(II)I"⟩
def RJ7 : String := "java/util/Arrays"
def TJ7 : u_T := fun k => match k with
  | _ => ("", "", "", false)
def tyJ7 : Nat → FieldType := fun k => match k with
  | _ => .int
abbrev wsJ70 : List Cond := u_ws RJ7 TJ7 0
theorem nmJ7 : ∀ a, a < 0 → ∀ b, b < 0 → a ≠ b → (TJ7 a).2.1 ≠ (TJ7 b).2.1 := by decide +kernel
theorem tyJ7_ok : ∀ k, k < 0 → parseFieldDescriptor (TJ7 k).2.2.1 = some (tyJ7 k) := by decide +kernel
abbrev cJ7_fill_53178 : ByteArray := prog_9_method_103_code
def yJ7_fill_53178 : MethodName := ⟨RJ7, "fill", "([II)V"⟩
def RL : String := "ForestPackerLaw"
abbrev cL_law : ByteArray := code
def yL_law : MethodName := ⟨RL, "law", "([I)Z"⟩
abbrev vwCl : List vw_C := [(RX0, TX0, 4), (RX1, TX1, 12), (RX2, TX2, 2), (RX3, TX3, 2), (RX4, TX4, 11)]
/-! ONE LIST OF WORDS for every method: the tables' words that a call keeps -/
def gw_T : List Cond := lw_tbl.filter goodWord
theorem gw_of {w : Cond} (i : Nat) (h : lw_tbl[i]? = some w) (hg : goodWord w = true) : w ∈ gw_T := List.mem_filter.mpr ⟨List.mem_of_getElem? h, hg⟩
theorem gw_good {w : Cond} (h : w ∈ gw_T) : (w.onTables && w.keeps) = true ∨ ∃ ty, w = .arrayClass ty := good_of_word (List.mem_filter.mp h).2
theorem gw_in {w : Cond} (h : w ∈ gw_T) : w ∈ lw_tbl := (List.mem_filter.mp h).1
theorem gw_V {c0 : Cond} {own C : String} {idx maxL : Nat} {y : MethodName} {cc : ByteArray} {ret : Option FieldType} (h1 : Cond.methodLink own idx y ∈ gw_T) (h2 : Cond.instanceMethod y ∈ gw_T) (h3 : Cond.selects C y y ∈ gw_T) (h4 : Cond.initialized C ∈ gw_T) (h5 : Cond.code y cc maxL ret ∈ gw_T) : GoodIn (c0 :: gw_T) (wsV own idx C y (.code y cc maxL ret :: gw_T)) := by
  have hall : ∀ w ∈ wsV own idx C y (.code y cc maxL ret :: gw_T), w ∈ gw_T := by
    intro w hw
    simp only [wsV, List.mem_append, List.mem_cons, List.not_mem_nil, or_false] at hw
    rcases hw with (rfl | rfl | rfl | rfl) | rfl | hw <;> assumption
  exact fun w hw => ⟨List.mem_cons_of_mem _ (hall w hw), gw_good (hall w hw)⟩
theorem gw_S {c0 : Cond} {own : String} {idx maxL : Nat} {y : MethodName} {cc : ByteArray} {ret : Option FieldType} (h1 : Cond.methodLink own idx y ∈ gw_T) (h2 : Cond.static y ∈ gw_T) (h4 : Cond.initialized y.cls ∈ gw_T) (h5 : Cond.code y cc maxL ret ∈ gw_T) : GoodIn (c0 :: gw_T) (va_wsS own idx y (.code y cc maxL ret :: gw_T)) := by
  have hall : ∀ w ∈ va_wsS own idx y (.code y cc maxL ret :: gw_T), w ∈ gw_T := by
    intro w hw
    simp only [va_wsS, List.mem_append, List.mem_cons, List.not_mem_nil, or_false] at hw
    rcases hw with (rfl | rfl | rfl) | rfl | hw <;> assumption
  exact fun w hw => ⟨List.mem_cons_of_mem _ (hall w hw), gw_good (hall w hw)⟩
theorem gw_I {c0 : Cond} {maxL : Nat} {y : MethodName} {cc : ByteArray} {ret : Option FieldType} (h5 : Cond.code y cc maxL ret ∈ gw_T) : GoodIn (c0 :: gw_T) (.code y cc maxL ret :: gw_T) := by
  have hall : ∀ w ∈ (Cond.code y cc maxL ret :: gw_T), w ∈ gw_T := by
    intro w hw
    rcases List.mem_cons.mp hw with rfl | hw <;> assumption
  exact fun w hw => ⟨List.mem_cons_of_mem _ (hall w hw), gw_good (hall w hw)⟩
/-! the words by their places -/
theorem gw_0 : (Jvm.Cond.selects "ForestPacker" ({ cls := "ForestPacker", name := "forgetPackings", desc := "()V" } : Jvm.MethodName) ({ cls := "ForestPacker", name := "forgetPackings", desc := "()V" } : Jvm.MethodName)) ∈ gw_T := gw_of 0 (by decide +kernel) (by decide +kernel)
theorem gw_1 : (Jvm.Cond.selects "ForestPacker" ({ cls := "ForestPacker", name := "packed", desc := "(I)LForestPacker$Packing;" } : Jvm.MethodName) ({ cls := "ForestPacker", name := "packed", desc := "(I)LForestPacker$Packing;" } : Jvm.MethodName)) ∈ gw_T := gw_of 1 (by decide +kernel) (by decide +kernel)
theorem gw_2 : (Jvm.Cond.selects "ForestPacker$Packing" ({ cls := "ForestPacker$Packing", name := "reachFrom", desc := "(III)Z" } : Jvm.MethodName) ({ cls := "ForestPacker$Packing", name := "reachFrom", desc := "(III)Z" } : Jvm.MethodName)) ∈ gw_T := gw_of 2 (by decide +kernel) (by decide +kernel)
theorem gw_3 : (Jvm.Cond.selects "ForestPacker$Packing" ({ cls := "ForestPacker$Packing", name := "reach", desc := "(II)V" } : Jvm.MethodName) ({ cls := "ForestPacker$Packing", name := "reach", desc := "(II)V" } : Jvm.MethodName)) ∈ gw_T := gw_of 3 (by decide +kernel) (by decide +kernel)
theorem gw_4 : (Jvm.Cond.selects "ForestPacker$Packing" ({ cls := "ForestPacker$Packing", name := "takeIn", desc := "(LForestPacker$Graph;I)V" } : Jvm.MethodName) ({ cls := "ForestPacker$Packing", name := "takeIn", desc := "(LForestPacker$Graph;I)V" } : Jvm.MethodName)) ∈ gw_T := gw_of 4 (by decide +kernel) (by decide +kernel)
theorem gw_5 : (Jvm.Cond.selects "ForestPacker$Packing" ({ cls := "ForestPacker$Packing", name := "remove", desc := "(I)V" } : Jvm.MethodName) ({ cls := "ForestPacker$Packing", name := "remove", desc := "(I)V" } : Jvm.MethodName)) ∈ gw_T := gw_of 5 (by decide +kernel) (by decide +kernel)
theorem gw_6 : (Jvm.Cond.selects "ForestPacker$Packing" ({ cls := "ForestPacker$Packing", name := "put", desc := "(LForestPacker$Graph;II)V" } : Jvm.MethodName) ({ cls := "ForestPacker$Packing", name := "put", desc := "(LForestPacker$Graph;II)V" } : Jvm.MethodName)) ∈ gw_T := gw_of 6 (by decide +kernel) (by decide +kernel)
theorem gw_7 : (Jvm.Cond.selects "ForestPacker$Packing" ({ cls := "ForestPacker$Packing", name := "movesTo", desc := "(LForestPacker$Graph;II)Z" } : Jvm.MethodName) ({ cls := "ForestPacker$Packing", name := "movesTo", desc := "(LForestPacker$Graph;II)Z" } : Jvm.MethodName)) ∈ gw_T := gw_of 7 (by decide +kernel) (by decide +kernel)
theorem gw_8 : (Jvm.Cond.selects "ForestPackerModel" ({ cls := "ForestPackerModel", name := "many", desc := "()I" } : Jvm.MethodName) ({ cls := "ForestPackerModel", name := "many", desc := "()I" } : Jvm.MethodName)) ∈ gw_T := gw_of 8 (by decide +kernel) (by decide +kernel)
theorem gw_9 : (Jvm.Cond.selects "ForestPackerModel" ({ cls := "ForestPackerModel", name := "isVertex", desc := "(I)Z" } : Jvm.MethodName) ({ cls := "ForestPackerModel", name := "isVertex", desc := "(I)Z" } : Jvm.MethodName)) ∈ gw_T := gw_of 9 (by decide +kernel) (by decide +kernel)
theorem gw_10 : (Jvm.Cond.selects "ForestPackerModel" ({ cls := "ForestPackerModel", name := "has", desc := "(I)Z" } : Jvm.MethodName) ({ cls := "ForestPackerModel", name := "has", desc := "(I)Z" } : Jvm.MethodName)) ∈ gw_T := gw_of 10 (by decide +kernel) (by decide +kernel)
theorem gw_11 : (Jvm.Cond.selects "ForestPackerModel" ({ cls := "ForestPackerModel", name := "hold", desc := "(I)V" } : Jvm.MethodName) ({ cls := "ForestPackerModel", name := "hold", desc := "(I)V" } : Jvm.MethodName)) ∈ gw_T := gw_of 11 (by decide +kernel) (by decide +kernel)
theorem gw_12 : (Jvm.Cond.selects "ForestPackerModel" ({ cls := "ForestPackerModel", name := "fits", desc := "(IIII)Z" } : Jvm.MethodName) ({ cls := "ForestPackerModel", name := "fits", desc := "(IIII)Z" } : Jvm.MethodName)) ∈ gw_T := gw_of 12 (by decide +kernel) (by decide +kernel)
theorem gw_13 : (Jvm.Cond.selects "ForestPackerModel" ({ cls := "ForestPackerModel", name := "within", desc := "(IIII)I" } : Jvm.MethodName) ({ cls := "ForestPackerModel", name := "within", desc := "(IIII)I" } : Jvm.MethodName)) ∈ gw_T := gw_of 13 (by decide +kernel) (by decide +kernel)
theorem gw_14 : (Jvm.Cond.selects "ForestPackerModel" ({ cls := "ForestPackerModel", name := "heldMany", desc := "()I" } : Jvm.MethodName) ({ cls := "ForestPackerModel", name := "heldMany", desc := "()I" } : Jvm.MethodName)) ∈ gw_T := gw_of 14 (by decide +kernel) (by decide +kernel)
theorem gw_15 : (Jvm.Cond.selects "ForestPackerModel" ({ cls := "ForestPackerModel", name := "part", desc := "(I)V" } : Jvm.MethodName) ({ cls := "ForestPackerModel", name := "part", desc := "(I)V" } : Jvm.MethodName)) ∈ gw_T := gw_of 15 (by decide +kernel) (by decide +kernel)
theorem gw_16 : (Jvm.Cond.selects "ForestPackerModel" ({ cls := "ForestPackerModel", name := "place", desc := "(II)Z" } : Jvm.MethodName) ({ cls := "ForestPackerModel", name := "place", desc := "(II)Z" } : Jvm.MethodName)) ∈ gw_T := gw_of 16 (by decide +kernel) (by decide +kernel)
theorem gw_17 : (Jvm.Cond.selects "ForestPackerModel" ({ cls := "ForestPackerModel", name := "wayIn", desc := "(II)I" } : Jvm.MethodName) ({ cls := "ForestPackerModel", name := "wayIn", desc := "(II)I" } : Jvm.MethodName)) ∈ gw_T := gw_of 17 (by decide +kernel) (by decide +kernel)
theorem gw_18 : (Jvm.Cond.selects "ForestPackerModel" ({ cls := "ForestPackerModel", name := "shift", desc := "(III)V" } : Jvm.MethodName) ({ cls := "ForestPackerModel", name := "shift", desc := "(III)V" } : Jvm.MethodName)) ∈ gw_T := gw_of 18 (by decide +kernel) (by decide +kernel)
theorem gw_19 : (Jvm.Cond.selects "ForestPackerModel" ({ cls := "ForestPackerModel", name := "move", desc := "(III)Z" } : Jvm.MethodName) ({ cls := "ForestPackerModel", name := "move", desc := "(III)Z" } : Jvm.MethodName)) ∈ gw_T := gw_of 19 (by decide +kernel) (by decide +kernel)
theorem gw_20 : (Jvm.Cond.selects "ForestPackerModel" ({ cls := "ForestPackerModel", name := "whyBits", desc := "(II)I" } : Jvm.MethodName) ({ cls := "ForestPackerModel", name := "whyBits", desc := "(II)I" } : Jvm.MethodName)) ∈ gw_T := gw_of 20 (by decide +kernel) (by decide +kernel)
theorem gw_21 : (Jvm.Cond.selects "ForestPackerModel" ({ cls := "ForestPackerModel", name := "isTight", desc := "(III)Z" } : Jvm.MethodName) ({ cls := "ForestPackerModel", name := "isTight", desc := "(III)Z" } : Jvm.MethodName)) ∈ gw_T := gw_of 21 (by decide +kernel) (by decide +kernel)
theorem gw_22 : (Jvm.Cond.initialized "ForestPackerLaw") ∈ gw_T := gw_of 22 (by decide +kernel) (by decide +kernel)
theorem gw_23 : (Jvm.Cond.initialized "ForestPacker") ∈ gw_T := gw_of 23 (by decide +kernel) (by decide +kernel)
theorem gw_24 : (Jvm.Cond.initialized "ForestPacker$Graph") ∈ gw_T := gw_of 24 (by decide +kernel) (by decide +kernel)
theorem gw_25 : (Jvm.Cond.initialized "ForestPacker$Packing") ∈ gw_T := gw_of 25 (by decide +kernel) (by decide +kernel)
theorem gw_26 : (Jvm.Cond.initialized "java/lang/Math") ∈ gw_T := gw_of 26 (by decide +kernel) (by decide +kernel)
theorem gw_27 : (Jvm.Cond.initialized "ForestPacker$RootedForest") ∈ gw_T := gw_of 27 (by decide +kernel) (by decide +kernel)
theorem gw_28 : (Jvm.Cond.initialized "ForestPackerModel") ∈ gw_T := gw_of 28 (by decide +kernel) (by decide +kernel)
theorem gw_29 : (Jvm.Cond.initialized "java/lang/Integer") ∈ gw_T := gw_of 29 (by decide +kernel) (by decide +kernel)
theorem gw_30 : (Jvm.Cond.initialized "java/util/Arrays") ∈ gw_T := gw_of 30 (by decide +kernel) (by decide +kernel)
theorem gw_31 : (Jvm.Cond.classLink "ForestPackerLaw" (7 : Nat) "ForestPacker") ∈ gw_T := gw_of 31 (by decide +kernel) (by decide +kernel)
theorem gw_32 : (Jvm.Cond.instantiable "ForestPacker" (2 : Nat)) ∈ gw_T := gw_of 32 (by decide +kernel) (by decide +kernel)
theorem gw_33 : (Jvm.Cond.methodLink "ForestPackerLaw" (9 : Nat) ({ cls := "ForestPacker", name := "<init>", desc := "()V" } : Jvm.MethodName)) ∈ gw_T := gw_of 33 (by decide +kernel) (by decide +kernel)
theorem gw_34 : (Jvm.Cond.instanceMethod ({ cls := "ForestPacker", name := "<init>", desc := "()V" } : Jvm.MethodName)) ∈ gw_T := gw_of 34 (by decide +kernel) (by decide +kernel)
theorem gw_35 : (Jvm.Cond.code ({ cls := "ForestPacker", name := "<init>", desc := "()V" } : Jvm.MethodName) prog_1_method_1_code (2 : Nat) (Option.none : Option Jvm.ClassFile.FieldType)) ∈ gw_T := gw_of 35 (by decide +kernel) (by decide +kernel)
theorem gw_36 : (Jvm.Cond.methodLink "ForestPacker" (1 : Nat) ({ cls := "java/lang/Object", name := "<init>", desc := "()V" } : Jvm.MethodName)) ∈ gw_T := gw_of 36 (by decide +kernel) (by decide +kernel)
theorem gw_37 : (Jvm.Cond.instanceMethod ({ cls := "java/lang/Object", name := "<init>", desc := "()V" } : Jvm.MethodName)) ∈ gw_T := gw_of 37 (by decide +kernel) (by decide +kernel)
theorem gw_38 : (Jvm.Cond.code ({ cls := "java/lang/Object", name := "<init>", desc := "()V" } : Jvm.MethodName) object_method_1_code (1 : Nat) (Option.none : Option Jvm.ClassFile.FieldType)) ∈ gw_T := gw_of 38 (by decide +kernel) (by decide +kernel)
theorem gw_39 : (Jvm.Cond.classLink "ForestPacker" (7 : Nat) "ForestPacker$Graph") ∈ gw_T := gw_of 39 (by decide +kernel) (by decide +kernel)
theorem gw_40 : (Jvm.Cond.instantiable "ForestPacker$Graph" (4 : Nat)) ∈ gw_T := gw_of 40 (by decide +kernel) (by decide +kernel)
theorem gw_42 : (Jvm.Cond.instanceMethod ({ cls := "ForestPacker$Graph", name := "<init>", desc := "()V" } : Jvm.MethodName)) ∈ gw_T := gw_of 42 (by decide +kernel) (by decide +kernel)
theorem gw_43 : (Jvm.Cond.code ({ cls := "ForestPacker$Graph", name := "<init>", desc := "()V" } : Jvm.MethodName) prog_2_method_1_code (1 : Nat) (Option.none : Option Jvm.ClassFile.FieldType)) ∈ gw_T := gw_of 43 (by decide +kernel) (by decide +kernel)
theorem gw_44 : (Jvm.Cond.methodLink "ForestPacker$Graph" (3 : Nat) ({ cls := "java/lang/Object", name := "<init>", desc := "()V" } : Jvm.MethodName)) ∈ gw_T := gw_of 44 (by decide +kernel) (by decide +kernel)
theorem gw_45 : (Jvm.Cond.fieldLink "ForestPacker$Graph" (9 : Nat) "ForestPacker$Graph" "lesser" "[I") ∈ gw_T := gw_of 45 (by decide +kernel) (by decide +kernel)
theorem gw_46 : (Jvm.Cond.fieldLink "ForestPacker$Packing" (75 : Nat) "ForestPacker$Graph" "lesser" "[I") ∈ gw_T := gw_of 46 (by decide +kernel) (by decide +kernel)
theorem gw_47 : (Jvm.Cond.fieldLink "ForestPacker" (46 : Nat) "ForestPacker$Graph" "lesser" "[I") ∈ gw_T := gw_of 47 (by decide +kernel) (by decide +kernel)
theorem gw_48 : (Jvm.Cond.fieldLink "ForestPacker$Graph" (15 : Nat) "ForestPacker$Graph" "greater" "[I") ∈ gw_T := gw_of 48 (by decide +kernel) (by decide +kernel)
theorem gw_49 : (Jvm.Cond.fieldLink "ForestPacker$Packing" (78 : Nat) "ForestPacker$Graph" "greater" "[I") ∈ gw_T := gw_of 49 (by decide +kernel) (by decide +kernel)
theorem gw_50 : (Jvm.Cond.fieldLink "ForestPacker" (56 : Nat) "ForestPacker$Graph" "greater" "[I") ∈ gw_T := gw_of 50 (by decide +kernel) (by decide +kernel)
theorem gw_51 : (Jvm.Cond.fieldLink "ForestPacker$Graph" (18 : Nat) "ForestPacker$Graph" "present" "I") ∈ gw_T := gw_of 51 (by decide +kernel) (by decide +kernel)
theorem gw_52 : (Jvm.Cond.fieldLink "ForestPacker" (33 : Nat) "ForestPacker$Graph" "present" "I") ∈ gw_T := gw_of 52 (by decide +kernel) (by decide +kernel)
theorem gw_53 : (Jvm.Cond.fieldLink "ForestPacker$Graph" (22 : Nat) "ForestPacker$Graph" "vertices" "I") ∈ gw_T := gw_of 53 (by decide +kernel) (by decide +kernel)
theorem gw_54 : (Jvm.Cond.fieldLink "ForestPacker" (29 : Nat) "ForestPacker$Graph" "vertices" "I") ∈ gw_T := gw_of 54 (by decide +kernel) (by decide +kernel)
theorem gw_55 : (Jvm.Cond.laysFinal "ForestPacker$Graph" "ForestPacker$Graph" "lesser" "[I") ∈ gw_T := gw_of 55 (by decide +kernel) (by decide +kernel)
theorem gw_56 : (Jvm.Cond.soleField "ForestPacker$Graph" "lesser") ∈ gw_T := gw_of 56 (by decide +kernel) (by decide +kernel)
theorem gw_57 : (Jvm.Cond.laysFinal "ForestPacker$Graph" "ForestPacker$Graph" "greater" "[I") ∈ gw_T := gw_of 57 (by decide +kernel) (by decide +kernel)
theorem gw_58 : (Jvm.Cond.soleField "ForestPacker$Graph" "greater") ∈ gw_T := gw_of 58 (by decide +kernel) (by decide +kernel)
theorem gw_59 : (Jvm.Cond.lays "ForestPacker$Graph" "ForestPacker$Graph" "present" "I") ∈ gw_T := gw_of 59 (by decide +kernel) (by decide +kernel)
theorem gw_60 : (Jvm.Cond.soleField "ForestPacker$Graph" "present") ∈ gw_T := gw_of 60 (by decide +kernel) (by decide +kernel)
theorem gw_61 : (Jvm.Cond.lays "ForestPacker$Graph" "ForestPacker$Graph" "vertices" "I") ∈ gw_T := gw_of 61 (by decide +kernel) (by decide +kernel)
theorem gw_62 : (Jvm.Cond.soleField "ForestPacker$Graph" "vertices") ∈ gw_T := gw_of 62 (by decide +kernel) (by decide +kernel)
theorem gw_63 : (Jvm.Cond.superclass "ForestPacker$Graph" "java/lang/Object") ∈ gw_T := gw_of 63 (by decide +kernel) (by decide +kernel)
theorem gw_64 : (Jvm.Cond.arrayClass Jvm.ClassFile.FieldType.int) ∈ gw_T := gw_of 64 (by decide +kernel) (by decide +kernel)
theorem gw_65 : (Jvm.Cond.classLink "ForestPacker" (16 : Nat) "ForestPacker$Packing") ∈ gw_T := gw_of 65 (by decide +kernel) (by decide +kernel)
theorem gw_67 : (Jvm.Cond.instantiable "ForestPacker$Packing" (12 : Nat)) ∈ gw_T := gw_of 67 (by decide +kernel) (by decide +kernel)
theorem gw_68 : (Jvm.Cond.methodLink "ForestPacker" (22 : Nat) ({ cls := "ForestPacker$Packing", name := "<init>", desc := "(I)V" } : Jvm.MethodName)) ∈ gw_T := gw_of 68 (by decide +kernel) (by decide +kernel)
theorem gw_69 : (Jvm.Cond.instanceMethod ({ cls := "ForestPacker$Packing", name := "<init>", desc := "(I)V" } : Jvm.MethodName)) ∈ gw_T := gw_of 69 (by decide +kernel) (by decide +kernel)
theorem gw_70 : (Jvm.Cond.code ({ cls := "ForestPacker$Packing", name := "<init>", desc := "(I)V" } : Jvm.MethodName) prog_3_method_1_code (3 : Nat) (Option.none : Option Jvm.ClassFile.FieldType)) ∈ gw_T := gw_of 70 (by decide +kernel) (by decide +kernel)
theorem gw_71 : (Jvm.Cond.methodLink "ForestPacker$Packing" (3 : Nat) ({ cls := "java/lang/Object", name := "<init>", desc := "()V" } : Jvm.MethodName)) ∈ gw_T := gw_of 71 (by decide +kernel) (by decide +kernel)
theorem gw_72 : (Jvm.Cond.methodLink "ForestPacker$Packing" (47 : Nat) ({ cls := "java/lang/Math", name := "max", desc := "(II)I" } : Jvm.MethodName)) ∈ gw_T := gw_of 72 (by decide +kernel) (by decide +kernel)
theorem gw_73 : (Jvm.Cond.static ({ cls := "java/lang/Math", name := "max", desc := "(II)I" } : Jvm.MethodName)) ∈ gw_T := gw_of 73 (by decide +kernel) (by decide +kernel)
theorem gw_74 : (Jvm.Cond.code ({ cls := "java/lang/Math", name := "max", desc := "(II)I" } : Jvm.MethodName) prog_8_method_65_code (2 : Nat) (Option.some Jvm.ClassFile.FieldType.int)) ∈ gw_T := gw_of 74 (by decide +kernel) (by decide +kernel)
theorem gw_75 : (Jvm.Cond.classLink "ForestPacker$Packing" (53 : Nat) "ForestPacker$RootedForest") ∈ gw_T := gw_of 75 (by decide +kernel) (by decide +kernel)
theorem gw_77 : (Jvm.Cond.instantiable "ForestPacker$RootedForest" (2 : Nat)) ∈ gw_T := gw_of 77 (by decide +kernel) (by decide +kernel)
theorem gw_79 : (Jvm.Cond.instanceMethod ({ cls := "ForestPacker$RootedForest", name := "<init>", desc := "()V" } : Jvm.MethodName)) ∈ gw_T := gw_of 79 (by decide +kernel) (by decide +kernel)
theorem gw_80 : (Jvm.Cond.code ({ cls := "ForestPacker$RootedForest", name := "<init>", desc := "()V" } : Jvm.MethodName) prog_4_method_1_code (1 : Nat) (Option.none : Option Jvm.ClassFile.FieldType)) ∈ gw_T := gw_of 80 (by decide +kernel) (by decide +kernel)
theorem gw_81 : (Jvm.Cond.methodLink "ForestPacker$RootedForest" (3 : Nat) ({ cls := "java/lang/Object", name := "<init>", desc := "()V" } : Jvm.MethodName)) ∈ gw_T := gw_of 81 (by decide +kernel) (by decide +kernel)
theorem gw_82 : (Jvm.Cond.fieldLink "ForestPacker$RootedForest" (9 : Nat) "ForestPacker$RootedForest" "parent" "[I") ∈ gw_T := gw_of 82 (by decide +kernel) (by decide +kernel)
theorem gw_83 : (Jvm.Cond.fieldLink "ForestPacker$RootedForest" (15 : Nat) "ForestPacker$RootedForest" "edgeUp" "[I") ∈ gw_T := gw_of 83 (by decide +kernel) (by decide +kernel)
theorem gw_84 : (Jvm.Cond.laysFinal "ForestPacker$RootedForest" "ForestPacker$RootedForest" "parent" "[I") ∈ gw_T := gw_of 84 (by decide +kernel) (by decide +kernel)
theorem gw_85 : (Jvm.Cond.soleField "ForestPacker$RootedForest" "parent") ∈ gw_T := gw_of 85 (by decide +kernel) (by decide +kernel)
theorem gw_86 : (Jvm.Cond.laysFinal "ForestPacker$RootedForest" "ForestPacker$RootedForest" "edgeUp" "[I") ∈ gw_T := gw_of 86 (by decide +kernel) (by decide +kernel)
theorem gw_87 : (Jvm.Cond.soleField "ForestPacker$RootedForest" "edgeUp") ∈ gw_T := gw_of 87 (by decide +kernel) (by decide +kernel)
theorem gw_88 : (Jvm.Cond.superclass "ForestPacker$RootedForest" "java/lang/Object") ∈ gw_T := gw_of 88 (by decide +kernel) (by decide +kernel)
theorem gw_89 : (Jvm.Cond.fieldLink "ForestPacker$Packing" (9 : Nat) "ForestPacker$Packing" "place" "[I") ∈ gw_T := gw_of 89 (by decide +kernel) (by decide +kernel)
theorem gw_90 : (Jvm.Cond.fieldLink "ForestPacker" (75 : Nat) "ForestPacker$Packing" "place" "[I") ∈ gw_T := gw_of 90 (by decide +kernel) (by decide +kernel)
theorem gw_91 : (Jvm.Cond.fieldLink "ForestPacker$Packing" (15 : Nat) "ForestPacker$Packing" "size" "I") ∈ gw_T := gw_of 91 (by decide +kernel) (by decide +kernel)
theorem gw_92 : (Jvm.Cond.fieldLink "ForestPacker" (72 : Nat) "ForestPacker$Packing" "size" "I") ∈ gw_T := gw_of 92 (by decide +kernel) (by decide +kernel)
theorem gw_93 : (Jvm.Cond.fieldLink "ForestPacker$Packing" (19 : Nat) "ForestPacker$Packing" "isPacked" "Z") ∈ gw_T := gw_of 93 (by decide +kernel) (by decide +kernel)
theorem gw_94 : (Jvm.Cond.fieldLink "ForestPacker" (109 : Nat) "ForestPacker$Packing" "isPacked" "Z") ∈ gw_T := gw_of 94 (by decide +kernel) (by decide +kernel)
theorem gw_95 : (Jvm.Cond.fieldLink "ForestPacker$Packing" (55 : Nat) "ForestPacker$Packing" "forests" "[LForestPacker$RootedForest;") ∈ gw_T := gw_of 95 (by decide +kernel) (by decide +kernel)
theorem gw_96 : (Jvm.Cond.fieldLink "ForestPacker$Packing" (23 : Nat) "ForestPacker$Packing" "isSettled" "Z") ∈ gw_T := gw_of 96 (by decide +kernel) (by decide +kernel)
theorem gw_97 : (Jvm.Cond.fieldLink "ForestPacker$Packing" (26 : Nat) "ForestPacker$Packing" "fixed" "I") ∈ gw_T := gw_of 97 (by decide +kernel) (by decide +kernel)
theorem gw_98 : (Jvm.Cond.fieldLink "ForestPacker$Packing" (29 : Nat) "ForestPacker$Packing" "reached" "I") ∈ gw_T := gw_of 98 (by decide +kernel) (by decide +kernel)
theorem gw_99 : (Jvm.Cond.fieldLink "ForestPacker$Packing" (32 : Nat) "ForestPacker$Packing" "queue" "[I") ∈ gw_T := gw_of 99 (by decide +kernel) (by decide +kernel)
theorem gw_100 : (Jvm.Cond.fieldLink "ForestPacker$Packing" (35 : Nat) "ForestPacker$Packing" "queued" "I") ∈ gw_T := gw_of 100 (by decide +kernel) (by decide +kernel)
theorem gw_101 : (Jvm.Cond.fieldLink "ForestPacker$Packing" (38 : Nat) "ForestPacker$Packing" "follower" "[I") ∈ gw_T := gw_of 101 (by decide +kernel) (by decide +kernel)
theorem gw_102 : (Jvm.Cond.fieldLink "ForestPacker$Packing" (41 : Nat) "ForestPacker$Packing" "lastMoved" "I") ∈ gw_T := gw_of 102 (by decide +kernel) (by decide +kernel)
theorem gw_103 : (Jvm.Cond.fieldLink "ForestPacker$Packing" (44 : Nat) "ForestPacker$Packing" "room" "I") ∈ gw_T := gw_of 103 (by decide +kernel) (by decide +kernel)
theorem gw_104 : (Jvm.Cond.laysFinal "ForestPacker$Packing" "ForestPacker$Packing" "place" "[I") ∈ gw_T := gw_of 104 (by decide +kernel) (by decide +kernel)
theorem gw_105 : (Jvm.Cond.soleField "ForestPacker$Packing" "place") ∈ gw_T := gw_of 105 (by decide +kernel) (by decide +kernel)
theorem gw_106 : (Jvm.Cond.lays "ForestPacker$Packing" "ForestPacker$Packing" "size" "I") ∈ gw_T := gw_of 106 (by decide +kernel) (by decide +kernel)
theorem gw_107 : (Jvm.Cond.soleField "ForestPacker$Packing" "size") ∈ gw_T := gw_of 107 (by decide +kernel) (by decide +kernel)
theorem gw_108 : (Jvm.Cond.lays "ForestPacker$Packing" "ForestPacker$Packing" "isPacked" "Z") ∈ gw_T := gw_of 108 (by decide +kernel) (by decide +kernel)
theorem gw_109 : (Jvm.Cond.soleField "ForestPacker$Packing" "isPacked") ∈ gw_T := gw_of 109 (by decide +kernel) (by decide +kernel)
theorem gw_110 : (Jvm.Cond.laysFinal "ForestPacker$Packing" "ForestPacker$Packing" "forests" "[LForestPacker$RootedForest;") ∈ gw_T := gw_of 110 (by decide +kernel) (by decide +kernel)
theorem gw_111 : (Jvm.Cond.soleField "ForestPacker$Packing" "forests") ∈ gw_T := gw_of 111 (by decide +kernel) (by decide +kernel)
theorem gw_112 : (Jvm.Cond.lays "ForestPacker$Packing" "ForestPacker$Packing" "isSettled" "Z") ∈ gw_T := gw_of 112 (by decide +kernel) (by decide +kernel)
theorem gw_113 : (Jvm.Cond.soleField "ForestPacker$Packing" "isSettled") ∈ gw_T := gw_of 113 (by decide +kernel) (by decide +kernel)
theorem gw_114 : (Jvm.Cond.lays "ForestPacker$Packing" "ForestPacker$Packing" "fixed" "I") ∈ gw_T := gw_of 114 (by decide +kernel) (by decide +kernel)
theorem gw_115 : (Jvm.Cond.soleField "ForestPacker$Packing" "fixed") ∈ gw_T := gw_of 115 (by decide +kernel) (by decide +kernel)
theorem gw_116 : (Jvm.Cond.lays "ForestPacker$Packing" "ForestPacker$Packing" "reached" "I") ∈ gw_T := gw_of 116 (by decide +kernel) (by decide +kernel)
theorem gw_117 : (Jvm.Cond.soleField "ForestPacker$Packing" "reached") ∈ gw_T := gw_of 117 (by decide +kernel) (by decide +kernel)
theorem gw_118 : (Jvm.Cond.laysFinal "ForestPacker$Packing" "ForestPacker$Packing" "queue" "[I") ∈ gw_T := gw_of 118 (by decide +kernel) (by decide +kernel)
theorem gw_119 : (Jvm.Cond.soleField "ForestPacker$Packing" "queue") ∈ gw_T := gw_of 119 (by decide +kernel) (by decide +kernel)
theorem gw_120 : (Jvm.Cond.lays "ForestPacker$Packing" "ForestPacker$Packing" "queued" "I") ∈ gw_T := gw_of 120 (by decide +kernel) (by decide +kernel)
theorem gw_121 : (Jvm.Cond.soleField "ForestPacker$Packing" "queued") ∈ gw_T := gw_of 121 (by decide +kernel) (by decide +kernel)
theorem gw_122 : (Jvm.Cond.laysFinal "ForestPacker$Packing" "ForestPacker$Packing" "follower" "[I") ∈ gw_T := gw_of 122 (by decide +kernel) (by decide +kernel)
theorem gw_123 : (Jvm.Cond.soleField "ForestPacker$Packing" "follower") ∈ gw_T := gw_of 123 (by decide +kernel) (by decide +kernel)
theorem gw_124 : (Jvm.Cond.lays "ForestPacker$Packing" "ForestPacker$Packing" "lastMoved" "I") ∈ gw_T := gw_of 124 (by decide +kernel) (by decide +kernel)
theorem gw_125 : (Jvm.Cond.soleField "ForestPacker$Packing" "lastMoved") ∈ gw_T := gw_of 125 (by decide +kernel) (by decide +kernel)
theorem gw_126 : (Jvm.Cond.lays "ForestPacker$Packing" "ForestPacker$Packing" "room" "I") ∈ gw_T := gw_of 126 (by decide +kernel) (by decide +kernel)
theorem gw_127 : (Jvm.Cond.soleField "ForestPacker$Packing" "room") ∈ gw_T := gw_of 127 (by decide +kernel) (by decide +kernel)
theorem gw_128 : (Jvm.Cond.superclass "ForestPacker$Packing" "java/lang/Object") ∈ gw_T := gw_of 128 (by decide +kernel) (by decide +kernel)
theorem gw_129 : (Jvm.Cond.fieldLink "ForestPacker" (10 : Nat) "ForestPacker" "graph" "LForestPacker$Graph;") ∈ gw_T := gw_of 129 (by decide +kernel) (by decide +kernel)
theorem gw_130 : (Jvm.Cond.fieldLink "ForestPacker" (18 : Nat) "ForestPacker" "packings" "[LForestPacker$Packing;") ∈ gw_T := gw_of 130 (by decide +kernel) (by decide +kernel)
theorem gw_131 : (Jvm.Cond.laysFinal "ForestPacker" "ForestPacker" "graph" "LForestPacker$Graph;") ∈ gw_T := gw_of 131 (by decide +kernel) (by decide +kernel)
theorem gw_132 : (Jvm.Cond.soleField "ForestPacker" "graph") ∈ gw_T := gw_of 132 (by decide +kernel) (by decide +kernel)
theorem gw_133 : (Jvm.Cond.laysFinal "ForestPacker" "ForestPacker" "packings" "[LForestPacker$Packing;") ∈ gw_T := gw_of 133 (by decide +kernel) (by decide +kernel)
theorem gw_134 : (Jvm.Cond.soleField "ForestPacker" "packings") ∈ gw_T := gw_of 134 (by decide +kernel) (by decide +kernel)
theorem gw_135 : (Jvm.Cond.superclass "ForestPacker" "java/lang/Object") ∈ gw_T := gw_of 135 (by decide +kernel) (by decide +kernel)
theorem gw_136 : (Jvm.Cond.methodLink "ForestPackerLaw" (13 : Nat) ({ cls := "ForestPacker", name := "begin", desc := "(I)I" } : Jvm.MethodName)) ∈ gw_T := gw_of 136 (by decide +kernel) (by decide +kernel)
theorem gw_137 : (Jvm.Cond.instanceMethod ({ cls := "ForestPacker", name := "begin", desc := "(I)I" } : Jvm.MethodName)) ∈ gw_T := gw_of 137 (by decide +kernel) (by decide +kernel)
theorem gw_138 : (Jvm.Cond.selects "ForestPacker" ({ cls := "ForestPacker", name := "begin", desc := "(I)I" } : Jvm.MethodName) ({ cls := "ForestPacker", name := "begin", desc := "(I)I" } : Jvm.MethodName)) ∈ gw_T := gw_of 138 (by decide +kernel) (by decide +kernel)
theorem gw_139 : (Jvm.Cond.code ({ cls := "ForestPacker", name := "begin", desc := "(I)I" } : Jvm.MethodName) prog_1_method_2_code (3 : Nat) (Option.some Jvm.ClassFile.FieldType.int)) ∈ gw_T := gw_of 139 (by decide +kernel) (by decide +kernel)
theorem gw_140 : (Jvm.Cond.methodLink "ForestPacker" (25 : Nat) ({ cls := "ForestPacker$Graph", name := "edgeCount", desc := "()I" } : Jvm.MethodName)) ∈ gw_T := gw_of 140 (by decide +kernel) (by decide +kernel)
theorem gw_141 : (Jvm.Cond.instanceMethod ({ cls := "ForestPacker$Graph", name := "edgeCount", desc := "()I" } : Jvm.MethodName)) ∈ gw_T := gw_of 141 (by decide +kernel) (by decide +kernel)
theorem gw_142 : (Jvm.Cond.selects "ForestPacker$Graph" ({ cls := "ForestPacker$Graph", name := "edgeCount", desc := "()I" } : Jvm.MethodName) ({ cls := "ForestPacker$Graph", name := "edgeCount", desc := "()I" } : Jvm.MethodName)) ∈ gw_T := gw_of 142 (by decide +kernel) (by decide +kernel)
theorem gw_143 : (Jvm.Cond.code ({ cls := "ForestPacker$Graph", name := "edgeCount", desc := "()I" } : Jvm.MethodName) prog_2_method_4_code (1 : Nat) (Option.some Jvm.ClassFile.FieldType.int)) ∈ gw_T := gw_of 143 (by decide +kernel) (by decide +kernel)
theorem gw_144 : (Jvm.Cond.methodLink "ForestPacker$Graph" (25 : Nat) ({ cls := "java/lang/Integer", name := "bitCount", desc := "(I)I" } : Jvm.MethodName)) ∈ gw_T := gw_of 144 (by decide +kernel) (by decide +kernel)
theorem gw_145 : (Jvm.Cond.static ({ cls := "java/lang/Integer", name := "bitCount", desc := "(I)I" } : Jvm.MethodName)) ∈ gw_T := gw_of 145 (by decide +kernel) (by decide +kernel)
theorem gw_146 : (Jvm.Cond.code ({ cls := "java/lang/Integer", name := "bitCount", desc := "(I)I" } : Jvm.MethodName) prog_7_method_49_code (1 : Nat) (Option.some Jvm.ClassFile.FieldType.int)) ∈ gw_T := gw_of 146 (by decide +kernel) (by decide +kernel)
theorem gw_147 : (Jvm.Cond.constant "java/lang/Integer" (265 : Nat) (1431655765 : Int32)) ∈ gw_T := gw_of 147 (by decide +kernel) (by decide +kernel)
theorem gw_148 : (Jvm.Cond.constant "java/lang/Integer" (266 : Nat) (858993459 : Int32)) ∈ gw_T := gw_of 148 (by decide +kernel) (by decide +kernel)
theorem gw_149 : (Jvm.Cond.constant "java/lang/Integer" (267 : Nat) (252645135 : Int32)) ∈ gw_T := gw_of 149 (by decide +kernel) (by decide +kernel)
theorem gw_150 : (Jvm.Cond.methodLink "ForestPacker" (36 : Nat) ({ cls := "ForestPacker", name := "forgetPackings", desc := "()V" } : Jvm.MethodName)) ∈ gw_T := gw_of 150 (by decide +kernel) (by decide +kernel)
theorem gw_152 : (Jvm.Cond.instanceMethod ({ cls := "ForestPacker", name := "forgetPackings", desc := "()V" } : Jvm.MethodName)) ∈ gw_T := gw_of 152 (by decide +kernel) (by decide +kernel)
theorem gw_153 : (Jvm.Cond.code ({ cls := "ForestPacker", name := "forgetPackings", desc := "()V" } : Jvm.MethodName) prog_1_method_17_code (2 : Nat) (Option.none : Option Jvm.ClassFile.FieldType)) ∈ gw_T := gw_of 153 (by decide +kernel) (by decide +kernel)
theorem gw_154 : (Jvm.Cond.methodLink "ForestPackerLaw" (18 : Nat) ({ cls := "ForestPacker", name := "join", desc := "(II)I" } : Jvm.MethodName)) ∈ gw_T := gw_of 154 (by decide +kernel) (by decide +kernel)
theorem gw_155 : (Jvm.Cond.instanceMethod ({ cls := "ForestPacker", name := "join", desc := "(II)I" } : Jvm.MethodName)) ∈ gw_T := gw_of 155 (by decide +kernel) (by decide +kernel)
theorem gw_156 : (Jvm.Cond.selects "ForestPacker" ({ cls := "ForestPacker", name := "join", desc := "(II)I" } : Jvm.MethodName) ({ cls := "ForestPacker", name := "join", desc := "(II)I" } : Jvm.MethodName)) ∈ gw_T := gw_of 156 (by decide +kernel) (by decide +kernel)
theorem gw_157 : (Jvm.Cond.code ({ cls := "ForestPacker", name := "join", desc := "(II)I" } : Jvm.MethodName) prog_1_method_3_code (4 : Nat) (Option.some Jvm.ClassFile.FieldType.int)) ∈ gw_T := gw_of 157 (by decide +kernel) (by decide +kernel)
theorem gw_158 : (Jvm.Cond.methodLink "ForestPacker" (39 : Nat) ({ cls := "ForestPacker$Graph", name := "hasVertex", desc := "(I)Z" } : Jvm.MethodName)) ∈ gw_T := gw_of 158 (by decide +kernel) (by decide +kernel)
theorem gw_159 : (Jvm.Cond.instanceMethod ({ cls := "ForestPacker$Graph", name := "hasVertex", desc := "(I)Z" } : Jvm.MethodName)) ∈ gw_T := gw_of 159 (by decide +kernel) (by decide +kernel)
theorem gw_160 : (Jvm.Cond.selects "ForestPacker$Graph" ({ cls := "ForestPacker$Graph", name := "hasVertex", desc := "(I)Z" } : Jvm.MethodName) ({ cls := "ForestPacker$Graph", name := "hasVertex", desc := "(I)Z" } : Jvm.MethodName)) ∈ gw_T := gw_of 160 (by decide +kernel) (by decide +kernel)
theorem gw_161 : (Jvm.Cond.code ({ cls := "ForestPacker$Graph", name := "hasVertex", desc := "(I)Z" } : Jvm.MethodName) prog_2_method_2_code (2 : Nat) (Option.some Jvm.ClassFile.FieldType.boolean)) ∈ gw_T := gw_of 161 (by decide +kernel) (by decide +kernel)
theorem gw_162 : (Jvm.Cond.methodLink "ForestPacker" (43 : Nat) ({ cls := "ForestPacker$Graph", name := "leastFree", desc := "()I" } : Jvm.MethodName)) ∈ gw_T := gw_of 162 (by decide +kernel) (by decide +kernel)
theorem gw_163 : (Jvm.Cond.instanceMethod ({ cls := "ForestPacker$Graph", name := "leastFree", desc := "()I" } : Jvm.MethodName)) ∈ gw_T := gw_of 163 (by decide +kernel) (by decide +kernel)
theorem gw_164 : (Jvm.Cond.selects "ForestPacker$Graph" ({ cls := "ForestPacker$Graph", name := "leastFree", desc := "()I" } : Jvm.MethodName) ({ cls := "ForestPacker$Graph", name := "leastFree", desc := "()I" } : Jvm.MethodName)) ∈ gw_T := gw_of 164 (by decide +kernel) (by decide +kernel)
theorem gw_165 : (Jvm.Cond.code ({ cls := "ForestPacker$Graph", name := "leastFree", desc := "()I" } : Jvm.MethodName) prog_2_method_5_code (2 : Nat) (Option.some Jvm.ClassFile.FieldType.int)) ∈ gw_T := gw_of 165 (by decide +kernel) (by decide +kernel)
theorem gw_166 : (Jvm.Cond.methodLink "ForestPacker$Graph" (31 : Nat) ({ cls := "ForestPacker$Graph", name := "hasEdge", desc := "(I)Z" } : Jvm.MethodName)) ∈ gw_T := gw_of 166 (by decide +kernel) (by decide +kernel)
theorem gw_167 : (Jvm.Cond.instanceMethod ({ cls := "ForestPacker$Graph", name := "hasEdge", desc := "(I)Z" } : Jvm.MethodName)) ∈ gw_T := gw_of 167 (by decide +kernel) (by decide +kernel)
theorem gw_168 : (Jvm.Cond.selects "ForestPacker$Graph" ({ cls := "ForestPacker$Graph", name := "hasEdge", desc := "(I)Z" } : Jvm.MethodName) ({ cls := "ForestPacker$Graph", name := "hasEdge", desc := "(I)Z" } : Jvm.MethodName)) ∈ gw_T := gw_of 168 (by decide +kernel) (by decide +kernel)
theorem gw_169 : (Jvm.Cond.code ({ cls := "ForestPacker$Graph", name := "hasEdge", desc := "(I)Z" } : Jvm.MethodName) prog_2_method_3_code (2 : Nat) (Option.some Jvm.ClassFile.FieldType.boolean)) ∈ gw_T := gw_of 169 (by decide +kernel) (by decide +kernel)
theorem gw_170 : (Jvm.Cond.methodLink "ForestPacker" (50 : Nat) ({ cls := "java/lang/Math", name := "min", desc := "(II)I" } : Jvm.MethodName)) ∈ gw_T := gw_of 170 (by decide +kernel) (by decide +kernel)
theorem gw_171 : (Jvm.Cond.static ({ cls := "java/lang/Math", name := "min", desc := "(II)I" } : Jvm.MethodName)) ∈ gw_T := gw_of 171 (by decide +kernel) (by decide +kernel)
theorem gw_172 : (Jvm.Cond.code ({ cls := "java/lang/Math", name := "min", desc := "(II)I" } : Jvm.MethodName) prog_8_method_69_code (2 : Nat) (Option.some Jvm.ClassFile.FieldType.int)) ∈ gw_T := gw_of 172 (by decide +kernel) (by decide +kernel)
theorem gw_173 : (Jvm.Cond.methodLink "ForestPacker" (59 : Nat) ({ cls := "java/lang/Math", name := "max", desc := "(II)I" } : Jvm.MethodName)) ∈ gw_T := gw_of 173 (by decide +kernel) (by decide +kernel)
theorem gw_174 : (Jvm.Cond.methodLink "ForestPackerLaw" (23 : Nat) ({ cls := "ForestPacker", name := "cut", desc := "(I)I" } : Jvm.MethodName)) ∈ gw_T := gw_of 174 (by decide +kernel) (by decide +kernel)
theorem gw_175 : (Jvm.Cond.instanceMethod ({ cls := "ForestPacker", name := "cut", desc := "(I)I" } : Jvm.MethodName)) ∈ gw_T := gw_of 175 (by decide +kernel) (by decide +kernel)
theorem gw_176 : (Jvm.Cond.selects "ForestPacker" ({ cls := "ForestPacker", name := "cut", desc := "(I)I" } : Jvm.MethodName) ({ cls := "ForestPacker", name := "cut", desc := "(I)I" } : Jvm.MethodName)) ∈ gw_T := gw_of 176 (by decide +kernel) (by decide +kernel)
theorem gw_177 : (Jvm.Cond.code ({ cls := "ForestPacker", name := "cut", desc := "(I)I" } : Jvm.MethodName) prog_1_method_4_code (2 : Nat) (Option.some Jvm.ClassFile.FieldType.int)) ∈ gw_T := gw_of 177 (by decide +kernel) (by decide +kernel)
theorem gw_178 : (Jvm.Cond.methodLink "ForestPacker" (62 : Nat) ({ cls := "ForestPacker$Graph", name := "hasEdge", desc := "(I)Z" } : Jvm.MethodName)) ∈ gw_T := gw_of 178 (by decide +kernel) (by decide +kernel)
theorem gw_179 : (Jvm.Cond.methodLink "ForestPackerLaw" (27 : Nat) ({ cls := "ForestPacker", name := "most", desc := "(I)I" } : Jvm.MethodName)) ∈ gw_T := gw_of 179 (by decide +kernel) (by decide +kernel)
theorem gw_180 : (Jvm.Cond.instanceMethod ({ cls := "ForestPacker", name := "most", desc := "(I)I" } : Jvm.MethodName)) ∈ gw_T := gw_of 180 (by decide +kernel) (by decide +kernel)
theorem gw_181 : (Jvm.Cond.selects "ForestPacker" ({ cls := "ForestPacker", name := "most", desc := "(I)I" } : Jvm.MethodName) ({ cls := "ForestPacker", name := "most", desc := "(I)I" } : Jvm.MethodName)) ∈ gw_T := gw_of 181 (by decide +kernel) (by decide +kernel)
theorem gw_182 : (Jvm.Cond.code ({ cls := "ForestPacker", name := "most", desc := "(I)I" } : Jvm.MethodName) prog_1_method_5_code (2 : Nat) (Option.some Jvm.ClassFile.FieldType.int)) ∈ gw_T := gw_of 182 (by decide +kernel) (by decide +kernel)
theorem gw_183 : (Jvm.Cond.methodLink "ForestPacker" (65 : Nat) ({ cls := "ForestPacker", name := "isForestCount", desc := "(I)Z" } : Jvm.MethodName)) ∈ gw_T := gw_of 183 (by decide +kernel) (by decide +kernel)
theorem gw_184 : (Jvm.Cond.static ({ cls := "ForestPacker", name := "isForestCount", desc := "(I)Z" } : Jvm.MethodName)) ∈ gw_T := gw_of 184 (by decide +kernel) (by decide +kernel)
theorem gw_185 : (Jvm.Cond.code ({ cls := "ForestPacker", name := "isForestCount", desc := "(I)Z" } : Jvm.MethodName) prog_1_method_16_code (1 : Nat) (Option.some Jvm.ClassFile.FieldType.boolean)) ∈ gw_T := gw_of 185 (by decide +kernel) (by decide +kernel)
theorem gw_186 : (Jvm.Cond.methodLink "ForestPacker" (68 : Nat) ({ cls := "ForestPacker", name := "packed", desc := "(I)LForestPacker$Packing;" } : Jvm.MethodName)) ∈ gw_T := gw_of 186 (by decide +kernel) (by decide +kernel)
theorem gw_188 : (Jvm.Cond.instanceMethod ({ cls := "ForestPacker", name := "packed", desc := "(I)LForestPacker$Packing;" } : Jvm.MethodName)) ∈ gw_T := gw_of 188 (by decide +kernel) (by decide +kernel)
theorem gw_189 : (Jvm.Cond.code ({ cls := "ForestPacker", name := "packed", desc := "(I)LForestPacker$Packing;" } : Jvm.MethodName) prog_1_method_18_code (3 : Nat) (Option.some (Jvm.ClassFile.FieldType.object "ForestPacker$Packing"))) ∈ gw_T := gw_of 189 (by decide +kernel) (by decide +kernel)
theorem gw_190 : (Jvm.Cond.methodLink "ForestPacker" (113 : Nat) ({ cls := "ForestPacker$Packing", name := "pack", desc := "(LForestPacker$Graph;)V" } : Jvm.MethodName)) ∈ gw_T := gw_of 190 (by decide +kernel) (by decide +kernel)
theorem gw_191 : (Jvm.Cond.instanceMethod ({ cls := "ForestPacker$Packing", name := "pack", desc := "(LForestPacker$Graph;)V" } : Jvm.MethodName)) ∈ gw_T := gw_of 191 (by decide +kernel) (by decide +kernel)
theorem gw_192 : (Jvm.Cond.selects "ForestPacker$Packing" ({ cls := "ForestPacker$Packing", name := "pack", desc := "(LForestPacker$Graph;)V" } : Jvm.MethodName) ({ cls := "ForestPacker$Packing", name := "pack", desc := "(LForestPacker$Graph;)V" } : Jvm.MethodName)) ∈ gw_T := gw_of 192 (by decide +kernel) (by decide +kernel)
theorem gw_193 : (Jvm.Cond.code ({ cls := "ForestPacker$Packing", name := "pack", desc := "(LForestPacker$Graph;)V" } : Jvm.MethodName) prog_3_method_2_code (3 : Nat) (Option.none : Option Jvm.ClassFile.FieldType)) ∈ gw_T := gw_of 193 (by decide +kernel) (by decide +kernel)
theorem gw_194 : (Jvm.Cond.methodLink "ForestPacker$Packing" (60 : Nat) ({ cls := "ForestPacker$RootedForest", name := "clear", desc := "()V" } : Jvm.MethodName)) ∈ gw_T := gw_of 194 (by decide +kernel) (by decide +kernel)
theorem gw_195 : (Jvm.Cond.instanceMethod ({ cls := "ForestPacker$RootedForest", name := "clear", desc := "()V" } : Jvm.MethodName)) ∈ gw_T := gw_of 195 (by decide +kernel) (by decide +kernel)
theorem gw_196 : (Jvm.Cond.selects "ForestPacker$RootedForest" ({ cls := "ForestPacker$RootedForest", name := "clear", desc := "()V" } : Jvm.MethodName) ({ cls := "ForestPacker$RootedForest", name := "clear", desc := "()V" } : Jvm.MethodName)) ∈ gw_T := gw_of 196 (by decide +kernel) (by decide +kernel)
theorem gw_197 : (Jvm.Cond.code ({ cls := "ForestPacker$RootedForest", name := "clear", desc := "()V" } : Jvm.MethodName) prog_4_method_2_code (1 : Nat) (Option.none : Option Jvm.ClassFile.FieldType)) ∈ gw_T := gw_of 197 (by decide +kernel) (by decide +kernel)
theorem gw_198 : (Jvm.Cond.methodLink "ForestPacker$RootedForest" (18 : Nat) ({ cls := "java/util/Arrays", name := "fill", desc := "([II)V" } : Jvm.MethodName)) ∈ gw_T := gw_of 198 (by decide +kernel) (by decide +kernel)
theorem gw_199 : (Jvm.Cond.static ({ cls := "java/util/Arrays", name := "fill", desc := "([II)V" } : Jvm.MethodName)) ∈ gw_T := gw_of 199 (by decide +kernel) (by decide +kernel)
theorem gw_200 : (Jvm.Cond.code ({ cls := "java/util/Arrays", name := "fill", desc := "([II)V" } : Jvm.MethodName) prog_9_method_103_code (4 : Nat) (Option.none : Option Jvm.ClassFile.FieldType)) ∈ gw_T := gw_of 200 (by decide +kernel) (by decide +kernel)
theorem gw_201 : (Jvm.Cond.methodLink "ForestPacker$Packing" (63 : Nat) ({ cls := "java/util/Arrays", name := "fill", desc := "([II)V" } : Jvm.MethodName)) ∈ gw_T := gw_of 201 (by decide +kernel) (by decide +kernel)
theorem gw_202 : (Jvm.Cond.methodLink "ForestPacker$Packing" (69 : Nat) ({ cls := "ForestPacker$Graph", name := "hasEdge", desc := "(I)Z" } : Jvm.MethodName)) ∈ gw_T := gw_of 202 (by decide +kernel) (by decide +kernel)
theorem gw_203 : (Jvm.Cond.methodLink "ForestPacker$Packing" (81 : Nat) ({ cls := "ForestPacker$Packing", name := "findRoom", desc := "(LForestPacker$Graph;II)Z" } : Jvm.MethodName)) ∈ gw_T := gw_of 203 (by decide +kernel) (by decide +kernel)
theorem gw_204 : (Jvm.Cond.instanceMethod ({ cls := "ForestPacker$Packing", name := "findRoom", desc := "(LForestPacker$Graph;II)Z" } : Jvm.MethodName)) ∈ gw_T := gw_of 204 (by decide +kernel) (by decide +kernel)
theorem gw_205 : (Jvm.Cond.selects "ForestPacker$Packing" ({ cls := "ForestPacker$Packing", name := "findRoom", desc := "(LForestPacker$Graph;II)Z" } : Jvm.MethodName) ({ cls := "ForestPacker$Packing", name := "findRoom", desc := "(LForestPacker$Graph;II)Z" } : Jvm.MethodName)) ∈ gw_T := gw_of 205 (by decide +kernel) (by decide +kernel)
theorem gw_206 : (Jvm.Cond.code ({ cls := "ForestPacker$Packing", name := "findRoom", desc := "(LForestPacker$Graph;II)Z" } : Jvm.MethodName) prog_3_method_7_code (6 : Nat) (Option.some Jvm.ClassFile.FieldType.boolean)) ∈ gw_T := gw_of 206 (by decide +kernel) (by decide +kernel)
theorem gw_207 : (Jvm.Cond.methodLink "ForestPacker$Packing" (107 : Nat) ({ cls := "ForestPacker$Packing", name := "reachFrom", desc := "(III)Z" } : Jvm.MethodName)) ∈ gw_T := gw_of 207 (by decide +kernel) (by decide +kernel)
theorem gw_209 : (Jvm.Cond.instanceMethod ({ cls := "ForestPacker$Packing", name := "reachFrom", desc := "(III)Z" } : Jvm.MethodName)) ∈ gw_T := gw_of 209 (by decide +kernel) (by decide +kernel)
theorem gw_210 : (Jvm.Cond.code ({ cls := "ForestPacker$Packing", name := "reachFrom", desc := "(III)Z" } : Jvm.MethodName) prog_3_method_8_code (6 : Nat) (Option.some Jvm.ClassFile.FieldType.boolean)) ∈ gw_T := gw_of 210 (by decide +kernel) (by decide +kernel)
theorem gw_211 : (Jvm.Cond.methodLink "ForestPacker$Packing" (92 : Nat) ({ cls := "ForestPacker$RootedForest", name := "way", desc := "(II)I" } : Jvm.MethodName)) ∈ gw_T := gw_of 211 (by decide +kernel) (by decide +kernel)
theorem gw_212 : (Jvm.Cond.instanceMethod ({ cls := "ForestPacker$RootedForest", name := "way", desc := "(II)I" } : Jvm.MethodName)) ∈ gw_T := gw_of 212 (by decide +kernel) (by decide +kernel)
theorem gw_213 : (Jvm.Cond.selects "ForestPacker$RootedForest" ({ cls := "ForestPacker$RootedForest", name := "way", desc := "(II)I" } : Jvm.MethodName) ({ cls := "ForestPacker$RootedForest", name := "way", desc := "(II)I" } : Jvm.MethodName)) ∈ gw_T := gw_of 213 (by decide +kernel) (by decide +kernel)
theorem gw_214 : (Jvm.Cond.code ({ cls := "ForestPacker$RootedForest", name := "way", desc := "(II)I" } : Jvm.MethodName) prog_4_method_3_code (8 : Nat) (Option.some Jvm.ClassFile.FieldType.int)) ∈ gw_T := gw_of 214 (by decide +kernel) (by decide +kernel)
theorem gw_215 : (Jvm.Cond.methodLink "ForestPacker$Packing" (111 : Nat) ({ cls := "ForestPacker$Packing", name := "reach", desc := "(II)V" } : Jvm.MethodName)) ∈ gw_T := gw_of 215 (by decide +kernel) (by decide +kernel)
theorem gw_217 : (Jvm.Cond.instanceMethod ({ cls := "ForestPacker$Packing", name := "reach", desc := "(II)V" } : Jvm.MethodName)) ∈ gw_T := gw_of 217 (by decide +kernel) (by decide +kernel)
theorem gw_218 : (Jvm.Cond.code ({ cls := "ForestPacker$Packing", name := "reach", desc := "(II)V" } : Jvm.MethodName) prog_3_method_9_code (5 : Nat) (Option.none : Option Jvm.ClassFile.FieldType)) ∈ gw_T := gw_of 218 (by decide +kernel) (by decide +kernel)
theorem gw_219 : (Jvm.Cond.methodLink "ForestPacker$Packing" (85 : Nat) ({ cls := "ForestPacker$Packing", name := "takeIn", desc := "(LForestPacker$Graph;I)V" } : Jvm.MethodName)) ∈ gw_T := gw_of 219 (by decide +kernel) (by decide +kernel)
theorem gw_221 : (Jvm.Cond.instanceMethod ({ cls := "ForestPacker$Packing", name := "takeIn", desc := "(LForestPacker$Graph;I)V" } : Jvm.MethodName)) ∈ gw_T := gw_of 221 (by decide +kernel) (by decide +kernel)
theorem gw_222 : (Jvm.Cond.code ({ cls := "ForestPacker$Packing", name := "takeIn", desc := "(LForestPacker$Graph;I)V" } : Jvm.MethodName) prog_3_method_10_code (7 : Nat) (Option.none : Option Jvm.ClassFile.FieldType)) ∈ gw_T := gw_of 222 (by decide +kernel) (by decide +kernel)
theorem gw_223 : (Jvm.Cond.methodLink "ForestPacker$Packing" (95 : Nat) ({ cls := "ForestPacker$Packing", name := "remove", desc := "(I)V" } : Jvm.MethodName)) ∈ gw_T := gw_of 223 (by decide +kernel) (by decide +kernel)
theorem gw_225 : (Jvm.Cond.instanceMethod ({ cls := "ForestPacker$Packing", name := "remove", desc := "(I)V" } : Jvm.MethodName)) ∈ gw_T := gw_of 225 (by decide +kernel) (by decide +kernel)
theorem gw_226 : (Jvm.Cond.code ({ cls := "ForestPacker$Packing", name := "remove", desc := "(I)V" } : Jvm.MethodName) prog_3_method_12_code (3 : Nat) (Option.none : Option Jvm.ClassFile.FieldType)) ∈ gw_T := gw_of 226 (by decide +kernel) (by decide +kernel)
theorem gw_227 : (Jvm.Cond.methodLink "ForestPacker$Packing" (119 : Nat) ({ cls := "ForestPacker$RootedForest", name := "unlink", desc := "(I)V" } : Jvm.MethodName)) ∈ gw_T := gw_of 227 (by decide +kernel) (by decide +kernel)
theorem gw_228 : (Jvm.Cond.instanceMethod ({ cls := "ForestPacker$RootedForest", name := "unlink", desc := "(I)V" } : Jvm.MethodName)) ∈ gw_T := gw_of 228 (by decide +kernel) (by decide +kernel)
theorem gw_229 : (Jvm.Cond.selects "ForestPacker$RootedForest" ({ cls := "ForestPacker$RootedForest", name := "unlink", desc := "(I)V" } : Jvm.MethodName) ({ cls := "ForestPacker$RootedForest", name := "unlink", desc := "(I)V" } : Jvm.MethodName)) ∈ gw_T := gw_of 229 (by decide +kernel) (by decide +kernel)
theorem gw_230 : (Jvm.Cond.code ({ cls := "ForestPacker$RootedForest", name := "unlink", desc := "(I)V" } : Jvm.MethodName) prog_4_method_5_code (3 : Nat) (Option.none : Option Jvm.ClassFile.FieldType)) ∈ gw_T := gw_of 230 (by decide +kernel) (by decide +kernel)
theorem gw_231 : (Jvm.Cond.methodLink "ForestPacker$Packing" (99 : Nat) ({ cls := "ForestPacker$Packing", name := "put", desc := "(LForestPacker$Graph;II)V" } : Jvm.MethodName)) ∈ gw_T := gw_of 231 (by decide +kernel) (by decide +kernel)
theorem gw_233 : (Jvm.Cond.instanceMethod ({ cls := "ForestPacker$Packing", name := "put", desc := "(LForestPacker$Graph;II)V" } : Jvm.MethodName)) ∈ gw_T := gw_of 233 (by decide +kernel) (by decide +kernel)
theorem gw_234 : (Jvm.Cond.code ({ cls := "ForestPacker$Packing", name := "put", desc := "(LForestPacker$Graph;II)V" } : Jvm.MethodName) prog_3_method_11_code (4 : Nat) (Option.none : Option Jvm.ClassFile.FieldType)) ∈ gw_T := gw_of 234 (by decide +kernel) (by decide +kernel)
theorem gw_235 : (Jvm.Cond.methodLink "ForestPacker$Packing" (115 : Nat) ({ cls := "ForestPacker$RootedForest", name := "link", desc := "(III)V" } : Jvm.MethodName)) ∈ gw_T := gw_of 235 (by decide +kernel) (by decide +kernel)
theorem gw_236 : (Jvm.Cond.instanceMethod ({ cls := "ForestPacker$RootedForest", name := "link", desc := "(III)V" } : Jvm.MethodName)) ∈ gw_T := gw_of 236 (by decide +kernel) (by decide +kernel)
theorem gw_237 : (Jvm.Cond.selects "ForestPacker$RootedForest" ({ cls := "ForestPacker$RootedForest", name := "link", desc := "(III)V" } : Jvm.MethodName) ({ cls := "ForestPacker$RootedForest", name := "link", desc := "(III)V" } : Jvm.MethodName)) ∈ gw_T := gw_of 237 (by decide +kernel) (by decide +kernel)
theorem gw_238 : (Jvm.Cond.code ({ cls := "ForestPacker$RootedForest", name := "link", desc := "(III)V" } : Jvm.MethodName) prog_4_method_4_code (10 : Nat) (Option.none : Option Jvm.ClassFile.FieldType)) ∈ gw_T := gw_of 238 (by decide +kernel) (by decide +kernel)
theorem gw_239 : (Jvm.Cond.methodLink "ForestPackerLaw" (31 : Nat) ({ cls := "ForestPacker", name := "held", desc := "(II)I" } : Jvm.MethodName)) ∈ gw_T := gw_of 239 (by decide +kernel) (by decide +kernel)
theorem gw_240 : (Jvm.Cond.instanceMethod ({ cls := "ForestPacker", name := "held", desc := "(II)I" } : Jvm.MethodName)) ∈ gw_T := gw_of 240 (by decide +kernel) (by decide +kernel)
theorem gw_241 : (Jvm.Cond.selects "ForestPacker" ({ cls := "ForestPacker", name := "held", desc := "(II)I" } : Jvm.MethodName) ({ cls := "ForestPacker", name := "held", desc := "(II)I" } : Jvm.MethodName)) ∈ gw_T := gw_of 241 (by decide +kernel) (by decide +kernel)
theorem gw_242 : (Jvm.Cond.code ({ cls := "ForestPacker", name := "held", desc := "(II)I" } : Jvm.MethodName) prog_1_method_6_code (3 : Nat) (Option.some Jvm.ClassFile.FieldType.int)) ∈ gw_T := gw_of 242 (by decide +kernel) (by decide +kernel)
theorem gw_243 : (Jvm.Cond.methodLink "ForestPackerLaw" (35 : Nat) ({ cls := "ForestPacker", name := "forest", desc := "(II)I" } : Jvm.MethodName)) ∈ gw_T := gw_of 243 (by decide +kernel) (by decide +kernel)
theorem gw_244 : (Jvm.Cond.instanceMethod ({ cls := "ForestPacker", name := "forest", desc := "(II)I" } : Jvm.MethodName)) ∈ gw_T := gw_of 244 (by decide +kernel) (by decide +kernel)
theorem gw_245 : (Jvm.Cond.selects "ForestPacker" ({ cls := "ForestPacker", name := "forest", desc := "(II)I" } : Jvm.MethodName) ({ cls := "ForestPacker", name := "forest", desc := "(II)I" } : Jvm.MethodName)) ∈ gw_T := gw_of 245 (by decide +kernel) (by decide +kernel)
theorem gw_246 : (Jvm.Cond.code ({ cls := "ForestPacker", name := "forest", desc := "(II)I" } : Jvm.MethodName) prog_1_method_7_code (4 : Nat) (Option.some Jvm.ClassFile.FieldType.int)) ∈ gw_T := gw_of 246 (by decide +kernel) (by decide +kernel)
theorem gw_247 : (Jvm.Cond.methodLink "ForestPacker" (78 : Nat) ({ cls := "ForestPacker$Packing", name := "settle", desc := "(LForestPacker$Graph;)V" } : Jvm.MethodName)) ∈ gw_T := gw_of 247 (by decide +kernel) (by decide +kernel)
theorem gw_248 : (Jvm.Cond.instanceMethod ({ cls := "ForestPacker$Packing", name := "settle", desc := "(LForestPacker$Graph;)V" } : Jvm.MethodName)) ∈ gw_T := gw_of 248 (by decide +kernel) (by decide +kernel)
theorem gw_249 : (Jvm.Cond.selects "ForestPacker$Packing" ({ cls := "ForestPacker$Packing", name := "settle", desc := "(LForestPacker$Graph;)V" } : Jvm.MethodName) ({ cls := "ForestPacker$Packing", name := "settle", desc := "(LForestPacker$Graph;)V" } : Jvm.MethodName)) ∈ gw_T := gw_of 249 (by decide +kernel) (by decide +kernel)
theorem gw_250 : (Jvm.Cond.code ({ cls := "ForestPacker$Packing", name := "settle", desc := "(LForestPacker$Graph;)V" } : Jvm.MethodName) prog_3_method_3_code (5 : Nat) (Option.none : Option Jvm.ClassFile.FieldType)) ∈ gw_T := gw_of 250 (by decide +kernel) (by decide +kernel)
theorem gw_251 : (Jvm.Cond.methodLink "ForestPacker$Packing" (89 : Nat) ({ cls := "ForestPacker$Packing", name := "movesTo", desc := "(LForestPacker$Graph;II)Z" } : Jvm.MethodName)) ∈ gw_T := gw_of 251 (by decide +kernel) (by decide +kernel)
theorem gw_253 : (Jvm.Cond.instanceMethod ({ cls := "ForestPacker$Packing", name := "movesTo", desc := "(LForestPacker$Graph;II)Z" } : Jvm.MethodName)) ∈ gw_T := gw_of 253 (by decide +kernel) (by decide +kernel)
theorem gw_254 : (Jvm.Cond.code ({ cls := "ForestPacker$Packing", name := "movesTo", desc := "(LForestPacker$Graph;II)Z" } : Jvm.MethodName) prog_3_method_4_code (7 : Nat) (Option.some Jvm.ClassFile.FieldType.boolean)) ∈ gw_T := gw_of 254 (by decide +kernel) (by decide +kernel)
theorem gw_255 : (Jvm.Cond.methodLink "ForestPacker$Packing" (103 : Nat) ({ cls := "ForestPacker$Packing", name := "leastOf", desc := "(I)I" } : Jvm.MethodName)) ∈ gw_T := gw_of 255 (by decide +kernel) (by decide +kernel)
theorem gw_256 : (Jvm.Cond.static ({ cls := "ForestPacker$Packing", name := "leastOf", desc := "(I)I" } : Jvm.MethodName)) ∈ gw_T := gw_of 256 (by decide +kernel) (by decide +kernel)
theorem gw_257 : (Jvm.Cond.code ({ cls := "ForestPacker$Packing", name := "leastOf", desc := "(I)I" } : Jvm.MethodName) prog_3_method_13_code (2 : Nat) (Option.some Jvm.ClassFile.FieldType.int)) ∈ gw_T := gw_of 257 (by decide +kernel) (by decide +kernel)
theorem gw_258 : (Jvm.Cond.methodLink "ForestPackerLaw" (39 : Nat) ({ cls := "ForestPacker", name := "why", desc := "(III)I" } : Jvm.MethodName)) ∈ gw_T := gw_of 258 (by decide +kernel) (by decide +kernel)
theorem gw_259 : (Jvm.Cond.instanceMethod ({ cls := "ForestPacker", name := "why", desc := "(III)I" } : Jvm.MethodName)) ∈ gw_T := gw_of 259 (by decide +kernel) (by decide +kernel)
theorem gw_260 : (Jvm.Cond.selects "ForestPacker" ({ cls := "ForestPacker", name := "why", desc := "(III)I" } : Jvm.MethodName) ({ cls := "ForestPacker", name := "why", desc := "(III)I" } : Jvm.MethodName)) ∈ gw_T := gw_of 260 (by decide +kernel) (by decide +kernel)
theorem gw_261 : (Jvm.Cond.code ({ cls := "ForestPacker", name := "why", desc := "(III)I" } : Jvm.MethodName) prog_1_method_8_code (6 : Nat) (Option.some Jvm.ClassFile.FieldType.int)) ∈ gw_T := gw_of 261 (by decide +kernel) (by decide +kernel)
theorem gw_262 : (Jvm.Cond.methodLink "ForestPacker" (82 : Nat) ({ cls := "ForestPacker$Packing", name := "reason", desc := "(LForestPacker$Graph;I)I" } : Jvm.MethodName)) ∈ gw_T := gw_of 262 (by decide +kernel) (by decide +kernel)
theorem gw_263 : (Jvm.Cond.instanceMethod ({ cls := "ForestPacker$Packing", name := "reason", desc := "(LForestPacker$Graph;I)I" } : Jvm.MethodName)) ∈ gw_T := gw_of 263 (by decide +kernel) (by decide +kernel)
theorem gw_264 : (Jvm.Cond.selects "ForestPacker$Packing" ({ cls := "ForestPacker$Packing", name := "reason", desc := "(LForestPacker$Graph;I)I" } : Jvm.MethodName) ({ cls := "ForestPacker$Packing", name := "reason", desc := "(LForestPacker$Graph;I)I" } : Jvm.MethodName)) ∈ gw_T := gw_of 264 (by decide +kernel) (by decide +kernel)
theorem gw_265 : (Jvm.Cond.code ({ cls := "ForestPacker$Packing", name := "reason", desc := "(LForestPacker$Graph;I)I" } : Jvm.MethodName) prog_3_method_5_code (3 : Nat) (Option.some Jvm.ClassFile.FieldType.int)) ∈ gw_T := gw_of 265 (by decide +kernel) (by decide +kernel)
theorem gw_266 : (Jvm.Cond.methodLink "ForestPacker" (86 : Nat) ({ cls := "java/lang/Integer", name := "bitCount", desc := "(I)I" } : Jvm.MethodName)) ∈ gw_T := gw_of 266 (by decide +kernel) (by decide +kernel)
theorem gw_267 : (Jvm.Cond.methodLink "ForestPackerLaw" (44 : Nat) ({ cls := "ForestPacker", name := "tight", desc := "(III)I" } : Jvm.MethodName)) ∈ gw_T := gw_of 267 (by decide +kernel) (by decide +kernel)
theorem gw_268 : (Jvm.Cond.instanceMethod ({ cls := "ForestPacker", name := "tight", desc := "(III)I" } : Jvm.MethodName)) ∈ gw_T := gw_of 268 (by decide +kernel) (by decide +kernel)
theorem gw_269 : (Jvm.Cond.selects "ForestPacker" ({ cls := "ForestPacker", name := "tight", desc := "(III)I" } : Jvm.MethodName) ({ cls := "ForestPacker", name := "tight", desc := "(III)I" } : Jvm.MethodName)) ∈ gw_T := gw_of 269 (by decide +kernel) (by decide +kernel)
theorem gw_270 : (Jvm.Cond.code ({ cls := "ForestPacker", name := "tight", desc := "(III)I" } : Jvm.MethodName) prog_1_method_9_code (4 : Nat) (Option.some Jvm.ClassFile.FieldType.int)) ∈ gw_T := gw_of 270 (by decide +kernel) (by decide +kernel)
theorem gw_271 : (Jvm.Cond.methodLink "ForestPacker" (92 : Nat) ({ cls := "ForestPacker$Packing", name := "findRoom", desc := "(LForestPacker$Graph;II)Z" } : Jvm.MethodName)) ∈ gw_T := gw_of 271 (by decide +kernel) (by decide +kernel)
theorem gw_272 : (Jvm.Cond.methodLink "ForestPackerLaw" (48 : Nat) ({ cls := "ForestPacker", name := "classes", desc := "(I)I" } : Jvm.MethodName)) ∈ gw_T := gw_of 272 (by decide +kernel) (by decide +kernel)
theorem gw_273 : (Jvm.Cond.instanceMethod ({ cls := "ForestPacker", name := "classes", desc := "(I)I" } : Jvm.MethodName)) ∈ gw_T := gw_of 273 (by decide +kernel) (by decide +kernel)
theorem gw_274 : (Jvm.Cond.selects "ForestPacker" ({ cls := "ForestPacker", name := "classes", desc := "(I)I" } : Jvm.MethodName) ({ cls := "ForestPacker", name := "classes", desc := "(I)I" } : Jvm.MethodName)) ∈ gw_T := gw_of 274 (by decide +kernel) (by decide +kernel)
theorem gw_275 : (Jvm.Cond.code ({ cls := "ForestPacker", name := "classes", desc := "(I)I" } : Jvm.MethodName) prog_1_method_10_code (5 : Nat) (Option.some Jvm.ClassFile.FieldType.int)) ∈ gw_T := gw_of 275 (by decide +kernel) (by decide +kernel)
theorem gw_276 : (Jvm.Cond.methodLink "ForestPacker" (96 : Nat) ({ cls := "ForestPacker$Packing", name := "isFirstOfClass", desc := "(LForestPacker$Graph;I)Z" } : Jvm.MethodName)) ∈ gw_T := gw_of 276 (by decide +kernel) (by decide +kernel)
theorem gw_277 : (Jvm.Cond.instanceMethod ({ cls := "ForestPacker$Packing", name := "isFirstOfClass", desc := "(LForestPacker$Graph;I)Z" } : Jvm.MethodName)) ∈ gw_T := gw_of 277 (by decide +kernel) (by decide +kernel)
theorem gw_278 : (Jvm.Cond.selects "ForestPacker$Packing" ({ cls := "ForestPacker$Packing", name := "isFirstOfClass", desc := "(LForestPacker$Graph;I)Z" } : Jvm.MethodName) ({ cls := "ForestPacker$Packing", name := "isFirstOfClass", desc := "(LForestPacker$Graph;I)Z" } : Jvm.MethodName)) ∈ gw_T := gw_of 278 (by decide +kernel) (by decide +kernel)
theorem gw_279 : (Jvm.Cond.code ({ cls := "ForestPacker$Packing", name := "isFirstOfClass", desc := "(LForestPacker$Graph;I)Z" } : Jvm.MethodName) prog_3_method_6_code (4 : Nat) (Option.some Jvm.ClassFile.FieldType.boolean)) ∈ gw_T := gw_of 279 (by decide +kernel) (by decide +kernel)
theorem gw_280 : (Jvm.Cond.methodLink "ForestPackerLaw" (52 : Nat) ({ cls := "ForestPacker", name := "crossing", desc := "(I)I" } : Jvm.MethodName)) ∈ gw_T := gw_of 280 (by decide +kernel) (by decide +kernel)
theorem gw_281 : (Jvm.Cond.instanceMethod ({ cls := "ForestPacker", name := "crossing", desc := "(I)I" } : Jvm.MethodName)) ∈ gw_T := gw_of 281 (by decide +kernel) (by decide +kernel)
theorem gw_282 : (Jvm.Cond.selects "ForestPacker" ({ cls := "ForestPacker", name := "crossing", desc := "(I)I" } : Jvm.MethodName) ({ cls := "ForestPacker", name := "crossing", desc := "(I)I" } : Jvm.MethodName)) ∈ gw_T := gw_of 282 (by decide +kernel) (by decide +kernel)
theorem gw_283 : (Jvm.Cond.code ({ cls := "ForestPacker", name := "crossing", desc := "(I)I" } : Jvm.MethodName) prog_1_method_11_code (5 : Nat) (Option.some Jvm.ClassFile.FieldType.int)) ∈ gw_T := gw_of 283 (by decide +kernel) (by decide +kernel)
theorem gw_284 : (Jvm.Cond.methodLink "ForestPackerLaw" (56 : Nat) ({ cls := "ForestPacker", name := "arboricity", desc := "()I" } : Jvm.MethodName)) ∈ gw_T := gw_of 284 (by decide +kernel) (by decide +kernel)
theorem gw_285 : (Jvm.Cond.instanceMethod ({ cls := "ForestPacker", name := "arboricity", desc := "()I" } : Jvm.MethodName)) ∈ gw_T := gw_of 285 (by decide +kernel) (by decide +kernel)
theorem gw_286 : (Jvm.Cond.selects "ForestPacker" ({ cls := "ForestPacker", name := "arboricity", desc := "()I" } : Jvm.MethodName) ({ cls := "ForestPacker", name := "arboricity", desc := "()I" } : Jvm.MethodName)) ∈ gw_T := gw_of 286 (by decide +kernel) (by decide +kernel)
theorem gw_287 : (Jvm.Cond.code ({ cls := "ForestPacker", name := "arboricity", desc := "()I" } : Jvm.MethodName) prog_1_method_12_code (3 : Nat) (Option.some Jvm.ClassFile.FieldType.int)) ∈ gw_T := gw_of 287 (by decide +kernel) (by decide +kernel)
theorem gw_288 : (Jvm.Cond.methodLink "ForestPackerLaw" (61 : Nat) ({ cls := "ForestPacker", name := "dense", desc := "()I" } : Jvm.MethodName)) ∈ gw_T := gw_of 288 (by decide +kernel) (by decide +kernel)
theorem gw_289 : (Jvm.Cond.instanceMethod ({ cls := "ForestPacker", name := "dense", desc := "()I" } : Jvm.MethodName)) ∈ gw_T := gw_of 289 (by decide +kernel) (by decide +kernel)
theorem gw_290 : (Jvm.Cond.selects "ForestPacker" ({ cls := "ForestPacker", name := "dense", desc := "()I" } : Jvm.MethodName) ({ cls := "ForestPacker", name := "dense", desc := "()I" } : Jvm.MethodName)) ∈ gw_T := gw_of 290 (by decide +kernel) (by decide +kernel)
theorem gw_291 : (Jvm.Cond.code ({ cls := "ForestPacker", name := "dense", desc := "()I" } : Jvm.MethodName) prog_1_method_13_code (4 : Nat) (Option.some Jvm.ClassFile.FieldType.int)) ∈ gw_T := gw_of 291 (by decide +kernel) (by decide +kernel)
theorem gw_292 : (Jvm.Cond.methodLink "ForestPacker" (100 : Nat) ({ cls := "ForestPacker", name := "arboricity", desc := "()I" } : Jvm.MethodName)) ∈ gw_T := gw_of 292 (by decide +kernel) (by decide +kernel)
theorem gw_293 : (Jvm.Cond.methodLink "ForestPacker" (103 : Nat) ({ cls := "ForestPacker$Graph", name := "verticesOf", desc := "(I)I" } : Jvm.MethodName)) ∈ gw_T := gw_of 293 (by decide +kernel) (by decide +kernel)
theorem gw_294 : (Jvm.Cond.instanceMethod ({ cls := "ForestPacker$Graph", name := "verticesOf", desc := "(I)I" } : Jvm.MethodName)) ∈ gw_T := gw_of 294 (by decide +kernel) (by decide +kernel)
theorem gw_295 : (Jvm.Cond.selects "ForestPacker$Graph" ({ cls := "ForestPacker$Graph", name := "verticesOf", desc := "(I)I" } : Jvm.MethodName) ({ cls := "ForestPacker$Graph", name := "verticesOf", desc := "(I)I" } : Jvm.MethodName)) ∈ gw_T := gw_of 295 (by decide +kernel) (by decide +kernel)
theorem gw_296 : (Jvm.Cond.code ({ cls := "ForestPacker$Graph", name := "verticesOf", desc := "(I)I" } : Jvm.MethodName) prog_2_method_7_code (4 : Nat) (Option.some Jvm.ClassFile.FieldType.int)) ∈ gw_T := gw_of 296 (by decide +kernel) (by decide +kernel)
theorem gw_297 : (Jvm.Cond.methodLink "ForestPackerLaw" (65 : Nat) ({ cls := "ForestPacker", name := "spanning", desc := "()I" } : Jvm.MethodName)) ∈ gw_T := gw_of 297 (by decide +kernel) (by decide +kernel)
theorem gw_298 : (Jvm.Cond.instanceMethod ({ cls := "ForestPacker", name := "spanning", desc := "()I" } : Jvm.MethodName)) ∈ gw_T := gw_of 298 (by decide +kernel) (by decide +kernel)
theorem gw_299 : (Jvm.Cond.selects "ForestPacker" ({ cls := "ForestPacker", name := "spanning", desc := "()I" } : Jvm.MethodName) ({ cls := "ForestPacker", name := "spanning", desc := "()I" } : Jvm.MethodName)) ∈ gw_T := gw_of 299 (by decide +kernel) (by decide +kernel)
theorem gw_300 : (Jvm.Cond.code ({ cls := "ForestPacker", name := "spanning", desc := "()I" } : Jvm.MethodName) prog_1_method_14_code (2 : Nat) (Option.some Jvm.ClassFile.FieldType.int)) ∈ gw_T := gw_of 300 (by decide +kernel) (by decide +kernel)
theorem gw_301 : (Jvm.Cond.methodLink "ForestPackerLaw" (69 : Nat) ({ cls := "ForestPacker", name := "told", desc := "(II)I" } : Jvm.MethodName)) ∈ gw_T := gw_of 301 (by decide +kernel) (by decide +kernel)
theorem gw_302 : (Jvm.Cond.instanceMethod ({ cls := "ForestPacker", name := "told", desc := "(II)I" } : Jvm.MethodName)) ∈ gw_T := gw_of 302 (by decide +kernel) (by decide +kernel)
theorem gw_303 : (Jvm.Cond.selects "ForestPacker" ({ cls := "ForestPacker", name := "told", desc := "(II)I" } : Jvm.MethodName) ({ cls := "ForestPacker", name := "told", desc := "(II)I" } : Jvm.MethodName)) ∈ gw_T := gw_of 303 (by decide +kernel) (by decide +kernel)
theorem gw_304 : (Jvm.Cond.code ({ cls := "ForestPacker", name := "told", desc := "(II)I" } : Jvm.MethodName) prog_1_method_15_code (3 : Nat) (Option.some Jvm.ClassFile.FieldType.int)) ∈ gw_T := gw_of 304 (by decide +kernel) (by decide +kernel)
theorem gw_305 : (Jvm.Cond.methodLink "ForestPacker" (106 : Nat) ({ cls := "ForestPacker$Graph", name := "edgesAmong", desc := "(I)I" } : Jvm.MethodName)) ∈ gw_T := gw_of 305 (by decide +kernel) (by decide +kernel)
theorem gw_306 : (Jvm.Cond.instanceMethod ({ cls := "ForestPacker$Graph", name := "edgesAmong", desc := "(I)I" } : Jvm.MethodName)) ∈ gw_T := gw_of 306 (by decide +kernel) (by decide +kernel)
theorem gw_307 : (Jvm.Cond.selects "ForestPacker$Graph" ({ cls := "ForestPacker$Graph", name := "edgesAmong", desc := "(I)I" } : Jvm.MethodName) ({ cls := "ForestPacker$Graph", name := "edgesAmong", desc := "(I)I" } : Jvm.MethodName)) ∈ gw_T := gw_of 307 (by decide +kernel) (by decide +kernel)
theorem gw_308 : (Jvm.Cond.code ({ cls := "ForestPacker$Graph", name := "edgesAmong", desc := "(I)I" } : Jvm.MethodName) prog_2_method_6_code (4 : Nat) (Option.some Jvm.ClassFile.FieldType.int)) ∈ gw_T := gw_of 308 (by decide +kernel) (by decide +kernel)
theorem gw_309 : (Jvm.Cond.methodLink "ForestPacker$Graph" (35 : Nat) ({ cls := "ForestPacker$Graph", name := "verticesOf", desc := "(I)I" } : Jvm.MethodName)) ∈ gw_T := gw_of 309 (by decide +kernel) (by decide +kernel)
theorem gw_310 : (Jvm.Cond.classLink "ForestPackerLaw" (10 : Nat) "ForestPackerModel") ∈ gw_T := gw_of 310 (by decide +kernel) (by decide +kernel)
theorem gw_311 : (Jvm.Cond.instantiable "ForestPackerModel" (11 : Nat)) ∈ gw_T := gw_of 311 (by decide +kernel) (by decide +kernel)
theorem gw_312 : (Jvm.Cond.methodLink "ForestPackerLaw" (12 : Nat) ({ cls := "ForestPackerModel", name := "<init>", desc := "()V" } : Jvm.MethodName)) ∈ gw_T := gw_of 312 (by decide +kernel) (by decide +kernel)
theorem gw_313 : (Jvm.Cond.instanceMethod ({ cls := "ForestPackerModel", name := "<init>", desc := "()V" } : Jvm.MethodName)) ∈ gw_T := gw_of 313 (by decide +kernel) (by decide +kernel)
theorem gw_314 : (Jvm.Cond.code ({ cls := "ForestPackerModel", name := "<init>", desc := "()V" } : Jvm.MethodName) prog_6_method_1_code (1 : Nat) (Option.none : Option Jvm.ClassFile.FieldType)) ∈ gw_T := gw_of 314 (by decide +kernel) (by decide +kernel)
theorem gw_315 : (Jvm.Cond.methodLink "ForestPackerModel" (1 : Nat) ({ cls := "java/lang/Object", name := "<init>", desc := "()V" } : Jvm.MethodName)) ∈ gw_T := gw_of 315 (by decide +kernel) (by decide +kernel)
theorem gw_316 : (Jvm.Cond.fieldLink "ForestPackerModel" (7 : Nat) "ForestPackerModel" "n" "I") ∈ gw_T := gw_of 316 (by decide +kernel) (by decide +kernel)
theorem gw_317 : (Jvm.Cond.fieldLink "ForestPackerModel" (13 : Nat) "ForestPackerModel" "ends" "[I") ∈ gw_T := gw_of 317 (by decide +kernel) (by decide +kernel)
theorem gw_318 : (Jvm.Cond.fieldLink "ForestPackerModel" (17 : Nat) "ForestPackerModel" "isEdge" "[Z") ∈ gw_T := gw_of 318 (by decide +kernel) (by decide +kernel)
theorem gw_319 : (Jvm.Cond.fieldLink "ForestPackerModel" (65 : Nat) "ForestPackerModel" "heldBits" "I") ∈ gw_T := gw_of 319 (by decide +kernel) (by decide +kernel)
theorem gw_320 : (Jvm.Cond.fieldLink "ForestPackerModel" (21 : Nat) "ForestPackerModel" "forestOf" "[I") ∈ gw_T := gw_of 320 (by decide +kernel) (by decide +kernel)
theorem gw_321 : (Jvm.Cond.fieldLink "ForestPackerModel" (24 : Nat) "ForestPackerModel" "isFixed" "[Z") ∈ gw_T := gw_of 321 (by decide +kernel) (by decide +kernel)
theorem gw_322 : (Jvm.Cond.fieldLink "ForestPackerModel" (27 : Nat) "ForestPackerModel" "queue" "[I") ∈ gw_T := gw_of 322 (by decide +kernel) (by decide +kernel)
theorem gw_323 : (Jvm.Cond.fieldLink "ForestPackerModel" (30 : Nat) "ForestPackerModel" "cameFrom" "[I") ∈ gw_T := gw_of 323 (by decide +kernel) (by decide +kernel)
theorem gw_324 : (Jvm.Cond.fieldLink "ForestPackerModel" (33 : Nat) "ForestPackerModel" "cameTo" "[I") ∈ gw_T := gw_of 324 (by decide +kernel) (by decide +kernel)
theorem gw_325 : (Jvm.Cond.fieldLink "ForestPackerModel" (36 : Nat) "ForestPackerModel" "lifted" "[I") ∈ gw_T := gw_of 325 (by decide +kernel) (by decide +kernel)
theorem gw_326 : (Jvm.Cond.fieldLink "ForestPackerModel" (39 : Nat) "ForestPackerModel" "saved" "[I") ∈ gw_T := gw_of 326 (by decide +kernel) (by decide +kernel)
theorem gw_327 : (Jvm.Cond.lays "ForestPackerModel" "ForestPackerModel" "n" "I") ∈ gw_T := gw_of 327 (by decide +kernel) (by decide +kernel)
theorem gw_328 : (Jvm.Cond.soleField "ForestPackerModel" "n") ∈ gw_T := gw_of 328 (by decide +kernel) (by decide +kernel)
theorem gw_329 : (Jvm.Cond.laysFinal "ForestPackerModel" "ForestPackerModel" "ends" "[I") ∈ gw_T := gw_of 329 (by decide +kernel) (by decide +kernel)
theorem gw_330 : (Jvm.Cond.soleField "ForestPackerModel" "ends") ∈ gw_T := gw_of 330 (by decide +kernel) (by decide +kernel)
theorem gw_331 : (Jvm.Cond.laysFinal "ForestPackerModel" "ForestPackerModel" "isEdge" "[Z") ∈ gw_T := gw_of 331 (by decide +kernel) (by decide +kernel)
theorem gw_332 : (Jvm.Cond.soleField "ForestPackerModel" "isEdge") ∈ gw_T := gw_of 332 (by decide +kernel) (by decide +kernel)
theorem gw_333 : (Jvm.Cond.lays "ForestPackerModel" "ForestPackerModel" "heldBits" "I") ∈ gw_T := gw_of 333 (by decide +kernel) (by decide +kernel)
theorem gw_334 : (Jvm.Cond.soleField "ForestPackerModel" "heldBits") ∈ gw_T := gw_of 334 (by decide +kernel) (by decide +kernel)
theorem gw_335 : (Jvm.Cond.laysFinal "ForestPackerModel" "ForestPackerModel" "forestOf" "[I") ∈ gw_T := gw_of 335 (by decide +kernel) (by decide +kernel)
theorem gw_336 : (Jvm.Cond.soleField "ForestPackerModel" "forestOf") ∈ gw_T := gw_of 336 (by decide +kernel) (by decide +kernel)
theorem gw_337 : (Jvm.Cond.laysFinal "ForestPackerModel" "ForestPackerModel" "isFixed" "[Z") ∈ gw_T := gw_of 337 (by decide +kernel) (by decide +kernel)
theorem gw_338 : (Jvm.Cond.soleField "ForestPackerModel" "isFixed") ∈ gw_T := gw_of 338 (by decide +kernel) (by decide +kernel)
theorem gw_339 : (Jvm.Cond.laysFinal "ForestPackerModel" "ForestPackerModel" "queue" "[I") ∈ gw_T := gw_of 339 (by decide +kernel) (by decide +kernel)
theorem gw_340 : (Jvm.Cond.soleField "ForestPackerModel" "queue") ∈ gw_T := gw_of 340 (by decide +kernel) (by decide +kernel)
theorem gw_341 : (Jvm.Cond.laysFinal "ForestPackerModel" "ForestPackerModel" "cameFrom" "[I") ∈ gw_T := gw_of 341 (by decide +kernel) (by decide +kernel)
theorem gw_342 : (Jvm.Cond.soleField "ForestPackerModel" "cameFrom") ∈ gw_T := gw_of 342 (by decide +kernel) (by decide +kernel)
theorem gw_343 : (Jvm.Cond.laysFinal "ForestPackerModel" "ForestPackerModel" "cameTo" "[I") ∈ gw_T := gw_of 343 (by decide +kernel) (by decide +kernel)
theorem gw_344 : (Jvm.Cond.soleField "ForestPackerModel" "cameTo") ∈ gw_T := gw_of 344 (by decide +kernel) (by decide +kernel)
theorem gw_345 : (Jvm.Cond.laysFinal "ForestPackerModel" "ForestPackerModel" "lifted" "[I") ∈ gw_T := gw_of 345 (by decide +kernel) (by decide +kernel)
theorem gw_346 : (Jvm.Cond.soleField "ForestPackerModel" "lifted") ∈ gw_T := gw_of 346 (by decide +kernel) (by decide +kernel)
theorem gw_347 : (Jvm.Cond.laysFinal "ForestPackerModel" "ForestPackerModel" "saved" "[I") ∈ gw_T := gw_of 347 (by decide +kernel) (by decide +kernel)
theorem gw_348 : (Jvm.Cond.soleField "ForestPackerModel" "saved") ∈ gw_T := gw_of 348 (by decide +kernel) (by decide +kernel)
theorem gw_349 : (Jvm.Cond.superclass "ForestPackerModel" "java/lang/Object") ∈ gw_T := gw_of 349 (by decide +kernel) (by decide +kernel)
theorem gw_350 : (Jvm.Cond.arrayClass Jvm.ClassFile.FieldType.boolean) ∈ gw_T := gw_of 350 (by decide +kernel) (by decide +kernel)
theorem gw_351 : (Jvm.Cond.methodLink "ForestPackerLaw" (17 : Nat) ({ cls := "ForestPackerModel", name := "begin", desc := "(I)I" } : Jvm.MethodName)) ∈ gw_T := gw_of 351 (by decide +kernel) (by decide +kernel)
theorem gw_352 : (Jvm.Cond.instanceMethod ({ cls := "ForestPackerModel", name := "begin", desc := "(I)I" } : Jvm.MethodName)) ∈ gw_T := gw_of 352 (by decide +kernel) (by decide +kernel)
theorem gw_353 : (Jvm.Cond.selects "ForestPackerModel" ({ cls := "ForestPackerModel", name := "begin", desc := "(I)I" } : Jvm.MethodName) ({ cls := "ForestPackerModel", name := "begin", desc := "(I)I" } : Jvm.MethodName)) ∈ gw_T := gw_of 353 (by decide +kernel) (by decide +kernel)
theorem gw_354 : (Jvm.Cond.code ({ cls := "ForestPackerModel", name := "begin", desc := "(I)I" } : Jvm.MethodName) prog_6_method_6_code (4 : Nat) (Option.some Jvm.ClassFile.FieldType.int)) ∈ gw_T := gw_of 354 (by decide +kernel) (by decide +kernel)
theorem gw_355 : (Jvm.Cond.methodLink "ForestPackerModel" (42 : Nat) ({ cls := "ForestPackerModel", name := "in", desc := "(III)Z" } : Jvm.MethodName)) ∈ gw_T := gw_of 355 (by decide +kernel) (by decide +kernel)
theorem gw_356 : (Jvm.Cond.static ({ cls := "ForestPackerModel", name := "in", desc := "(III)Z" } : Jvm.MethodName)) ∈ gw_T := gw_of 356 (by decide +kernel) (by decide +kernel)
theorem gw_357 : (Jvm.Cond.code ({ cls := "ForestPackerModel", name := "in", desc := "(III)Z" } : Jvm.MethodName) prog_6_method_2_code (3 : Nat) (Option.some Jvm.ClassFile.FieldType.boolean)) ∈ gw_T := gw_of 357 (by decide +kernel) (by decide +kernel)
theorem gw_358 : (Jvm.Cond.methodLink "ForestPackerModel" (46 : Nat) ({ cls := "ForestPackerModel", name := "many", desc := "()I" } : Jvm.MethodName)) ∈ gw_T := gw_of 358 (by decide +kernel) (by decide +kernel)
theorem gw_360 : (Jvm.Cond.instanceMethod ({ cls := "ForestPackerModel", name := "many", desc := "()I" } : Jvm.MethodName)) ∈ gw_T := gw_of 360 (by decide +kernel) (by decide +kernel)
theorem gw_361 : (Jvm.Cond.code ({ cls := "ForestPackerModel", name := "many", desc := "()I" } : Jvm.MethodName) prog_6_method_5_code (3 : Nat) (Option.some Jvm.ClassFile.FieldType.int)) ∈ gw_T := gw_of 361 (by decide +kernel) (by decide +kernel)
theorem gw_362 : (Jvm.Cond.methodLink "ForestPackerLaw" (22 : Nat) ({ cls := "ForestPackerModel", name := "join", desc := "(II)I" } : Jvm.MethodName)) ∈ gw_T := gw_of 362 (by decide +kernel) (by decide +kernel)
theorem gw_363 : (Jvm.Cond.instanceMethod ({ cls := "ForestPackerModel", name := "join", desc := "(II)I" } : Jvm.MethodName)) ∈ gw_T := gw_of 363 (by decide +kernel) (by decide +kernel)
theorem gw_364 : (Jvm.Cond.selects "ForestPackerModel" ({ cls := "ForestPackerModel", name := "join", desc := "(II)I" } : Jvm.MethodName) ({ cls := "ForestPackerModel", name := "join", desc := "(II)I" } : Jvm.MethodName)) ∈ gw_T := gw_of 364 (by decide +kernel) (by decide +kernel)
theorem gw_365 : (Jvm.Cond.code ({ cls := "ForestPackerModel", name := "join", desc := "(II)I" } : Jvm.MethodName) prog_6_method_8_code (4 : Nat) (Option.some Jvm.ClassFile.FieldType.int)) ∈ gw_T := gw_of 365 (by decide +kernel) (by decide +kernel)
theorem gw_366 : (Jvm.Cond.methodLink "ForestPackerModel" (50 : Nat) ({ cls := "ForestPackerModel", name := "isVertex", desc := "(I)Z" } : Jvm.MethodName)) ∈ gw_T := gw_of 366 (by decide +kernel) (by decide +kernel)
theorem gw_368 : (Jvm.Cond.instanceMethod ({ cls := "ForestPackerModel", name := "isVertex", desc := "(I)Z" } : Jvm.MethodName)) ∈ gw_T := gw_of 368 (by decide +kernel) (by decide +kernel)
theorem gw_369 : (Jvm.Cond.code ({ cls := "ForestPackerModel", name := "isVertex", desc := "(I)Z" } : Jvm.MethodName) prog_6_method_7_code (2 : Nat) (Option.some Jvm.ClassFile.FieldType.boolean)) ∈ gw_T := gw_of 369 (by decide +kernel) (by decide +kernel)
theorem gw_370 : (Jvm.Cond.methodLink "ForestPackerLaw" (26 : Nat) ({ cls := "ForestPackerModel", name := "cut", desc := "(I)I" } : Jvm.MethodName)) ∈ gw_T := gw_of 370 (by decide +kernel) (by decide +kernel)
theorem gw_371 : (Jvm.Cond.instanceMethod ({ cls := "ForestPackerModel", name := "cut", desc := "(I)I" } : Jvm.MethodName)) ∈ gw_T := gw_of 371 (by decide +kernel) (by decide +kernel)
theorem gw_372 : (Jvm.Cond.selects "ForestPackerModel" ({ cls := "ForestPackerModel", name := "cut", desc := "(I)I" } : Jvm.MethodName) ({ cls := "ForestPackerModel", name := "cut", desc := "(I)I" } : Jvm.MethodName)) ∈ gw_T := gw_of 372 (by decide +kernel) (by decide +kernel)
theorem gw_373 : (Jvm.Cond.code ({ cls := "ForestPackerModel", name := "cut", desc := "(I)I" } : Jvm.MethodName) prog_6_method_9_code (2 : Nat) (Option.some Jvm.ClassFile.FieldType.int)) ∈ gw_T := gw_of 373 (by decide +kernel) (by decide +kernel)
theorem gw_374 : (Jvm.Cond.methodLink "ForestPackerModel" (54 : Nat) ({ cls := "ForestPackerModel", name := "has", desc := "(I)Z" } : Jvm.MethodName)) ∈ gw_T := gw_of 374 (by decide +kernel) (by decide +kernel)
theorem gw_376 : (Jvm.Cond.instanceMethod ({ cls := "ForestPackerModel", name := "has", desc := "(I)Z" } : Jvm.MethodName)) ∈ gw_T := gw_of 376 (by decide +kernel) (by decide +kernel)
theorem gw_377 : (Jvm.Cond.code ({ cls := "ForestPackerModel", name := "has", desc := "(I)Z" } : Jvm.MethodName) prog_6_method_3_code (2 : Nat) (Option.some Jvm.ClassFile.FieldType.boolean)) ∈ gw_T := gw_of 377 (by decide +kernel) (by decide +kernel)
theorem gw_378 : (Jvm.Cond.methodLink "ForestPackerLaw" (30 : Nat) ({ cls := "ForestPackerModel", name := "most", desc := "(I)I" } : Jvm.MethodName)) ∈ gw_T := gw_of 378 (by decide +kernel) (by decide +kernel)
theorem gw_379 : (Jvm.Cond.instanceMethod ({ cls := "ForestPackerModel", name := "most", desc := "(I)I" } : Jvm.MethodName)) ∈ gw_T := gw_of 379 (by decide +kernel) (by decide +kernel)
theorem gw_380 : (Jvm.Cond.selects "ForestPackerModel" ({ cls := "ForestPackerModel", name := "most", desc := "(I)I" } : Jvm.MethodName) ({ cls := "ForestPackerModel", name := "most", desc := "(I)I" } : Jvm.MethodName)) ∈ gw_T := gw_of 380 (by decide +kernel) (by decide +kernel)
theorem gw_381 : (Jvm.Cond.code ({ cls := "ForestPackerModel", name := "most", desc := "(I)I" } : Jvm.MethodName) prog_6_method_15_code (2 : Nat) (Option.some Jvm.ClassFile.FieldType.int)) ∈ gw_T := gw_of 381 (by decide +kernel) (by decide +kernel)
theorem gw_382 : (Jvm.Cond.methodLink "ForestPackerModel" (72 : Nat) ({ cls := "ForestPackerModel", name := "isK", desc := "(I)Z" } : Jvm.MethodName)) ∈ gw_T := gw_of 382 (by decide +kernel) (by decide +kernel)
theorem gw_383 : (Jvm.Cond.static ({ cls := "ForestPackerModel", name := "isK", desc := "(I)Z" } : Jvm.MethodName)) ∈ gw_T := gw_of 383 (by decide +kernel) (by decide +kernel)
theorem gw_384 : (Jvm.Cond.code ({ cls := "ForestPackerModel", name := "isK", desc := "(I)Z" } : Jvm.MethodName) prog_6_method_4_code (1 : Nat) (Option.some Jvm.ClassFile.FieldType.boolean)) ∈ gw_T := gw_of 384 (by decide +kernel) (by decide +kernel)
theorem gw_385 : (Jvm.Cond.methodLink "ForestPackerModel" (75 : Nat) ({ cls := "ForestPackerModel", name := "hold", desc := "(I)V" } : Jvm.MethodName)) ∈ gw_T := gw_of 385 (by decide +kernel) (by decide +kernel)
theorem gw_387 : (Jvm.Cond.instanceMethod ({ cls := "ForestPackerModel", name := "hold", desc := "(I)V" } : Jvm.MethodName)) ∈ gw_T := gw_of 387 (by decide +kernel) (by decide +kernel)
theorem gw_388 : (Jvm.Cond.code ({ cls := "ForestPackerModel", name := "hold", desc := "(I)V" } : Jvm.MethodName) prog_6_method_13_code (3 : Nat) (Option.none : Option Jvm.ClassFile.FieldType)) ∈ gw_T := gw_of 388 (by decide +kernel) (by decide +kernel)
theorem gw_389 : (Jvm.Cond.methodLink "ForestPackerModel" (68 : Nat) ({ cls := "ForestPackerModel", name := "fits", desc := "(IIII)Z" } : Jvm.MethodName)) ∈ gw_T := gw_of 389 (by decide +kernel) (by decide +kernel)
theorem gw_391 : (Jvm.Cond.instanceMethod ({ cls := "ForestPackerModel", name := "fits", desc := "(IIII)Z" } : Jvm.MethodName)) ∈ gw_T := gw_of 391 (by decide +kernel) (by decide +kernel)
theorem gw_392 : (Jvm.Cond.code ({ cls := "ForestPackerModel", name := "fits", desc := "(IIII)Z" } : Jvm.MethodName) prog_6_method_12_code (6 : Nat) (Option.some Jvm.ClassFile.FieldType.boolean)) ∈ gw_T := gw_of 392 (by decide +kernel) (by decide +kernel)
theorem gw_393 : (Jvm.Cond.methodLink "ForestPackerModel" (57 : Nat) ({ cls := "ForestPackerModel", name := "within", desc := "(IIII)I" } : Jvm.MethodName)) ∈ gw_T := gw_of 393 (by decide +kernel) (by decide +kernel)
theorem gw_395 : (Jvm.Cond.instanceMethod ({ cls := "ForestPackerModel", name := "within", desc := "(IIII)I" } : Jvm.MethodName)) ∈ gw_T := gw_of 395 (by decide +kernel) (by decide +kernel)
theorem gw_396 : (Jvm.Cond.code ({ cls := "ForestPackerModel", name := "within", desc := "(IIII)I" } : Jvm.MethodName) prog_6_method_11_code (8 : Nat) (Option.some Jvm.ClassFile.FieldType.int)) ∈ gw_T := gw_of 396 (by decide +kernel) (by decide +kernel)
theorem gw_397 : (Jvm.Cond.methodLink "ForestPackerModel" (61 : Nat) ({ cls := "ForestPackerModel", name := "bitsOf", desc := "(I)I" } : Jvm.MethodName)) ∈ gw_T := gw_of 397 (by decide +kernel) (by decide +kernel)
theorem gw_398 : (Jvm.Cond.static ({ cls := "ForestPackerModel", name := "bitsOf", desc := "(I)I" } : Jvm.MethodName)) ∈ gw_T := gw_of 398 (by decide +kernel) (by decide +kernel)
theorem gw_399 : (Jvm.Cond.code ({ cls := "ForestPackerModel", name := "bitsOf", desc := "(I)I" } : Jvm.MethodName) prog_6_method_10_code (3 : Nat) (Option.some Jvm.ClassFile.FieldType.int)) ∈ gw_T := gw_of 399 (by decide +kernel) (by decide +kernel)
theorem gw_400 : (Jvm.Cond.methodLink "ForestPackerModel" (79 : Nat) ({ cls := "ForestPackerModel", name := "heldMany", desc := "()I" } : Jvm.MethodName)) ∈ gw_T := gw_of 400 (by decide +kernel) (by decide +kernel)
theorem gw_402 : (Jvm.Cond.instanceMethod ({ cls := "ForestPackerModel", name := "heldMany", desc := "()I" } : Jvm.MethodName)) ∈ gw_T := gw_of 402 (by decide +kernel) (by decide +kernel)
theorem gw_403 : (Jvm.Cond.code ({ cls := "ForestPackerModel", name := "heldMany", desc := "()I" } : Jvm.MethodName) prog_6_method_14_code (3 : Nat) (Option.some Jvm.ClassFile.FieldType.int)) ∈ gw_T := gw_of 403 (by decide +kernel) (by decide +kernel)
theorem gw_404 : (Jvm.Cond.methodLink "ForestPackerLaw" (34 : Nat) ({ cls := "ForestPackerModel", name := "held", desc := "(II)I" } : Jvm.MethodName)) ∈ gw_T := gw_of 404 (by decide +kernel) (by decide +kernel)
theorem gw_405 : (Jvm.Cond.instanceMethod ({ cls := "ForestPackerModel", name := "held", desc := "(II)I" } : Jvm.MethodName)) ∈ gw_T := gw_of 405 (by decide +kernel) (by decide +kernel)
theorem gw_406 : (Jvm.Cond.selects "ForestPackerModel" ({ cls := "ForestPackerModel", name := "held", desc := "(II)I" } : Jvm.MethodName) ({ cls := "ForestPackerModel", name := "held", desc := "(II)I" } : Jvm.MethodName)) ∈ gw_T := gw_of 406 (by decide +kernel) (by decide +kernel)
theorem gw_407 : (Jvm.Cond.code ({ cls := "ForestPackerModel", name := "held", desc := "(II)I" } : Jvm.MethodName) prog_6_method_16_code (3 : Nat) (Option.some Jvm.ClassFile.FieldType.int)) ∈ gw_T := gw_of 407 (by decide +kernel) (by decide +kernel)
theorem gw_408 : (Jvm.Cond.methodLink "ForestPackerLaw" (38 : Nat) ({ cls := "ForestPackerModel", name := "forest", desc := "(II)I" } : Jvm.MethodName)) ∈ gw_T := gw_of 408 (by decide +kernel) (by decide +kernel)
theorem gw_409 : (Jvm.Cond.instanceMethod ({ cls := "ForestPackerModel", name := "forest", desc := "(II)I" } : Jvm.MethodName)) ∈ gw_T := gw_of 409 (by decide +kernel) (by decide +kernel)
theorem gw_410 : (Jvm.Cond.selects "ForestPackerModel" ({ cls := "ForestPackerModel", name := "forest", desc := "(II)I" } : Jvm.MethodName) ({ cls := "ForestPackerModel", name := "forest", desc := "(II)I" } : Jvm.MethodName)) ∈ gw_T := gw_of 410 (by decide +kernel) (by decide +kernel)
theorem gw_411 : (Jvm.Cond.code ({ cls := "ForestPackerModel", name := "forest", desc := "(II)I" } : Jvm.MethodName) prog_6_method_22_code (3 : Nat) (Option.some Jvm.ClassFile.FieldType.int)) ∈ gw_T := gw_of 411 (by decide +kernel) (by decide +kernel)
theorem gw_412 : (Jvm.Cond.methodLink "ForestPackerModel" (97 : Nat) ({ cls := "ForestPackerModel", name := "part", desc := "(I)V" } : Jvm.MethodName)) ∈ gw_T := gw_of 412 (by decide +kernel) (by decide +kernel)
theorem gw_414 : (Jvm.Cond.instanceMethod ({ cls := "ForestPackerModel", name := "part", desc := "(I)V" } : Jvm.MethodName)) ∈ gw_T := gw_of 414 (by decide +kernel) (by decide +kernel)
theorem gw_415 : (Jvm.Cond.code ({ cls := "ForestPackerModel", name := "part", desc := "(I)V" } : Jvm.MethodName) prog_6_method_21_code (6 : Nat) (Option.none : Option Jvm.ClassFile.FieldType)) ∈ gw_T := gw_of 415 (by decide +kernel) (by decide +kernel)
theorem gw_416 : (Jvm.Cond.methodLink "ForestPackerModel" (90 : Nat) ({ cls := "ForestPackerModel", name := "place", desc := "(II)Z" } : Jvm.MethodName)) ∈ gw_T := gw_of 416 (by decide +kernel) (by decide +kernel)
theorem gw_418 : (Jvm.Cond.instanceMethod ({ cls := "ForestPackerModel", name := "place", desc := "(II)Z" } : Jvm.MethodName)) ∈ gw_T := gw_of 418 (by decide +kernel) (by decide +kernel)
theorem gw_419 : (Jvm.Cond.code ({ cls := "ForestPackerModel", name := "place", desc := "(II)Z" } : Jvm.MethodName) prog_6_method_18_code (9 : Nat) (Option.some Jvm.ClassFile.FieldType.boolean)) ∈ gw_T := gw_of 419 (by decide +kernel) (by decide +kernel)
theorem gw_420 : (Jvm.Cond.methodLink "ForestPackerModel" (82 : Nat) ({ cls := "ForestPackerModel", name := "wayIn", desc := "(II)I" } : Jvm.MethodName)) ∈ gw_T := gw_of 420 (by decide +kernel) (by decide +kernel)
theorem gw_422 : (Jvm.Cond.instanceMethod ({ cls := "ForestPackerModel", name := "wayIn", desc := "(II)I" } : Jvm.MethodName)) ∈ gw_T := gw_of 422 (by decide +kernel) (by decide +kernel)
theorem gw_423 : (Jvm.Cond.code ({ cls := "ForestPackerModel", name := "wayIn", desc := "(II)I" } : Jvm.MethodName) prog_6_method_17_code (11 : Nat) (Option.some Jvm.ClassFile.FieldType.int)) ∈ gw_T := gw_of 423 (by decide +kernel) (by decide +kernel)
theorem gw_424 : (Jvm.Cond.methodLink "ForestPackerModel" (86 : Nat) ({ cls := "ForestPackerModel", name := "shift", desc := "(III)V" } : Jvm.MethodName)) ∈ gw_T := gw_of 424 (by decide +kernel) (by decide +kernel)
theorem gw_426 : (Jvm.Cond.instanceMethod ({ cls := "ForestPackerModel", name := "shift", desc := "(III)V" } : Jvm.MethodName)) ∈ gw_T := gw_of 426 (by decide +kernel) (by decide +kernel)
theorem gw_427 : (Jvm.Cond.code ({ cls := "ForestPackerModel", name := "shift", desc := "(III)V" } : Jvm.MethodName) prog_6_method_19_code (8 : Nat) (Option.none : Option Jvm.ClassFile.FieldType)) ∈ gw_T := gw_of 427 (by decide +kernel) (by decide +kernel)
theorem gw_428 : (Jvm.Cond.methodLink "ForestPackerModel" (94 : Nat) ({ cls := "ForestPackerModel", name := "move", desc := "(III)Z" } : Jvm.MethodName)) ∈ gw_T := gw_of 428 (by decide +kernel) (by decide +kernel)
theorem gw_430 : (Jvm.Cond.instanceMethod ({ cls := "ForestPackerModel", name := "move", desc := "(III)Z" } : Jvm.MethodName)) ∈ gw_T := gw_of 430 (by decide +kernel) (by decide +kernel)
theorem gw_431 : (Jvm.Cond.code ({ cls := "ForestPackerModel", name := "move", desc := "(III)Z" } : Jvm.MethodName) prog_6_method_20_code (8 : Nat) (Option.some Jvm.ClassFile.FieldType.boolean)) ∈ gw_T := gw_of 431 (by decide +kernel) (by decide +kernel)
theorem gw_432 : (Jvm.Cond.methodLink "ForestPackerLaw" (43 : Nat) ({ cls := "ForestPackerModel", name := "why", desc := "(III)I" } : Jvm.MethodName)) ∈ gw_T := gw_of 432 (by decide +kernel) (by decide +kernel)
theorem gw_433 : (Jvm.Cond.instanceMethod ({ cls := "ForestPackerModel", name := "why", desc := "(III)I" } : Jvm.MethodName)) ∈ gw_T := gw_of 433 (by decide +kernel) (by decide +kernel)
theorem gw_434 : (Jvm.Cond.selects "ForestPackerModel" ({ cls := "ForestPackerModel", name := "why", desc := "(III)I" } : Jvm.MethodName) ({ cls := "ForestPackerModel", name := "why", desc := "(III)I" } : Jvm.MethodName)) ∈ gw_T := gw_of 434 (by decide +kernel) (by decide +kernel)
theorem gw_435 : (Jvm.Cond.code ({ cls := "ForestPackerModel", name := "why", desc := "(III)I" } : Jvm.MethodName) prog_6_method_24_code (7 : Nat) (Option.some Jvm.ClassFile.FieldType.int)) ∈ gw_T := gw_of 435 (by decide +kernel) (by decide +kernel)
theorem gw_436 : (Jvm.Cond.methodLink "ForestPackerModel" (100 : Nat) ({ cls := "ForestPackerModel", name := "whyBits", desc := "(II)I" } : Jvm.MethodName)) ∈ gw_T := gw_of 436 (by decide +kernel) (by decide +kernel)
theorem gw_438 : (Jvm.Cond.instanceMethod ({ cls := "ForestPackerModel", name := "whyBits", desc := "(II)I" } : Jvm.MethodName)) ∈ gw_T := gw_of 438 (by decide +kernel) (by decide +kernel)
theorem gw_439 : (Jvm.Cond.code ({ cls := "ForestPackerModel", name := "whyBits", desc := "(II)I" } : Jvm.MethodName) prog_6_method_23_code (5 : Nat) (Option.some Jvm.ClassFile.FieldType.int)) ∈ gw_T := gw_of 439 (by decide +kernel) (by decide +kernel)
theorem gw_440 : (Jvm.Cond.methodLink "ForestPackerLaw" (47 : Nat) ({ cls := "ForestPackerModel", name := "tight", desc := "(III)I" } : Jvm.MethodName)) ∈ gw_T := gw_of 440 (by decide +kernel) (by decide +kernel)
theorem gw_441 : (Jvm.Cond.instanceMethod ({ cls := "ForestPackerModel", name := "tight", desc := "(III)I" } : Jvm.MethodName)) ∈ gw_T := gw_of 441 (by decide +kernel) (by decide +kernel)
theorem gw_442 : (Jvm.Cond.selects "ForestPackerModel" ({ cls := "ForestPackerModel", name := "tight", desc := "(III)I" } : Jvm.MethodName) ({ cls := "ForestPackerModel", name := "tight", desc := "(III)I" } : Jvm.MethodName)) ∈ gw_T := gw_of 442 (by decide +kernel) (by decide +kernel)
theorem gw_443 : (Jvm.Cond.code ({ cls := "ForestPackerModel", name := "tight", desc := "(III)I" } : Jvm.MethodName) prog_6_method_26_code (4 : Nat) (Option.some Jvm.ClassFile.FieldType.int)) ∈ gw_T := gw_of 443 (by decide +kernel) (by decide +kernel)
theorem gw_444 : (Jvm.Cond.methodLink "ForestPackerModel" (103 : Nat) ({ cls := "ForestPackerModel", name := "isTight", desc := "(III)Z" } : Jvm.MethodName)) ∈ gw_T := gw_of 444 (by decide +kernel) (by decide +kernel)
theorem gw_446 : (Jvm.Cond.instanceMethod ({ cls := "ForestPackerModel", name := "isTight", desc := "(III)Z" } : Jvm.MethodName)) ∈ gw_T := gw_of 446 (by decide +kernel) (by decide +kernel)
theorem gw_447 : (Jvm.Cond.code ({ cls := "ForestPackerModel", name := "isTight", desc := "(III)Z" } : Jvm.MethodName) prog_6_method_25_code (4 : Nat) (Option.some Jvm.ClassFile.FieldType.boolean)) ∈ gw_T := gw_of 447 (by decide +kernel) (by decide +kernel)
theorem gw_448 : (Jvm.Cond.methodLink "ForestPackerLaw" (51 : Nat) ({ cls := "ForestPackerModel", name := "classes", desc := "(I)I" } : Jvm.MethodName)) ∈ gw_T := gw_of 448 (by decide +kernel) (by decide +kernel)
theorem gw_449 : (Jvm.Cond.instanceMethod ({ cls := "ForestPackerModel", name := "classes", desc := "(I)I" } : Jvm.MethodName)) ∈ gw_T := gw_of 449 (by decide +kernel) (by decide +kernel)
theorem gw_450 : (Jvm.Cond.selects "ForestPackerModel" ({ cls := "ForestPackerModel", name := "classes", desc := "(I)I" } : Jvm.MethodName) ({ cls := "ForestPackerModel", name := "classes", desc := "(I)I" } : Jvm.MethodName)) ∈ gw_T := gw_of 450 (by decide +kernel) (by decide +kernel)
theorem gw_451 : (Jvm.Cond.code ({ cls := "ForestPackerModel", name := "classes", desc := "(I)I" } : Jvm.MethodName) prog_6_method_27_code (6 : Nat) (Option.some Jvm.ClassFile.FieldType.int)) ∈ gw_T := gw_of 451 (by decide +kernel) (by decide +kernel)
theorem gw_452 : (Jvm.Cond.methodLink "ForestPackerLaw" (55 : Nat) ({ cls := "ForestPackerModel", name := "crossing", desc := "(I)I" } : Jvm.MethodName)) ∈ gw_T := gw_of 452 (by decide +kernel) (by decide +kernel)
theorem gw_453 : (Jvm.Cond.instanceMethod ({ cls := "ForestPackerModel", name := "crossing", desc := "(I)I" } : Jvm.MethodName)) ∈ gw_T := gw_of 453 (by decide +kernel) (by decide +kernel)
theorem gw_454 : (Jvm.Cond.selects "ForestPackerModel" ({ cls := "ForestPackerModel", name := "crossing", desc := "(I)I" } : Jvm.MethodName) ({ cls := "ForestPackerModel", name := "crossing", desc := "(I)I" } : Jvm.MethodName)) ∈ gw_T := gw_of 454 (by decide +kernel) (by decide +kernel)
theorem gw_455 : (Jvm.Cond.code ({ cls := "ForestPackerModel", name := "crossing", desc := "(I)I" } : Jvm.MethodName) prog_6_method_28_code (4 : Nat) (Option.some Jvm.ClassFile.FieldType.int)) ∈ gw_T := gw_of 455 (by decide +kernel) (by decide +kernel)
theorem gw_456 : (Jvm.Cond.methodLink "ForestPackerLaw" (60 : Nat) ({ cls := "ForestPackerModel", name := "arboricity", desc := "()I" } : Jvm.MethodName)) ∈ gw_T := gw_of 456 (by decide +kernel) (by decide +kernel)
theorem gw_457 : (Jvm.Cond.instanceMethod ({ cls := "ForestPackerModel", name := "arboricity", desc := "()I" } : Jvm.MethodName)) ∈ gw_T := gw_of 457 (by decide +kernel) (by decide +kernel)
theorem gw_458 : (Jvm.Cond.selects "ForestPackerModel" ({ cls := "ForestPackerModel", name := "arboricity", desc := "()I" } : Jvm.MethodName) ({ cls := "ForestPackerModel", name := "arboricity", desc := "()I" } : Jvm.MethodName)) ∈ gw_T := gw_of 458 (by decide +kernel) (by decide +kernel)
theorem gw_459 : (Jvm.Cond.code ({ cls := "ForestPackerModel", name := "arboricity", desc := "()I" } : Jvm.MethodName) prog_6_method_29_code (3 : Nat) (Option.some Jvm.ClassFile.FieldType.int)) ∈ gw_T := gw_of 459 (by decide +kernel) (by decide +kernel)
theorem gw_460 : (Jvm.Cond.methodLink "ForestPackerModel" (106 : Nat) ({ cls := "ForestPackerModel", name := "most", desc := "(I)I" } : Jvm.MethodName)) ∈ gw_T := gw_of 460 (by decide +kernel) (by decide +kernel)
theorem gw_461 : (Jvm.Cond.methodLink "ForestPackerLaw" (64 : Nat) ({ cls := "ForestPackerModel", name := "dense", desc := "()I" } : Jvm.MethodName)) ∈ gw_T := gw_of 461 (by decide +kernel) (by decide +kernel)
theorem gw_462 : (Jvm.Cond.instanceMethod ({ cls := "ForestPackerModel", name := "dense", desc := "()I" } : Jvm.MethodName)) ∈ gw_T := gw_of 462 (by decide +kernel) (by decide +kernel)
theorem gw_463 : (Jvm.Cond.selects "ForestPackerModel" ({ cls := "ForestPackerModel", name := "dense", desc := "()I" } : Jvm.MethodName) ({ cls := "ForestPackerModel", name := "dense", desc := "()I" } : Jvm.MethodName)) ∈ gw_T := gw_of 463 (by decide +kernel) (by decide +kernel)
theorem gw_464 : (Jvm.Cond.code ({ cls := "ForestPackerModel", name := "dense", desc := "()I" } : Jvm.MethodName) prog_6_method_30_code (6 : Nat) (Option.some Jvm.ClassFile.FieldType.int)) ∈ gw_T := gw_of 464 (by decide +kernel) (by decide +kernel)
theorem gw_465 : (Jvm.Cond.methodLink "ForestPackerModel" (109 : Nat) ({ cls := "ForestPackerModel", name := "arboricity", desc := "()I" } : Jvm.MethodName)) ∈ gw_T := gw_of 465 (by decide +kernel) (by decide +kernel)
theorem gw_466 : (Jvm.Cond.methodLink "ForestPackerLaw" (68 : Nat) ({ cls := "ForestPackerModel", name := "spanning", desc := "()I" } : Jvm.MethodName)) ∈ gw_T := gw_of 466 (by decide +kernel) (by decide +kernel)
theorem gw_467 : (Jvm.Cond.instanceMethod ({ cls := "ForestPackerModel", name := "spanning", desc := "()I" } : Jvm.MethodName)) ∈ gw_T := gw_of 467 (by decide +kernel) (by decide +kernel)
theorem gw_468 : (Jvm.Cond.selects "ForestPackerModel" ({ cls := "ForestPackerModel", name := "spanning", desc := "()I" } : Jvm.MethodName) ({ cls := "ForestPackerModel", name := "spanning", desc := "()I" } : Jvm.MethodName)) ∈ gw_T := gw_of 468 (by decide +kernel) (by decide +kernel)
theorem gw_469 : (Jvm.Cond.code ({ cls := "ForestPackerModel", name := "spanning", desc := "()I" } : Jvm.MethodName) prog_6_method_31_code (2 : Nat) (Option.some Jvm.ClassFile.FieldType.int)) ∈ gw_T := gw_of 469 (by decide +kernel) (by decide +kernel)
theorem gw_470 : (Jvm.Cond.methodLink "ForestPackerLaw" (72 : Nat) ({ cls := "ForestPackerModel", name := "told", desc := "(II)I" } : Jvm.MethodName)) ∈ gw_T := gw_of 470 (by decide +kernel) (by decide +kernel)
theorem gw_471 : (Jvm.Cond.instanceMethod ({ cls := "ForestPackerModel", name := "told", desc := "(II)I" } : Jvm.MethodName)) ∈ gw_T := gw_of 471 (by decide +kernel) (by decide +kernel)
theorem gw_472 : (Jvm.Cond.selects "ForestPackerModel" ({ cls := "ForestPackerModel", name := "told", desc := "(II)I" } : Jvm.MethodName) ({ cls := "ForestPackerModel", name := "told", desc := "(II)I" } : Jvm.MethodName)) ∈ gw_T := gw_of 472 (by decide +kernel) (by decide +kernel)
theorem gw_473 : (Jvm.Cond.code ({ cls := "ForestPackerModel", name := "told", desc := "(II)I" } : Jvm.MethodName) prog_6_method_32_code (5 : Nat) (Option.some Jvm.ClassFile.FieldType.int)) ∈ gw_T := gw_of 473 (by decide +kernel) (by decide +kernel)
