section
-- ===== PART A: goes FIRST, ahead of the names: the tables' words, and 'selects' of the private methods out of them =====
/-- a private method of a class that the tables say can be made, by its rows of tables_1 -/
def lw_okq (q : MethodName × Nat) : Prop := (q.1.cls ≠ "java/lang/invoke/MethodHandle" ∧ q.1.cls ≠ "java/lang/invoke/VarHandle") ∧ Cond.instantiable q.1.cls q.2 ∈ tables_1 ∧ Cond.privateMethod q.1 ∈ tables_1 ∧ Cond.instanceMethod q.1 ∈ tables_1
theorem lw_p0 : lw_okq (⟨"ForestPacker", "forgetPackings", "()V"⟩, 2) := ⟨⟨by decide +kernel, by decide +kernel⟩, List.mem_of_getElem? (i := 10) (by decide +kernel), List.mem_of_getElem? (i := 129) (by decide +kernel), List.mem_of_getElem? (i := 130) (by decide +kernel)⟩
theorem lw_p1 : lw_okq (⟨"ForestPacker", "packed", "(I)LForestPacker$Packing;"⟩, 2) := ⟨⟨by decide +kernel, by decide +kernel⟩, List.mem_of_getElem? (i := 10) (by decide +kernel), List.mem_of_getElem? (i := 165) (by decide +kernel), List.mem_of_getElem? (i := 166) (by decide +kernel)⟩
theorem lw_p2 : lw_okq (⟨"ForestPacker$Packing", "reachFrom", "(III)Z"⟩, 12) := ⟨⟨by decide +kernel, by decide +kernel⟩, List.mem_of_getElem? (i := 45) (by decide +kernel), List.mem_of_getElem? (i := 186) (by decide +kernel), List.mem_of_getElem? (i := 187) (by decide +kernel)⟩
theorem lw_p3 : lw_okq (⟨"ForestPacker$Packing", "reach", "(II)V"⟩, 12) := ⟨⟨by decide +kernel, by decide +kernel⟩, List.mem_of_getElem? (i := 45) (by decide +kernel), List.mem_of_getElem? (i := 194) (by decide +kernel), List.mem_of_getElem? (i := 195) (by decide +kernel)⟩
theorem lw_p4 : lw_okq (⟨"ForestPacker$Packing", "takeIn", "(LForestPacker$Graph;I)V"⟩, 12) := ⟨⟨by decide +kernel, by decide +kernel⟩, List.mem_of_getElem? (i := 45) (by decide +kernel), List.mem_of_getElem? (i := 198) (by decide +kernel), List.mem_of_getElem? (i := 199) (by decide +kernel)⟩
theorem lw_p5 : lw_okq (⟨"ForestPacker$Packing", "remove", "(LForestPacker$Graph;I)V"⟩, 12) := ⟨⟨by decide +kernel, by decide +kernel⟩, List.mem_of_getElem? (i := 45) (by decide +kernel), List.mem_of_getElem? (i := 202) (by decide +kernel), List.mem_of_getElem? (i := 203) (by decide +kernel)⟩
theorem lw_p6 : lw_okq (⟨"ForestPacker$Packing", "put", "(LForestPacker$Graph;II)V"⟩, 12) := ⟨⟨by decide +kernel, by decide +kernel⟩, List.mem_of_getElem? (i := 45) (by decide +kernel), List.mem_of_getElem? (i := 210) (by decide +kernel), List.mem_of_getElem? (i := 211) (by decide +kernel)⟩
theorem lw_p7 : lw_okq (⟨"ForestPacker$Packing", "movesTo", "(LForestPacker$Graph;II)Z"⟩, 12) := ⟨⟨by decide +kernel, by decide +kernel⟩, List.mem_of_getElem? (i := 45) (by decide +kernel), List.mem_of_getElem? (i := 230) (by decide +kernel), List.mem_of_getElem? (i := 231) (by decide +kernel)⟩
theorem lw_p8 : lw_okq (⟨"ForestPackerModel", "many", "()I"⟩, 11) := ⟨⟨by decide +kernel, by decide +kernel⟩, List.mem_of_getElem? (i := 289) (by decide +kernel), List.mem_of_getElem? (i := 337) (by decide +kernel), List.mem_of_getElem? (i := 338) (by decide +kernel)⟩
theorem lw_p9 : lw_okq (⟨"ForestPackerModel", "isVertex", "(I)Z"⟩, 11) := ⟨⟨by decide +kernel, by decide +kernel⟩, List.mem_of_getElem? (i := 289) (by decide +kernel), List.mem_of_getElem? (i := 345) (by decide +kernel), List.mem_of_getElem? (i := 346) (by decide +kernel)⟩
theorem lw_p10 : lw_okq (⟨"ForestPackerModel", "has", "(I)Z"⟩, 11) := ⟨⟨by decide +kernel, by decide +kernel⟩, List.mem_of_getElem? (i := 289) (by decide +kernel), List.mem_of_getElem? (i := 353) (by decide +kernel), List.mem_of_getElem? (i := 354) (by decide +kernel)⟩
theorem lw_p11 : lw_okq (⟨"ForestPackerModel", "hold", "(I)V"⟩, 11) := ⟨⟨by decide +kernel, by decide +kernel⟩, List.mem_of_getElem? (i := 289) (by decide +kernel), List.mem_of_getElem? (i := 364) (by decide +kernel), List.mem_of_getElem? (i := 365) (by decide +kernel)⟩
theorem lw_p12 : lw_okq (⟨"ForestPackerModel", "fits", "(IIII)Z"⟩, 11) := ⟨⟨by decide +kernel, by decide +kernel⟩, List.mem_of_getElem? (i := 289) (by decide +kernel), List.mem_of_getElem? (i := 368) (by decide +kernel), List.mem_of_getElem? (i := 369) (by decide +kernel)⟩
theorem lw_p13 : lw_okq (⟨"ForestPackerModel", "within", "(IIII)I"⟩, 11) := ⟨⟨by decide +kernel, by decide +kernel⟩, List.mem_of_getElem? (i := 289) (by decide +kernel), List.mem_of_getElem? (i := 372) (by decide +kernel), List.mem_of_getElem? (i := 373) (by decide +kernel)⟩
theorem lw_p14 : lw_okq (⟨"ForestPackerModel", "heldMany", "()I"⟩, 11) := ⟨⟨by decide +kernel, by decide +kernel⟩, List.mem_of_getElem? (i := 289) (by decide +kernel), List.mem_of_getElem? (i := 379) (by decide +kernel), List.mem_of_getElem? (i := 380) (by decide +kernel)⟩
theorem lw_p15 : lw_okq (⟨"ForestPackerModel", "part", "(I)V"⟩, 11) := ⟨⟨by decide +kernel, by decide +kernel⟩, List.mem_of_getElem? (i := 289) (by decide +kernel), List.mem_of_getElem? (i := 391) (by decide +kernel), List.mem_of_getElem? (i := 392) (by decide +kernel)⟩
def lw_privs_1 : List (MethodName × Nat) := [(⟨"ForestPacker", "forgetPackings", "()V"⟩, 2), (⟨"ForestPacker", "packed", "(I)LForestPacker$Packing;"⟩, 2), (⟨"ForestPacker$Packing", "reachFrom", "(III)Z"⟩, 12), (⟨"ForestPacker$Packing", "reach", "(II)V"⟩, 12), (⟨"ForestPacker$Packing", "takeIn", "(LForestPacker$Graph;I)V"⟩, 12), (⟨"ForestPacker$Packing", "remove", "(LForestPacker$Graph;I)V"⟩, 12), (⟨"ForestPacker$Packing", "put", "(LForestPacker$Graph;II)V"⟩, 12), (⟨"ForestPacker$Packing", "movesTo", "(LForestPacker$Graph;II)Z"⟩, 12), (⟨"ForestPackerModel", "many", "()I"⟩, 11), (⟨"ForestPackerModel", "isVertex", "(I)Z"⟩, 11), (⟨"ForestPackerModel", "has", "(I)Z"⟩, 11), (⟨"ForestPackerModel", "hold", "(I)V"⟩, 11), (⟨"ForestPackerModel", "fits", "(IIII)Z"⟩, 11), (⟨"ForestPackerModel", "within", "(IIII)I"⟩, 11), (⟨"ForestPackerModel", "heldMany", "()I"⟩, 11), (⟨"ForestPackerModel", "part", "(I)V"⟩, 11)]
theorem lw_r1 : ∀ q ∈ lw_privs_1, lw_okq q := List.forall_mem_cons.mpr ⟨lw_p0, List.forall_mem_cons.mpr ⟨lw_p1, List.forall_mem_cons.mpr ⟨lw_p2, List.forall_mem_cons.mpr ⟨lw_p3, List.forall_mem_cons.mpr ⟨lw_p4, List.forall_mem_cons.mpr ⟨lw_p5, List.forall_mem_cons.mpr ⟨lw_p6, List.forall_mem_cons.mpr ⟨lw_p7, List.forall_mem_cons.mpr ⟨lw_p8, List.forall_mem_cons.mpr ⟨lw_p9, List.forall_mem_cons.mpr ⟨lw_p10, List.forall_mem_cons.mpr ⟨lw_p11, List.forall_mem_cons.mpr ⟨lw_p12, List.forall_mem_cons.mpr ⟨lw_p13, List.forall_mem_cons.mpr ⟨lw_p14, List.forall_mem_cons.mpr ⟨lw_p15, fun _ h => absurd h List.not_mem_nil⟩⟩⟩⟩⟩⟩⟩⟩⟩⟩⟩⟩⟩⟩⟩⟩
theorem lw_p16 : lw_okq (⟨"ForestPackerModel", "place", "(II)Z"⟩, 11) := ⟨⟨by decide +kernel, by decide +kernel⟩, List.mem_of_getElem? (i := 289) (by decide +kernel), List.mem_of_getElem? (i := 395) (by decide +kernel), List.mem_of_getElem? (i := 396) (by decide +kernel)⟩
theorem lw_p17 : lw_okq (⟨"ForestPackerModel", "wayIn", "(II)I"⟩, 11) := ⟨⟨by decide +kernel, by decide +kernel⟩, List.mem_of_getElem? (i := 289) (by decide +kernel), List.mem_of_getElem? (i := 399) (by decide +kernel), List.mem_of_getElem? (i := 400) (by decide +kernel)⟩
theorem lw_p18 : lw_okq (⟨"ForestPackerModel", "shift", "(III)V"⟩, 11) := ⟨⟨by decide +kernel, by decide +kernel⟩, List.mem_of_getElem? (i := 289) (by decide +kernel), List.mem_of_getElem? (i := 403) (by decide +kernel), List.mem_of_getElem? (i := 404) (by decide +kernel)⟩
theorem lw_p19 : lw_okq (⟨"ForestPackerModel", "move", "(III)Z"⟩, 11) := ⟨⟨by decide +kernel, by decide +kernel⟩, List.mem_of_getElem? (i := 289) (by decide +kernel), List.mem_of_getElem? (i := 407) (by decide +kernel), List.mem_of_getElem? (i := 408) (by decide +kernel)⟩
theorem lw_p20 : lw_okq (⟨"ForestPackerModel", "whyBits", "(II)I"⟩, 11) := ⟨⟨by decide +kernel, by decide +kernel⟩, List.mem_of_getElem? (i := 289) (by decide +kernel), List.mem_of_getElem? (i := 415) (by decide +kernel), List.mem_of_getElem? (i := 416) (by decide +kernel)⟩
theorem lw_p21 : lw_okq (⟨"ForestPackerModel", "isTight", "(III)Z"⟩, 11) := ⟨⟨by decide +kernel, by decide +kernel⟩, List.mem_of_getElem? (i := 289) (by decide +kernel), List.mem_of_getElem? (i := 423) (by decide +kernel), List.mem_of_getElem? (i := 424) (by decide +kernel)⟩
def lw_privs_2 : List (MethodName × Nat) := [(⟨"ForestPackerModel", "place", "(II)Z"⟩, 11), (⟨"ForestPackerModel", "wayIn", "(II)I"⟩, 11), (⟨"ForestPackerModel", "shift", "(III)V"⟩, 11), (⟨"ForestPackerModel", "move", "(III)Z"⟩, 11), (⟨"ForestPackerModel", "whyBits", "(II)I"⟩, 11), (⟨"ForestPackerModel", "isTight", "(III)Z"⟩, 11)]
theorem lw_r2 : ∀ q ∈ lw_privs_2, lw_okq q := List.forall_mem_cons.mpr ⟨lw_p16, List.forall_mem_cons.mpr ⟨lw_p17, List.forall_mem_cons.mpr ⟨lw_p18, List.forall_mem_cons.mpr ⟨lw_p19, List.forall_mem_cons.mpr ⟨lw_p20, List.forall_mem_cons.mpr ⟨lw_p21, fun _ h => absurd h List.not_mem_nil⟩⟩⟩⟩⟩⟩
def lw_privs : List (MethodName × Nat) := lw_privs_1 ++ (lw_privs_2)
def lw_tbl : List Cond := k2_sels lw_privs ++ tables_1
theorem lw_privs_ok : ∀ q ∈ lw_privs, lw_okq q := by
  show ∀ q ∈ lw_privs_1 ++ (lw_privs_2), lw_okq q
  exact List.forall_mem_append.mpr ⟨lw_r1, lw_r2⟩
end
section
/-! ===== BEGIN printed: names, fields, word lists, decode rows ===== -/
def RX0 : String := "ForestPacker$Graph"
def TX0 : u_T := fun k => match k with
  | 0 => ("ForestPacker$Graph", "lesser", "[I", true)
  | 1 => ("ForestPacker$Graph", "greater", "[I", true)
  | 2 => ("ForestPacker$Graph", "present", "I", false)
  | _ => ("ForestPacker$Graph", "vertices", "I", false)
def tyX0 : Nat → FieldType := fun k => match k with
  | 0 => .array .int
  | 1 => .array .int
  | 2 => .int
  | _ => .int
abbrev wsX00 : List Cond := u_ws RX0 TX0 4
theorem nmX0 : ∀ a, a < 4 → ∀ b, b < 4 → a ≠ b → (TX0 a).2.1 ≠ (TX0 b).2.1 := by decide +kernel
theorem tyX0_ok : ∀ k, k < 4 → parseFieldDescriptor (TX0 k).2.2.1 = some (tyX0 k) := by decide +kernel
abbrev cX0_init : ByteArray := prog_2_method_1_code
def yX0_init : MethodName := ⟨RX0, "<init>", "()V"⟩
abbrev cX0_hasVertex : ByteArray := prog_2_method_2_code
def yX0_hasVertex : MethodName := ⟨RX0, "hasVertex", "(I)Z"⟩
abbrev cX0_hasEdge : ByteArray := prog_2_method_3_code
def yX0_hasEdge : MethodName := ⟨RX0, "hasEdge", "(I)Z"⟩
abbrev cX0_edgeCount : ByteArray := prog_2_method_4_code
def yX0_edgeCount : MethodName := ⟨RX0, "edgeCount", "()I"⟩
abbrev cX0_leastFree : ByteArray := prog_2_method_5_code
def yX0_leastFree : MethodName := ⟨RX0, "leastFree", "()I"⟩
abbrev cX0_edgesAmong : ByteArray := prog_2_method_6_code
def yX0_edgesAmong : MethodName := ⟨RX0, "edgesAmong", "(I)I"⟩
abbrev cX0_verticesOf : ByteArray := prog_2_method_7_code
def yX0_verticesOf : MethodName := ⟨RX0, "verticesOf", "(I)I"⟩
def RX1 : String := "ForestPacker$Packing"
def TX1 : u_T := fun k => match k with
  | 0 => ("ForestPacker$Packing", "place", "[I", true)
  | 1 => ("ForestPacker$Packing", "size", "I", false)
  | 2 => ("ForestPacker$Packing", "isPacked", "Z", false)
  | 3 => ("ForestPacker$Packing", "forests", "[LForestPacker$RootedForest;", true)
  | 4 => ("ForestPacker$Packing", "isSettled", "Z", false)
  | 5 => ("ForestPacker$Packing", "fixed", "I", false)
  | 6 => ("ForestPacker$Packing", "reached", "I", false)
  | 7 => ("ForestPacker$Packing", "queue", "[I", true)
  | 8 => ("ForestPacker$Packing", "queued", "I", false)
  | 9 => ("ForestPacker$Packing", "follower", "[I", true)
  | 10 => ("ForestPacker$Packing", "lastMoved", "I", false)
  | _ => ("ForestPacker$Packing", "room", "I", false)
def tyX1 : Nat → FieldType := fun k => match k with
  | 0 => .array .int
  | 1 => .int
  | 2 => .boolean
  | 3 => .array (.object "ForestPacker$RootedForest")
  | 4 => .boolean
  | 5 => .int
  | 6 => .int
  | 7 => .array .int
  | 8 => .int
  | 9 => .array .int
  | 10 => .int
  | _ => .int
abbrev wsX10 : List Cond := u_ws RX1 TX1 12
theorem nmX1 : ∀ a, a < 12 → ∀ b, b < 12 → a ≠ b → (TX1 a).2.1 ≠ (TX1 b).2.1 := by decide +kernel
theorem tyX1_ok : ∀ k, k < 12 → parseFieldDescriptor (TX1 k).2.2.1 = some (tyX1 k) := by decide +kernel
abbrev cX1_init : ByteArray := prog_3_method_1_code
def yX1_init : MethodName := ⟨RX1, "<init>", "(I)V"⟩
abbrev cX1_pack : ByteArray := prog_3_method_2_code
def yX1_pack : MethodName := ⟨RX1, "pack", "(LForestPacker$Graph;)V"⟩
abbrev cX1_settle : ByteArray := prog_3_method_3_code
def yX1_settle : MethodName := ⟨RX1, "settle", "(LForestPacker$Graph;)V"⟩
abbrev cX1_movesTo : ByteArray := prog_3_method_4_code
def yX1_movesTo : MethodName := ⟨RX1, "movesTo", "(LForestPacker$Graph;II)Z"⟩
abbrev cX1_reason : ByteArray := prog_3_method_5_code
def yX1_reason : MethodName := ⟨RX1, "reason", "(LForestPacker$Graph;I)I"⟩
abbrev cX1_isFirstOfClass : ByteArray := prog_3_method_6_code
def yX1_isFirstOfClass : MethodName := ⟨RX1, "isFirstOfClass", "(LForestPacker$Graph;I)Z"⟩
abbrev cX1_findRoom : ByteArray := prog_3_method_7_code
def yX1_findRoom : MethodName := ⟨RX1, "findRoom", "(LForestPacker$Graph;II)Z"⟩
abbrev cX1_reachFrom : ByteArray := prog_3_method_8_code
def yX1_reachFrom : MethodName := ⟨RX1, "reachFrom", "(III)Z"⟩
abbrev cX1_reach : ByteArray := prog_3_method_9_code
def yX1_reach : MethodName := ⟨RX1, "reach", "(II)V"⟩
abbrev cX1_takeIn : ByteArray := prog_3_method_10_code
def yX1_takeIn : MethodName := ⟨RX1, "takeIn", "(LForestPacker$Graph;I)V"⟩
abbrev cX1_put : ByteArray := prog_3_method_11_code
def yX1_put : MethodName := ⟨RX1, "put", "(LForestPacker$Graph;II)V"⟩
abbrev cX1_remove : ByteArray := prog_3_method_12_code
def yX1_remove : MethodName := ⟨RX1, "remove", "(LForestPacker$Graph;I)V"⟩
abbrev cX1_leastOf : ByteArray := prog_3_method_13_code
def yX1_leastOf : MethodName := ⟨RX1, "leastOf", "(I)I"⟩
def RX2 : String := "ForestPacker$RootedForest"
def TX2 : u_T := fun k => match k with
  | 0 => ("ForestPacker$RootedForest", "parent", "[I", true)
  | _ => ("ForestPacker$RootedForest", "edgeUp", "[I", true)
def tyX2 : Nat → FieldType := fun k => match k with
  | 0 => .array .int
  | _ => .array .int
abbrev wsX20 : List Cond := u_ws RX2 TX2 2
theorem nmX2 : ∀ a, a < 2 → ∀ b, b < 2 → a ≠ b → (TX2 a).2.1 ≠ (TX2 b).2.1 := by decide +kernel
theorem tyX2_ok : ∀ k, k < 2 → parseFieldDescriptor (TX2 k).2.2.1 = some (tyX2 k) := by decide +kernel
abbrev cX2_init : ByteArray := prog_4_method_1_code
def yX2_init : MethodName := ⟨RX2, "<init>", "()V"⟩
abbrev cX2_clear : ByteArray := prog_4_method_2_code
def yX2_clear : MethodName := ⟨RX2, "clear", "()V"⟩
abbrev cX2_way : ByteArray := prog_4_method_3_code
def yX2_way : MethodName := ⟨RX2, "way", "(II)I"⟩
abbrev cX2_link : ByteArray := prog_4_method_4_code
def yX2_link : MethodName := ⟨RX2, "link", "(III)V"⟩
abbrev cX2_unlink : ByteArray := prog_4_method_5_code
def yX2_unlink : MethodName := ⟨RX2, "unlink", "(III)V"⟩
def RX3 : String := "ForestPacker"
def TX3 : u_T := fun k => match k with
  | 0 => ("ForestPacker", "graph", "LForestPacker$Graph;", true)
  | _ => ("ForestPacker", "packings", "[LForestPacker$Packing;", true)
def tyX3 : Nat → FieldType := fun k => match k with
  | 0 => .object "ForestPacker$Graph"
  | _ => .array (.object "ForestPacker$Packing")
abbrev wsX30 : List Cond := u_ws RX3 TX3 2
theorem nmX3 : ∀ a, a < 2 → ∀ b, b < 2 → a ≠ b → (TX3 a).2.1 ≠ (TX3 b).2.1 := by decide +kernel
theorem tyX3_ok : ∀ k, k < 2 → parseFieldDescriptor (TX3 k).2.2.1 = some (tyX3 k) := by decide +kernel
abbrev cX3_init : ByteArray := prog_1_method_1_code
def yX3_init : MethodName := ⟨RX3, "<init>", "()V"⟩
abbrev cX3_begin : ByteArray := prog_1_method_2_code
def yX3_begin : MethodName := ⟨RX3, "begin", "(I)I"⟩
abbrev cX3_join : ByteArray := prog_1_method_3_code
def yX3_join : MethodName := ⟨RX3, "join", "(II)I"⟩
abbrev cX3_cut : ByteArray := prog_1_method_4_code
def yX3_cut : MethodName := ⟨RX3, "cut", "(I)I"⟩
abbrev cX3_most : ByteArray := prog_1_method_5_code
def yX3_most : MethodName := ⟨RX3, "most", "(I)I"⟩
abbrev cX3_held : ByteArray := prog_1_method_6_code
def yX3_held : MethodName := ⟨RX3, "held", "(II)I"⟩
abbrev cX3_forest : ByteArray := prog_1_method_7_code
def yX3_forest : MethodName := ⟨RX3, "forest", "(II)I"⟩
abbrev cX3_why : ByteArray := prog_1_method_8_code
def yX3_why : MethodName := ⟨RX3, "why", "(III)I"⟩
abbrev cX3_tight : ByteArray := prog_1_method_9_code
def yX3_tight : MethodName := ⟨RX3, "tight", "(III)I"⟩
abbrev cX3_classes : ByteArray := prog_1_method_10_code
def yX3_classes : MethodName := ⟨RX3, "classes", "(I)I"⟩
abbrev cX3_crossing : ByteArray := prog_1_method_11_code
def yX3_crossing : MethodName := ⟨RX3, "crossing", "(I)I"⟩
abbrev cX3_arboricity : ByteArray := prog_1_method_12_code
def yX3_arboricity : MethodName := ⟨RX3, "arboricity", "()I"⟩
abbrev cX3_dense : ByteArray := prog_1_method_13_code
def yX3_dense : MethodName := ⟨RX3, "dense", "()I"⟩
abbrev cX3_spanning : ByteArray := prog_1_method_14_code
def yX3_spanning : MethodName := ⟨RX3, "spanning", "()I"⟩
abbrev cX3_told : ByteArray := prog_1_method_15_code
def yX3_told : MethodName := ⟨RX3, "told", "(II)I"⟩
abbrev cX3_isForestCount : ByteArray := prog_1_method_16_code
def yX3_isForestCount : MethodName := ⟨RX3, "isForestCount", "(I)Z"⟩
abbrev cX3_forgetPackings : ByteArray := prog_1_method_17_code
def yX3_forgetPackings : MethodName := ⟨RX3, "forgetPackings", "()V"⟩
abbrev cX3_packed : ByteArray := prog_1_method_18_code
def yX3_packed : MethodName := ⟨RX3, "packed", "(I)LForestPacker$Packing;"⟩
def RX4 : String := "ForestPackerModel"
def TX4 : u_T := fun k => match k with
  | 0 => ("ForestPackerModel", "n", "I", false)
  | 1 => ("ForestPackerModel", "ends", "[I", true)
  | 2 => ("ForestPackerModel", "isEdge", "[Z", true)
  | 3 => ("ForestPackerModel", "heldBits", "I", false)
  | 4 => ("ForestPackerModel", "forestOf", "[I", true)
  | 5 => ("ForestPackerModel", "isFixed", "[Z", true)
  | 6 => ("ForestPackerModel", "queue", "[I", true)
  | 7 => ("ForestPackerModel", "cameFrom", "[I", true)
  | 8 => ("ForestPackerModel", "cameTo", "[I", true)
  | 9 => ("ForestPackerModel", "lifted", "[I", true)
  | _ => ("ForestPackerModel", "saved", "[I", true)
def tyX4 : Nat → FieldType := fun k => match k with
  | 0 => .int
  | 1 => .array .int
  | 2 => .array .boolean
  | 3 => .int
  | 4 => .array .int
  | 5 => .array .boolean
  | 6 => .array .int
  | 7 => .array .int
  | 8 => .array .int
  | 9 => .array .int
  | _ => .array .int
abbrev wsX40 : List Cond := u_ws RX4 TX4 11
theorem nmX4 : ∀ a, a < 11 → ∀ b, b < 11 → a ≠ b → (TX4 a).2.1 ≠ (TX4 b).2.1 := by decide +kernel
theorem tyX4_ok : ∀ k, k < 11 → parseFieldDescriptor (TX4 k).2.2.1 = some (tyX4 k) := by decide +kernel
abbrev cX4_init : ByteArray := prog_6_method_1_code
def yX4_init : MethodName := ⟨RX4, "<init>", "()V"⟩
abbrev cX4_in : ByteArray := prog_6_method_2_code
def yX4_in : MethodName := ⟨RX4, "in", "(III)Z"⟩
abbrev cX4_has : ByteArray := prog_6_method_3_code
def yX4_has : MethodName := ⟨RX4, "has", "(I)Z"⟩
abbrev cX4_isK : ByteArray := prog_6_method_4_code
def yX4_isK : MethodName := ⟨RX4, "isK", "(I)Z"⟩
abbrev cX4_many : ByteArray := prog_6_method_5_code
def yX4_many : MethodName := ⟨RX4, "many", "()I"⟩
abbrev cX4_begin : ByteArray := prog_6_method_6_code
def yX4_begin : MethodName := ⟨RX4, "begin", "(I)I"⟩
abbrev cX4_isVertex : ByteArray := prog_6_method_7_code
def yX4_isVertex : MethodName := ⟨RX4, "isVertex", "(I)Z"⟩
abbrev cX4_join : ByteArray := prog_6_method_8_code
def yX4_join : MethodName := ⟨RX4, "join", "(II)I"⟩
abbrev cX4_cut : ByteArray := prog_6_method_9_code
def yX4_cut : MethodName := ⟨RX4, "cut", "(I)I"⟩
abbrev cX4_bitsOf : ByteArray := prog_6_method_10_code
def yX4_bitsOf : MethodName := ⟨RX4, "bitsOf", "(I)I"⟩
abbrev cX4_within : ByteArray := prog_6_method_11_code
def yX4_within : MethodName := ⟨RX4, "within", "(IIII)I"⟩
abbrev cX4_fits : ByteArray := prog_6_method_12_code
def yX4_fits : MethodName := ⟨RX4, "fits", "(IIII)Z"⟩
abbrev cX4_hold : ByteArray := prog_6_method_13_code
def yX4_hold : MethodName := ⟨RX4, "hold", "(I)V"⟩
abbrev cX4_heldMany : ByteArray := prog_6_method_14_code
def yX4_heldMany : MethodName := ⟨RX4, "heldMany", "()I"⟩
abbrev cX4_most : ByteArray := prog_6_method_15_code
def yX4_most : MethodName := ⟨RX4, "most", "(I)I"⟩
abbrev cX4_held : ByteArray := prog_6_method_16_code
def yX4_held : MethodName := ⟨RX4, "held", "(II)I"⟩
abbrev cX4_wayIn : ByteArray := prog_6_method_17_code
def yX4_wayIn : MethodName := ⟨RX4, "wayIn", "(II)I"⟩
abbrev cX4_place : ByteArray := prog_6_method_18_code
def yX4_place : MethodName := ⟨RX4, "place", "(II)Z"⟩
abbrev cX4_shift : ByteArray := prog_6_method_19_code
def yX4_shift : MethodName := ⟨RX4, "shift", "(III)V"⟩
abbrev cX4_move : ByteArray := prog_6_method_20_code
def yX4_move : MethodName := ⟨RX4, "move", "(III)Z"⟩
abbrev cX4_part : ByteArray := prog_6_method_21_code
def yX4_part : MethodName := ⟨RX4, "part", "(I)V"⟩
abbrev cX4_forest : ByteArray := prog_6_method_22_code
def yX4_forest : MethodName := ⟨RX4, "forest", "(II)I"⟩
abbrev cX4_whyBits : ByteArray := prog_6_method_23_code
def yX4_whyBits : MethodName := ⟨RX4, "whyBits", "(II)I"⟩
abbrev cX4_why : ByteArray := prog_6_method_24_code
def yX4_why : MethodName := ⟨RX4, "why", "(III)I"⟩
abbrev cX4_isTight : ByteArray := prog_6_method_25_code
def yX4_isTight : MethodName := ⟨RX4, "isTight", "(III)Z"⟩
abbrev cX4_tight : ByteArray := prog_6_method_26_code
def yX4_tight : MethodName := ⟨RX4, "tight", "(III)I"⟩
abbrev cX4_classes : ByteArray := prog_6_method_27_code
def yX4_classes : MethodName := ⟨RX4, "classes", "(I)I"⟩
abbrev cX4_crossing : ByteArray := prog_6_method_28_code
def yX4_crossing : MethodName := ⟨RX4, "crossing", "(I)I"⟩
abbrev cX4_arboricity : ByteArray := prog_6_method_29_code
def yX4_arboricity : MethodName := ⟨RX4, "arboricity", "()I"⟩
abbrev cX4_dense : ByteArray := prog_6_method_30_code
def yX4_dense : MethodName := ⟨RX4, "dense", "()I"⟩
abbrev cX4_spanning : ByteArray := prog_6_method_31_code
def yX4_spanning : MethodName := ⟨RX4, "spanning", "()I"⟩
abbrev cX4_told : ByteArray := prog_6_method_32_code
def yX4_told : MethodName := ⟨RX4, "told", "(II)I"⟩
def RJ6 : String := "java/lang/Integer"
def TJ6 : u_T := fun k => match k with
  | _ => ("", "", "", false)
def tyJ6 : Nat → FieldType := fun k => match k with
  | _ => .int
abbrev wsJ60 : List Cond := u_ws RJ6 TJ6 0
theorem nmJ6 : ∀ a, a < 0 → ∀ b, b < 0 → a ≠ b → (TJ6 a).2.1 ≠ (TJ6 b).2.1 := by decide +kernel
theorem tyJ6_ok : ∀ k, k < 0 → parseFieldDescriptor (TJ6 k).2.2.1 = some (tyJ6 k) := by decide +kernel
abbrev cJ6_bitCount_0f7a4 : ByteArray := prog_7_method_49_code
def yJ6_bitCount_0f7a4 : MethodName := ⟨RJ6, "bitCount", "(I)I"⟩
def RJ9 : String := "java/lang/Math"
def TJ9 : u_T := fun k => match k with
  | _ => ("", "", "", false)
def tyJ9 : Nat → FieldType := fun k => match k with
  | _ => .int
abbrev wsJ90 : List Cond := u_ws RJ9 TJ9 0
theorem nmJ9 : ∀ a, a < 0 → ∀ b, b < 0 → a ≠ b → (TJ9 a).2.1 ≠ (TJ9 b).2.1 := by decide +kernel
theorem tyJ9_ok : ∀ k, k < 0 → parseFieldDescriptor (TJ9 k).2.2.1 = some (tyJ9 k) := by decide +kernel
abbrev cJ9_max_7cf53 : ByteArray := prog_8_method_65_code
def yJ9_max_7cf53 : MethodName := ⟨RJ9, "max", "(II)I"⟩
abbrev cJ9_min_7cf53 : ByteArray := prog_8_method_69_code
def yJ9_min_7cf53 : MethodName := ⟨RJ9, "min", "(II)I"⟩
def RJ7 : String := "java/util/Arrays"
def TJ7 : u_T := fun k => match k with
  | _ => ("", "", "", false)
def tyJ7 : Nat → FieldType := fun k => match k with
  | _ => .int
abbrev wsJ70 : List Cond := u_ws RJ7 TJ7 0
theorem nmJ7 : ∀ a, a < 0 → ∀ b, b < 0 → a ≠ b → (TJ7 a).2.1 ≠ (TJ7 b).2.1 := by decide +kernel
theorem tyJ7_ok : ∀ k, k < 0 → parseFieldDescriptor (TJ7 k).2.2.1 = some (tyJ7 k) := by decide +kernel
abbrev cJ7_fill_53178 : ByteArray := prog_9_method_103_code
def yJ7_fill_53178 : MethodName := ⟨RJ7, "fill", "([II)V"⟩
def RL : String := "ForestPackerLaw"
abbrev cL_law : ByteArray := code
def yL_law : MethodName := ⟨RL, "law", "([I)Z"⟩
abbrev vwCl : List vw_C := [(RX0, TX0, 4), (RX1, TX1, 12), (RX2, TX2, 2), (RX3, TX3, 2), (RX4, TX4, 11)]
/-! ONE LIST OF WORDS for every method: the tables' words that a call keeps -/
def gw_T : List Cond := lw_tbl.filter goodWord
theorem gw_of {w : Cond} (i : Nat) (h : lw_tbl[i]? = some w) (hg : goodWord w = true) : w ∈ gw_T := List.mem_filter.mpr ⟨List.mem_of_getElem? h, hg⟩
theorem gw_good {w : Cond} (h : w ∈ gw_T) : (w.onTables && w.keeps) = true ∨ ∃ ty, w = .arrayClass ty := good_of_word (List.mem_filter.mp h).2
theorem gw_in {w : Cond} (h : w ∈ gw_T) : w ∈ lw_tbl := (List.mem_filter.mp h).1
theorem gw_V {c0 : Cond} {own C : String} {idx maxL : Nat} {y : MethodName} {cc : ByteArray} {ret : Option FieldType} (h1 : Cond.methodLink own idx y ∈ gw_T) (h2 : Cond.instanceMethod y ∈ gw_T) (h3 : Cond.selects C y y ∈ gw_T) (h4 : Cond.initialized C ∈ gw_T) (h5 : Cond.code y cc maxL ret ∈ gw_T) : GoodIn (c0 :: gw_T) (wsV own idx C y (.code y cc maxL ret :: gw_T)) := by
  have hall : ∀ w ∈ wsV own idx C y (.code y cc maxL ret :: gw_T), w ∈ gw_T := by
    intro w hw
    simp only [wsV, List.mem_append, List.mem_cons, List.not_mem_nil, or_false] at hw
    rcases hw with (rfl | rfl | rfl | rfl) | rfl | hw <;> assumption
  exact fun w hw => ⟨List.mem_cons_of_mem _ (hall w hw), gw_good (hall w hw)⟩
theorem gw_S {c0 : Cond} {own : String} {idx maxL : Nat} {y : MethodName} {cc : ByteArray} {ret : Option FieldType} (h1 : Cond.methodLink own idx y ∈ gw_T) (h2 : Cond.static y ∈ gw_T) (h4 : Cond.initialized y.cls ∈ gw_T) (h5 : Cond.code y cc maxL ret ∈ gw_T) : GoodIn (c0 :: gw_T) (va_wsS own idx y (.code y cc maxL ret :: gw_T)) := by
  have hall : ∀ w ∈ va_wsS own idx y (.code y cc maxL ret :: gw_T), w ∈ gw_T := by
    intro w hw
    simp only [va_wsS, List.mem_append, List.mem_cons, List.not_mem_nil, or_false] at hw
    rcases hw with (rfl | rfl | rfl) | rfl | hw <;> assumption
  exact fun w hw => ⟨List.mem_cons_of_mem _ (hall w hw), gw_good (hall w hw)⟩
theorem gw_I {c0 : Cond} {maxL : Nat} {y : MethodName} {cc : ByteArray} {ret : Option FieldType} (h5 : Cond.code y cc maxL ret ∈ gw_T) : GoodIn (c0 :: gw_T) (.code y cc maxL ret :: gw_T) := by
  have hall : ∀ w ∈ (Cond.code y cc maxL ret :: gw_T), w ∈ gw_T := by
    intro w hw
    rcases List.mem_cons.mp hw with rfl | hw <;> assumption
  exact fun w hw => ⟨List.mem_cons_of_mem _ (hall w hw), gw_good (hall w hw)⟩
/-! the words by their places -/
theorem gw_0 : (Jvm.Cond.selects "ForestPacker" ({ cls := "ForestPacker", name := "forgetPackings", desc := "()V" } : Jvm.MethodName) ({ cls := "ForestPacker", name := "forgetPackings", desc := "()V" } : Jvm.MethodName)) ∈ gw_T := gw_of 0 (by decide +kernel) (by decide +kernel)
theorem gw_1 : (Jvm.Cond.selects "ForestPacker" ({ cls := "ForestPacker", name := "packed", desc := "(I)LForestPacker$Packing;" } : Jvm.MethodName) ({ cls := "ForestPacker", name := "packed", desc := "(I)LForestPacker$Packing;" } : Jvm.MethodName)) ∈ gw_T := gw_of 1 (by decide +kernel) (by decide +kernel)
theorem gw_2 : (Jvm.Cond.selects "ForestPacker$Packing" ({ cls := "ForestPacker$Packing", name := "reachFrom", desc := "(III)Z" } : Jvm.MethodName) ({ cls := "ForestPacker$Packing", name := "reachFrom", desc := "(III)Z" } : Jvm.MethodName)) ∈ gw_T := gw_of 2 (by decide +kernel) (by decide +kernel)
theorem gw_3 : (Jvm.Cond.selects "ForestPacker$Packing" ({ cls := "ForestPacker$Packing", name := "reach", desc := "(II)V" } : Jvm.MethodName) ({ cls := "ForestPacker$Packing", name := "reach", desc := "(II)V" } : Jvm.MethodName)) ∈ gw_T := gw_of 3 (by decide +kernel) (by decide +kernel)
theorem gw_4 : (Jvm.Cond.selects "ForestPacker$Packing" ({ cls := "ForestPacker$Packing", name := "takeIn", desc := "(LForestPacker$Graph;I)V" } : Jvm.MethodName) ({ cls := "ForestPacker$Packing", name := "takeIn", desc := "(LForestPacker$Graph;I)V" } : Jvm.MethodName)) ∈ gw_T := gw_of 4 (by decide +kernel) (by decide +kernel)
theorem gw_5 : (Jvm.Cond.selects "ForestPacker$Packing" ({ cls := "ForestPacker$Packing", name := "remove", desc := "(LForestPacker$Graph;I)V" } : Jvm.MethodName) ({ cls := "ForestPacker$Packing", name := "remove", desc := "(LForestPacker$Graph;I)V" } : Jvm.MethodName)) ∈ gw_T := gw_of 5 (by decide +kernel) (by decide +kernel)
theorem gw_6 : (Jvm.Cond.selects "ForestPacker$Packing" ({ cls := "ForestPacker$Packing", name := "put", desc := "(LForestPacker$Graph;II)V" } : Jvm.MethodName) ({ cls := "ForestPacker$Packing", name := "put", desc := "(LForestPacker$Graph;II)V" } : Jvm.MethodName)) ∈ gw_T := gw_of 6 (by decide +kernel) (by decide +kernel)
theorem gw_7 : (Jvm.Cond.selects "ForestPacker$Packing" ({ cls := "ForestPacker$Packing", name := "movesTo", desc := "(LForestPacker$Graph;II)Z" } : Jvm.MethodName) ({ cls := "ForestPacker$Packing", name := "movesTo", desc := "(LForestPacker$Graph;II)Z" } : Jvm.MethodName)) ∈ gw_T := gw_of 7 (by decide +kernel) (by decide +kernel)
theorem gw_8 : (Jvm.Cond.selects "ForestPackerModel" ({ cls := "ForestPackerModel", name := "many", desc := "()I" } : Jvm.MethodName) ({ cls := "ForestPackerModel", name := "many", desc := "()I" } : Jvm.MethodName)) ∈ gw_T := gw_of 8 (by decide +kernel) (by decide +kernel)
theorem gw_9 : (Jvm.Cond.selects "ForestPackerModel" ({ cls := "ForestPackerModel", name := "isVertex", desc := "(I)Z" } : Jvm.MethodName) ({ cls := "ForestPackerModel", name := "isVertex", desc := "(I)Z" } : Jvm.MethodName)) ∈ gw_T := gw_of 9 (by decide +kernel) (by decide +kernel)
theorem gw_10 : (Jvm.Cond.selects "ForestPackerModel" ({ cls := "ForestPackerModel", name := "has", desc := "(I)Z" } : Jvm.MethodName) ({ cls := "ForestPackerModel", name := "has", desc := "(I)Z" } : Jvm.MethodName)) ∈ gw_T := gw_of 10 (by decide +kernel) (by decide +kernel)
theorem gw_11 : (Jvm.Cond.selects "ForestPackerModel" ({ cls := "ForestPackerModel", name := "hold", desc := "(I)V" } : Jvm.MethodName) ({ cls := "ForestPackerModel", name := "hold", desc := "(I)V" } : Jvm.MethodName)) ∈ gw_T := gw_of 11 (by decide +kernel) (by decide +kernel)
theorem gw_12 : (Jvm.Cond.selects "ForestPackerModel" ({ cls := "ForestPackerModel", name := "fits", desc := "(IIII)Z" } : Jvm.MethodName) ({ cls := "ForestPackerModel", name := "fits", desc := "(IIII)Z" } : Jvm.MethodName)) ∈ gw_T := gw_of 12 (by decide +kernel) (by decide +kernel)
theorem gw_13 : (Jvm.Cond.selects "ForestPackerModel" ({ cls := "ForestPackerModel", name := "within", desc := "(IIII)I" } : Jvm.MethodName) ({ cls := "ForestPackerModel", name := "within", desc := "(IIII)I" } : Jvm.MethodName)) ∈ gw_T := gw_of 13 (by decide +kernel) (by decide +kernel)
theorem gw_14 : (Jvm.Cond.selects "ForestPackerModel" ({ cls := "ForestPackerModel", name := "heldMany", desc := "()I" } : Jvm.MethodName) ({ cls := "ForestPackerModel", name := "heldMany", desc := "()I" } : Jvm.MethodName)) ∈ gw_T := gw_of 14 (by decide +kernel) (by decide +kernel)
theorem gw_15 : (Jvm.Cond.selects "ForestPackerModel" ({ cls := "ForestPackerModel", name := "part", desc := "(I)V" } : Jvm.MethodName) ({ cls := "ForestPackerModel", name := "part", desc := "(I)V" } : Jvm.MethodName)) ∈ gw_T := gw_of 15 (by decide +kernel) (by decide +kernel)
theorem gw_16 : (Jvm.Cond.selects "ForestPackerModel" ({ cls := "ForestPackerModel", name := "place", desc := "(II)Z" } : Jvm.MethodName) ({ cls := "ForestPackerModel", name := "place", desc := "(II)Z" } : Jvm.MethodName)) ∈ gw_T := gw_of 16 (by decide +kernel) (by decide +kernel)
theorem gw_17 : (Jvm.Cond.selects "ForestPackerModel" ({ cls := "ForestPackerModel", name := "wayIn", desc := "(II)I" } : Jvm.MethodName) ({ cls := "ForestPackerModel", name := "wayIn", desc := "(II)I" } : Jvm.MethodName)) ∈ gw_T := gw_of 17 (by decide +kernel) (by decide +kernel)
theorem gw_18 : (Jvm.Cond.selects "ForestPackerModel" ({ cls := "ForestPackerModel", name := "shift", desc := "(III)V" } : Jvm.MethodName) ({ cls := "ForestPackerModel", name := "shift", desc := "(III)V" } : Jvm.MethodName)) ∈ gw_T := gw_of 18 (by decide +kernel) (by decide +kernel)
theorem gw_19 : (Jvm.Cond.selects "ForestPackerModel" ({ cls := "ForestPackerModel", name := "move", desc := "(III)Z" } : Jvm.MethodName) ({ cls := "ForestPackerModel", name := "move", desc := "(III)Z" } : Jvm.MethodName)) ∈ gw_T := gw_of 19 (by decide +kernel) (by decide +kernel)
theorem gw_20 : (Jvm.Cond.selects "ForestPackerModel" ({ cls := "ForestPackerModel", name := "whyBits", desc := "(II)I" } : Jvm.MethodName) ({ cls := "ForestPackerModel", name := "whyBits", desc := "(II)I" } : Jvm.MethodName)) ∈ gw_T := gw_of 20 (by decide +kernel) (by decide +kernel)
theorem gw_21 : (Jvm.Cond.selects "ForestPackerModel" ({ cls := "ForestPackerModel", name := "isTight", desc := "(III)Z" } : Jvm.MethodName) ({ cls := "ForestPackerModel", name := "isTight", desc := "(III)Z" } : Jvm.MethodName)) ∈ gw_T := gw_of 21 (by decide +kernel) (by decide +kernel)
theorem gw_22 : (Jvm.Cond.initialized "ForestPackerLaw") ∈ gw_T := gw_of 22 (by decide +kernel) (by decide +kernel)
theorem gw_23 : (Jvm.Cond.initialized "ForestPacker") ∈ gw_T := gw_of 23 (by decide +kernel) (by decide +kernel)
theorem gw_24 : (Jvm.Cond.initialized "ForestPacker$Graph") ∈ gw_T := gw_of 24 (by decide +kernel) (by decide +kernel)
theorem gw_25 : (Jvm.Cond.initialized "ForestPacker$Packing") ∈ gw_T := gw_of 25 (by decide +kernel) (by decide +kernel)
theorem gw_26 : (Jvm.Cond.initialized "java/lang/Math") ∈ gw_T := gw_of 26 (by decide +kernel) (by decide +kernel)
theorem gw_27 : (Jvm.Cond.initialized "ForestPacker$RootedForest") ∈ gw_T := gw_of 27 (by decide +kernel) (by decide +kernel)
theorem gw_28 : (Jvm.Cond.initialized "ForestPackerModel") ∈ gw_T := gw_of 28 (by decide +kernel) (by decide +kernel)
theorem gw_29 : (Jvm.Cond.initialized "java/lang/Integer") ∈ gw_T := gw_of 29 (by decide +kernel) (by decide +kernel)
theorem gw_30 : (Jvm.Cond.initialized "java/util/Arrays") ∈ gw_T := gw_of 30 (by decide +kernel) (by decide +kernel)
theorem gw_31 : (Jvm.Cond.classLink "ForestPackerLaw" (7 : Nat) "ForestPacker") ∈ gw_T := gw_of 31 (by decide +kernel) (by decide +kernel)
theorem gw_32 : (Jvm.Cond.instantiable "ForestPacker" (2 : Nat)) ∈ gw_T := gw_of 32 (by decide +kernel) (by decide +kernel)
theorem gw_33 : (Jvm.Cond.methodLink "ForestPackerLaw" (9 : Nat) ({ cls := "ForestPacker", name := "<init>", desc := "()V" } : Jvm.MethodName)) ∈ gw_T := gw_of 33 (by decide +kernel) (by decide +kernel)
theorem gw_34 : (Jvm.Cond.instanceMethod ({ cls := "ForestPacker", name := "<init>", desc := "()V" } : Jvm.MethodName)) ∈ gw_T := gw_of 34 (by decide +kernel) (by decide +kernel)
theorem gw_35 : (Jvm.Cond.code ({ cls := "ForestPacker", name := "<init>", desc := "()V" } : Jvm.MethodName) prog_1_method_1_code (2 : Nat) (Option.none : Option Jvm.ClassFile.FieldType)) ∈ gw_T := gw_of 35 (by decide +kernel) (by decide +kernel)
theorem gw_36 : (Jvm.Cond.methodLink "ForestPacker" (1 : Nat) ({ cls := "java/lang/Object", name := "<init>", desc := "()V" } : Jvm.MethodName)) ∈ gw_T := gw_of 36 (by decide +kernel) (by decide +kernel)
theorem gw_37 : (Jvm.Cond.instanceMethod ({ cls := "java/lang/Object", name := "<init>", desc := "()V" } : Jvm.MethodName)) ∈ gw_T := gw_of 37 (by decide +kernel) (by decide +kernel)
theorem gw_38 : (Jvm.Cond.code ({ cls := "java/lang/Object", name := "<init>", desc := "()V" } : Jvm.MethodName) object_method_1_code (1 : Nat) (Option.none : Option Jvm.ClassFile.FieldType)) ∈ gw_T := gw_of 38 (by decide +kernel) (by decide +kernel)
theorem gw_39 : (Jvm.Cond.classLink "ForestPacker" (7 : Nat) "ForestPacker$Graph") ∈ gw_T := gw_of 39 (by decide +kernel) (by decide +kernel)
theorem gw_40 : (Jvm.Cond.instantiable "ForestPacker$Graph" (4 : Nat)) ∈ gw_T := gw_of 40 (by decide +kernel) (by decide +kernel)
theorem gw_42 : (Jvm.Cond.instanceMethod ({ cls := "ForestPacker$Graph", name := "<init>", desc := "()V" } : Jvm.MethodName)) ∈ gw_T := gw_of 42 (by decide +kernel) (by decide +kernel)
theorem gw_43 : (Jvm.Cond.code ({ cls := "ForestPacker$Graph", name := "<init>", desc := "()V" } : Jvm.MethodName) prog_2_method_1_code (1 : Nat) (Option.none : Option Jvm.ClassFile.FieldType)) ∈ gw_T := gw_of 43 (by decide +kernel) (by decide +kernel)
theorem gw_44 : (Jvm.Cond.methodLink "ForestPacker$Graph" (3 : Nat) ({ cls := "java/lang/Object", name := "<init>", desc := "()V" } : Jvm.MethodName)) ∈ gw_T := gw_of 44 (by decide +kernel) (by decide +kernel)
theorem gw_45 : (Jvm.Cond.fieldLink "ForestPacker$Graph" (9 : Nat) "ForestPacker$Graph" "lesser" "[I") ∈ gw_T := gw_of 45 (by decide +kernel) (by decide +kernel)
theorem gw_46 : (Jvm.Cond.fieldLink "ForestPacker$Packing" (75 : Nat) "ForestPacker$Graph" "lesser" "[I") ∈ gw_T := gw_of 46 (by decide +kernel) (by decide +kernel)
theorem gw_47 : (Jvm.Cond.fieldLink "ForestPacker" (46 : Nat) "ForestPacker$Graph" "lesser" "[I") ∈ gw_T := gw_of 47 (by decide +kernel) (by decide +kernel)
theorem gw_48 : (Jvm.Cond.fieldLink "ForestPacker$Graph" (15 : Nat) "ForestPacker$Graph" "greater" "[I") ∈ gw_T := gw_of 48 (by decide +kernel) (by decide +kernel)
theorem gw_49 : (Jvm.Cond.fieldLink "ForestPacker$Packing" (78 : Nat) "ForestPacker$Graph" "greater" "[I") ∈ gw_T := gw_of 49 (by decide +kernel) (by decide +kernel)
theorem gw_50 : (Jvm.Cond.fieldLink "ForestPacker" (56 : Nat) "ForestPacker$Graph" "greater" "[I") ∈ gw_T := gw_of 50 (by decide +kernel) (by decide +kernel)
theorem gw_51 : (Jvm.Cond.fieldLink "ForestPacker$Graph" (18 : Nat) "ForestPacker$Graph" "present" "I") ∈ gw_T := gw_of 51 (by decide +kernel) (by decide +kernel)
theorem gw_52 : (Jvm.Cond.fieldLink "ForestPacker" (33 : Nat) "ForestPacker$Graph" "present" "I") ∈ gw_T := gw_of 52 (by decide +kernel) (by decide +kernel)
theorem gw_53 : (Jvm.Cond.fieldLink "ForestPacker$Graph" (22 : Nat) "ForestPacker$Graph" "vertices" "I") ∈ gw_T := gw_of 53 (by decide +kernel) (by decide +kernel)
theorem gw_54 : (Jvm.Cond.fieldLink "ForestPacker" (29 : Nat) "ForestPacker$Graph" "vertices" "I") ∈ gw_T := gw_of 54 (by decide +kernel) (by decide +kernel)
theorem gw_55 : (Jvm.Cond.laysFinal "ForestPacker$Graph" "ForestPacker$Graph" "lesser" "[I") ∈ gw_T := gw_of 55 (by decide +kernel) (by decide +kernel)
theorem gw_56 : (Jvm.Cond.soleField "ForestPacker$Graph" "lesser") ∈ gw_T := gw_of 56 (by decide +kernel) (by decide +kernel)
theorem gw_57 : (Jvm.Cond.laysFinal "ForestPacker$Graph" "ForestPacker$Graph" "greater" "[I") ∈ gw_T := gw_of 57 (by decide +kernel) (by decide +kernel)
theorem gw_58 : (Jvm.Cond.soleField "ForestPacker$Graph" "greater") ∈ gw_T := gw_of 58 (by decide +kernel) (by decide +kernel)
theorem gw_59 : (Jvm.Cond.lays "ForestPacker$Graph" "ForestPacker$Graph" "present" "I") ∈ gw_T := gw_of 59 (by decide +kernel) (by decide +kernel)
theorem gw_60 : (Jvm.Cond.soleField "ForestPacker$Graph" "present") ∈ gw_T := gw_of 60 (by decide +kernel) (by decide +kernel)
theorem gw_61 : (Jvm.Cond.lays "ForestPacker$Graph" "ForestPacker$Graph" "vertices" "I") ∈ gw_T := gw_of 61 (by decide +kernel) (by decide +kernel)
theorem gw_62 : (Jvm.Cond.soleField "ForestPacker$Graph" "vertices") ∈ gw_T := gw_of 62 (by decide +kernel) (by decide +kernel)
theorem gw_63 : (Jvm.Cond.superclass "ForestPacker$Graph" "java/lang/Object") ∈ gw_T := gw_of 63 (by decide +kernel) (by decide +kernel)
theorem gw_64 : (Jvm.Cond.arrayClass Jvm.ClassFile.FieldType.int) ∈ gw_T := gw_of 64 (by decide +kernel) (by decide +kernel)
theorem gw_65 : (Jvm.Cond.classLink "ForestPacker" (16 : Nat) "ForestPacker$Packing") ∈ gw_T := gw_of 65 (by decide +kernel) (by decide +kernel)
theorem gw_67 : (Jvm.Cond.instantiable "ForestPacker$Packing" (12 : Nat)) ∈ gw_T := gw_of 67 (by decide +kernel) (by decide +kernel)
theorem gw_68 : (Jvm.Cond.methodLink "ForestPacker" (22 : Nat) ({ cls := "ForestPacker$Packing", name := "<init>", desc := "(I)V" } : Jvm.MethodName)) ∈ gw_T := gw_of 68 (by decide +kernel) (by decide +kernel)
theorem gw_69 : (Jvm.Cond.instanceMethod ({ cls := "ForestPacker$Packing", name := "<init>", desc := "(I)V" } : Jvm.MethodName)) ∈ gw_T := gw_of 69 (by decide +kernel) (by decide +kernel)
theorem gw_70 : (Jvm.Cond.code ({ cls := "ForestPacker$Packing", name := "<init>", desc := "(I)V" } : Jvm.MethodName) prog_3_method_1_code (3 : Nat) (Option.none : Option Jvm.ClassFile.FieldType)) ∈ gw_T := gw_of 70 (by decide +kernel) (by decide +kernel)
theorem gw_71 : (Jvm.Cond.methodLink "ForestPacker$Packing" (3 : Nat) ({ cls := "java/lang/Object", name := "<init>", desc := "()V" } : Jvm.MethodName)) ∈ gw_T := gw_of 71 (by decide +kernel) (by decide +kernel)
theorem gw_72 : (Jvm.Cond.methodLink "ForestPacker$Packing" (47 : Nat) ({ cls := "java/lang/Math", name := "max", desc := "(II)I" } : Jvm.MethodName)) ∈ gw_T := gw_of 72 (by decide +kernel) (by decide +kernel)
theorem gw_73 : (Jvm.Cond.static ({ cls := "java/lang/Math", name := "max", desc := "(II)I" } : Jvm.MethodName)) ∈ gw_T := gw_of 73 (by decide +kernel) (by decide +kernel)
theorem gw_74 : (Jvm.Cond.code ({ cls := "java/lang/Math", name := "max", desc := "(II)I" } : Jvm.MethodName) prog_8_method_65_code (2 : Nat) (Option.some Jvm.ClassFile.FieldType.int)) ∈ gw_T := gw_of 74 (by decide +kernel) (by decide +kernel)
theorem gw_75 : (Jvm.Cond.classLink "ForestPacker$Packing" (53 : Nat) "ForestPacker$RootedForest") ∈ gw_T := gw_of 75 (by decide +kernel) (by decide +kernel)
theorem gw_77 : (Jvm.Cond.instantiable "ForestPacker$RootedForest" (2 : Nat)) ∈ gw_T := gw_of 77 (by decide +kernel) (by decide +kernel)
theorem gw_79 : (Jvm.Cond.instanceMethod ({ cls := "ForestPacker$RootedForest", name := "<init>", desc := "()V" } : Jvm.MethodName)) ∈ gw_T := gw_of 79 (by decide +kernel) (by decide +kernel)
theorem gw_80 : (Jvm.Cond.code ({ cls := "ForestPacker$RootedForest", name := "<init>", desc := "()V" } : Jvm.MethodName) prog_4_method_1_code (1 : Nat) (Option.none : Option Jvm.ClassFile.FieldType)) ∈ gw_T := gw_of 80 (by decide +kernel) (by decide +kernel)
theorem gw_81 : (Jvm.Cond.methodLink "ForestPacker$RootedForest" (3 : Nat) ({ cls := "java/lang/Object", name := "<init>", desc := "()V" } : Jvm.MethodName)) ∈ gw_T := gw_of 81 (by decide +kernel) (by decide +kernel)
theorem gw_82 : (Jvm.Cond.fieldLink "ForestPacker$RootedForest" (9 : Nat) "ForestPacker$RootedForest" "parent" "[I") ∈ gw_T := gw_of 82 (by decide +kernel) (by decide +kernel)
theorem gw_83 : (Jvm.Cond.fieldLink "ForestPacker$RootedForest" (15 : Nat) "ForestPacker$RootedForest" "edgeUp" "[I") ∈ gw_T := gw_of 83 (by decide +kernel) (by decide +kernel)
theorem gw_84 : (Jvm.Cond.laysFinal "ForestPacker$RootedForest" "ForestPacker$RootedForest" "parent" "[I") ∈ gw_T := gw_of 84 (by decide +kernel) (by decide +kernel)
theorem gw_85 : (Jvm.Cond.soleField "ForestPacker$RootedForest" "parent") ∈ gw_T := gw_of 85 (by decide +kernel) (by decide +kernel)
theorem gw_86 : (Jvm.Cond.laysFinal "ForestPacker$RootedForest" "ForestPacker$RootedForest" "edgeUp" "[I") ∈ gw_T := gw_of 86 (by decide +kernel) (by decide +kernel)
theorem gw_87 : (Jvm.Cond.soleField "ForestPacker$RootedForest" "edgeUp") ∈ gw_T := gw_of 87 (by decide +kernel) (by decide +kernel)
theorem gw_88 : (Jvm.Cond.superclass "ForestPacker$RootedForest" "java/lang/Object") ∈ gw_T := gw_of 88 (by decide +kernel) (by decide +kernel)
theorem gw_89 : (Jvm.Cond.fieldLink "ForestPacker$Packing" (9 : Nat) "ForestPacker$Packing" "place" "[I") ∈ gw_T := gw_of 89 (by decide +kernel) (by decide +kernel)
theorem gw_90 : (Jvm.Cond.fieldLink "ForestPacker" (75 : Nat) "ForestPacker$Packing" "place" "[I") ∈ gw_T := gw_of 90 (by decide +kernel) (by decide +kernel)
theorem gw_91 : (Jvm.Cond.fieldLink "ForestPacker$Packing" (15 : Nat) "ForestPacker$Packing" "size" "I") ∈ gw_T := gw_of 91 (by decide +kernel) (by decide +kernel)
theorem gw_92 : (Jvm.Cond.fieldLink "ForestPacker" (72 : Nat) "ForestPacker$Packing" "size" "I") ∈ gw_T := gw_of 92 (by decide +kernel) (by decide +kernel)
theorem gw_93 : (Jvm.Cond.fieldLink "ForestPacker$Packing" (19 : Nat) "ForestPacker$Packing" "isPacked" "Z") ∈ gw_T := gw_of 93 (by decide +kernel) (by decide +kernel)
theorem gw_94 : (Jvm.Cond.fieldLink "ForestPacker" (109 : Nat) "ForestPacker$Packing" "isPacked" "Z") ∈ gw_T := gw_of 94 (by decide +kernel) (by decide +kernel)
theorem gw_95 : (Jvm.Cond.fieldLink "ForestPacker$Packing" (55 : Nat) "ForestPacker$Packing" "forests" "[LForestPacker$RootedForest;") ∈ gw_T := gw_of 95 (by decide +kernel) (by decide +kernel)
theorem gw_96 : (Jvm.Cond.fieldLink "ForestPacker$Packing" (23 : Nat) "ForestPacker$Packing" "isSettled" "Z") ∈ gw_T := gw_of 96 (by decide +kernel) (by decide +kernel)
theorem gw_97 : (Jvm.Cond.fieldLink "ForestPacker$Packing" (26 : Nat) "ForestPacker$Packing" "fixed" "I") ∈ gw_T := gw_of 97 (by decide +kernel) (by decide +kernel)
theorem gw_98 : (Jvm.Cond.fieldLink "ForestPacker$Packing" (29 : Nat) "ForestPacker$Packing" "reached" "I") ∈ gw_T := gw_of 98 (by decide +kernel) (by decide +kernel)
theorem gw_99 : (Jvm.Cond.fieldLink "ForestPacker$Packing" (32 : Nat) "ForestPacker$Packing" "queue" "[I") ∈ gw_T := gw_of 99 (by decide +kernel) (by decide +kernel)
theorem gw_100 : (Jvm.Cond.fieldLink "ForestPacker$Packing" (35 : Nat) "ForestPacker$Packing" "queued" "I") ∈ gw_T := gw_of 100 (by decide +kernel) (by decide +kernel)
theorem gw_101 : (Jvm.Cond.fieldLink "ForestPacker$Packing" (38 : Nat) "ForestPacker$Packing" "follower" "[I") ∈ gw_T := gw_of 101 (by decide +kernel) (by decide +kernel)
theorem gw_102 : (Jvm.Cond.fieldLink "ForestPacker$Packing" (41 : Nat) "ForestPacker$Packing" "lastMoved" "I") ∈ gw_T := gw_of 102 (by decide +kernel) (by decide +kernel)
theorem gw_103 : (Jvm.Cond.fieldLink "ForestPacker$Packing" (44 : Nat) "ForestPacker$Packing" "room" "I") ∈ gw_T := gw_of 103 (by decide +kernel) (by decide +kernel)
theorem gw_104 : (Jvm.Cond.laysFinal "ForestPacker$Packing" "ForestPacker$Packing" "place" "[I") ∈ gw_T := gw_of 104 (by decide +kernel) (by decide +kernel)
theorem gw_105 : (Jvm.Cond.soleField "ForestPacker$Packing" "place") ∈ gw_T := gw_of 105 (by decide +kernel) (by decide +kernel)
theorem gw_106 : (Jvm.Cond.lays "ForestPacker$Packing" "ForestPacker$Packing" "size" "I") ∈ gw_T := gw_of 106 (by decide +kernel) (by decide +kernel)
theorem gw_107 : (Jvm.Cond.soleField "ForestPacker$Packing" "size") ∈ gw_T := gw_of 107 (by decide +kernel) (by decide +kernel)
theorem gw_108 : (Jvm.Cond.lays "ForestPacker$Packing" "ForestPacker$Packing" "isPacked" "Z") ∈ gw_T := gw_of 108 (by decide +kernel) (by decide +kernel)
theorem gw_109 : (Jvm.Cond.soleField "ForestPacker$Packing" "isPacked") ∈ gw_T := gw_of 109 (by decide +kernel) (by decide +kernel)
theorem gw_110 : (Jvm.Cond.laysFinal "ForestPacker$Packing" "ForestPacker$Packing" "forests" "[LForestPacker$RootedForest;") ∈ gw_T := gw_of 110 (by decide +kernel) (by decide +kernel)
theorem gw_111 : (Jvm.Cond.soleField "ForestPacker$Packing" "forests") ∈ gw_T := gw_of 111 (by decide +kernel) (by decide +kernel)
theorem gw_112 : (Jvm.Cond.lays "ForestPacker$Packing" "ForestPacker$Packing" "isSettled" "Z") ∈ gw_T := gw_of 112 (by decide +kernel) (by decide +kernel)
theorem gw_113 : (Jvm.Cond.soleField "ForestPacker$Packing" "isSettled") ∈ gw_T := gw_of 113 (by decide +kernel) (by decide +kernel)
theorem gw_114 : (Jvm.Cond.lays "ForestPacker$Packing" "ForestPacker$Packing" "fixed" "I") ∈ gw_T := gw_of 114 (by decide +kernel) (by decide +kernel)
theorem gw_115 : (Jvm.Cond.soleField "ForestPacker$Packing" "fixed") ∈ gw_T := gw_of 115 (by decide +kernel) (by decide +kernel)
theorem gw_116 : (Jvm.Cond.lays "ForestPacker$Packing" "ForestPacker$Packing" "reached" "I") ∈ gw_T := gw_of 116 (by decide +kernel) (by decide +kernel)
theorem gw_117 : (Jvm.Cond.soleField "ForestPacker$Packing" "reached") ∈ gw_T := gw_of 117 (by decide +kernel) (by decide +kernel)
theorem gw_118 : (Jvm.Cond.laysFinal "ForestPacker$Packing" "ForestPacker$Packing" "queue" "[I") ∈ gw_T := gw_of 118 (by decide +kernel) (by decide +kernel)
theorem gw_119 : (Jvm.Cond.soleField "ForestPacker$Packing" "queue") ∈ gw_T := gw_of 119 (by decide +kernel) (by decide +kernel)
theorem gw_120 : (Jvm.Cond.lays "ForestPacker$Packing" "ForestPacker$Packing" "queued" "I") ∈ gw_T := gw_of 120 (by decide +kernel) (by decide +kernel)
theorem gw_121 : (Jvm.Cond.soleField "ForestPacker$Packing" "queued") ∈ gw_T := gw_of 121 (by decide +kernel) (by decide +kernel)
theorem gw_122 : (Jvm.Cond.laysFinal "ForestPacker$Packing" "ForestPacker$Packing" "follower" "[I") ∈ gw_T := gw_of 122 (by decide +kernel) (by decide +kernel)
theorem gw_123 : (Jvm.Cond.soleField "ForestPacker$Packing" "follower") ∈ gw_T := gw_of 123 (by decide +kernel) (by decide +kernel)
theorem gw_124 : (Jvm.Cond.lays "ForestPacker$Packing" "ForestPacker$Packing" "lastMoved" "I") ∈ gw_T := gw_of 124 (by decide +kernel) (by decide +kernel)
theorem gw_125 : (Jvm.Cond.soleField "ForestPacker$Packing" "lastMoved") ∈ gw_T := gw_of 125 (by decide +kernel) (by decide +kernel)
theorem gw_126 : (Jvm.Cond.lays "ForestPacker$Packing" "ForestPacker$Packing" "room" "I") ∈ gw_T := gw_of 126 (by decide +kernel) (by decide +kernel)
theorem gw_127 : (Jvm.Cond.soleField "ForestPacker$Packing" "room") ∈ gw_T := gw_of 127 (by decide +kernel) (by decide +kernel)
theorem gw_128 : (Jvm.Cond.superclass "ForestPacker$Packing" "java/lang/Object") ∈ gw_T := gw_of 128 (by decide +kernel) (by decide +kernel)
theorem gw_129 : (Jvm.Cond.fieldLink "ForestPacker" (10 : Nat) "ForestPacker" "graph" "LForestPacker$Graph;") ∈ gw_T := gw_of 129 (by decide +kernel) (by decide +kernel)
theorem gw_130 : (Jvm.Cond.fieldLink "ForestPacker" (18 : Nat) "ForestPacker" "packings" "[LForestPacker$Packing;") ∈ gw_T := gw_of 130 (by decide +kernel) (by decide +kernel)
theorem gw_131 : (Jvm.Cond.laysFinal "ForestPacker" "ForestPacker" "graph" "LForestPacker$Graph;") ∈ gw_T := gw_of 131 (by decide +kernel) (by decide +kernel)
theorem gw_132 : (Jvm.Cond.soleField "ForestPacker" "graph") ∈ gw_T := gw_of 132 (by decide +kernel) (by decide +kernel)
theorem gw_133 : (Jvm.Cond.laysFinal "ForestPacker" "ForestPacker" "packings" "[LForestPacker$Packing;") ∈ gw_T := gw_of 133 (by decide +kernel) (by decide +kernel)
theorem gw_134 : (Jvm.Cond.soleField "ForestPacker" "packings") ∈ gw_T := gw_of 134 (by decide +kernel) (by decide +kernel)
theorem gw_135 : (Jvm.Cond.superclass "ForestPacker" "java/lang/Object") ∈ gw_T := gw_of 135 (by decide +kernel) (by decide +kernel)
theorem gw_136 : (Jvm.Cond.methodLink "ForestPackerLaw" (13 : Nat) ({ cls := "ForestPacker", name := "begin", desc := "(I)I" } : Jvm.MethodName)) ∈ gw_T := gw_of 136 (by decide +kernel) (by decide +kernel)
theorem gw_137 : (Jvm.Cond.instanceMethod ({ cls := "ForestPacker", name := "begin", desc := "(I)I" } : Jvm.MethodName)) ∈ gw_T := gw_of 137 (by decide +kernel) (by decide +kernel)
theorem gw_138 : (Jvm.Cond.selects "ForestPacker" ({ cls := "ForestPacker", name := "begin", desc := "(I)I" } : Jvm.MethodName) ({ cls := "ForestPacker", name := "begin", desc := "(I)I" } : Jvm.MethodName)) ∈ gw_T := gw_of 138 (by decide +kernel) (by decide +kernel)
theorem gw_139 : (Jvm.Cond.code ({ cls := "ForestPacker", name := "begin", desc := "(I)I" } : Jvm.MethodName) prog_1_method_2_code (3 : Nat) (Option.some Jvm.ClassFile.FieldType.int)) ∈ gw_T := gw_of 139 (by decide +kernel) (by decide +kernel)
theorem gw_140 : (Jvm.Cond.methodLink "ForestPacker" (25 : Nat) ({ cls := "ForestPacker$Graph", name := "edgeCount", desc := "()I" } : Jvm.MethodName)) ∈ gw_T := gw_of 140 (by decide +kernel) (by decide +kernel)
theorem gw_141 : (Jvm.Cond.instanceMethod ({ cls := "ForestPacker$Graph", name := "edgeCount", desc := "()I" } : Jvm.MethodName)) ∈ gw_T := gw_of 141 (by decide +kernel) (by decide +kernel)
theorem gw_142 : (Jvm.Cond.selects "ForestPacker$Graph" ({ cls := "ForestPacker$Graph", name := "edgeCount", desc := "()I" } : Jvm.MethodName) ({ cls := "ForestPacker$Graph", name := "edgeCount", desc := "()I" } : Jvm.MethodName)) ∈ gw_T := gw_of 142 (by decide +kernel) (by decide +kernel)
theorem gw_143 : (Jvm.Cond.code ({ cls := "ForestPacker$Graph", name := "edgeCount", desc := "()I" } : Jvm.MethodName) prog_2_method_4_code (1 : Nat) (Option.some Jvm.ClassFile.FieldType.int)) ∈ gw_T := gw_of 143 (by decide +kernel) (by decide +kernel)
theorem gw_144 : (Jvm.Cond.methodLink "ForestPacker$Graph" (25 : Nat) ({ cls := "java/lang/Integer", name := "bitCount", desc := "(I)I" } : Jvm.MethodName)) ∈ gw_T := gw_of 144 (by decide +kernel) (by decide +kernel)
theorem gw_145 : (Jvm.Cond.static ({ cls := "java/lang/Integer", name := "bitCount", desc := "(I)I" } : Jvm.MethodName)) ∈ gw_T := gw_of 145 (by decide +kernel) (by decide +kernel)
theorem gw_146 : (Jvm.Cond.code ({ cls := "java/lang/Integer", name := "bitCount", desc := "(I)I" } : Jvm.MethodName) prog_7_method_49_code (1 : Nat) (Option.some Jvm.ClassFile.FieldType.int)) ∈ gw_T := gw_of 146 (by decide +kernel) (by decide +kernel)
theorem gw_147 : (Jvm.Cond.constant "java/lang/Integer" (265 : Nat) (1431655765 : Int32)) ∈ gw_T := gw_of 147 (by decide +kernel) (by decide +kernel)
theorem gw_148 : (Jvm.Cond.constant "java/lang/Integer" (266 : Nat) (858993459 : Int32)) ∈ gw_T := gw_of 148 (by decide +kernel) (by decide +kernel)
theorem gw_149 : (Jvm.Cond.constant "java/lang/Integer" (267 : Nat) (252645135 : Int32)) ∈ gw_T := gw_of 149 (by decide +kernel) (by decide +kernel)
theorem gw_150 : (Jvm.Cond.methodLink "ForestPacker" (36 : Nat) ({ cls := "ForestPacker", name := "forgetPackings", desc := "()V" } : Jvm.MethodName)) ∈ gw_T := gw_of 150 (by decide +kernel) (by decide +kernel)
theorem gw_152 : (Jvm.Cond.instanceMethod ({ cls := "ForestPacker", name := "forgetPackings", desc := "()V" } : Jvm.MethodName)) ∈ gw_T := gw_of 152 (by decide +kernel) (by decide +kernel)
theorem gw_153 : (Jvm.Cond.code ({ cls := "ForestPacker", name := "forgetPackings", desc := "()V" } : Jvm.MethodName) prog_1_method_17_code (2 : Nat) (Option.none : Option Jvm.ClassFile.FieldType)) ∈ gw_T := gw_of 153 (by decide +kernel) (by decide +kernel)
theorem gw_154 : (Jvm.Cond.methodLink "ForestPackerLaw" (18 : Nat) ({ cls := "ForestPacker", name := "join", desc := "(II)I" } : Jvm.MethodName)) ∈ gw_T := gw_of 154 (by decide +kernel) (by decide +kernel)
theorem gw_155 : (Jvm.Cond.instanceMethod ({ cls := "ForestPacker", name := "join", desc := "(II)I" } : Jvm.MethodName)) ∈ gw_T := gw_of 155 (by decide +kernel) (by decide +kernel)
theorem gw_156 : (Jvm.Cond.selects "ForestPacker" ({ cls := "ForestPacker", name := "join", desc := "(II)I" } : Jvm.MethodName) ({ cls := "ForestPacker", name := "join", desc := "(II)I" } : Jvm.MethodName)) ∈ gw_T := gw_of 156 (by decide +kernel) (by decide +kernel)
theorem gw_157 : (Jvm.Cond.code ({ cls := "ForestPacker", name := "join", desc := "(II)I" } : Jvm.MethodName) prog_1_method_3_code (4 : Nat) (Option.some Jvm.ClassFile.FieldType.int)) ∈ gw_T := gw_of 157 (by decide +kernel) (by decide +kernel)
theorem gw_158 : (Jvm.Cond.methodLink "ForestPacker" (39 : Nat) ({ cls := "ForestPacker$Graph", name := "hasVertex", desc := "(I)Z" } : Jvm.MethodName)) ∈ gw_T := gw_of 158 (by decide +kernel) (by decide +kernel)
theorem gw_159 : (Jvm.Cond.instanceMethod ({ cls := "ForestPacker$Graph", name := "hasVertex", desc := "(I)Z" } : Jvm.MethodName)) ∈ gw_T := gw_of 159 (by decide +kernel) (by decide +kernel)
theorem gw_160 : (Jvm.Cond.selects "ForestPacker$Graph" ({ cls := "ForestPacker$Graph", name := "hasVertex", desc := "(I)Z" } : Jvm.MethodName) ({ cls := "ForestPacker$Graph", name := "hasVertex", desc := "(I)Z" } : Jvm.MethodName)) ∈ gw_T := gw_of 160 (by decide +kernel) (by decide +kernel)
theorem gw_161 : (Jvm.Cond.code ({ cls := "ForestPacker$Graph", name := "hasVertex", desc := "(I)Z" } : Jvm.MethodName) prog_2_method_2_code (2 : Nat) (Option.some Jvm.ClassFile.FieldType.boolean)) ∈ gw_T := gw_of 161 (by decide +kernel) (by decide +kernel)
theorem gw_162 : (Jvm.Cond.methodLink "ForestPacker" (43 : Nat) ({ cls := "ForestPacker$Graph", name := "leastFree", desc := "()I" } : Jvm.MethodName)) ∈ gw_T := gw_of 162 (by decide +kernel) (by decide +kernel)
theorem gw_163 : (Jvm.Cond.instanceMethod ({ cls := "ForestPacker$Graph", name := "leastFree", desc := "()I" } : Jvm.MethodName)) ∈ gw_T := gw_of 163 (by decide +kernel) (by decide +kernel)
theorem gw_164 : (Jvm.Cond.selects "ForestPacker$Graph" ({ cls := "ForestPacker$Graph", name := "leastFree", desc := "()I" } : Jvm.MethodName) ({ cls := "ForestPacker$Graph", name := "leastFree", desc := "()I" } : Jvm.MethodName)) ∈ gw_T := gw_of 164 (by decide +kernel) (by decide +kernel)
theorem gw_165 : (Jvm.Cond.code ({ cls := "ForestPacker$Graph", name := "leastFree", desc := "()I" } : Jvm.MethodName) prog_2_method_5_code (2 : Nat) (Option.some Jvm.ClassFile.FieldType.int)) ∈ gw_T := gw_of 165 (by decide +kernel) (by decide +kernel)
theorem gw_166 : (Jvm.Cond.methodLink "ForestPacker$Graph" (31 : Nat) ({ cls := "ForestPacker$Graph", name := "hasEdge", desc := "(I)Z" } : Jvm.MethodName)) ∈ gw_T := gw_of 166 (by decide +kernel) (by decide +kernel)
theorem gw_167 : (Jvm.Cond.instanceMethod ({ cls := "ForestPacker$Graph", name := "hasEdge", desc := "(I)Z" } : Jvm.MethodName)) ∈ gw_T := gw_of 167 (by decide +kernel) (by decide +kernel)
theorem gw_168 : (Jvm.Cond.selects "ForestPacker$Graph" ({ cls := "ForestPacker$Graph", name := "hasEdge", desc := "(I)Z" } : Jvm.MethodName) ({ cls := "ForestPacker$Graph", name := "hasEdge", desc := "(I)Z" } : Jvm.MethodName)) ∈ gw_T := gw_of 168 (by decide +kernel) (by decide +kernel)
theorem gw_169 : (Jvm.Cond.code ({ cls := "ForestPacker$Graph", name := "hasEdge", desc := "(I)Z" } : Jvm.MethodName) prog_2_method_3_code (2 : Nat) (Option.some Jvm.ClassFile.FieldType.boolean)) ∈ gw_T := gw_of 169 (by decide +kernel) (by decide +kernel)
theorem gw_170 : (Jvm.Cond.methodLink "ForestPacker" (50 : Nat) ({ cls := "java/lang/Math", name := "min", desc := "(II)I" } : Jvm.MethodName)) ∈ gw_T := gw_of 170 (by decide +kernel) (by decide +kernel)
theorem gw_171 : (Jvm.Cond.static ({ cls := "java/lang/Math", name := "min", desc := "(II)I" } : Jvm.MethodName)) ∈ gw_T := gw_of 171 (by decide +kernel) (by decide +kernel)
theorem gw_172 : (Jvm.Cond.code ({ cls := "java/lang/Math", name := "min", desc := "(II)I" } : Jvm.MethodName) prog_8_method_69_code (2 : Nat) (Option.some Jvm.ClassFile.FieldType.int)) ∈ gw_T := gw_of 172 (by decide +kernel) (by decide +kernel)
theorem gw_173 : (Jvm.Cond.methodLink "ForestPacker" (59 : Nat) ({ cls := "java/lang/Math", name := "max", desc := "(II)I" } : Jvm.MethodName)) ∈ gw_T := gw_of 173 (by decide +kernel) (by decide +kernel)
theorem gw_174 : (Jvm.Cond.methodLink "ForestPackerLaw" (23 : Nat) ({ cls := "ForestPacker", name := "cut", desc := "(I)I" } : Jvm.MethodName)) ∈ gw_T := gw_of 174 (by decide +kernel) (by decide +kernel)
theorem gw_175 : (Jvm.Cond.instanceMethod ({ cls := "ForestPacker", name := "cut", desc := "(I)I" } : Jvm.MethodName)) ∈ gw_T := gw_of 175 (by decide +kernel) (by decide +kernel)
theorem gw_176 : (Jvm.Cond.selects "ForestPacker" ({ cls := "ForestPacker", name := "cut", desc := "(I)I" } : Jvm.MethodName) ({ cls := "ForestPacker", name := "cut", desc := "(I)I" } : Jvm.MethodName)) ∈ gw_T := gw_of 176 (by decide +kernel) (by decide +kernel)
theorem gw_177 : (Jvm.Cond.code ({ cls := "ForestPacker", name := "cut", desc := "(I)I" } : Jvm.MethodName) prog_1_method_4_code (2 : Nat) (Option.some Jvm.ClassFile.FieldType.int)) ∈ gw_T := gw_of 177 (by decide +kernel) (by decide +kernel)
theorem gw_178 : (Jvm.Cond.methodLink "ForestPacker" (62 : Nat) ({ cls := "ForestPacker$Graph", name := "hasEdge", desc := "(I)Z" } : Jvm.MethodName)) ∈ gw_T := gw_of 178 (by decide +kernel) (by decide +kernel)
theorem gw_179 : (Jvm.Cond.methodLink "ForestPackerLaw" (27 : Nat) ({ cls := "ForestPacker", name := "most", desc := "(I)I" } : Jvm.MethodName)) ∈ gw_T := gw_of 179 (by decide +kernel) (by decide +kernel)
theorem gw_180 : (Jvm.Cond.instanceMethod ({ cls := "ForestPacker", name := "most", desc := "(I)I" } : Jvm.MethodName)) ∈ gw_T := gw_of 180 (by decide +kernel) (by decide +kernel)
theorem gw_181 : (Jvm.Cond.selects "ForestPacker" ({ cls := "ForestPacker", name := "most", desc := "(I)I" } : Jvm.MethodName) ({ cls := "ForestPacker", name := "most", desc := "(I)I" } : Jvm.MethodName)) ∈ gw_T := gw_of 181 (by decide +kernel) (by decide +kernel)
theorem gw_182 : (Jvm.Cond.code ({ cls := "ForestPacker", name := "most", desc := "(I)I" } : Jvm.MethodName) prog_1_method_5_code (2 : Nat) (Option.some Jvm.ClassFile.FieldType.int)) ∈ gw_T := gw_of 182 (by decide +kernel) (by decide +kernel)
theorem gw_183 : (Jvm.Cond.methodLink "ForestPacker" (65 : Nat) ({ cls := "ForestPacker", name := "isForestCount", desc := "(I)Z" } : Jvm.MethodName)) ∈ gw_T := gw_of 183 (by decide +kernel) (by decide +kernel)
theorem gw_184 : (Jvm.Cond.static ({ cls := "ForestPacker", name := "isForestCount", desc := "(I)Z" } : Jvm.MethodName)) ∈ gw_T := gw_of 184 (by decide +kernel) (by decide +kernel)
theorem gw_185 : (Jvm.Cond.code ({ cls := "ForestPacker", name := "isForestCount", desc := "(I)Z" } : Jvm.MethodName) prog_1_method_16_code (1 : Nat) (Option.some Jvm.ClassFile.FieldType.boolean)) ∈ gw_T := gw_of 185 (by decide +kernel) (by decide +kernel)
theorem gw_186 : (Jvm.Cond.methodLink "ForestPacker" (68 : Nat) ({ cls := "ForestPacker", name := "packed", desc := "(I)LForestPacker$Packing;" } : Jvm.MethodName)) ∈ gw_T := gw_of 186 (by decide +kernel) (by decide +kernel)
theorem gw_188 : (Jvm.Cond.instanceMethod ({ cls := "ForestPacker", name := "packed", desc := "(I)LForestPacker$Packing;" } : Jvm.MethodName)) ∈ gw_T := gw_of 188 (by decide +kernel) (by decide +kernel)
theorem gw_189 : (Jvm.Cond.code ({ cls := "ForestPacker", name := "packed", desc := "(I)LForestPacker$Packing;" } : Jvm.MethodName) prog_1_method_18_code (3 : Nat) (Option.some (Jvm.ClassFile.FieldType.object "ForestPacker$Packing"))) ∈ gw_T := gw_of 189 (by decide +kernel) (by decide +kernel)
theorem gw_190 : (Jvm.Cond.methodLink "ForestPacker" (113 : Nat) ({ cls := "ForestPacker$Packing", name := "pack", desc := "(LForestPacker$Graph;)V" } : Jvm.MethodName)) ∈ gw_T := gw_of 190 (by decide +kernel) (by decide +kernel)
theorem gw_191 : (Jvm.Cond.instanceMethod ({ cls := "ForestPacker$Packing", name := "pack", desc := "(LForestPacker$Graph;)V" } : Jvm.MethodName)) ∈ gw_T := gw_of 191 (by decide +kernel) (by decide +kernel)
theorem gw_192 : (Jvm.Cond.selects "ForestPacker$Packing" ({ cls := "ForestPacker$Packing", name := "pack", desc := "(LForestPacker$Graph;)V" } : Jvm.MethodName) ({ cls := "ForestPacker$Packing", name := "pack", desc := "(LForestPacker$Graph;)V" } : Jvm.MethodName)) ∈ gw_T := gw_of 192 (by decide +kernel) (by decide +kernel)
theorem gw_193 : (Jvm.Cond.code ({ cls := "ForestPacker$Packing", name := "pack", desc := "(LForestPacker$Graph;)V" } : Jvm.MethodName) prog_3_method_2_code (3 : Nat) (Option.none : Option Jvm.ClassFile.FieldType)) ∈ gw_T := gw_of 193 (by decide +kernel) (by decide +kernel)
theorem gw_194 : (Jvm.Cond.methodLink "ForestPacker$Packing" (60 : Nat) ({ cls := "ForestPacker$RootedForest", name := "clear", desc := "()V" } : Jvm.MethodName)) ∈ gw_T := gw_of 194 (by decide +kernel) (by decide +kernel)
theorem gw_195 : (Jvm.Cond.instanceMethod ({ cls := "ForestPacker$RootedForest", name := "clear", desc := "()V" } : Jvm.MethodName)) ∈ gw_T := gw_of 195 (by decide +kernel) (by decide +kernel)
theorem gw_196 : (Jvm.Cond.selects "ForestPacker$RootedForest" ({ cls := "ForestPacker$RootedForest", name := "clear", desc := "()V" } : Jvm.MethodName) ({ cls := "ForestPacker$RootedForest", name := "clear", desc := "()V" } : Jvm.MethodName)) ∈ gw_T := gw_of 196 (by decide +kernel) (by decide +kernel)
theorem gw_197 : (Jvm.Cond.code ({ cls := "ForestPacker$RootedForest", name := "clear", desc := "()V" } : Jvm.MethodName) prog_4_method_2_code (1 : Nat) (Option.none : Option Jvm.ClassFile.FieldType)) ∈ gw_T := gw_of 197 (by decide +kernel) (by decide +kernel)
theorem gw_198 : (Jvm.Cond.methodLink "ForestPacker$RootedForest" (18 : Nat) ({ cls := "java/util/Arrays", name := "fill", desc := "([II)V" } : Jvm.MethodName)) ∈ gw_T := gw_of 198 (by decide +kernel) (by decide +kernel)
theorem gw_199 : (Jvm.Cond.static ({ cls := "java/util/Arrays", name := "fill", desc := "([II)V" } : Jvm.MethodName)) ∈ gw_T := gw_of 199 (by decide +kernel) (by decide +kernel)
theorem gw_200 : (Jvm.Cond.code ({ cls := "java/util/Arrays", name := "fill", desc := "([II)V" } : Jvm.MethodName) prog_9_method_103_code (4 : Nat) (Option.none : Option Jvm.ClassFile.FieldType)) ∈ gw_T := gw_of 200 (by decide +kernel) (by decide +kernel)
theorem gw_201 : (Jvm.Cond.methodLink "ForestPacker$Packing" (63 : Nat) ({ cls := "java/util/Arrays", name := "fill", desc := "([II)V" } : Jvm.MethodName)) ∈ gw_T := gw_of 201 (by decide +kernel) (by decide +kernel)
theorem gw_202 : (Jvm.Cond.methodLink "ForestPacker$Packing" (69 : Nat) ({ cls := "ForestPacker$Graph", name := "hasEdge", desc := "(I)Z" } : Jvm.MethodName)) ∈ gw_T := gw_of 202 (by decide +kernel) (by decide +kernel)
theorem gw_203 : (Jvm.Cond.methodLink "ForestPacker$Packing" (81 : Nat) ({ cls := "ForestPacker$Packing", name := "findRoom", desc := "(LForestPacker$Graph;II)Z" } : Jvm.MethodName)) ∈ gw_T := gw_of 203 (by decide +kernel) (by decide +kernel)
theorem gw_204 : (Jvm.Cond.instanceMethod ({ cls := "ForestPacker$Packing", name := "findRoom", desc := "(LForestPacker$Graph;II)Z" } : Jvm.MethodName)) ∈ gw_T := gw_of 204 (by decide +kernel) (by decide +kernel)
theorem gw_205 : (Jvm.Cond.selects "ForestPacker$Packing" ({ cls := "ForestPacker$Packing", name := "findRoom", desc := "(LForestPacker$Graph;II)Z" } : Jvm.MethodName) ({ cls := "ForestPacker$Packing", name := "findRoom", desc := "(LForestPacker$Graph;II)Z" } : Jvm.MethodName)) ∈ gw_T := gw_of 205 (by decide +kernel) (by decide +kernel)
theorem gw_206 : (Jvm.Cond.code ({ cls := "ForestPacker$Packing", name := "findRoom", desc := "(LForestPacker$Graph;II)Z" } : Jvm.MethodName) prog_3_method_7_code (6 : Nat) (Option.some Jvm.ClassFile.FieldType.boolean)) ∈ gw_T := gw_of 206 (by decide +kernel) (by decide +kernel)
theorem gw_207 : (Jvm.Cond.methodLink "ForestPacker$Packing" (106 : Nat) ({ cls := "ForestPacker$Packing", name := "reachFrom", desc := "(III)Z" } : Jvm.MethodName)) ∈ gw_T := gw_of 207 (by decide +kernel) (by decide +kernel)
theorem gw_209 : (Jvm.Cond.instanceMethod ({ cls := "ForestPacker$Packing", name := "reachFrom", desc := "(III)Z" } : Jvm.MethodName)) ∈ gw_T := gw_of 209 (by decide +kernel) (by decide +kernel)
theorem gw_210 : (Jvm.Cond.code ({ cls := "ForestPacker$Packing", name := "reachFrom", desc := "(III)Z" } : Jvm.MethodName) prog_3_method_8_code (6 : Nat) (Option.some Jvm.ClassFile.FieldType.boolean)) ∈ gw_T := gw_of 210 (by decide +kernel) (by decide +kernel)
theorem gw_211 : (Jvm.Cond.methodLink "ForestPacker$Packing" (92 : Nat) ({ cls := "ForestPacker$RootedForest", name := "way", desc := "(II)I" } : Jvm.MethodName)) ∈ gw_T := gw_of 211 (by decide +kernel) (by decide +kernel)
theorem gw_212 : (Jvm.Cond.instanceMethod ({ cls := "ForestPacker$RootedForest", name := "way", desc := "(II)I" } : Jvm.MethodName)) ∈ gw_T := gw_of 212 (by decide +kernel) (by decide +kernel)
theorem gw_213 : (Jvm.Cond.selects "ForestPacker$RootedForest" ({ cls := "ForestPacker$RootedForest", name := "way", desc := "(II)I" } : Jvm.MethodName) ({ cls := "ForestPacker$RootedForest", name := "way", desc := "(II)I" } : Jvm.MethodName)) ∈ gw_T := gw_of 213 (by decide +kernel) (by decide +kernel)
theorem gw_214 : (Jvm.Cond.code ({ cls := "ForestPacker$RootedForest", name := "way", desc := "(II)I" } : Jvm.MethodName) prog_4_method_3_code (8 : Nat) (Option.some Jvm.ClassFile.FieldType.int)) ∈ gw_T := gw_of 214 (by decide +kernel) (by decide +kernel)
theorem gw_215 : (Jvm.Cond.methodLink "ForestPacker$Packing" (110 : Nat) ({ cls := "ForestPacker$Packing", name := "reach", desc := "(II)V" } : Jvm.MethodName)) ∈ gw_T := gw_of 215 (by decide +kernel) (by decide +kernel)
theorem gw_217 : (Jvm.Cond.instanceMethod ({ cls := "ForestPacker$Packing", name := "reach", desc := "(II)V" } : Jvm.MethodName)) ∈ gw_T := gw_of 217 (by decide +kernel) (by decide +kernel)
theorem gw_218 : (Jvm.Cond.code ({ cls := "ForestPacker$Packing", name := "reach", desc := "(II)V" } : Jvm.MethodName) prog_3_method_9_code (5 : Nat) (Option.none : Option Jvm.ClassFile.FieldType)) ∈ gw_T := gw_of 218 (by decide +kernel) (by decide +kernel)
theorem gw_219 : (Jvm.Cond.methodLink "ForestPacker$Packing" (85 : Nat) ({ cls := "ForestPacker$Packing", name := "takeIn", desc := "(LForestPacker$Graph;I)V" } : Jvm.MethodName)) ∈ gw_T := gw_of 219 (by decide +kernel) (by decide +kernel)
theorem gw_221 : (Jvm.Cond.instanceMethod ({ cls := "ForestPacker$Packing", name := "takeIn", desc := "(LForestPacker$Graph;I)V" } : Jvm.MethodName)) ∈ gw_T := gw_of 221 (by decide +kernel) (by decide +kernel)
theorem gw_222 : (Jvm.Cond.code ({ cls := "ForestPacker$Packing", name := "takeIn", desc := "(LForestPacker$Graph;I)V" } : Jvm.MethodName) prog_3_method_10_code (7 : Nat) (Option.none : Option Jvm.ClassFile.FieldType)) ∈ gw_T := gw_of 222 (by decide +kernel) (by decide +kernel)
theorem gw_223 : (Jvm.Cond.methodLink "ForestPacker$Packing" (95 : Nat) ({ cls := "ForestPacker$Packing", name := "remove", desc := "(LForestPacker$Graph;I)V" } : Jvm.MethodName)) ∈ gw_T := gw_of 223 (by decide +kernel) (by decide +kernel)
theorem gw_225 : (Jvm.Cond.instanceMethod ({ cls := "ForestPacker$Packing", name := "remove", desc := "(LForestPacker$Graph;I)V" } : Jvm.MethodName)) ∈ gw_T := gw_of 225 (by decide +kernel) (by decide +kernel)
theorem gw_226 : (Jvm.Cond.code ({ cls := "ForestPacker$Packing", name := "remove", desc := "(LForestPacker$Graph;I)V" } : Jvm.MethodName) prog_3_method_12_code (4 : Nat) (Option.none : Option Jvm.ClassFile.FieldType)) ∈ gw_T := gw_of 226 (by decide +kernel) (by decide +kernel)
theorem gw_227 : (Jvm.Cond.methodLink "ForestPacker$Packing" (118 : Nat) ({ cls := "ForestPacker$RootedForest", name := "unlink", desc := "(III)V" } : Jvm.MethodName)) ∈ gw_T := gw_of 227 (by decide +kernel) (by decide +kernel)
theorem gw_228 : (Jvm.Cond.instanceMethod ({ cls := "ForestPacker$RootedForest", name := "unlink", desc := "(III)V" } : Jvm.MethodName)) ∈ gw_T := gw_of 228 (by decide +kernel) (by decide +kernel)
theorem gw_229 : (Jvm.Cond.selects "ForestPacker$RootedForest" ({ cls := "ForestPacker$RootedForest", name := "unlink", desc := "(III)V" } : Jvm.MethodName) ({ cls := "ForestPacker$RootedForest", name := "unlink", desc := "(III)V" } : Jvm.MethodName)) ∈ gw_T := gw_of 229 (by decide +kernel) (by decide +kernel)
theorem gw_230 : (Jvm.Cond.code ({ cls := "ForestPacker$RootedForest", name := "unlink", desc := "(III)V" } : Jvm.MethodName) prog_4_method_5_code (5 : Nat) (Option.none : Option Jvm.ClassFile.FieldType)) ∈ gw_T := gw_of 230 (by decide +kernel) (by decide +kernel)
theorem gw_231 : (Jvm.Cond.methodLink "ForestPacker$Packing" (98 : Nat) ({ cls := "ForestPacker$Packing", name := "put", desc := "(LForestPacker$Graph;II)V" } : Jvm.MethodName)) ∈ gw_T := gw_of 231 (by decide +kernel) (by decide +kernel)
theorem gw_233 : (Jvm.Cond.instanceMethod ({ cls := "ForestPacker$Packing", name := "put", desc := "(LForestPacker$Graph;II)V" } : Jvm.MethodName)) ∈ gw_T := gw_of 233 (by decide +kernel) (by decide +kernel)
theorem gw_234 : (Jvm.Cond.code ({ cls := "ForestPacker$Packing", name := "put", desc := "(LForestPacker$Graph;II)V" } : Jvm.MethodName) prog_3_method_11_code (4 : Nat) (Option.none : Option Jvm.ClassFile.FieldType)) ∈ gw_T := gw_of 234 (by decide +kernel) (by decide +kernel)
theorem gw_235 : (Jvm.Cond.methodLink "ForestPacker$Packing" (114 : Nat) ({ cls := "ForestPacker$RootedForest", name := "link", desc := "(III)V" } : Jvm.MethodName)) ∈ gw_T := gw_of 235 (by decide +kernel) (by decide +kernel)
theorem gw_236 : (Jvm.Cond.instanceMethod ({ cls := "ForestPacker$RootedForest", name := "link", desc := "(III)V" } : Jvm.MethodName)) ∈ gw_T := gw_of 236 (by decide +kernel) (by decide +kernel)
theorem gw_237 : (Jvm.Cond.selects "ForestPacker$RootedForest" ({ cls := "ForestPacker$RootedForest", name := "link", desc := "(III)V" } : Jvm.MethodName) ({ cls := "ForestPacker$RootedForest", name := "link", desc := "(III)V" } : Jvm.MethodName)) ∈ gw_T := gw_of 237 (by decide +kernel) (by decide +kernel)
theorem gw_238 : (Jvm.Cond.code ({ cls := "ForestPacker$RootedForest", name := "link", desc := "(III)V" } : Jvm.MethodName) prog_4_method_4_code (10 : Nat) (Option.none : Option Jvm.ClassFile.FieldType)) ∈ gw_T := gw_of 238 (by decide +kernel) (by decide +kernel)
theorem gw_239 : (Jvm.Cond.methodLink "ForestPackerLaw" (31 : Nat) ({ cls := "ForestPacker", name := "held", desc := "(II)I" } : Jvm.MethodName)) ∈ gw_T := gw_of 239 (by decide +kernel) (by decide +kernel)
theorem gw_240 : (Jvm.Cond.instanceMethod ({ cls := "ForestPacker", name := "held", desc := "(II)I" } : Jvm.MethodName)) ∈ gw_T := gw_of 240 (by decide +kernel) (by decide +kernel)
theorem gw_241 : (Jvm.Cond.selects "ForestPacker" ({ cls := "ForestPacker", name := "held", desc := "(II)I" } : Jvm.MethodName) ({ cls := "ForestPacker", name := "held", desc := "(II)I" } : Jvm.MethodName)) ∈ gw_T := gw_of 241 (by decide +kernel) (by decide +kernel)
theorem gw_242 : (Jvm.Cond.code ({ cls := "ForestPacker", name := "held", desc := "(II)I" } : Jvm.MethodName) prog_1_method_6_code (3 : Nat) (Option.some Jvm.ClassFile.FieldType.int)) ∈ gw_T := gw_of 242 (by decide +kernel) (by decide +kernel)
theorem gw_243 : (Jvm.Cond.methodLink "ForestPackerLaw" (35 : Nat) ({ cls := "ForestPacker", name := "forest", desc := "(II)I" } : Jvm.MethodName)) ∈ gw_T := gw_of 243 (by decide +kernel) (by decide +kernel)
theorem gw_244 : (Jvm.Cond.instanceMethod ({ cls := "ForestPacker", name := "forest", desc := "(II)I" } : Jvm.MethodName)) ∈ gw_T := gw_of 244 (by decide +kernel) (by decide +kernel)
theorem gw_245 : (Jvm.Cond.selects "ForestPacker" ({ cls := "ForestPacker", name := "forest", desc := "(II)I" } : Jvm.MethodName) ({ cls := "ForestPacker", name := "forest", desc := "(II)I" } : Jvm.MethodName)) ∈ gw_T := gw_of 245 (by decide +kernel) (by decide +kernel)
theorem gw_246 : (Jvm.Cond.code ({ cls := "ForestPacker", name := "forest", desc := "(II)I" } : Jvm.MethodName) prog_1_method_7_code (4 : Nat) (Option.some Jvm.ClassFile.FieldType.int)) ∈ gw_T := gw_of 246 (by decide +kernel) (by decide +kernel)
theorem gw_247 : (Jvm.Cond.methodLink "ForestPacker" (78 : Nat) ({ cls := "ForestPacker$Packing", name := "settle", desc := "(LForestPacker$Graph;)V" } : Jvm.MethodName)) ∈ gw_T := gw_of 247 (by decide +kernel) (by decide +kernel)
theorem gw_248 : (Jvm.Cond.instanceMethod ({ cls := "ForestPacker$Packing", name := "settle", desc := "(LForestPacker$Graph;)V" } : Jvm.MethodName)) ∈ gw_T := gw_of 248 (by decide +kernel) (by decide +kernel)
theorem gw_249 : (Jvm.Cond.selects "ForestPacker$Packing" ({ cls := "ForestPacker$Packing", name := "settle", desc := "(LForestPacker$Graph;)V" } : Jvm.MethodName) ({ cls := "ForestPacker$Packing", name := "settle", desc := "(LForestPacker$Graph;)V" } : Jvm.MethodName)) ∈ gw_T := gw_of 249 (by decide +kernel) (by decide +kernel)
theorem gw_250 : (Jvm.Cond.code ({ cls := "ForestPacker$Packing", name := "settle", desc := "(LForestPacker$Graph;)V" } : Jvm.MethodName) prog_3_method_3_code (5 : Nat) (Option.none : Option Jvm.ClassFile.FieldType)) ∈ gw_T := gw_of 250 (by decide +kernel) (by decide +kernel)
theorem gw_251 : (Jvm.Cond.methodLink "ForestPacker$Packing" (89 : Nat) ({ cls := "ForestPacker$Packing", name := "movesTo", desc := "(LForestPacker$Graph;II)Z" } : Jvm.MethodName)) ∈ gw_T := gw_of 251 (by decide +kernel) (by decide +kernel)
theorem gw_253 : (Jvm.Cond.instanceMethod ({ cls := "ForestPacker$Packing", name := "movesTo", desc := "(LForestPacker$Graph;II)Z" } : Jvm.MethodName)) ∈ gw_T := gw_of 253 (by decide +kernel) (by decide +kernel)
theorem gw_254 : (Jvm.Cond.code ({ cls := "ForestPacker$Packing", name := "movesTo", desc := "(LForestPacker$Graph;II)Z" } : Jvm.MethodName) prog_3_method_4_code (7 : Nat) (Option.some Jvm.ClassFile.FieldType.boolean)) ∈ gw_T := gw_of 254 (by decide +kernel) (by decide +kernel)
theorem gw_255 : (Jvm.Cond.methodLink "ForestPacker$Packing" (102 : Nat) ({ cls := "ForestPacker$Packing", name := "leastOf", desc := "(I)I" } : Jvm.MethodName)) ∈ gw_T := gw_of 255 (by decide +kernel) (by decide +kernel)
theorem gw_256 : (Jvm.Cond.static ({ cls := "ForestPacker$Packing", name := "leastOf", desc := "(I)I" } : Jvm.MethodName)) ∈ gw_T := gw_of 256 (by decide +kernel) (by decide +kernel)
theorem gw_257 : (Jvm.Cond.code ({ cls := "ForestPacker$Packing", name := "leastOf", desc := "(I)I" } : Jvm.MethodName) prog_3_method_13_code (2 : Nat) (Option.some Jvm.ClassFile.FieldType.int)) ∈ gw_T := gw_of 257 (by decide +kernel) (by decide +kernel)
theorem gw_258 : (Jvm.Cond.methodLink "ForestPackerLaw" (39 : Nat) ({ cls := "ForestPacker", name := "why", desc := "(III)I" } : Jvm.MethodName)) ∈ gw_T := gw_of 258 (by decide +kernel) (by decide +kernel)
theorem gw_259 : (Jvm.Cond.instanceMethod ({ cls := "ForestPacker", name := "why", desc := "(III)I" } : Jvm.MethodName)) ∈ gw_T := gw_of 259 (by decide +kernel) (by decide +kernel)
theorem gw_260 : (Jvm.Cond.selects "ForestPacker" ({ cls := "ForestPacker", name := "why", desc := "(III)I" } : Jvm.MethodName) ({ cls := "ForestPacker", name := "why", desc := "(III)I" } : Jvm.MethodName)) ∈ gw_T := gw_of 260 (by decide +kernel) (by decide +kernel)
theorem gw_261 : (Jvm.Cond.code ({ cls := "ForestPacker", name := "why", desc := "(III)I" } : Jvm.MethodName) prog_1_method_8_code (6 : Nat) (Option.some Jvm.ClassFile.FieldType.int)) ∈ gw_T := gw_of 261 (by decide +kernel) (by decide +kernel)
theorem gw_262 : (Jvm.Cond.methodLink "ForestPacker" (82 : Nat) ({ cls := "ForestPacker$Packing", name := "reason", desc := "(LForestPacker$Graph;I)I" } : Jvm.MethodName)) ∈ gw_T := gw_of 262 (by decide +kernel) (by decide +kernel)
theorem gw_263 : (Jvm.Cond.instanceMethod ({ cls := "ForestPacker$Packing", name := "reason", desc := "(LForestPacker$Graph;I)I" } : Jvm.MethodName)) ∈ gw_T := gw_of 263 (by decide +kernel) (by decide +kernel)
theorem gw_264 : (Jvm.Cond.selects "ForestPacker$Packing" ({ cls := "ForestPacker$Packing", name := "reason", desc := "(LForestPacker$Graph;I)I" } : Jvm.MethodName) ({ cls := "ForestPacker$Packing", name := "reason", desc := "(LForestPacker$Graph;I)I" } : Jvm.MethodName)) ∈ gw_T := gw_of 264 (by decide +kernel) (by decide +kernel)
theorem gw_265 : (Jvm.Cond.code ({ cls := "ForestPacker$Packing", name := "reason", desc := "(LForestPacker$Graph;I)I" } : Jvm.MethodName) prog_3_method_5_code (3 : Nat) (Option.some Jvm.ClassFile.FieldType.int)) ∈ gw_T := gw_of 265 (by decide +kernel) (by decide +kernel)
theorem gw_266 : (Jvm.Cond.methodLink "ForestPacker" (86 : Nat) ({ cls := "java/lang/Integer", name := "bitCount", desc := "(I)I" } : Jvm.MethodName)) ∈ gw_T := gw_of 266 (by decide +kernel) (by decide +kernel)
theorem gw_267 : (Jvm.Cond.methodLink "ForestPackerLaw" (44 : Nat) ({ cls := "ForestPacker", name := "tight", desc := "(III)I" } : Jvm.MethodName)) ∈ gw_T := gw_of 267 (by decide +kernel) (by decide +kernel)
theorem gw_268 : (Jvm.Cond.instanceMethod ({ cls := "ForestPacker", name := "tight", desc := "(III)I" } : Jvm.MethodName)) ∈ gw_T := gw_of 268 (by decide +kernel) (by decide +kernel)
theorem gw_269 : (Jvm.Cond.selects "ForestPacker" ({ cls := "ForestPacker", name := "tight", desc := "(III)I" } : Jvm.MethodName) ({ cls := "ForestPacker", name := "tight", desc := "(III)I" } : Jvm.MethodName)) ∈ gw_T := gw_of 269 (by decide +kernel) (by decide +kernel)
theorem gw_270 : (Jvm.Cond.code ({ cls := "ForestPacker", name := "tight", desc := "(III)I" } : Jvm.MethodName) prog_1_method_9_code (4 : Nat) (Option.some Jvm.ClassFile.FieldType.int)) ∈ gw_T := gw_of 270 (by decide +kernel) (by decide +kernel)
theorem gw_271 : (Jvm.Cond.methodLink "ForestPacker" (92 : Nat) ({ cls := "ForestPacker$Packing", name := "findRoom", desc := "(LForestPacker$Graph;II)Z" } : Jvm.MethodName)) ∈ gw_T := gw_of 271 (by decide +kernel) (by decide +kernel)
theorem gw_272 : (Jvm.Cond.methodLink "ForestPackerLaw" (48 : Nat) ({ cls := "ForestPacker", name := "classes", desc := "(I)I" } : Jvm.MethodName)) ∈ gw_T := gw_of 272 (by decide +kernel) (by decide +kernel)
theorem gw_273 : (Jvm.Cond.instanceMethod ({ cls := "ForestPacker", name := "classes", desc := "(I)I" } : Jvm.MethodName)) ∈ gw_T := gw_of 273 (by decide +kernel) (by decide +kernel)
theorem gw_274 : (Jvm.Cond.selects "ForestPacker" ({ cls := "ForestPacker", name := "classes", desc := "(I)I" } : Jvm.MethodName) ({ cls := "ForestPacker", name := "classes", desc := "(I)I" } : Jvm.MethodName)) ∈ gw_T := gw_of 274 (by decide +kernel) (by decide +kernel)
theorem gw_275 : (Jvm.Cond.code ({ cls := "ForestPacker", name := "classes", desc := "(I)I" } : Jvm.MethodName) prog_1_method_10_code (5 : Nat) (Option.some Jvm.ClassFile.FieldType.int)) ∈ gw_T := gw_of 275 (by decide +kernel) (by decide +kernel)
theorem gw_276 : (Jvm.Cond.methodLink "ForestPacker" (96 : Nat) ({ cls := "ForestPacker$Packing", name := "isFirstOfClass", desc := "(LForestPacker$Graph;I)Z" } : Jvm.MethodName)) ∈ gw_T := gw_of 276 (by decide +kernel) (by decide +kernel)
theorem gw_277 : (Jvm.Cond.instanceMethod ({ cls := "ForestPacker$Packing", name := "isFirstOfClass", desc := "(LForestPacker$Graph;I)Z" } : Jvm.MethodName)) ∈ gw_T := gw_of 277 (by decide +kernel) (by decide +kernel)
theorem gw_278 : (Jvm.Cond.selects "ForestPacker$Packing" ({ cls := "ForestPacker$Packing", name := "isFirstOfClass", desc := "(LForestPacker$Graph;I)Z" } : Jvm.MethodName) ({ cls := "ForestPacker$Packing", name := "isFirstOfClass", desc := "(LForestPacker$Graph;I)Z" } : Jvm.MethodName)) ∈ gw_T := gw_of 278 (by decide +kernel) (by decide +kernel)
theorem gw_279 : (Jvm.Cond.code ({ cls := "ForestPacker$Packing", name := "isFirstOfClass", desc := "(LForestPacker$Graph;I)Z" } : Jvm.MethodName) prog_3_method_6_code (4 : Nat) (Option.some Jvm.ClassFile.FieldType.boolean)) ∈ gw_T := gw_of 279 (by decide +kernel) (by decide +kernel)
theorem gw_280 : (Jvm.Cond.methodLink "ForestPackerLaw" (52 : Nat) ({ cls := "ForestPacker", name := "crossing", desc := "(I)I" } : Jvm.MethodName)) ∈ gw_T := gw_of 280 (by decide +kernel) (by decide +kernel)
theorem gw_281 : (Jvm.Cond.instanceMethod ({ cls := "ForestPacker", name := "crossing", desc := "(I)I" } : Jvm.MethodName)) ∈ gw_T := gw_of 281 (by decide +kernel) (by decide +kernel)
theorem gw_282 : (Jvm.Cond.selects "ForestPacker" ({ cls := "ForestPacker", name := "crossing", desc := "(I)I" } : Jvm.MethodName) ({ cls := "ForestPacker", name := "crossing", desc := "(I)I" } : Jvm.MethodName)) ∈ gw_T := gw_of 282 (by decide +kernel) (by decide +kernel)
theorem gw_283 : (Jvm.Cond.code ({ cls := "ForestPacker", name := "crossing", desc := "(I)I" } : Jvm.MethodName) prog_1_method_11_code (5 : Nat) (Option.some Jvm.ClassFile.FieldType.int)) ∈ gw_T := gw_of 283 (by decide +kernel) (by decide +kernel)
theorem gw_284 : (Jvm.Cond.methodLink "ForestPackerLaw" (56 : Nat) ({ cls := "ForestPacker", name := "arboricity", desc := "()I" } : Jvm.MethodName)) ∈ gw_T := gw_of 284 (by decide +kernel) (by decide +kernel)
theorem gw_285 : (Jvm.Cond.instanceMethod ({ cls := "ForestPacker", name := "arboricity", desc := "()I" } : Jvm.MethodName)) ∈ gw_T := gw_of 285 (by decide +kernel) (by decide +kernel)
theorem gw_286 : (Jvm.Cond.selects "ForestPacker" ({ cls := "ForestPacker", name := "arboricity", desc := "()I" } : Jvm.MethodName) ({ cls := "ForestPacker", name := "arboricity", desc := "()I" } : Jvm.MethodName)) ∈ gw_T := gw_of 286 (by decide +kernel) (by decide +kernel)
theorem gw_287 : (Jvm.Cond.code ({ cls := "ForestPacker", name := "arboricity", desc := "()I" } : Jvm.MethodName) prog_1_method_12_code (3 : Nat) (Option.some Jvm.ClassFile.FieldType.int)) ∈ gw_T := gw_of 287 (by decide +kernel) (by decide +kernel)
theorem gw_288 : (Jvm.Cond.methodLink "ForestPackerLaw" (61 : Nat) ({ cls := "ForestPacker", name := "dense", desc := "()I" } : Jvm.MethodName)) ∈ gw_T := gw_of 288 (by decide +kernel) (by decide +kernel)
theorem gw_289 : (Jvm.Cond.instanceMethod ({ cls := "ForestPacker", name := "dense", desc := "()I" } : Jvm.MethodName)) ∈ gw_T := gw_of 289 (by decide +kernel) (by decide +kernel)
theorem gw_290 : (Jvm.Cond.selects "ForestPacker" ({ cls := "ForestPacker", name := "dense", desc := "()I" } : Jvm.MethodName) ({ cls := "ForestPacker", name := "dense", desc := "()I" } : Jvm.MethodName)) ∈ gw_T := gw_of 290 (by decide +kernel) (by decide +kernel)
theorem gw_291 : (Jvm.Cond.code ({ cls := "ForestPacker", name := "dense", desc := "()I" } : Jvm.MethodName) prog_1_method_13_code (4 : Nat) (Option.some Jvm.ClassFile.FieldType.int)) ∈ gw_T := gw_of 291 (by decide +kernel) (by decide +kernel)
theorem gw_292 : (Jvm.Cond.methodLink "ForestPacker" (100 : Nat) ({ cls := "ForestPacker", name := "arboricity", desc := "()I" } : Jvm.MethodName)) ∈ gw_T := gw_of 292 (by decide +kernel) (by decide +kernel)
theorem gw_293 : (Jvm.Cond.methodLink "ForestPacker" (103 : Nat) ({ cls := "ForestPacker$Graph", name := "verticesOf", desc := "(I)I" } : Jvm.MethodName)) ∈ gw_T := gw_of 293 (by decide +kernel) (by decide +kernel)
theorem gw_294 : (Jvm.Cond.instanceMethod ({ cls := "ForestPacker$Graph", name := "verticesOf", desc := "(I)I" } : Jvm.MethodName)) ∈ gw_T := gw_of 294 (by decide +kernel) (by decide +kernel)
theorem gw_295 : (Jvm.Cond.selects "ForestPacker$Graph" ({ cls := "ForestPacker$Graph", name := "verticesOf", desc := "(I)I" } : Jvm.MethodName) ({ cls := "ForestPacker$Graph", name := "verticesOf", desc := "(I)I" } : Jvm.MethodName)) ∈ gw_T := gw_of 295 (by decide +kernel) (by decide +kernel)
theorem gw_296 : (Jvm.Cond.code ({ cls := "ForestPacker$Graph", name := "verticesOf", desc := "(I)I" } : Jvm.MethodName) prog_2_method_7_code (4 : Nat) (Option.some Jvm.ClassFile.FieldType.int)) ∈ gw_T := gw_of 296 (by decide +kernel) (by decide +kernel)
theorem gw_297 : (Jvm.Cond.methodLink "ForestPackerLaw" (65 : Nat) ({ cls := "ForestPacker", name := "spanning", desc := "()I" } : Jvm.MethodName)) ∈ gw_T := gw_of 297 (by decide +kernel) (by decide +kernel)
theorem gw_298 : (Jvm.Cond.instanceMethod ({ cls := "ForestPacker", name := "spanning", desc := "()I" } : Jvm.MethodName)) ∈ gw_T := gw_of 298 (by decide +kernel) (by decide +kernel)
theorem gw_299 : (Jvm.Cond.selects "ForestPacker" ({ cls := "ForestPacker", name := "spanning", desc := "()I" } : Jvm.MethodName) ({ cls := "ForestPacker", name := "spanning", desc := "()I" } : Jvm.MethodName)) ∈ gw_T := gw_of 299 (by decide +kernel) (by decide +kernel)
theorem gw_300 : (Jvm.Cond.code ({ cls := "ForestPacker", name := "spanning", desc := "()I" } : Jvm.MethodName) prog_1_method_14_code (2 : Nat) (Option.some Jvm.ClassFile.FieldType.int)) ∈ gw_T := gw_of 300 (by decide +kernel) (by decide +kernel)
theorem gw_301 : (Jvm.Cond.methodLink "ForestPackerLaw" (69 : Nat) ({ cls := "ForestPacker", name := "told", desc := "(II)I" } : Jvm.MethodName)) ∈ gw_T := gw_of 301 (by decide +kernel) (by decide +kernel)
theorem gw_302 : (Jvm.Cond.instanceMethod ({ cls := "ForestPacker", name := "told", desc := "(II)I" } : Jvm.MethodName)) ∈ gw_T := gw_of 302 (by decide +kernel) (by decide +kernel)
theorem gw_303 : (Jvm.Cond.selects "ForestPacker" ({ cls := "ForestPacker", name := "told", desc := "(II)I" } : Jvm.MethodName) ({ cls := "ForestPacker", name := "told", desc := "(II)I" } : Jvm.MethodName)) ∈ gw_T := gw_of 303 (by decide +kernel) (by decide +kernel)
theorem gw_304 : (Jvm.Cond.code ({ cls := "ForestPacker", name := "told", desc := "(II)I" } : Jvm.MethodName) prog_1_method_15_code (3 : Nat) (Option.some Jvm.ClassFile.FieldType.int)) ∈ gw_T := gw_of 304 (by decide +kernel) (by decide +kernel)
theorem gw_305 : (Jvm.Cond.methodLink "ForestPacker" (106 : Nat) ({ cls := "ForestPacker$Graph", name := "edgesAmong", desc := "(I)I" } : Jvm.MethodName)) ∈ gw_T := gw_of 305 (by decide +kernel) (by decide +kernel)
theorem gw_306 : (Jvm.Cond.instanceMethod ({ cls := "ForestPacker$Graph", name := "edgesAmong", desc := "(I)I" } : Jvm.MethodName)) ∈ gw_T := gw_of 306 (by decide +kernel) (by decide +kernel)
theorem gw_307 : (Jvm.Cond.selects "ForestPacker$Graph" ({ cls := "ForestPacker$Graph", name := "edgesAmong", desc := "(I)I" } : Jvm.MethodName) ({ cls := "ForestPacker$Graph", name := "edgesAmong", desc := "(I)I" } : Jvm.MethodName)) ∈ gw_T := gw_of 307 (by decide +kernel) (by decide +kernel)
theorem gw_308 : (Jvm.Cond.code ({ cls := "ForestPacker$Graph", name := "edgesAmong", desc := "(I)I" } : Jvm.MethodName) prog_2_method_6_code (4 : Nat) (Option.some Jvm.ClassFile.FieldType.int)) ∈ gw_T := gw_of 308 (by decide +kernel) (by decide +kernel)
theorem gw_309 : (Jvm.Cond.methodLink "ForestPacker$Graph" (35 : Nat) ({ cls := "ForestPacker$Graph", name := "verticesOf", desc := "(I)I" } : Jvm.MethodName)) ∈ gw_T := gw_of 309 (by decide +kernel) (by decide +kernel)
theorem gw_310 : (Jvm.Cond.classLink "ForestPackerLaw" (10 : Nat) "ForestPackerModel") ∈ gw_T := gw_of 310 (by decide +kernel) (by decide +kernel)
theorem gw_311 : (Jvm.Cond.instantiable "ForestPackerModel" (11 : Nat)) ∈ gw_T := gw_of 311 (by decide +kernel) (by decide +kernel)
theorem gw_312 : (Jvm.Cond.methodLink "ForestPackerLaw" (12 : Nat) ({ cls := "ForestPackerModel", name := "<init>", desc := "()V" } : Jvm.MethodName)) ∈ gw_T := gw_of 312 (by decide +kernel) (by decide +kernel)
theorem gw_313 : (Jvm.Cond.instanceMethod ({ cls := "ForestPackerModel", name := "<init>", desc := "()V" } : Jvm.MethodName)) ∈ gw_T := gw_of 313 (by decide +kernel) (by decide +kernel)
theorem gw_314 : (Jvm.Cond.code ({ cls := "ForestPackerModel", name := "<init>", desc := "()V" } : Jvm.MethodName) prog_6_method_1_code (1 : Nat) (Option.none : Option Jvm.ClassFile.FieldType)) ∈ gw_T := gw_of 314 (by decide +kernel) (by decide +kernel)
theorem gw_315 : (Jvm.Cond.methodLink "ForestPackerModel" (1 : Nat) ({ cls := "java/lang/Object", name := "<init>", desc := "()V" } : Jvm.MethodName)) ∈ gw_T := gw_of 315 (by decide +kernel) (by decide +kernel)
theorem gw_316 : (Jvm.Cond.fieldLink "ForestPackerModel" (7 : Nat) "ForestPackerModel" "n" "I") ∈ gw_T := gw_of 316 (by decide +kernel) (by decide +kernel)
theorem gw_317 : (Jvm.Cond.fieldLink "ForestPackerModel" (13 : Nat) "ForestPackerModel" "ends" "[I") ∈ gw_T := gw_of 317 (by decide +kernel) (by decide +kernel)
theorem gw_318 : (Jvm.Cond.fieldLink "ForestPackerModel" (17 : Nat) "ForestPackerModel" "isEdge" "[Z") ∈ gw_T := gw_of 318 (by decide +kernel) (by decide +kernel)
theorem gw_319 : (Jvm.Cond.fieldLink "ForestPackerModel" (65 : Nat) "ForestPackerModel" "heldBits" "I") ∈ gw_T := gw_of 319 (by decide +kernel) (by decide +kernel)
theorem gw_320 : (Jvm.Cond.fieldLink "ForestPackerModel" (21 : Nat) "ForestPackerModel" "forestOf" "[I") ∈ gw_T := gw_of 320 (by decide +kernel) (by decide +kernel)
theorem gw_321 : (Jvm.Cond.fieldLink "ForestPackerModel" (24 : Nat) "ForestPackerModel" "isFixed" "[Z") ∈ gw_T := gw_of 321 (by decide +kernel) (by decide +kernel)
theorem gw_322 : (Jvm.Cond.fieldLink "ForestPackerModel" (27 : Nat) "ForestPackerModel" "queue" "[I") ∈ gw_T := gw_of 322 (by decide +kernel) (by decide +kernel)
theorem gw_323 : (Jvm.Cond.fieldLink "ForestPackerModel" (30 : Nat) "ForestPackerModel" "cameFrom" "[I") ∈ gw_T := gw_of 323 (by decide +kernel) (by decide +kernel)
theorem gw_324 : (Jvm.Cond.fieldLink "ForestPackerModel" (33 : Nat) "ForestPackerModel" "cameTo" "[I") ∈ gw_T := gw_of 324 (by decide +kernel) (by decide +kernel)
theorem gw_325 : (Jvm.Cond.fieldLink "ForestPackerModel" (36 : Nat) "ForestPackerModel" "lifted" "[I") ∈ gw_T := gw_of 325 (by decide +kernel) (by decide +kernel)
theorem gw_326 : (Jvm.Cond.fieldLink "ForestPackerModel" (39 : Nat) "ForestPackerModel" "saved" "[I") ∈ gw_T := gw_of 326 (by decide +kernel) (by decide +kernel)
theorem gw_327 : (Jvm.Cond.lays "ForestPackerModel" "ForestPackerModel" "n" "I") ∈ gw_T := gw_of 327 (by decide +kernel) (by decide +kernel)
theorem gw_328 : (Jvm.Cond.soleField "ForestPackerModel" "n") ∈ gw_T := gw_of 328 (by decide +kernel) (by decide +kernel)
theorem gw_329 : (Jvm.Cond.laysFinal "ForestPackerModel" "ForestPackerModel" "ends" "[I") ∈ gw_T := gw_of 329 (by decide +kernel) (by decide +kernel)
theorem gw_330 : (Jvm.Cond.soleField "ForestPackerModel" "ends") ∈ gw_T := gw_of 330 (by decide +kernel) (by decide +kernel)
theorem gw_331 : (Jvm.Cond.laysFinal "ForestPackerModel" "ForestPackerModel" "isEdge" "[Z") ∈ gw_T := gw_of 331 (by decide +kernel) (by decide +kernel)
theorem gw_332 : (Jvm.Cond.soleField "ForestPackerModel" "isEdge") ∈ gw_T := gw_of 332 (by decide +kernel) (by decide +kernel)
theorem gw_333 : (Jvm.Cond.lays "ForestPackerModel" "ForestPackerModel" "heldBits" "I") ∈ gw_T := gw_of 333 (by decide +kernel) (by decide +kernel)
theorem gw_334 : (Jvm.Cond.soleField "ForestPackerModel" "heldBits") ∈ gw_T := gw_of 334 (by decide +kernel) (by decide +kernel)
theorem gw_335 : (Jvm.Cond.laysFinal "ForestPackerModel" "ForestPackerModel" "forestOf" "[I") ∈ gw_T := gw_of 335 (by decide +kernel) (by decide +kernel)
theorem gw_336 : (Jvm.Cond.soleField "ForestPackerModel" "forestOf") ∈ gw_T := gw_of 336 (by decide +kernel) (by decide +kernel)
theorem gw_337 : (Jvm.Cond.laysFinal "ForestPackerModel" "ForestPackerModel" "isFixed" "[Z") ∈ gw_T := gw_of 337 (by decide +kernel) (by decide +kernel)
theorem gw_338 : (Jvm.Cond.soleField "ForestPackerModel" "isFixed") ∈ gw_T := gw_of 338 (by decide +kernel) (by decide +kernel)
theorem gw_339 : (Jvm.Cond.laysFinal "ForestPackerModel" "ForestPackerModel" "queue" "[I") ∈ gw_T := gw_of 339 (by decide +kernel) (by decide +kernel)
theorem gw_340 : (Jvm.Cond.soleField "ForestPackerModel" "queue") ∈ gw_T := gw_of 340 (by decide +kernel) (by decide +kernel)
theorem gw_341 : (Jvm.Cond.laysFinal "ForestPackerModel" "ForestPackerModel" "cameFrom" "[I") ∈ gw_T := gw_of 341 (by decide +kernel) (by decide +kernel)
theorem gw_342 : (Jvm.Cond.soleField "ForestPackerModel" "cameFrom") ∈ gw_T := gw_of 342 (by decide +kernel) (by decide +kernel)
theorem gw_343 : (Jvm.Cond.laysFinal "ForestPackerModel" "ForestPackerModel" "cameTo" "[I") ∈ gw_T := gw_of 343 (by decide +kernel) (by decide +kernel)
theorem gw_344 : (Jvm.Cond.soleField "ForestPackerModel" "cameTo") ∈ gw_T := gw_of 344 (by decide +kernel) (by decide +kernel)
theorem gw_345 : (Jvm.Cond.laysFinal "ForestPackerModel" "ForestPackerModel" "lifted" "[I") ∈ gw_T := gw_of 345 (by decide +kernel) (by decide +kernel)
theorem gw_346 : (Jvm.Cond.soleField "ForestPackerModel" "lifted") ∈ gw_T := gw_of 346 (by decide +kernel) (by decide +kernel)
theorem gw_347 : (Jvm.Cond.laysFinal "ForestPackerModel" "ForestPackerModel" "saved" "[I") ∈ gw_T := gw_of 347 (by decide +kernel) (by decide +kernel)
theorem gw_348 : (Jvm.Cond.soleField "ForestPackerModel" "saved") ∈ gw_T := gw_of 348 (by decide +kernel) (by decide +kernel)
theorem gw_349 : (Jvm.Cond.superclass "ForestPackerModel" "java/lang/Object") ∈ gw_T := gw_of 349 (by decide +kernel) (by decide +kernel)
theorem gw_350 : (Jvm.Cond.arrayClass Jvm.ClassFile.FieldType.boolean) ∈ gw_T := gw_of 350 (by decide +kernel) (by decide +kernel)
theorem gw_351 : (Jvm.Cond.methodLink "ForestPackerLaw" (17 : Nat) ({ cls := "ForestPackerModel", name := "begin", desc := "(I)I" } : Jvm.MethodName)) ∈ gw_T := gw_of 351 (by decide +kernel) (by decide +kernel)
theorem gw_352 : (Jvm.Cond.instanceMethod ({ cls := "ForestPackerModel", name := "begin", desc := "(I)I" } : Jvm.MethodName)) ∈ gw_T := gw_of 352 (by decide +kernel) (by decide +kernel)
theorem gw_353 : (Jvm.Cond.selects "ForestPackerModel" ({ cls := "ForestPackerModel", name := "begin", desc := "(I)I" } : Jvm.MethodName) ({ cls := "ForestPackerModel", name := "begin", desc := "(I)I" } : Jvm.MethodName)) ∈ gw_T := gw_of 353 (by decide +kernel) (by decide +kernel)
theorem gw_354 : (Jvm.Cond.code ({ cls := "ForestPackerModel", name := "begin", desc := "(I)I" } : Jvm.MethodName) prog_6_method_6_code (4 : Nat) (Option.some Jvm.ClassFile.FieldType.int)) ∈ gw_T := gw_of 354 (by decide +kernel) (by decide +kernel)
theorem gw_355 : (Jvm.Cond.methodLink "ForestPackerModel" (42 : Nat) ({ cls := "ForestPackerModel", name := "in", desc := "(III)Z" } : Jvm.MethodName)) ∈ gw_T := gw_of 355 (by decide +kernel) (by decide +kernel)
theorem gw_356 : (Jvm.Cond.static ({ cls := "ForestPackerModel", name := "in", desc := "(III)Z" } : Jvm.MethodName)) ∈ gw_T := gw_of 356 (by decide +kernel) (by decide +kernel)
theorem gw_357 : (Jvm.Cond.code ({ cls := "ForestPackerModel", name := "in", desc := "(III)Z" } : Jvm.MethodName) prog_6_method_2_code (3 : Nat) (Option.some Jvm.ClassFile.FieldType.boolean)) ∈ gw_T := gw_of 357 (by decide +kernel) (by decide +kernel)
theorem gw_358 : (Jvm.Cond.methodLink "ForestPackerModel" (46 : Nat) ({ cls := "ForestPackerModel", name := "many", desc := "()I" } : Jvm.MethodName)) ∈ gw_T := gw_of 358 (by decide +kernel) (by decide +kernel)
theorem gw_360 : (Jvm.Cond.instanceMethod ({ cls := "ForestPackerModel", name := "many", desc := "()I" } : Jvm.MethodName)) ∈ gw_T := gw_of 360 (by decide +kernel) (by decide +kernel)
theorem gw_361 : (Jvm.Cond.code ({ cls := "ForestPackerModel", name := "many", desc := "()I" } : Jvm.MethodName) prog_6_method_5_code (3 : Nat) (Option.some Jvm.ClassFile.FieldType.int)) ∈ gw_T := gw_of 361 (by decide +kernel) (by decide +kernel)
theorem gw_362 : (Jvm.Cond.methodLink "ForestPackerLaw" (22 : Nat) ({ cls := "ForestPackerModel", name := "join", desc := "(II)I" } : Jvm.MethodName)) ∈ gw_T := gw_of 362 (by decide +kernel) (by decide +kernel)
theorem gw_363 : (Jvm.Cond.instanceMethod ({ cls := "ForestPackerModel", name := "join", desc := "(II)I" } : Jvm.MethodName)) ∈ gw_T := gw_of 363 (by decide +kernel) (by decide +kernel)
theorem gw_364 : (Jvm.Cond.selects "ForestPackerModel" ({ cls := "ForestPackerModel", name := "join", desc := "(II)I" } : Jvm.MethodName) ({ cls := "ForestPackerModel", name := "join", desc := "(II)I" } : Jvm.MethodName)) ∈ gw_T := gw_of 364 (by decide +kernel) (by decide +kernel)
theorem gw_365 : (Jvm.Cond.code ({ cls := "ForestPackerModel", name := "join", desc := "(II)I" } : Jvm.MethodName) prog_6_method_8_code (4 : Nat) (Option.some Jvm.ClassFile.FieldType.int)) ∈ gw_T := gw_of 365 (by decide +kernel) (by decide +kernel)
theorem gw_366 : (Jvm.Cond.methodLink "ForestPackerModel" (50 : Nat) ({ cls := "ForestPackerModel", name := "isVertex", desc := "(I)Z" } : Jvm.MethodName)) ∈ gw_T := gw_of 366 (by decide +kernel) (by decide +kernel)
theorem gw_368 : (Jvm.Cond.instanceMethod ({ cls := "ForestPackerModel", name := "isVertex", desc := "(I)Z" } : Jvm.MethodName)) ∈ gw_T := gw_of 368 (by decide +kernel) (by decide +kernel)
theorem gw_369 : (Jvm.Cond.code ({ cls := "ForestPackerModel", name := "isVertex", desc := "(I)Z" } : Jvm.MethodName) prog_6_method_7_code (2 : Nat) (Option.some Jvm.ClassFile.FieldType.boolean)) ∈ gw_T := gw_of 369 (by decide +kernel) (by decide +kernel)
theorem gw_370 : (Jvm.Cond.methodLink "ForestPackerLaw" (26 : Nat) ({ cls := "ForestPackerModel", name := "cut", desc := "(I)I" } : Jvm.MethodName)) ∈ gw_T := gw_of 370 (by decide +kernel) (by decide +kernel)
theorem gw_371 : (Jvm.Cond.instanceMethod ({ cls := "ForestPackerModel", name := "cut", desc := "(I)I" } : Jvm.MethodName)) ∈ gw_T := gw_of 371 (by decide +kernel) (by decide +kernel)
theorem gw_372 : (Jvm.Cond.selects "ForestPackerModel" ({ cls := "ForestPackerModel", name := "cut", desc := "(I)I" } : Jvm.MethodName) ({ cls := "ForestPackerModel", name := "cut", desc := "(I)I" } : Jvm.MethodName)) ∈ gw_T := gw_of 372 (by decide +kernel) (by decide +kernel)
theorem gw_373 : (Jvm.Cond.code ({ cls := "ForestPackerModel", name := "cut", desc := "(I)I" } : Jvm.MethodName) prog_6_method_9_code (2 : Nat) (Option.some Jvm.ClassFile.FieldType.int)) ∈ gw_T := gw_of 373 (by decide +kernel) (by decide +kernel)
theorem gw_374 : (Jvm.Cond.methodLink "ForestPackerModel" (54 : Nat) ({ cls := "ForestPackerModel", name := "has", desc := "(I)Z" } : Jvm.MethodName)) ∈ gw_T := gw_of 374 (by decide +kernel) (by decide +kernel)
theorem gw_376 : (Jvm.Cond.instanceMethod ({ cls := "ForestPackerModel", name := "has", desc := "(I)Z" } : Jvm.MethodName)) ∈ gw_T := gw_of 376 (by decide +kernel) (by decide +kernel)
theorem gw_377 : (Jvm.Cond.code ({ cls := "ForestPackerModel", name := "has", desc := "(I)Z" } : Jvm.MethodName) prog_6_method_3_code (2 : Nat) (Option.some Jvm.ClassFile.FieldType.boolean)) ∈ gw_T := gw_of 377 (by decide +kernel) (by decide +kernel)
theorem gw_378 : (Jvm.Cond.methodLink "ForestPackerLaw" (30 : Nat) ({ cls := "ForestPackerModel", name := "most", desc := "(I)I" } : Jvm.MethodName)) ∈ gw_T := gw_of 378 (by decide +kernel) (by decide +kernel)
theorem gw_379 : (Jvm.Cond.instanceMethod ({ cls := "ForestPackerModel", name := "most", desc := "(I)I" } : Jvm.MethodName)) ∈ gw_T := gw_of 379 (by decide +kernel) (by decide +kernel)
theorem gw_380 : (Jvm.Cond.selects "ForestPackerModel" ({ cls := "ForestPackerModel", name := "most", desc := "(I)I" } : Jvm.MethodName) ({ cls := "ForestPackerModel", name := "most", desc := "(I)I" } : Jvm.MethodName)) ∈ gw_T := gw_of 380 (by decide +kernel) (by decide +kernel)
theorem gw_381 : (Jvm.Cond.code ({ cls := "ForestPackerModel", name := "most", desc := "(I)I" } : Jvm.MethodName) prog_6_method_15_code (2 : Nat) (Option.some Jvm.ClassFile.FieldType.int)) ∈ gw_T := gw_of 381 (by decide +kernel) (by decide +kernel)
theorem gw_382 : (Jvm.Cond.methodLink "ForestPackerModel" (72 : Nat) ({ cls := "ForestPackerModel", name := "isK", desc := "(I)Z" } : Jvm.MethodName)) ∈ gw_T := gw_of 382 (by decide +kernel) (by decide +kernel)
theorem gw_383 : (Jvm.Cond.static ({ cls := "ForestPackerModel", name := "isK", desc := "(I)Z" } : Jvm.MethodName)) ∈ gw_T := gw_of 383 (by decide +kernel) (by decide +kernel)
theorem gw_384 : (Jvm.Cond.code ({ cls := "ForestPackerModel", name := "isK", desc := "(I)Z" } : Jvm.MethodName) prog_6_method_4_code (1 : Nat) (Option.some Jvm.ClassFile.FieldType.boolean)) ∈ gw_T := gw_of 384 (by decide +kernel) (by decide +kernel)
theorem gw_385 : (Jvm.Cond.methodLink "ForestPackerModel" (75 : Nat) ({ cls := "ForestPackerModel", name := "hold", desc := "(I)V" } : Jvm.MethodName)) ∈ gw_T := gw_of 385 (by decide +kernel) (by decide +kernel)
theorem gw_387 : (Jvm.Cond.instanceMethod ({ cls := "ForestPackerModel", name := "hold", desc := "(I)V" } : Jvm.MethodName)) ∈ gw_T := gw_of 387 (by decide +kernel) (by decide +kernel)
theorem gw_388 : (Jvm.Cond.code ({ cls := "ForestPackerModel", name := "hold", desc := "(I)V" } : Jvm.MethodName) prog_6_method_13_code (3 : Nat) (Option.none : Option Jvm.ClassFile.FieldType)) ∈ gw_T := gw_of 388 (by decide +kernel) (by decide +kernel)
theorem gw_389 : (Jvm.Cond.methodLink "ForestPackerModel" (68 : Nat) ({ cls := "ForestPackerModel", name := "fits", desc := "(IIII)Z" } : Jvm.MethodName)) ∈ gw_T := gw_of 389 (by decide +kernel) (by decide +kernel)
theorem gw_391 : (Jvm.Cond.instanceMethod ({ cls := "ForestPackerModel", name := "fits", desc := "(IIII)Z" } : Jvm.MethodName)) ∈ gw_T := gw_of 391 (by decide +kernel) (by decide +kernel)
theorem gw_392 : (Jvm.Cond.code ({ cls := "ForestPackerModel", name := "fits", desc := "(IIII)Z" } : Jvm.MethodName) prog_6_method_12_code (6 : Nat) (Option.some Jvm.ClassFile.FieldType.boolean)) ∈ gw_T := gw_of 392 (by decide +kernel) (by decide +kernel)
theorem gw_393 : (Jvm.Cond.methodLink "ForestPackerModel" (57 : Nat) ({ cls := "ForestPackerModel", name := "within", desc := "(IIII)I" } : Jvm.MethodName)) ∈ gw_T := gw_of 393 (by decide +kernel) (by decide +kernel)
theorem gw_395 : (Jvm.Cond.instanceMethod ({ cls := "ForestPackerModel", name := "within", desc := "(IIII)I" } : Jvm.MethodName)) ∈ gw_T := gw_of 395 (by decide +kernel) (by decide +kernel)
theorem gw_396 : (Jvm.Cond.code ({ cls := "ForestPackerModel", name := "within", desc := "(IIII)I" } : Jvm.MethodName) prog_6_method_11_code (8 : Nat) (Option.some Jvm.ClassFile.FieldType.int)) ∈ gw_T := gw_of 396 (by decide +kernel) (by decide +kernel)
theorem gw_397 : (Jvm.Cond.methodLink "ForestPackerModel" (61 : Nat) ({ cls := "ForestPackerModel", name := "bitsOf", desc := "(I)I" } : Jvm.MethodName)) ∈ gw_T := gw_of 397 (by decide +kernel) (by decide +kernel)
theorem gw_398 : (Jvm.Cond.static ({ cls := "ForestPackerModel", name := "bitsOf", desc := "(I)I" } : Jvm.MethodName)) ∈ gw_T := gw_of 398 (by decide +kernel) (by decide +kernel)
theorem gw_399 : (Jvm.Cond.code ({ cls := "ForestPackerModel", name := "bitsOf", desc := "(I)I" } : Jvm.MethodName) prog_6_method_10_code (3 : Nat) (Option.some Jvm.ClassFile.FieldType.int)) ∈ gw_T := gw_of 399 (by decide +kernel) (by decide +kernel)
theorem gw_400 : (Jvm.Cond.methodLink "ForestPackerModel" (79 : Nat) ({ cls := "ForestPackerModel", name := "heldMany", desc := "()I" } : Jvm.MethodName)) ∈ gw_T := gw_of 400 (by decide +kernel) (by decide +kernel)
theorem gw_402 : (Jvm.Cond.instanceMethod ({ cls := "ForestPackerModel", name := "heldMany", desc := "()I" } : Jvm.MethodName)) ∈ gw_T := gw_of 402 (by decide +kernel) (by decide +kernel)
theorem gw_403 : (Jvm.Cond.code ({ cls := "ForestPackerModel", name := "heldMany", desc := "()I" } : Jvm.MethodName) prog_6_method_14_code (3 : Nat) (Option.some Jvm.ClassFile.FieldType.int)) ∈ gw_T := gw_of 403 (by decide +kernel) (by decide +kernel)
theorem gw_404 : (Jvm.Cond.methodLink "ForestPackerLaw" (34 : Nat) ({ cls := "ForestPackerModel", name := "held", desc := "(II)I" } : Jvm.MethodName)) ∈ gw_T := gw_of 404 (by decide +kernel) (by decide +kernel)
theorem gw_405 : (Jvm.Cond.instanceMethod ({ cls := "ForestPackerModel", name := "held", desc := "(II)I" } : Jvm.MethodName)) ∈ gw_T := gw_of 405 (by decide +kernel) (by decide +kernel)
theorem gw_406 : (Jvm.Cond.selects "ForestPackerModel" ({ cls := "ForestPackerModel", name := "held", desc := "(II)I" } : Jvm.MethodName) ({ cls := "ForestPackerModel", name := "held", desc := "(II)I" } : Jvm.MethodName)) ∈ gw_T := gw_of 406 (by decide +kernel) (by decide +kernel)
theorem gw_407 : (Jvm.Cond.code ({ cls := "ForestPackerModel", name := "held", desc := "(II)I" } : Jvm.MethodName) prog_6_method_16_code (3 : Nat) (Option.some Jvm.ClassFile.FieldType.int)) ∈ gw_T := gw_of 407 (by decide +kernel) (by decide +kernel)
theorem gw_408 : (Jvm.Cond.methodLink "ForestPackerLaw" (38 : Nat) ({ cls := "ForestPackerModel", name := "forest", desc := "(II)I" } : Jvm.MethodName)) ∈ gw_T := gw_of 408 (by decide +kernel) (by decide +kernel)
theorem gw_409 : (Jvm.Cond.instanceMethod ({ cls := "ForestPackerModel", name := "forest", desc := "(II)I" } : Jvm.MethodName)) ∈ gw_T := gw_of 409 (by decide +kernel) (by decide +kernel)
theorem gw_410 : (Jvm.Cond.selects "ForestPackerModel" ({ cls := "ForestPackerModel", name := "forest", desc := "(II)I" } : Jvm.MethodName) ({ cls := "ForestPackerModel", name := "forest", desc := "(II)I" } : Jvm.MethodName)) ∈ gw_T := gw_of 410 (by decide +kernel) (by decide +kernel)
theorem gw_411 : (Jvm.Cond.code ({ cls := "ForestPackerModel", name := "forest", desc := "(II)I" } : Jvm.MethodName) prog_6_method_22_code (3 : Nat) (Option.some Jvm.ClassFile.FieldType.int)) ∈ gw_T := gw_of 411 (by decide +kernel) (by decide +kernel)
theorem gw_412 : (Jvm.Cond.methodLink "ForestPackerModel" (97 : Nat) ({ cls := "ForestPackerModel", name := "part", desc := "(I)V" } : Jvm.MethodName)) ∈ gw_T := gw_of 412 (by decide +kernel) (by decide +kernel)
theorem gw_414 : (Jvm.Cond.instanceMethod ({ cls := "ForestPackerModel", name := "part", desc := "(I)V" } : Jvm.MethodName)) ∈ gw_T := gw_of 414 (by decide +kernel) (by decide +kernel)
theorem gw_415 : (Jvm.Cond.code ({ cls := "ForestPackerModel", name := "part", desc := "(I)V" } : Jvm.MethodName) prog_6_method_21_code (6 : Nat) (Option.none : Option Jvm.ClassFile.FieldType)) ∈ gw_T := gw_of 415 (by decide +kernel) (by decide +kernel)
theorem gw_416 : (Jvm.Cond.methodLink "ForestPackerModel" (90 : Nat) ({ cls := "ForestPackerModel", name := "place", desc := "(II)Z" } : Jvm.MethodName)) ∈ gw_T := gw_of 416 (by decide +kernel) (by decide +kernel)
theorem gw_418 : (Jvm.Cond.instanceMethod ({ cls := "ForestPackerModel", name := "place", desc := "(II)Z" } : Jvm.MethodName)) ∈ gw_T := gw_of 418 (by decide +kernel) (by decide +kernel)
theorem gw_419 : (Jvm.Cond.code ({ cls := "ForestPackerModel", name := "place", desc := "(II)Z" } : Jvm.MethodName) prog_6_method_18_code (9 : Nat) (Option.some Jvm.ClassFile.FieldType.boolean)) ∈ gw_T := gw_of 419 (by decide +kernel) (by decide +kernel)
theorem gw_420 : (Jvm.Cond.methodLink "ForestPackerModel" (82 : Nat) ({ cls := "ForestPackerModel", name := "wayIn", desc := "(II)I" } : Jvm.MethodName)) ∈ gw_T := gw_of 420 (by decide +kernel) (by decide +kernel)
theorem gw_422 : (Jvm.Cond.instanceMethod ({ cls := "ForestPackerModel", name := "wayIn", desc := "(II)I" } : Jvm.MethodName)) ∈ gw_T := gw_of 422 (by decide +kernel) (by decide +kernel)
theorem gw_423 : (Jvm.Cond.code ({ cls := "ForestPackerModel", name := "wayIn", desc := "(II)I" } : Jvm.MethodName) prog_6_method_17_code (11 : Nat) (Option.some Jvm.ClassFile.FieldType.int)) ∈ gw_T := gw_of 423 (by decide +kernel) (by decide +kernel)
theorem gw_424 : (Jvm.Cond.methodLink "ForestPackerModel" (86 : Nat) ({ cls := "ForestPackerModel", name := "shift", desc := "(III)V" } : Jvm.MethodName)) ∈ gw_T := gw_of 424 (by decide +kernel) (by decide +kernel)
theorem gw_426 : (Jvm.Cond.instanceMethod ({ cls := "ForestPackerModel", name := "shift", desc := "(III)V" } : Jvm.MethodName)) ∈ gw_T := gw_of 426 (by decide +kernel) (by decide +kernel)
theorem gw_427 : (Jvm.Cond.code ({ cls := "ForestPackerModel", name := "shift", desc := "(III)V" } : Jvm.MethodName) prog_6_method_19_code (8 : Nat) (Option.none : Option Jvm.ClassFile.FieldType)) ∈ gw_T := gw_of 427 (by decide +kernel) (by decide +kernel)
theorem gw_428 : (Jvm.Cond.methodLink "ForestPackerModel" (94 : Nat) ({ cls := "ForestPackerModel", name := "move", desc := "(III)Z" } : Jvm.MethodName)) ∈ gw_T := gw_of 428 (by decide +kernel) (by decide +kernel)
theorem gw_430 : (Jvm.Cond.instanceMethod ({ cls := "ForestPackerModel", name := "move", desc := "(III)Z" } : Jvm.MethodName)) ∈ gw_T := gw_of 430 (by decide +kernel) (by decide +kernel)
theorem gw_431 : (Jvm.Cond.code ({ cls := "ForestPackerModel", name := "move", desc := "(III)Z" } : Jvm.MethodName) prog_6_method_20_code (8 : Nat) (Option.some Jvm.ClassFile.FieldType.boolean)) ∈ gw_T := gw_of 431 (by decide +kernel) (by decide +kernel)
theorem gw_432 : (Jvm.Cond.methodLink "ForestPackerLaw" (43 : Nat) ({ cls := "ForestPackerModel", name := "why", desc := "(III)I" } : Jvm.MethodName)) ∈ gw_T := gw_of 432 (by decide +kernel) (by decide +kernel)
theorem gw_433 : (Jvm.Cond.instanceMethod ({ cls := "ForestPackerModel", name := "why", desc := "(III)I" } : Jvm.MethodName)) ∈ gw_T := gw_of 433 (by decide +kernel) (by decide +kernel)
theorem gw_434 : (Jvm.Cond.selects "ForestPackerModel" ({ cls := "ForestPackerModel", name := "why", desc := "(III)I" } : Jvm.MethodName) ({ cls := "ForestPackerModel", name := "why", desc := "(III)I" } : Jvm.MethodName)) ∈ gw_T := gw_of 434 (by decide +kernel) (by decide +kernel)
theorem gw_435 : (Jvm.Cond.code ({ cls := "ForestPackerModel", name := "why", desc := "(III)I" } : Jvm.MethodName) prog_6_method_24_code (7 : Nat) (Option.some Jvm.ClassFile.FieldType.int)) ∈ gw_T := gw_of 435 (by decide +kernel) (by decide +kernel)
theorem gw_436 : (Jvm.Cond.methodLink "ForestPackerModel" (100 : Nat) ({ cls := "ForestPackerModel", name := "whyBits", desc := "(II)I" } : Jvm.MethodName)) ∈ gw_T := gw_of 436 (by decide +kernel) (by decide +kernel)
theorem gw_438 : (Jvm.Cond.instanceMethod ({ cls := "ForestPackerModel", name := "whyBits", desc := "(II)I" } : Jvm.MethodName)) ∈ gw_T := gw_of 438 (by decide +kernel) (by decide +kernel)
theorem gw_439 : (Jvm.Cond.code ({ cls := "ForestPackerModel", name := "whyBits", desc := "(II)I" } : Jvm.MethodName) prog_6_method_23_code (5 : Nat) (Option.some Jvm.ClassFile.FieldType.int)) ∈ gw_T := gw_of 439 (by decide +kernel) (by decide +kernel)
theorem gw_440 : (Jvm.Cond.methodLink "ForestPackerLaw" (47 : Nat) ({ cls := "ForestPackerModel", name := "tight", desc := "(III)I" } : Jvm.MethodName)) ∈ gw_T := gw_of 440 (by decide +kernel) (by decide +kernel)
theorem gw_441 : (Jvm.Cond.instanceMethod ({ cls := "ForestPackerModel", name := "tight", desc := "(III)I" } : Jvm.MethodName)) ∈ gw_T := gw_of 441 (by decide +kernel) (by decide +kernel)
theorem gw_442 : (Jvm.Cond.selects "ForestPackerModel" ({ cls := "ForestPackerModel", name := "tight", desc := "(III)I" } : Jvm.MethodName) ({ cls := "ForestPackerModel", name := "tight", desc := "(III)I" } : Jvm.MethodName)) ∈ gw_T := gw_of 442 (by decide +kernel) (by decide +kernel)
theorem gw_443 : (Jvm.Cond.code ({ cls := "ForestPackerModel", name := "tight", desc := "(III)I" } : Jvm.MethodName) prog_6_method_26_code (4 : Nat) (Option.some Jvm.ClassFile.FieldType.int)) ∈ gw_T := gw_of 443 (by decide +kernel) (by decide +kernel)
theorem gw_444 : (Jvm.Cond.methodLink "ForestPackerModel" (103 : Nat) ({ cls := "ForestPackerModel", name := "isTight", desc := "(III)Z" } : Jvm.MethodName)) ∈ gw_T := gw_of 444 (by decide +kernel) (by decide +kernel)
theorem gw_446 : (Jvm.Cond.instanceMethod ({ cls := "ForestPackerModel", name := "isTight", desc := "(III)Z" } : Jvm.MethodName)) ∈ gw_T := gw_of 446 (by decide +kernel) (by decide +kernel)
theorem gw_447 : (Jvm.Cond.code ({ cls := "ForestPackerModel", name := "isTight", desc := "(III)Z" } : Jvm.MethodName) prog_6_method_25_code (4 : Nat) (Option.some Jvm.ClassFile.FieldType.boolean)) ∈ gw_T := gw_of 447 (by decide +kernel) (by decide +kernel)
theorem gw_448 : (Jvm.Cond.methodLink "ForestPackerLaw" (51 : Nat) ({ cls := "ForestPackerModel", name := "classes", desc := "(I)I" } : Jvm.MethodName)) ∈ gw_T := gw_of 448 (by decide +kernel) (by decide +kernel)
theorem gw_449 : (Jvm.Cond.instanceMethod ({ cls := "ForestPackerModel", name := "classes", desc := "(I)I" } : Jvm.MethodName)) ∈ gw_T := gw_of 449 (by decide +kernel) (by decide +kernel)
theorem gw_450 : (Jvm.Cond.selects "ForestPackerModel" ({ cls := "ForestPackerModel", name := "classes", desc := "(I)I" } : Jvm.MethodName) ({ cls := "ForestPackerModel", name := "classes", desc := "(I)I" } : Jvm.MethodName)) ∈ gw_T := gw_of 450 (by decide +kernel) (by decide +kernel)
theorem gw_451 : (Jvm.Cond.code ({ cls := "ForestPackerModel", name := "classes", desc := "(I)I" } : Jvm.MethodName) prog_6_method_27_code (6 : Nat) (Option.some Jvm.ClassFile.FieldType.int)) ∈ gw_T := gw_of 451 (by decide +kernel) (by decide +kernel)
theorem gw_452 : (Jvm.Cond.methodLink "ForestPackerLaw" (55 : Nat) ({ cls := "ForestPackerModel", name := "crossing", desc := "(I)I" } : Jvm.MethodName)) ∈ gw_T := gw_of 452 (by decide +kernel) (by decide +kernel)
theorem gw_453 : (Jvm.Cond.instanceMethod ({ cls := "ForestPackerModel", name := "crossing", desc := "(I)I" } : Jvm.MethodName)) ∈ gw_T := gw_of 453 (by decide +kernel) (by decide +kernel)
theorem gw_454 : (Jvm.Cond.selects "ForestPackerModel" ({ cls := "ForestPackerModel", name := "crossing", desc := "(I)I" } : Jvm.MethodName) ({ cls := "ForestPackerModel", name := "crossing", desc := "(I)I" } : Jvm.MethodName)) ∈ gw_T := gw_of 454 (by decide +kernel) (by decide +kernel)
theorem gw_455 : (Jvm.Cond.code ({ cls := "ForestPackerModel", name := "crossing", desc := "(I)I" } : Jvm.MethodName) prog_6_method_28_code (4 : Nat) (Option.some Jvm.ClassFile.FieldType.int)) ∈ gw_T := gw_of 455 (by decide +kernel) (by decide +kernel)
theorem gw_456 : (Jvm.Cond.methodLink "ForestPackerLaw" (60 : Nat) ({ cls := "ForestPackerModel", name := "arboricity", desc := "()I" } : Jvm.MethodName)) ∈ gw_T := gw_of 456 (by decide +kernel) (by decide +kernel)
theorem gw_457 : (Jvm.Cond.instanceMethod ({ cls := "ForestPackerModel", name := "arboricity", desc := "()I" } : Jvm.MethodName)) ∈ gw_T := gw_of 457 (by decide +kernel) (by decide +kernel)
theorem gw_458 : (Jvm.Cond.selects "ForestPackerModel" ({ cls := "ForestPackerModel", name := "arboricity", desc := "()I" } : Jvm.MethodName) ({ cls := "ForestPackerModel", name := "arboricity", desc := "()I" } : Jvm.MethodName)) ∈ gw_T := gw_of 458 (by decide +kernel) (by decide +kernel)
theorem gw_459 : (Jvm.Cond.code ({ cls := "ForestPackerModel", name := "arboricity", desc := "()I" } : Jvm.MethodName) prog_6_method_29_code (3 : Nat) (Option.some Jvm.ClassFile.FieldType.int)) ∈ gw_T := gw_of 459 (by decide +kernel) (by decide +kernel)
theorem gw_460 : (Jvm.Cond.methodLink "ForestPackerModel" (106 : Nat) ({ cls := "ForestPackerModel", name := "most", desc := "(I)I" } : Jvm.MethodName)) ∈ gw_T := gw_of 460 (by decide +kernel) (by decide +kernel)
theorem gw_461 : (Jvm.Cond.methodLink "ForestPackerLaw" (64 : Nat) ({ cls := "ForestPackerModel", name := "dense", desc := "()I" } : Jvm.MethodName)) ∈ gw_T := gw_of 461 (by decide +kernel) (by decide +kernel)
theorem gw_462 : (Jvm.Cond.instanceMethod ({ cls := "ForestPackerModel", name := "dense", desc := "()I" } : Jvm.MethodName)) ∈ gw_T := gw_of 462 (by decide +kernel) (by decide +kernel)
theorem gw_463 : (Jvm.Cond.selects "ForestPackerModel" ({ cls := "ForestPackerModel", name := "dense", desc := "()I" } : Jvm.MethodName) ({ cls := "ForestPackerModel", name := "dense", desc := "()I" } : Jvm.MethodName)) ∈ gw_T := gw_of 463 (by decide +kernel) (by decide +kernel)
theorem gw_464 : (Jvm.Cond.code ({ cls := "ForestPackerModel", name := "dense", desc := "()I" } : Jvm.MethodName) prog_6_method_30_code (6 : Nat) (Option.some Jvm.ClassFile.FieldType.int)) ∈ gw_T := gw_of 464 (by decide +kernel) (by decide +kernel)
theorem gw_465 : (Jvm.Cond.methodLink "ForestPackerModel" (109 : Nat) ({ cls := "ForestPackerModel", name := "arboricity", desc := "()I" } : Jvm.MethodName)) ∈ gw_T := gw_of 465 (by decide +kernel) (by decide +kernel)
theorem gw_466 : (Jvm.Cond.methodLink "ForestPackerLaw" (68 : Nat) ({ cls := "ForestPackerModel", name := "spanning", desc := "()I" } : Jvm.MethodName)) ∈ gw_T := gw_of 466 (by decide +kernel) (by decide +kernel)
theorem gw_467 : (Jvm.Cond.instanceMethod ({ cls := "ForestPackerModel", name := "spanning", desc := "()I" } : Jvm.MethodName)) ∈ gw_T := gw_of 467 (by decide +kernel) (by decide +kernel)
theorem gw_468 : (Jvm.Cond.selects "ForestPackerModel" ({ cls := "ForestPackerModel", name := "spanning", desc := "()I" } : Jvm.MethodName) ({ cls := "ForestPackerModel", name := "spanning", desc := "()I" } : Jvm.MethodName)) ∈ gw_T := gw_of 468 (by decide +kernel) (by decide +kernel)
theorem gw_469 : (Jvm.Cond.code ({ cls := "ForestPackerModel", name := "spanning", desc := "()I" } : Jvm.MethodName) prog_6_method_31_code (2 : Nat) (Option.some Jvm.ClassFile.FieldType.int)) ∈ gw_T := gw_of 469 (by decide +kernel) (by decide +kernel)
theorem gw_470 : (Jvm.Cond.methodLink "ForestPackerLaw" (72 : Nat) ({ cls := "ForestPackerModel", name := "told", desc := "(II)I" } : Jvm.MethodName)) ∈ gw_T := gw_of 470 (by decide +kernel) (by decide +kernel)
theorem gw_471 : (Jvm.Cond.instanceMethod ({ cls := "ForestPackerModel", name := "told", desc := "(II)I" } : Jvm.MethodName)) ∈ gw_T := gw_of 471 (by decide +kernel) (by decide +kernel)
theorem gw_472 : (Jvm.Cond.selects "ForestPackerModel" ({ cls := "ForestPackerModel", name := "told", desc := "(II)I" } : Jvm.MethodName) ({ cls := "ForestPackerModel", name := "told", desc := "(II)I" } : Jvm.MethodName)) ∈ gw_T := gw_of 472 (by decide +kernel) (by decide +kernel)
theorem gw_473 : (Jvm.Cond.code ({ cls := "ForestPackerModel", name := "told", desc := "(II)I" } : Jvm.MethodName) prog_6_method_32_code (5 : Nat) (Option.some Jvm.ClassFile.FieldType.int)) ∈ gw_T := gw_of 473 (by decide +kernel) (by decide +kernel)
end
section
theorem dX0_init_0 : decode cX0_init 0 = .ok (.aload_n 0, 1) := by decide +kernel
theorem dX0_init_1 : decode cX0_init 1 = .ok (.invokespecial 3, 3) := by decide +kernel
theorem dX0_init_4 : decode cX0_init 4 = .ok (.aload_n 0, 1) := by decide +kernel
theorem dX0_init_5 : decode cX0_init 5 = .ok (.bipush 24, 2) := by decide +kernel
theorem dX0_init_7 : decode cX0_init 7 = .ok (.newarray .int, 2) := by decide +kernel
theorem dX0_init_9 : decode cX0_init 9 = .ok (.putfield 9, 3) := by decide +kernel
theorem dX0_init_12 : decode cX0_init 12 = .ok (.aload_n 0, 1) := by decide +kernel
theorem dX0_init_13 : decode cX0_init 13 = .ok (.bipush 24, 2) := by decide +kernel
theorem dX0_init_15 : decode cX0_init 15 = .ok (.newarray .int, 2) := by decide +kernel
theorem dX0_init_17 : decode cX0_init 17 = .ok (.putfield 15, 3) := by decide +kernel
theorem dX0_init_20 : decode cX0_init 20 = .ok (.aload_n 0, 1) := by decide +kernel
theorem dX0_init_21 : decode cX0_init 21 = .ok (.iconst 0, 1) := by decide +kernel
theorem dX0_init_22 : decode cX0_init 22 = .ok (.putfield 18, 3) := by decide +kernel
theorem dX0_init_25 : decode cX0_init 25 = .ok (.aload_n 0, 1) := by decide +kernel
theorem dX0_init_26 : decode cX0_init 26 = .ok (.iconst 1, 1) := by decide +kernel
theorem dX0_init_27 : decode cX0_init 27 = .ok (.putfield 22, 3) := by decide +kernel
theorem dX0_init_30 : decode cX0_init 30 = .ok (.return_, 1) := by decide +kernel
theorem dX0_hasVertex_0 : decode cX0_hasVertex 0 = .ok (.iload_n 1, 1) := by decide +kernel
theorem dX0_hasVertex_1 : decode cX0_hasVertex 1 = .ok (.ifCond .lt 15, 3) := by decide +kernel
theorem dX0_hasVertex_4 : decode cX0_hasVertex 4 = .ok (.iload_n 1, 1) := by decide +kernel
theorem dX0_hasVertex_5 : decode cX0_hasVertex 5 = .ok (.aload_n 0, 1) := by decide +kernel
theorem dX0_hasVertex_6 : decode cX0_hasVertex 6 = .ok (.getfield 22, 3) := by decide +kernel
theorem dX0_hasVertex_9 : decode cX0_hasVertex 9 = .ok (.if_icmp .ge 7, 3) := by decide +kernel
theorem dX0_hasVertex_12 : decode cX0_hasVertex 12 = .ok (.iconst 1, 1) := by decide +kernel
theorem dX0_hasVertex_13 : decode cX0_hasVertex 13 = .ok (.goto 4, 3) := by decide +kernel
theorem dX0_hasVertex_16 : decode cX0_hasVertex 16 = .ok (.iconst 0, 1) := by decide +kernel
theorem dX0_hasVertex_17 : decode cX0_hasVertex 17 = .ok (.ireturn, 1) := by decide +kernel
theorem dX0_hasEdge_0 : decode cX0_hasEdge 0 = .ok (.iload_n 1, 1) := by decide +kernel
theorem dX0_hasEdge_1 : decode cX0_hasEdge 1 = .ok (.ifCond .lt 25, 3) := by decide +kernel
theorem dX0_hasEdge_4 : decode cX0_hasEdge 4 = .ok (.iload_n 1, 1) := by decide +kernel
theorem dX0_hasEdge_5 : decode cX0_hasEdge 5 = .ok (.bipush 24, 2) := by decide +kernel
theorem dX0_hasEdge_7 : decode cX0_hasEdge 7 = .ok (.if_icmp .ge 19, 3) := by decide +kernel
theorem dX0_hasEdge_10 : decode cX0_hasEdge 10 = .ok (.aload_n 0, 1) := by decide +kernel
theorem dX0_hasEdge_11 : decode cX0_hasEdge 11 = .ok (.getfield 18, 3) := by decide +kernel
theorem dX0_hasEdge_14 : decode cX0_hasEdge 14 = .ok (.iload_n 1, 1) := by decide +kernel
theorem dX0_hasEdge_15 : decode cX0_hasEdge 15 = .ok (.ishr, 1) := by decide +kernel
theorem dX0_hasEdge_16 : decode cX0_hasEdge 16 = .ok (.iconst 1, 1) := by decide +kernel
theorem dX0_hasEdge_17 : decode cX0_hasEdge 17 = .ok (.iand, 1) := by decide +kernel
theorem dX0_hasEdge_18 : decode cX0_hasEdge 18 = .ok (.iconst 1, 1) := by decide +kernel
theorem dX0_hasEdge_19 : decode cX0_hasEdge 19 = .ok (.if_icmp .ne 7, 3) := by decide +kernel
theorem dX0_hasEdge_22 : decode cX0_hasEdge 22 = .ok (.iconst 1, 1) := by decide +kernel
theorem dX0_hasEdge_23 : decode cX0_hasEdge 23 = .ok (.goto 4, 3) := by decide +kernel
theorem dX0_hasEdge_26 : decode cX0_hasEdge 26 = .ok (.iconst 0, 1) := by decide +kernel
theorem dX0_hasEdge_27 : decode cX0_hasEdge 27 = .ok (.ireturn, 1) := by decide +kernel
theorem dX0_edgeCount_0 : decode cX0_edgeCount 0 = .ok (.aload_n 0, 1) := by decide +kernel
theorem dX0_edgeCount_1 : decode cX0_edgeCount 1 = .ok (.getfield 18, 3) := by decide +kernel
theorem dX0_edgeCount_4 : decode cX0_edgeCount 4 = .ok (.invokestatic 25, 3) := by decide +kernel
theorem dX0_edgeCount_7 : decode cX0_edgeCount 7 = .ok (.ireturn, 1) := by decide +kernel
theorem dX0_leastFree_0 : decode cX0_leastFree 0 = .ok (.iconst 0, 1) := by decide +kernel
theorem dX0_leastFree_1 : decode cX0_leastFree 1 = .ok (.istore_n 1, 1) := by decide +kernel
theorem dX0_leastFree_2 : decode cX0_leastFree 2 = .ok (.iload_n 1, 1) := by decide +kernel
theorem dX0_leastFree_3 : decode cX0_leastFree 3 = .ok (.bipush 24, 2) := by decide +kernel
theorem dX0_leastFree_5 : decode cX0_leastFree 5 = .ok (.if_icmp .ge 19, 3) := by decide +kernel
theorem dX0_leastFree_8 : decode cX0_leastFree 8 = .ok (.aload_n 0, 1) := by decide +kernel
theorem dX0_leastFree_9 : decode cX0_leastFree 9 = .ok (.iload_n 1, 1) := by decide +kernel
theorem dX0_leastFree_10 : decode cX0_leastFree 10 = .ok (.invokevirtual 31, 3) := by decide +kernel
theorem dX0_leastFree_13 : decode cX0_leastFree 13 = .ok (.ifCond .ne 5, 3) := by decide +kernel
theorem dX0_leastFree_16 : decode cX0_leastFree 16 = .ok (.iload_n 1, 1) := by decide +kernel
theorem dX0_leastFree_17 : decode cX0_leastFree 17 = .ok (.ireturn, 1) := by decide +kernel
theorem dX0_leastFree_18 : decode cX0_leastFree 18 = .ok (.iinc 1 1, 3) := by decide +kernel
theorem dX0_leastFree_21 : decode cX0_leastFree 21 = .ok (.goto (-19), 3) := by decide +kernel
theorem dX0_leastFree_24 : decode cX0_leastFree 24 = .ok (.iconst (-1), 1) := by decide +kernel
theorem dX0_leastFree_25 : decode cX0_leastFree 25 = .ok (.ireturn, 1) := by decide +kernel
theorem dX0_edgesAmong_0 : decode cX0_edgesAmong 0 = .ok (.iconst 0, 1) := by decide +kernel
theorem dX0_edgesAmong_1 : decode cX0_edgesAmong 1 = .ok (.istore_n 2, 1) := by decide +kernel
theorem dX0_edgesAmong_2 : decode cX0_edgesAmong 2 = .ok (.iconst 0, 1) := by decide +kernel
theorem dX0_edgesAmong_3 : decode cX0_edgesAmong 3 = .ok (.istore_n 3, 1) := by decide +kernel
theorem dX0_edgesAmong_4 : decode cX0_edgesAmong 4 = .ok (.iload_n 3, 1) := by decide +kernel
theorem dX0_edgesAmong_5 : decode cX0_edgesAmong 5 = .ok (.bipush 24, 2) := by decide +kernel
theorem dX0_edgesAmong_7 : decode cX0_edgesAmong 7 = .ok (.if_icmp .ge 34, 3) := by decide +kernel
theorem dX0_edgesAmong_10 : decode cX0_edgesAmong 10 = .ok (.aload_n 0, 1) := by decide +kernel
theorem dX0_edgesAmong_11 : decode cX0_edgesAmong 11 = .ok (.iload_n 3, 1) := by decide +kernel
theorem dX0_edgesAmong_12 : decode cX0_edgesAmong 12 = .ok (.invokevirtual 31, 3) := by decide +kernel
theorem dX0_edgesAmong_15 : decode cX0_edgesAmong 15 = .ok (.ifCond .eq 20, 3) := by decide +kernel
theorem dX0_edgesAmong_18 : decode cX0_edgesAmong 18 = .ok (.aload_n 0, 1) := by decide +kernel
theorem dX0_edgesAmong_19 : decode cX0_edgesAmong 19 = .ok (.iconst 1, 1) := by decide +kernel
theorem dX0_edgesAmong_20 : decode cX0_edgesAmong 20 = .ok (.iload_n 3, 1) := by decide +kernel
theorem dX0_edgesAmong_21 : decode cX0_edgesAmong 21 = .ok (.ishl, 1) := by decide +kernel
theorem dX0_edgesAmong_22 : decode cX0_edgesAmong 22 = .ok (.invokevirtual 35, 3) := by decide +kernel
theorem dX0_edgesAmong_25 : decode cX0_edgesAmong 25 = .ok (.iload_n 1, 1) := by decide +kernel
theorem dX0_edgesAmong_26 : decode cX0_edgesAmong 26 = .ok (.iconst (-1), 1) := by decide +kernel
theorem dX0_edgesAmong_27 : decode cX0_edgesAmong 27 = .ok (.ixor, 1) := by decide +kernel
theorem dX0_edgesAmong_28 : decode cX0_edgesAmong 28 = .ok (.iand, 1) := by decide +kernel
theorem dX0_edgesAmong_29 : decode cX0_edgesAmong 29 = .ok (.ifCond .ne 6, 3) := by decide +kernel
theorem dX0_edgesAmong_32 : decode cX0_edgesAmong 32 = .ok (.iinc 2 1, 3) := by decide +kernel
theorem dX0_edgesAmong_35 : decode cX0_edgesAmong 35 = .ok (.iinc 3 1, 3) := by decide +kernel
theorem dX0_edgesAmong_38 : decode cX0_edgesAmong 38 = .ok (.goto (-34), 3) := by decide +kernel
theorem dX0_edgesAmong_41 : decode cX0_edgesAmong 41 = .ok (.iload_n 2, 1) := by decide +kernel
theorem dX0_edgesAmong_42 : decode cX0_edgesAmong 42 = .ok (.ireturn, 1) := by decide +kernel
theorem dX0_verticesOf_0 : decode cX0_verticesOf 0 = .ok (.iconst 0, 1) := by decide +kernel
theorem dX0_verticesOf_1 : decode cX0_verticesOf 1 = .ok (.istore_n 2, 1) := by decide +kernel
theorem dX0_verticesOf_2 : decode cX0_verticesOf 2 = .ok (.iconst 0, 1) := by decide +kernel
theorem dX0_verticesOf_3 : decode cX0_verticesOf 3 = .ok (.istore_n 3, 1) := by decide +kernel
theorem dX0_verticesOf_4 : decode cX0_verticesOf 4 = .ok (.iload_n 3, 1) := by decide +kernel
theorem dX0_verticesOf_5 : decode cX0_verticesOf 5 = .ok (.bipush 24, 2) := by decide +kernel
theorem dX0_verticesOf_7 : decode cX0_verticesOf 7 = .ok (.if_icmp .ge 38, 3) := by decide +kernel
theorem dX0_verticesOf_10 : decode cX0_verticesOf 10 = .ok (.iload_n 1, 1) := by decide +kernel
theorem dX0_verticesOf_11 : decode cX0_verticesOf 11 = .ok (.iload_n 3, 1) := by decide +kernel
theorem dX0_verticesOf_12 : decode cX0_verticesOf 12 = .ok (.ishr, 1) := by decide +kernel
theorem dX0_verticesOf_13 : decode cX0_verticesOf 13 = .ok (.iconst 1, 1) := by decide +kernel
theorem dX0_verticesOf_14 : decode cX0_verticesOf 14 = .ok (.iand, 1) := by decide +kernel
theorem dX0_verticesOf_15 : decode cX0_verticesOf 15 = .ok (.iconst 1, 1) := by decide +kernel
theorem dX0_verticesOf_16 : decode cX0_verticesOf 16 = .ok (.if_icmp .ne 23, 3) := by decide +kernel
theorem dX0_verticesOf_19 : decode cX0_verticesOf 19 = .ok (.iload_n 2, 1) := by decide +kernel
theorem dX0_verticesOf_20 : decode cX0_verticesOf 20 = .ok (.iconst 1, 1) := by decide +kernel
theorem dX0_verticesOf_21 : decode cX0_verticesOf 21 = .ok (.aload_n 0, 1) := by decide +kernel
theorem dX0_verticesOf_22 : decode cX0_verticesOf 22 = .ok (.getfield 9, 3) := by decide +kernel
theorem dX0_verticesOf_25 : decode cX0_verticesOf 25 = .ok (.iload_n 3, 1) := by decide +kernel
theorem dX0_verticesOf_26 : decode cX0_verticesOf 26 = .ok (.iaload, 1) := by decide +kernel
theorem dX0_verticesOf_27 : decode cX0_verticesOf 27 = .ok (.ishl, 1) := by decide +kernel
theorem dX0_verticesOf_28 : decode cX0_verticesOf 28 = .ok (.iconst 1, 1) := by decide +kernel
theorem dX0_verticesOf_29 : decode cX0_verticesOf 29 = .ok (.aload_n 0, 1) := by decide +kernel
theorem dX0_verticesOf_30 : decode cX0_verticesOf 30 = .ok (.getfield 15, 3) := by decide +kernel
theorem dX0_verticesOf_33 : decode cX0_verticesOf 33 = .ok (.iload_n 3, 1) := by decide +kernel
theorem dX0_verticesOf_34 : decode cX0_verticesOf 34 = .ok (.iaload, 1) := by decide +kernel
theorem dX0_verticesOf_35 : decode cX0_verticesOf 35 = .ok (.ishl, 1) := by decide +kernel
theorem dX0_verticesOf_36 : decode cX0_verticesOf 36 = .ok (.ior, 1) := by decide +kernel
theorem dX0_verticesOf_37 : decode cX0_verticesOf 37 = .ok (.ior, 1) := by decide +kernel
theorem dX0_verticesOf_38 : decode cX0_verticesOf 38 = .ok (.istore_n 2, 1) := by decide +kernel
theorem dX0_verticesOf_39 : decode cX0_verticesOf 39 = .ok (.iinc 3 1, 3) := by decide +kernel
theorem dX0_verticesOf_42 : decode cX0_verticesOf 42 = .ok (.goto (-38), 3) := by decide +kernel
theorem dX0_verticesOf_45 : decode cX0_verticesOf 45 = .ok (.iload_n 2, 1) := by decide +kernel
theorem dX0_verticesOf_46 : decode cX0_verticesOf 46 = .ok (.ireturn, 1) := by decide +kernel
theorem dX1_init_0 : decode cX1_init 0 = .ok (.aload_n 0, 1) := by decide +kernel
theorem dX1_init_1 : decode cX1_init 1 = .ok (.invokespecial 3, 3) := by decide +kernel
theorem dX1_init_4 : decode cX1_init 4 = .ok (.aload_n 0, 1) := by decide +kernel
theorem dX1_init_5 : decode cX1_init 5 = .ok (.bipush 24, 2) := by decide +kernel
theorem dX1_init_7 : decode cX1_init 7 = .ok (.newarray .int, 2) := by decide +kernel
theorem dX1_init_9 : decode cX1_init 9 = .ok (.putfield 9, 3) := by decide +kernel
theorem dX1_init_12 : decode cX1_init 12 = .ok (.aload_n 0, 1) := by decide +kernel
theorem dX1_init_13 : decode cX1_init 13 = .ok (.iconst 0, 1) := by decide +kernel
theorem dX1_init_14 : decode cX1_init 14 = .ok (.putfield 15, 3) := by decide +kernel
theorem dX1_init_17 : decode cX1_init 17 = .ok (.aload_n 0, 1) := by decide +kernel
theorem dX1_init_18 : decode cX1_init 18 = .ok (.iconst 0, 1) := by decide +kernel
theorem dX1_init_19 : decode cX1_init 19 = .ok (.putfield 19, 3) := by decide +kernel
theorem dX1_init_22 : decode cX1_init 22 = .ok (.aload_n 0, 1) := by decide +kernel
theorem dX1_init_23 : decode cX1_init 23 = .ok (.iconst 0, 1) := by decide +kernel
theorem dX1_init_24 : decode cX1_init 24 = .ok (.putfield 23, 3) := by decide +kernel
theorem dX1_init_27 : decode cX1_init 27 = .ok (.aload_n 0, 1) := by decide +kernel
theorem dX1_init_28 : decode cX1_init 28 = .ok (.iconst 0, 1) := by decide +kernel
theorem dX1_init_29 : decode cX1_init 29 = .ok (.putfield 26, 3) := by decide +kernel
theorem dX1_init_32 : decode cX1_init 32 = .ok (.aload_n 0, 1) := by decide +kernel
theorem dX1_init_33 : decode cX1_init 33 = .ok (.iconst 0, 1) := by decide +kernel
theorem dX1_init_34 : decode cX1_init 34 = .ok (.putfield 29, 3) := by decide +kernel
theorem dX1_init_37 : decode cX1_init 37 = .ok (.aload_n 0, 1) := by decide +kernel
theorem dX1_init_38 : decode cX1_init 38 = .ok (.bipush 24, 2) := by decide +kernel
theorem dX1_init_40 : decode cX1_init 40 = .ok (.newarray .int, 2) := by decide +kernel
theorem dX1_init_42 : decode cX1_init 42 = .ok (.putfield 32, 3) := by decide +kernel
theorem dX1_init_45 : decode cX1_init 45 = .ok (.aload_n 0, 1) := by decide +kernel
theorem dX1_init_46 : decode cX1_init 46 = .ok (.iconst 0, 1) := by decide +kernel
theorem dX1_init_47 : decode cX1_init 47 = .ok (.putfield 35, 3) := by decide +kernel
theorem dX1_init_50 : decode cX1_init 50 = .ok (.aload_n 0, 1) := by decide +kernel
theorem dX1_init_51 : decode cX1_init 51 = .ok (.bipush 24, 2) := by decide +kernel
theorem dX1_init_53 : decode cX1_init 53 = .ok (.newarray .int, 2) := by decide +kernel
theorem dX1_init_55 : decode cX1_init 55 = .ok (.putfield 38, 3) := by decide +kernel
theorem dX1_init_58 : decode cX1_init 58 = .ok (.aload_n 0, 1) := by decide +kernel
theorem dX1_init_59 : decode cX1_init 59 = .ok (.iconst (-1), 1) := by decide +kernel
theorem dX1_init_60 : decode cX1_init 60 = .ok (.putfield 41, 3) := by decide +kernel
theorem dX1_init_63 : decode cX1_init 63 = .ok (.aload_n 0, 1) := by decide +kernel
theorem dX1_init_64 : decode cX1_init 64 = .ok (.iconst (-1), 1) := by decide +kernel
theorem dX1_init_65 : decode cX1_init 65 = .ok (.putfield 44, 3) := by decide +kernel
theorem dX1_init_68 : decode cX1_init 68 = .ok (.aload_n 0, 1) := by decide +kernel
theorem dX1_init_69 : decode cX1_init 69 = .ok (.iconst 0, 1) := by decide +kernel
theorem dX1_init_70 : decode cX1_init 70 = .ok (.iload_n 1, 1) := by decide +kernel
theorem dX1_init_71 : decode cX1_init 71 = .ok (.invokestatic 47, 3) := by decide +kernel
theorem dX1_init_74 : decode cX1_init 74 = .ok (.anewarray 53, 3) := by decide +kernel
theorem dX1_init_77 : decode cX1_init 77 = .ok (.putfield 55, 3) := by decide +kernel
theorem dX1_init_80 : decode cX1_init 80 = .ok (.iconst 0, 1) := by decide +kernel
theorem dX1_init_81 : decode cX1_init 81 = .ok (.istore_n 2, 1) := by decide +kernel
theorem dX1_init_82 : decode cX1_init 82 = .ok (.iload_n 2, 1) := by decide +kernel
theorem dX1_init_83 : decode cX1_init 83 = .ok (.aload_n 0, 1) := by decide +kernel
theorem dX1_init_84 : decode cX1_init 84 = .ok (.getfield 55, 3) := by decide +kernel
theorem dX1_init_87 : decode cX1_init 87 = .ok (.arraylength, 1) := by decide +kernel
theorem dX1_init_88 : decode cX1_init 88 = .ok (.if_icmp .ge 22, 3) := by decide +kernel
theorem dX1_init_91 : decode cX1_init 91 = .ok (.aload_n 0, 1) := by decide +kernel
theorem dX1_init_92 : decode cX1_init 92 = .ok (.getfield 55, 3) := by decide +kernel
theorem dX1_init_95 : decode cX1_init 95 = .ok (.iload_n 2, 1) := by decide +kernel
theorem dX1_init_96 : decode cX1_init 96 = .ok (.new 53, 3) := by decide +kernel
theorem dX1_init_99 : decode cX1_init 99 = .ok (.dup, 1) := by decide +kernel
theorem dX1_init_100 : decode cX1_init 100 = .ok (.invokespecial 59, 3) := by decide +kernel
theorem dX1_init_103 : decode cX1_init 103 = .ok (.aastore, 1) := by decide +kernel
theorem dX1_init_104 : decode cX1_init 104 = .ok (.iinc 2 1, 3) := by decide +kernel
theorem dX1_init_107 : decode cX1_init 107 = .ok (.goto (-25), 3) := by decide +kernel
theorem dX1_init_110 : decode cX1_init 110 = .ok (.return_, 1) := by decide +kernel
theorem dX1_pack_0 : decode cX1_pack 0 = .ok (.iconst 0, 1) := by decide +kernel
theorem dX1_pack_1 : decode cX1_pack 1 = .ok (.istore_n 2, 1) := by decide +kernel
theorem dX1_pack_2 : decode cX1_pack 2 = .ok (.iload_n 2, 1) := by decide +kernel
theorem dX1_pack_3 : decode cX1_pack 3 = .ok (.aload_n 0, 1) := by decide +kernel
theorem dX1_pack_4 : decode cX1_pack 4 = .ok (.getfield 55, 3) := by decide +kernel
theorem dX1_pack_7 : decode cX1_pack 7 = .ok (.arraylength, 1) := by decide +kernel
theorem dX1_pack_8 : decode cX1_pack 8 = .ok (.if_icmp .ge 18, 3) := by decide +kernel
theorem dX1_pack_11 : decode cX1_pack 11 = .ok (.aload_n 0, 1) := by decide +kernel
theorem dX1_pack_12 : decode cX1_pack 12 = .ok (.getfield 55, 3) := by decide +kernel
theorem dX1_pack_15 : decode cX1_pack 15 = .ok (.iload_n 2, 1) := by decide +kernel
theorem dX1_pack_16 : decode cX1_pack 16 = .ok (.aaload, 1) := by decide +kernel
theorem dX1_pack_17 : decode cX1_pack 17 = .ok (.invokevirtual 60, 3) := by decide +kernel
theorem dX1_pack_20 : decode cX1_pack 20 = .ok (.iinc 2 1, 3) := by decide +kernel
theorem dX1_pack_23 : decode cX1_pack 23 = .ok (.goto (-21), 3) := by decide +kernel
theorem dX1_pack_26 : decode cX1_pack 26 = .ok (.aload_n 0, 1) := by decide +kernel
theorem dX1_pack_27 : decode cX1_pack 27 = .ok (.getfield 9, 3) := by decide +kernel
theorem dX1_pack_30 : decode cX1_pack 30 = .ok (.iconst (-1), 1) := by decide +kernel
theorem dX1_pack_31 : decode cX1_pack 31 = .ok (.invokestatic 63, 3) := by decide +kernel
theorem dX1_pack_34 : decode cX1_pack 34 = .ok (.aload_n 0, 1) := by decide +kernel
theorem dX1_pack_35 : decode cX1_pack 35 = .ok (.iconst 0, 1) := by decide +kernel
theorem dX1_pack_36 : decode cX1_pack 36 = .ok (.putfield 15, 3) := by decide +kernel
theorem dX1_pack_39 : decode cX1_pack 39 = .ok (.iconst 0, 1) := by decide +kernel
theorem dX1_pack_40 : decode cX1_pack 40 = .ok (.istore_n 2, 1) := by decide +kernel
theorem dX1_pack_41 : decode cX1_pack 41 = .ok (.iload_n 2, 1) := by decide +kernel
theorem dX1_pack_42 : decode cX1_pack 42 = .ok (.bipush 24, 2) := by decide +kernel
theorem dX1_pack_44 : decode cX1_pack 44 = .ok (.if_icmp .ge 53, 3) := by decide +kernel
theorem dX1_pack_47 : decode cX1_pack 47 = .ok (.aload_n 1, 1) := by decide +kernel
theorem dX1_pack_48 : decode cX1_pack 48 = .ok (.iload_n 2, 1) := by decide +kernel
theorem dX1_pack_49 : decode cX1_pack 49 = .ok (.invokevirtual 69, 3) := by decide +kernel
theorem dX1_pack_52 : decode cX1_pack 52 = .ok (.ifCond .eq 39, 3) := by decide +kernel
theorem dX1_pack_55 : decode cX1_pack 55 = .ok (.aload_n 0, 1) := by decide +kernel
theorem dX1_pack_56 : decode cX1_pack 56 = .ok (.aload_n 1, 1) := by decide +kernel
theorem dX1_pack_57 : decode cX1_pack 57 = .ok (.aload_n 1, 1) := by decide +kernel
theorem dX1_pack_58 : decode cX1_pack 58 = .ok (.getfield 75, 3) := by decide +kernel
theorem dX1_pack_61 : decode cX1_pack 61 = .ok (.iload_n 2, 1) := by decide +kernel
theorem dX1_pack_62 : decode cX1_pack 62 = .ok (.iaload, 1) := by decide +kernel
theorem dX1_pack_63 : decode cX1_pack 63 = .ok (.aload_n 1, 1) := by decide +kernel
theorem dX1_pack_64 : decode cX1_pack 64 = .ok (.getfield 78, 3) := by decide +kernel
theorem dX1_pack_67 : decode cX1_pack 67 = .ok (.iload_n 2, 1) := by decide +kernel
theorem dX1_pack_68 : decode cX1_pack 68 = .ok (.iaload, 1) := by decide +kernel
theorem dX1_pack_69 : decode cX1_pack 69 = .ok (.invokevirtual 81, 3) := by decide +kernel
theorem dX1_pack_72 : decode cX1_pack 72 = .ok (.ifCond .eq 19, 3) := by decide +kernel
theorem dX1_pack_75 : decode cX1_pack 75 = .ok (.aload_n 0, 1) := by decide +kernel
theorem dX1_pack_76 : decode cX1_pack 76 = .ok (.aload_n 1, 1) := by decide +kernel
theorem dX1_pack_77 : decode cX1_pack 77 = .ok (.iload_n 2, 1) := by decide +kernel
theorem dX1_pack_78 : decode cX1_pack 78 = .ok (.invokevirtual 85, 3) := by decide +kernel
theorem dX1_pack_81 : decode cX1_pack 81 = .ok (.aload_n 0, 1) := by decide +kernel
theorem dX1_pack_82 : decode cX1_pack 82 = .ok (.dup, 1) := by decide +kernel
theorem dX1_pack_83 : decode cX1_pack 83 = .ok (.getfield 15, 3) := by decide +kernel
theorem dX1_pack_86 : decode cX1_pack 86 = .ok (.iconst 1, 1) := by decide +kernel
theorem dX1_pack_87 : decode cX1_pack 87 = .ok (.iadd, 1) := by decide +kernel
theorem dX1_pack_88 : decode cX1_pack 88 = .ok (.putfield 15, 3) := by decide +kernel
theorem dX1_pack_91 : decode cX1_pack 91 = .ok (.iinc 2 1, 3) := by decide +kernel
theorem dX1_pack_94 : decode cX1_pack 94 = .ok (.goto (-53), 3) := by decide +kernel
theorem dX1_pack_97 : decode cX1_pack 97 = .ok (.aload_n 0, 1) := by decide +kernel
theorem dX1_pack_98 : decode cX1_pack 98 = .ok (.iconst 1, 1) := by decide +kernel
theorem dX1_pack_99 : decode cX1_pack 99 = .ok (.putfield 19, 3) := by decide +kernel
theorem dX1_pack_102 : decode cX1_pack 102 = .ok (.aload_n 0, 1) := by decide +kernel
theorem dX1_pack_103 : decode cX1_pack 103 = .ok (.iconst 0, 1) := by decide +kernel
theorem dX1_pack_104 : decode cX1_pack 104 = .ok (.putfield 23, 3) := by decide +kernel
theorem dX1_pack_107 : decode cX1_pack 107 = .ok (.return_, 1) := by decide +kernel
theorem dX1_settle_0 : decode cX1_settle 0 = .ok (.aload_n 0, 1) := by decide +kernel
theorem dX1_settle_1 : decode cX1_settle 1 = .ok (.getfield 23, 3) := by decide +kernel
theorem dX1_settle_4 : decode cX1_settle 4 = .ok (.ifCond .eq 4, 3) := by decide +kernel
theorem dX1_settle_7 : decode cX1_settle 7 = .ok (.return_, 1) := by decide +kernel
theorem dX1_settle_8 : decode cX1_settle 8 = .ok (.iconst 0, 1) := by decide +kernel
theorem dX1_settle_9 : decode cX1_settle 9 = .ok (.istore_n 2, 1) := by decide +kernel
theorem dX1_settle_10 : decode cX1_settle 10 = .ok (.iload_n 2, 1) := by decide +kernel
theorem dX1_settle_11 : decode cX1_settle 11 = .ok (.bipush 24, 2) := by decide +kernel
theorem dX1_settle_13 : decode cX1_settle 13 = .ok (.if_icmp .ge 67, 3) := by decide +kernel
theorem dX1_settle_16 : decode cX1_settle 16 = .ok (.aload_n 0, 1) := by decide +kernel
theorem dX1_settle_17 : decode cX1_settle 17 = .ok (.dup, 1) := by decide +kernel
theorem dX1_settle_18 : decode cX1_settle 18 = .ok (.getfield 26, 3) := by decide +kernel
theorem dX1_settle_21 : decode cX1_settle 21 = .ok (.iconst 1, 1) := by decide +kernel
theorem dX1_settle_22 : decode cX1_settle 22 = .ok (.iload_n 2, 1) := by decide +kernel
theorem dX1_settle_23 : decode cX1_settle 23 = .ok (.ishl, 1) := by decide +kernel
theorem dX1_settle_24 : decode cX1_settle 24 = .ok (.ior, 1) := by decide +kernel
theorem dX1_settle_25 : decode cX1_settle 25 = .ok (.putfield 26, 3) := by decide +kernel
theorem dX1_settle_28 : decode cX1_settle 28 = .ok (.aload_n 0, 1) := by decide +kernel
theorem dX1_settle_29 : decode cX1_settle 29 = .ok (.getfield 9, 3) := by decide +kernel
theorem dX1_settle_32 : decode cX1_settle 32 = .ok (.iload_n 2, 1) := by decide +kernel
theorem dX1_settle_33 : decode cX1_settle 33 = .ok (.iaload, 1) := by decide +kernel
theorem dX1_settle_34 : decode cX1_settle 34 = .ok (.istore_n 3, 1) := by decide +kernel
theorem dX1_settle_35 : decode cX1_settle 35 = .ok (.iconst 0, 1) := by decide +kernel
theorem dX1_settle_36 : decode cX1_settle 36 = .ok (.istore 4, 2) := by decide +kernel
theorem dX1_settle_38 : decode cX1_settle 38 = .ok (.iload 4, 2) := by decide +kernel
theorem dX1_settle_40 : decode cX1_settle 40 = .ok (.iload_n 3, 1) := by decide +kernel
theorem dX1_settle_41 : decode cX1_settle 41 = .ok (.if_icmp .ge 33, 3) := by decide +kernel
theorem dX1_settle_44 : decode cX1_settle 44 = .ok (.iload 4, 2) := by decide +kernel
theorem dX1_settle_46 : decode cX1_settle 46 = .ok (.aload_n 0, 1) := by decide +kernel
theorem dX1_settle_47 : decode cX1_settle 47 = .ok (.getfield 55, 3) := by decide +kernel
theorem dX1_settle_50 : decode cX1_settle 50 = .ok (.arraylength, 1) := by decide +kernel
theorem dX1_settle_51 : decode cX1_settle 51 = .ok (.if_icmp .ge 23, 3) := by decide +kernel
theorem dX1_settle_54 : decode cX1_settle 54 = .ok (.aload_n 0, 1) := by decide +kernel
theorem dX1_settle_55 : decode cX1_settle 55 = .ok (.aload_n 1, 1) := by decide +kernel
theorem dX1_settle_56 : decode cX1_settle 56 = .ok (.iload_n 2, 1) := by decide +kernel
theorem dX1_settle_57 : decode cX1_settle 57 = .ok (.iload 4, 2) := by decide +kernel
theorem dX1_settle_59 : decode cX1_settle 59 = .ok (.invokevirtual 89, 3) := by decide +kernel
theorem dX1_settle_62 : decode cX1_settle 62 = .ok (.ifCond .eq 6, 3) := by decide +kernel
theorem dX1_settle_65 : decode cX1_settle 65 = .ok (.goto 9, 3) := by decide +kernel
theorem dX1_settle_68 : decode cX1_settle 68 = .ok (.iinc 4 1, 3) := by decide +kernel
theorem dX1_settle_71 : decode cX1_settle 71 = .ok (.goto (-33), 3) := by decide +kernel
theorem dX1_settle_74 : decode cX1_settle 74 = .ok (.iinc 2 1, 3) := by decide +kernel
theorem dX1_settle_77 : decode cX1_settle 77 = .ok (.goto (-67), 3) := by decide +kernel
theorem dX1_settle_80 : decode cX1_settle 80 = .ok (.aload_n 0, 1) := by decide +kernel
theorem dX1_settle_81 : decode cX1_settle 81 = .ok (.iconst 0, 1) := by decide +kernel
theorem dX1_settle_82 : decode cX1_settle 82 = .ok (.putfield 26, 3) := by decide +kernel
theorem dX1_settle_85 : decode cX1_settle 85 = .ok (.aload_n 0, 1) := by decide +kernel
theorem dX1_settle_86 : decode cX1_settle 86 = .ok (.iconst 1, 1) := by decide +kernel
theorem dX1_settle_87 : decode cX1_settle 87 = .ok (.putfield 23, 3) := by decide +kernel
theorem dX1_settle_90 : decode cX1_settle 90 = .ok (.return_, 1) := by decide +kernel
theorem dX1_movesTo_0 : decode cX1_movesTo 0 = .ok (.aload_n 0, 1) := by decide +kernel
theorem dX1_movesTo_1 : decode cX1_movesTo 1 = .ok (.getfield 55, 3) := by decide +kernel
theorem dX1_movesTo_4 : decode cX1_movesTo 4 = .ok (.iload_n 3, 1) := by decide +kernel
theorem dX1_movesTo_5 : decode cX1_movesTo 5 = .ok (.aaload, 1) := by decide +kernel
theorem dX1_movesTo_6 : decode cX1_movesTo 6 = .ok (.aload_n 1, 1) := by decide +kernel
theorem dX1_movesTo_7 : decode cX1_movesTo 7 = .ok (.getfield 75, 3) := by decide +kernel
theorem dX1_movesTo_10 : decode cX1_movesTo 10 = .ok (.iload_n 2, 1) := by decide +kernel
theorem dX1_movesTo_11 : decode cX1_movesTo 11 = .ok (.iaload, 1) := by decide +kernel
theorem dX1_movesTo_12 : decode cX1_movesTo 12 = .ok (.aload_n 1, 1) := by decide +kernel
theorem dX1_movesTo_13 : decode cX1_movesTo 13 = .ok (.getfield 78, 3) := by decide +kernel
theorem dX1_movesTo_16 : decode cX1_movesTo 16 = .ok (.iload_n 2, 1) := by decide +kernel
theorem dX1_movesTo_17 : decode cX1_movesTo 17 = .ok (.iaload, 1) := by decide +kernel
theorem dX1_movesTo_18 : decode cX1_movesTo 18 = .ok (.invokevirtual 92, 3) := by decide +kernel
theorem dX1_movesTo_21 : decode cX1_movesTo 21 = .ok (.istore 4, 2) := by decide +kernel
theorem dX1_movesTo_23 : decode cX1_movesTo 23 = .ok (.iload 4, 2) := by decide +kernel
theorem dX1_movesTo_25 : decode cX1_movesTo 25 = .ok (.iconst (-1), 1) := by decide +kernel
theorem dX1_movesTo_26 : decode cX1_movesTo 26 = .ok (.if_icmp .ne 18, 3) := by decide +kernel
theorem dX1_movesTo_29 : decode cX1_movesTo 29 = .ok (.aload_n 0, 1) := by decide +kernel
theorem dX1_movesTo_30 : decode cX1_movesTo 30 = .ok (.aload_n 1, 1) := by decide +kernel
theorem dX1_movesTo_31 : decode cX1_movesTo 31 = .ok (.iload_n 2, 1) := by decide +kernel
theorem dX1_movesTo_32 : decode cX1_movesTo 32 = .ok (.invokevirtual 95, 3) := by decide +kernel
theorem dX1_movesTo_35 : decode cX1_movesTo 35 = .ok (.aload_n 0, 1) := by decide +kernel
theorem dX1_movesTo_36 : decode cX1_movesTo 36 = .ok (.aload_n 1, 1) := by decide +kernel
theorem dX1_movesTo_37 : decode cX1_movesTo 37 = .ok (.iload_n 2, 1) := by decide +kernel
theorem dX1_movesTo_38 : decode cX1_movesTo 38 = .ok (.iload_n 3, 1) := by decide +kernel
theorem dX1_movesTo_39 : decode cX1_movesTo 39 = .ok (.invokevirtual 98, 3) := by decide +kernel
theorem dX1_movesTo_42 : decode cX1_movesTo 42 = .ok (.iconst 1, 1) := by decide +kernel
theorem dX1_movesTo_43 : decode cX1_movesTo 43 = .ok (.ireturn, 1) := by decide +kernel
theorem dX1_movesTo_44 : decode cX1_movesTo 44 = .ok (.iload 4, 2) := by decide +kernel
theorem dX1_movesTo_46 : decode cX1_movesTo 46 = .ok (.aload_n 0, 1) := by decide +kernel
theorem dX1_movesTo_47 : decode cX1_movesTo 47 = .ok (.getfield 26, 3) := by decide +kernel
theorem dX1_movesTo_50 : decode cX1_movesTo 50 = .ok (.iconst (-1), 1) := by decide +kernel
theorem dX1_movesTo_51 : decode cX1_movesTo 51 = .ok (.ixor, 1) := by decide +kernel
theorem dX1_movesTo_52 : decode cX1_movesTo 52 = .ok (.iand, 1) := by decide +kernel
theorem dX1_movesTo_53 : decode cX1_movesTo 53 = .ok (.invokestatic 102, 3) := by decide +kernel
theorem dX1_movesTo_56 : decode cX1_movesTo 56 = .ok (.istore 5, 2) := by decide +kernel
theorem dX1_movesTo_58 : decode cX1_movesTo 58 = .ok (.iload 5, 2) := by decide +kernel
theorem dX1_movesTo_60 : decode cX1_movesTo 60 = .ok (.iconst (-1), 1) := by decide +kernel
theorem dX1_movesTo_61 : decode cX1_movesTo 61 = .ok (.if_icmp .ne 5, 3) := by decide +kernel
theorem dX1_movesTo_64 : decode cX1_movesTo 64 = .ok (.iconst 0, 1) := by decide +kernel
theorem dX1_movesTo_65 : decode cX1_movesTo 65 = .ok (.ireturn, 1) := by decide +kernel
theorem dX1_movesTo_66 : decode cX1_movesTo 66 = .ok (.aload_n 0, 1) := by decide +kernel
theorem dX1_movesTo_67 : decode cX1_movesTo 67 = .ok (.getfield 9, 3) := by decide +kernel
theorem dX1_movesTo_70 : decode cX1_movesTo 70 = .ok (.iload_n 2, 1) := by decide +kernel
theorem dX1_movesTo_71 : decode cX1_movesTo 71 = .ok (.iaload, 1) := by decide +kernel
theorem dX1_movesTo_72 : decode cX1_movesTo 72 = .ok (.istore 6, 2) := by decide +kernel
theorem dX1_movesTo_74 : decode cX1_movesTo 74 = .ok (.aload_n 0, 1) := by decide +kernel
theorem dX1_movesTo_75 : decode cX1_movesTo 75 = .ok (.aload_n 1, 1) := by decide +kernel
theorem dX1_movesTo_76 : decode cX1_movesTo 76 = .ok (.iload 5, 2) := by decide +kernel
theorem dX1_movesTo_78 : decode cX1_movesTo 78 = .ok (.invokevirtual 95, 3) := by decide +kernel
theorem dX1_movesTo_81 : decode cX1_movesTo 81 = .ok (.aload_n 0, 1) := by decide +kernel
theorem dX1_movesTo_82 : decode cX1_movesTo 82 = .ok (.aload_n 1, 1) := by decide +kernel
theorem dX1_movesTo_83 : decode cX1_movesTo 83 = .ok (.iload_n 2, 1) := by decide +kernel
theorem dX1_movesTo_84 : decode cX1_movesTo 84 = .ok (.invokevirtual 95, 3) := by decide +kernel
theorem dX1_movesTo_87 : decode cX1_movesTo 87 = .ok (.aload_n 0, 1) := by decide +kernel
theorem dX1_movesTo_88 : decode cX1_movesTo 88 = .ok (.aload_n 1, 1) := by decide +kernel
theorem dX1_movesTo_89 : decode cX1_movesTo 89 = .ok (.iload_n 2, 1) := by decide +kernel
theorem dX1_movesTo_90 : decode cX1_movesTo 90 = .ok (.iload_n 3, 1) := by decide +kernel
theorem dX1_movesTo_91 : decode cX1_movesTo 91 = .ok (.invokevirtual 98, 3) := by decide +kernel
theorem dX1_movesTo_94 : decode cX1_movesTo 94 = .ok (.aload_n 0, 1) := by decide +kernel
theorem dX1_movesTo_95 : decode cX1_movesTo 95 = .ok (.aload_n 1, 1) := by decide +kernel
theorem dX1_movesTo_96 : decode cX1_movesTo 96 = .ok (.aload_n 1, 1) := by decide +kernel
theorem dX1_movesTo_97 : decode cX1_movesTo 97 = .ok (.getfield 75, 3) := by decide +kernel
theorem dX1_movesTo_100 : decode cX1_movesTo 100 = .ok (.iload 5, 2) := by decide +kernel
theorem dX1_movesTo_102 : decode cX1_movesTo 102 = .ok (.iaload, 1) := by decide +kernel
theorem dX1_movesTo_103 : decode cX1_movesTo 103 = .ok (.aload_n 1, 1) := by decide +kernel
theorem dX1_movesTo_104 : decode cX1_movesTo 104 = .ok (.getfield 78, 3) := by decide +kernel
theorem dX1_movesTo_107 : decode cX1_movesTo 107 = .ok (.iload 5, 2) := by decide +kernel
theorem dX1_movesTo_109 : decode cX1_movesTo 109 = .ok (.iaload, 1) := by decide +kernel
theorem dX1_movesTo_110 : decode cX1_movesTo 110 = .ok (.invokevirtual 81, 3) := by decide +kernel
theorem dX1_movesTo_113 : decode cX1_movesTo 113 = .ok (.ifCond .eq 12, 3) := by decide +kernel
theorem dX1_movesTo_116 : decode cX1_movesTo 116 = .ok (.aload_n 0, 1) := by decide +kernel
theorem dX1_movesTo_117 : decode cX1_movesTo 117 = .ok (.aload_n 1, 1) := by decide +kernel
theorem dX1_movesTo_118 : decode cX1_movesTo 118 = .ok (.iload 5, 2) := by decide +kernel
theorem dX1_movesTo_120 : decode cX1_movesTo 120 = .ok (.invokevirtual 85, 3) := by decide +kernel
theorem dX1_movesTo_123 : decode cX1_movesTo 123 = .ok (.iconst 1, 1) := by decide +kernel
theorem dX1_movesTo_124 : decode cX1_movesTo 124 = .ok (.ireturn, 1) := by decide +kernel
theorem dX1_movesTo_125 : decode cX1_movesTo 125 = .ok (.aload_n 0, 1) := by decide +kernel
theorem dX1_movesTo_126 : decode cX1_movesTo 126 = .ok (.aload_n 1, 1) := by decide +kernel
theorem dX1_movesTo_127 : decode cX1_movesTo 127 = .ok (.iload_n 2, 1) := by decide +kernel
theorem dX1_movesTo_128 : decode cX1_movesTo 128 = .ok (.invokevirtual 95, 3) := by decide +kernel
theorem dX1_movesTo_131 : decode cX1_movesTo 131 = .ok (.aload_n 0, 1) := by decide +kernel
theorem dX1_movesTo_132 : decode cX1_movesTo 132 = .ok (.aload_n 1, 1) := by decide +kernel
theorem dX1_movesTo_133 : decode cX1_movesTo 133 = .ok (.iload_n 2, 1) := by decide +kernel
theorem dX1_movesTo_134 : decode cX1_movesTo 134 = .ok (.iload 6, 2) := by decide +kernel
theorem dX1_movesTo_136 : decode cX1_movesTo 136 = .ok (.invokevirtual 98, 3) := by decide +kernel
theorem dX1_movesTo_139 : decode cX1_movesTo 139 = .ok (.aload_n 0, 1) := by decide +kernel
theorem dX1_movesTo_140 : decode cX1_movesTo 140 = .ok (.aload_n 1, 1) := by decide +kernel
theorem dX1_movesTo_141 : decode cX1_movesTo 141 = .ok (.iload 5, 2) := by decide +kernel
theorem dX1_movesTo_143 : decode cX1_movesTo 143 = .ok (.iload_n 3, 1) := by decide +kernel
theorem dX1_movesTo_144 : decode cX1_movesTo 144 = .ok (.invokevirtual 98, 3) := by decide +kernel
theorem dX1_movesTo_147 : decode cX1_movesTo 147 = .ok (.iconst 0, 1) := by decide +kernel
theorem dX1_movesTo_148 : decode cX1_movesTo 148 = .ok (.ireturn, 1) := by decide +kernel
theorem dX1_reason_0 : decode cX1_reason 0 = .ok (.aload_n 0, 1) := by decide +kernel
theorem dX1_reason_1 : decode cX1_reason 1 = .ok (.aload_n 1, 1) := by decide +kernel
theorem dX1_reason_2 : decode cX1_reason 2 = .ok (.aload_n 1, 1) := by decide +kernel
theorem dX1_reason_3 : decode cX1_reason 3 = .ok (.getfield 75, 3) := by decide +kernel
theorem dX1_reason_6 : decode cX1_reason 6 = .ok (.iload_n 2, 1) := by decide +kernel
theorem dX1_reason_7 : decode cX1_reason 7 = .ok (.iaload, 1) := by decide +kernel
theorem dX1_reason_8 : decode cX1_reason 8 = .ok (.aload_n 1, 1) := by decide +kernel
theorem dX1_reason_9 : decode cX1_reason 9 = .ok (.getfield 78, 3) := by decide +kernel
theorem dX1_reason_12 : decode cX1_reason 12 = .ok (.iload_n 2, 1) := by decide +kernel
theorem dX1_reason_13 : decode cX1_reason 13 = .ok (.iaload, 1) := by decide +kernel
theorem dX1_reason_14 : decode cX1_reason 14 = .ok (.invokevirtual 81, 3) := by decide +kernel
theorem dX1_reason_17 : decode cX1_reason 17 = .ok (.pop, 1) := by decide +kernel
theorem dX1_reason_18 : decode cX1_reason 18 = .ok (.aload_n 0, 1) := by decide +kernel
theorem dX1_reason_19 : decode cX1_reason 19 = .ok (.getfield 29, 3) := by decide +kernel
theorem dX1_reason_22 : decode cX1_reason 22 = .ok (.iconst 1, 1) := by decide +kernel
theorem dX1_reason_23 : decode cX1_reason 23 = .ok (.iload_n 2, 1) := by decide +kernel
theorem dX1_reason_24 : decode cX1_reason 24 = .ok (.ishl, 1) := by decide +kernel
theorem dX1_reason_25 : decode cX1_reason 25 = .ok (.ior, 1) := by decide +kernel
theorem dX1_reason_26 : decode cX1_reason 26 = .ok (.ireturn, 1) := by decide +kernel
theorem dX1_isFirstOfClass_0 : decode cX1_isFirstOfClass 0 = .ok (.iconst 0, 1) := by decide +kernel
theorem dX1_isFirstOfClass_1 : decode cX1_isFirstOfClass 1 = .ok (.istore_n 3, 1) := by decide +kernel
theorem dX1_isFirstOfClass_2 : decode cX1_isFirstOfClass 2 = .ok (.iload_n 3, 1) := by decide +kernel
theorem dX1_isFirstOfClass_3 : decode cX1_isFirstOfClass 3 = .ok (.iload_n 2, 1) := by decide +kernel
theorem dX1_isFirstOfClass_4 : decode cX1_isFirstOfClass 4 = .ok (.if_icmp .ge 21, 3) := by decide +kernel
theorem dX1_isFirstOfClass_7 : decode cX1_isFirstOfClass 7 = .ok (.aload_n 0, 1) := by decide +kernel
theorem dX1_isFirstOfClass_8 : decode cX1_isFirstOfClass 8 = .ok (.aload_n 1, 1) := by decide +kernel
theorem dX1_isFirstOfClass_9 : decode cX1_isFirstOfClass 9 = .ok (.iload_n 3, 1) := by decide +kernel
theorem dX1_isFirstOfClass_10 : decode cX1_isFirstOfClass 10 = .ok (.iload_n 2, 1) := by decide +kernel
theorem dX1_isFirstOfClass_11 : decode cX1_isFirstOfClass 11 = .ok (.invokevirtual 81, 3) := by decide +kernel
theorem dX1_isFirstOfClass_14 : decode cX1_isFirstOfClass 14 = .ok (.ifCond .ne 5, 3) := by decide +kernel
theorem dX1_isFirstOfClass_17 : decode cX1_isFirstOfClass 17 = .ok (.iconst 0, 1) := by decide +kernel
theorem dX1_isFirstOfClass_18 : decode cX1_isFirstOfClass 18 = .ok (.ireturn, 1) := by decide +kernel
theorem dX1_isFirstOfClass_19 : decode cX1_isFirstOfClass 19 = .ok (.iinc 3 1, 3) := by decide +kernel
theorem dX1_isFirstOfClass_22 : decode cX1_isFirstOfClass 22 = .ok (.goto (-20), 3) := by decide +kernel
theorem dX1_isFirstOfClass_25 : decode cX1_isFirstOfClass 25 = .ok (.iconst 1, 1) := by decide +kernel
theorem dX1_isFirstOfClass_26 : decode cX1_isFirstOfClass 26 = .ok (.ireturn, 1) := by decide +kernel
theorem dX1_findRoom_0 : decode cX1_findRoom 0 = .ok (.aload_n 0, 1) := by decide +kernel
theorem dX1_findRoom_1 : decode cX1_findRoom 1 = .ok (.iconst 0, 1) := by decide +kernel
theorem dX1_findRoom_2 : decode cX1_findRoom 2 = .ok (.putfield 29, 3) := by decide +kernel
theorem dX1_findRoom_5 : decode cX1_findRoom 5 = .ok (.aload_n 0, 1) := by decide +kernel
theorem dX1_findRoom_6 : decode cX1_findRoom 6 = .ok (.iconst 0, 1) := by decide +kernel
theorem dX1_findRoom_7 : decode cX1_findRoom 7 = .ok (.putfield 35, 3) := by decide +kernel
theorem dX1_findRoom_10 : decode cX1_findRoom 10 = .ok (.aload_n 0, 1) := by decide +kernel
theorem dX1_findRoom_11 : decode cX1_findRoom 11 = .ok (.iconst (-1), 1) := by decide +kernel
theorem dX1_findRoom_12 : decode cX1_findRoom 12 = .ok (.iload_n 2, 1) := by decide +kernel
theorem dX1_findRoom_13 : decode cX1_findRoom 13 = .ok (.iload_n 3, 1) := by decide +kernel
theorem dX1_findRoom_14 : decode cX1_findRoom 14 = .ok (.invokevirtual 106, 3) := by decide +kernel
theorem dX1_findRoom_17 : decode cX1_findRoom 17 = .ok (.ifCond .eq 5, 3) := by decide +kernel
theorem dX1_findRoom_20 : decode cX1_findRoom 20 = .ok (.iconst 1, 1) := by decide +kernel
theorem dX1_findRoom_21 : decode cX1_findRoom 21 = .ok (.ireturn, 1) := by decide +kernel
theorem dX1_findRoom_22 : decode cX1_findRoom 22 = .ok (.iconst 0, 1) := by decide +kernel
theorem dX1_findRoom_23 : decode cX1_findRoom 23 = .ok (.istore 4, 2) := by decide +kernel
theorem dX1_findRoom_25 : decode cX1_findRoom 25 = .ok (.iload 4, 2) := by decide +kernel
theorem dX1_findRoom_27 : decode cX1_findRoom 27 = .ok (.aload_n 0, 1) := by decide +kernel
theorem dX1_findRoom_28 : decode cX1_findRoom 28 = .ok (.getfield 35, 3) := by decide +kernel
theorem dX1_findRoom_31 : decode cX1_findRoom 31 = .ok (.if_icmp .ge 50, 3) := by decide +kernel
theorem dX1_findRoom_34 : decode cX1_findRoom 34 = .ok (.iload 4, 2) := by decide +kernel
theorem dX1_findRoom_36 : decode cX1_findRoom 36 = .ok (.bipush 24, 2) := by decide +kernel
theorem dX1_findRoom_38 : decode cX1_findRoom 38 = .ok (.if_icmp .ge 43, 3) := by decide +kernel
theorem dX1_findRoom_41 : decode cX1_findRoom 41 = .ok (.aload_n 0, 1) := by decide +kernel
theorem dX1_findRoom_42 : decode cX1_findRoom 42 = .ok (.getfield 32, 3) := by decide +kernel
theorem dX1_findRoom_45 : decode cX1_findRoom 45 = .ok (.iload 4, 2) := by decide +kernel
theorem dX1_findRoom_47 : decode cX1_findRoom 47 = .ok (.iaload, 1) := by decide +kernel
theorem dX1_findRoom_48 : decode cX1_findRoom 48 = .ok (.istore 5, 2) := by decide +kernel
theorem dX1_findRoom_50 : decode cX1_findRoom 50 = .ok (.aload_n 0, 1) := by decide +kernel
theorem dX1_findRoom_51 : decode cX1_findRoom 51 = .ok (.iload 5, 2) := by decide +kernel
theorem dX1_findRoom_53 : decode cX1_findRoom 53 = .ok (.aload_n 1, 1) := by decide +kernel
theorem dX1_findRoom_54 : decode cX1_findRoom 54 = .ok (.getfield 75, 3) := by decide +kernel
theorem dX1_findRoom_57 : decode cX1_findRoom 57 = .ok (.iload 5, 2) := by decide +kernel
theorem dX1_findRoom_59 : decode cX1_findRoom 59 = .ok (.iaload, 1) := by decide +kernel
theorem dX1_findRoom_60 : decode cX1_findRoom 60 = .ok (.aload_n 1, 1) := by decide +kernel
theorem dX1_findRoom_61 : decode cX1_findRoom 61 = .ok (.getfield 78, 3) := by decide +kernel
theorem dX1_findRoom_64 : decode cX1_findRoom 64 = .ok (.iload 5, 2) := by decide +kernel
theorem dX1_findRoom_66 : decode cX1_findRoom 66 = .ok (.iaload, 1) := by decide +kernel
theorem dX1_findRoom_67 : decode cX1_findRoom 67 = .ok (.invokevirtual 106, 3) := by decide +kernel
theorem dX1_findRoom_70 : decode cX1_findRoom 70 = .ok (.ifCond .eq 5, 3) := by decide +kernel
theorem dX1_findRoom_73 : decode cX1_findRoom 73 = .ok (.iconst 1, 1) := by decide +kernel
theorem dX1_findRoom_74 : decode cX1_findRoom 74 = .ok (.ireturn, 1) := by decide +kernel
theorem dX1_findRoom_75 : decode cX1_findRoom 75 = .ok (.iinc 4 1, 3) := by decide +kernel
theorem dX1_findRoom_78 : decode cX1_findRoom 78 = .ok (.goto (-53), 3) := by decide +kernel
theorem dX1_findRoom_81 : decode cX1_findRoom 81 = .ok (.iconst 0, 1) := by decide +kernel
theorem dX1_findRoom_82 : decode cX1_findRoom 82 = .ok (.ireturn, 1) := by decide +kernel
theorem dX1_reachFrom_0 : decode cX1_reachFrom 0 = .ok (.iconst 0, 1) := by decide +kernel
theorem dX1_reachFrom_1 : decode cX1_reachFrom 1 = .ok (.istore 4, 2) := by decide +kernel
theorem dX1_reachFrom_3 : decode cX1_reachFrom 3 = .ok (.iload 4, 2) := by decide +kernel
theorem dX1_reachFrom_5 : decode cX1_reachFrom 5 = .ok (.aload_n 0, 1) := by decide +kernel
theorem dX1_reachFrom_6 : decode cX1_reachFrom 6 = .ok (.getfield 55, 3) := by decide +kernel
theorem dX1_reachFrom_9 : decode cX1_reachFrom 9 = .ok (.arraylength, 1) := by decide +kernel
theorem dX1_reachFrom_10 : decode cX1_reachFrom 10 = .ok (.if_icmp .ge 63, 3) := by decide +kernel
theorem dX1_reachFrom_13 : decode cX1_reachFrom 13 = .ok (.aload_n 0, 1) := by decide +kernel
theorem dX1_reachFrom_14 : decode cX1_reachFrom 14 = .ok (.getfield 55, 3) := by decide +kernel
theorem dX1_reachFrom_17 : decode cX1_reachFrom 17 = .ok (.iload 4, 2) := by decide +kernel
theorem dX1_reachFrom_19 : decode cX1_reachFrom 19 = .ok (.aaload, 1) := by decide +kernel
theorem dX1_reachFrom_20 : decode cX1_reachFrom 20 = .ok (.iload_n 2, 1) := by decide +kernel
theorem dX1_reachFrom_21 : decode cX1_reachFrom 21 = .ok (.iload_n 3, 1) := by decide +kernel
theorem dX1_reachFrom_22 : decode cX1_reachFrom 22 = .ok (.invokevirtual 92, 3) := by decide +kernel
theorem dX1_reachFrom_25 : decode cX1_reachFrom 25 = .ok (.istore 5, 2) := by decide +kernel
theorem dX1_reachFrom_27 : decode cX1_reachFrom 27 = .ok (.iload 5, 2) := by decide +kernel
theorem dX1_reachFrom_29 : decode cX1_reachFrom 29 = .ok (.iconst (-1), 1) := by decide +kernel
theorem dX1_reachFrom_30 : decode cX1_reachFrom 30 = .ok (.if_icmp .ne 16, 3) := by decide +kernel
theorem dX1_reachFrom_33 : decode cX1_reachFrom 33 = .ok (.aload_n 0, 1) := by decide +kernel
theorem dX1_reachFrom_34 : decode cX1_reachFrom 34 = .ok (.iload_n 1, 1) := by decide +kernel
theorem dX1_reachFrom_35 : decode cX1_reachFrom 35 = .ok (.putfield 41, 3) := by decide +kernel
theorem dX1_reachFrom_38 : decode cX1_reachFrom 38 = .ok (.aload_n 0, 1) := by decide +kernel
theorem dX1_reachFrom_39 : decode cX1_reachFrom 39 = .ok (.iload 4, 2) := by decide +kernel
theorem dX1_reachFrom_41 : decode cX1_reachFrom 41 = .ok (.putfield 44, 3) := by decide +kernel
theorem dX1_reachFrom_44 : decode cX1_reachFrom 44 = .ok (.iconst 1, 1) := by decide +kernel
theorem dX1_reachFrom_45 : decode cX1_reachFrom 45 = .ok (.ireturn, 1) := by decide +kernel
theorem dX1_reachFrom_46 : decode cX1_reachFrom 46 = .ok (.aload_n 0, 1) := by decide +kernel
theorem dX1_reachFrom_47 : decode cX1_reachFrom 47 = .ok (.iload 5, 2) := by decide +kernel
theorem dX1_reachFrom_49 : decode cX1_reachFrom 49 = .ok (.aload_n 0, 1) := by decide +kernel
theorem dX1_reachFrom_50 : decode cX1_reachFrom 50 = .ok (.getfield 26, 3) := by decide +kernel
theorem dX1_reachFrom_53 : decode cX1_reachFrom 53 = .ok (.iconst (-1), 1) := by decide +kernel
theorem dX1_reachFrom_54 : decode cX1_reachFrom 54 = .ok (.ixor, 1) := by decide +kernel
theorem dX1_reachFrom_55 : decode cX1_reachFrom 55 = .ok (.iand, 1) := by decide +kernel
theorem dX1_reachFrom_56 : decode cX1_reachFrom 56 = .ok (.aload_n 0, 1) := by decide +kernel
theorem dX1_reachFrom_57 : decode cX1_reachFrom 57 = .ok (.getfield 29, 3) := by decide +kernel
theorem dX1_reachFrom_60 : decode cX1_reachFrom 60 = .ok (.iconst (-1), 1) := by decide +kernel
theorem dX1_reachFrom_61 : decode cX1_reachFrom 61 = .ok (.ixor, 1) := by decide +kernel
theorem dX1_reachFrom_62 : decode cX1_reachFrom 62 = .ok (.iand, 1) := by decide +kernel
theorem dX1_reachFrom_63 : decode cX1_reachFrom 63 = .ok (.iload_n 1, 1) := by decide +kernel
theorem dX1_reachFrom_64 : decode cX1_reachFrom 64 = .ok (.invokevirtual 110, 3) := by decide +kernel
theorem dX1_reachFrom_67 : decode cX1_reachFrom 67 = .ok (.iinc 4 1, 3) := by decide +kernel
theorem dX1_reachFrom_70 : decode cX1_reachFrom 70 = .ok (.goto (-67), 3) := by decide +kernel
theorem dX1_reachFrom_73 : decode cX1_reachFrom 73 = .ok (.iconst 0, 1) := by decide +kernel
theorem dX1_reachFrom_74 : decode cX1_reachFrom 74 = .ok (.ireturn, 1) := by decide +kernel
theorem dX1_reach_0 : decode cX1_reach 0 = .ok (.aload_n 0, 1) := by decide +kernel
theorem dX1_reach_1 : decode cX1_reach 1 = .ok (.dup, 1) := by decide +kernel
theorem dX1_reach_2 : decode cX1_reach 2 = .ok (.getfield 29, 3) := by decide +kernel
theorem dX1_reach_5 : decode cX1_reach 5 = .ok (.iload_n 1, 1) := by decide +kernel
theorem dX1_reach_6 : decode cX1_reach 6 = .ok (.ior, 1) := by decide +kernel
theorem dX1_reach_7 : decode cX1_reach 7 = .ok (.putfield 29, 3) := by decide +kernel
theorem dX1_reach_10 : decode cX1_reach 10 = .ok (.iload_n 1, 1) := by decide +kernel
theorem dX1_reach_11 : decode cX1_reach 11 = .ok (.istore_n 3, 1) := by decide +kernel
theorem dX1_reach_12 : decode cX1_reach 12 = .ok (.iconst 0, 1) := by decide +kernel
theorem dX1_reach_13 : decode cX1_reach 13 = .ok (.istore 4, 2) := by decide +kernel
theorem dX1_reach_15 : decode cX1_reach 15 = .ok (.iload 4, 2) := by decide +kernel
theorem dX1_reach_17 : decode cX1_reach 17 = .ok (.bipush 24, 2) := by decide +kernel
theorem dX1_reach_19 : decode cX1_reach 19 = .ok (.if_icmp .ge 70, 3) := by decide +kernel
theorem dX1_reach_22 : decode cX1_reach 22 = .ok (.iload_n 3, 1) := by decide +kernel
theorem dX1_reach_23 : decode cX1_reach 23 = .ok (.ifCond .eq 66, 3) := by decide +kernel
theorem dX1_reach_26 : decode cX1_reach 26 = .ok (.iload_n 3, 1) := by decide +kernel
theorem dX1_reach_27 : decode cX1_reach 27 = .ok (.iload 4, 2) := by decide +kernel
theorem dX1_reach_29 : decode cX1_reach 29 = .ok (.ishr, 1) := by decide +kernel
theorem dX1_reach_30 : decode cX1_reach 30 = .ok (.iconst 1, 1) := by decide +kernel
theorem dX1_reach_31 : decode cX1_reach 31 = .ok (.iand, 1) := by decide +kernel
theorem dX1_reach_32 : decode cX1_reach 32 = .ok (.iconst 1, 1) := by decide +kernel
theorem dX1_reach_33 : decode cX1_reach 33 = .ok (.if_icmp .ne 50, 3) := by decide +kernel
theorem dX1_reach_36 : decode cX1_reach 36 = .ok (.aload_n 0, 1) := by decide +kernel
theorem dX1_reach_37 : decode cX1_reach 37 = .ok (.getfield 35, 3) := by decide +kernel
theorem dX1_reach_40 : decode cX1_reach 40 = .ok (.bipush 24, 2) := by decide +kernel
theorem dX1_reach_42 : decode cX1_reach 42 = .ok (.if_icmp .ge 41, 3) := by decide +kernel
theorem dX1_reach_45 : decode cX1_reach 45 = .ok (.aload_n 0, 1) := by decide +kernel
theorem dX1_reach_46 : decode cX1_reach 46 = .ok (.getfield 38, 3) := by decide +kernel
theorem dX1_reach_49 : decode cX1_reach 49 = .ok (.iload 4, 2) := by decide +kernel
theorem dX1_reach_51 : decode cX1_reach 51 = .ok (.iload_n 2, 1) := by decide +kernel
theorem dX1_reach_52 : decode cX1_reach 52 = .ok (.iastore, 1) := by decide +kernel
theorem dX1_reach_53 : decode cX1_reach 53 = .ok (.aload_n 0, 1) := by decide +kernel
theorem dX1_reach_54 : decode cX1_reach 54 = .ok (.getfield 32, 3) := by decide +kernel
theorem dX1_reach_57 : decode cX1_reach 57 = .ok (.aload_n 0, 1) := by decide +kernel
theorem dX1_reach_58 : decode cX1_reach 58 = .ok (.getfield 35, 3) := by decide +kernel
theorem dX1_reach_61 : decode cX1_reach 61 = .ok (.iload 4, 2) := by decide +kernel
theorem dX1_reach_63 : decode cX1_reach 63 = .ok (.iastore, 1) := by decide +kernel
theorem dX1_reach_64 : decode cX1_reach 64 = .ok (.aload_n 0, 1) := by decide +kernel
theorem dX1_reach_65 : decode cX1_reach 65 = .ok (.dup, 1) := by decide +kernel
theorem dX1_reach_66 : decode cX1_reach 66 = .ok (.getfield 35, 3) := by decide +kernel
theorem dX1_reach_69 : decode cX1_reach 69 = .ok (.iconst 1, 1) := by decide +kernel
theorem dX1_reach_70 : decode cX1_reach 70 = .ok (.iadd, 1) := by decide +kernel
theorem dX1_reach_71 : decode cX1_reach 71 = .ok (.putfield 35, 3) := by decide +kernel
theorem dX1_reach_74 : decode cX1_reach 74 = .ok (.iload_n 3, 1) := by decide +kernel
theorem dX1_reach_75 : decode cX1_reach 75 = .ok (.iconst 1, 1) := by decide +kernel
theorem dX1_reach_76 : decode cX1_reach 76 = .ok (.iload 4, 2) := by decide +kernel
theorem dX1_reach_78 : decode cX1_reach 78 = .ok (.ishl, 1) := by decide +kernel
theorem dX1_reach_79 : decode cX1_reach 79 = .ok (.iconst (-1), 1) := by decide +kernel
theorem dX1_reach_80 : decode cX1_reach 80 = .ok (.ixor, 1) := by decide +kernel
theorem dX1_reach_81 : decode cX1_reach 81 = .ok (.iand, 1) := by decide +kernel
theorem dX1_reach_82 : decode cX1_reach 82 = .ok (.istore_n 3, 1) := by decide +kernel
theorem dX1_reach_83 : decode cX1_reach 83 = .ok (.iinc 4 1, 3) := by decide +kernel
theorem dX1_reach_86 : decode cX1_reach 86 = .ok (.goto (-71), 3) := by decide +kernel
theorem dX1_reach_89 : decode cX1_reach 89 = .ok (.return_, 1) := by decide +kernel
theorem dX1_takeIn_0 : decode cX1_takeIn 0 = .ok (.aload_n 0, 1) := by decide +kernel
theorem dX1_takeIn_1 : decode cX1_takeIn 1 = .ok (.getfield 44, 3) := by decide +kernel
theorem dX1_takeIn_4 : decode cX1_takeIn 4 = .ok (.istore_n 3, 1) := by decide +kernel
theorem dX1_takeIn_5 : decode cX1_takeIn 5 = .ok (.aload_n 0, 1) := by decide +kernel
theorem dX1_takeIn_6 : decode cX1_takeIn 6 = .ok (.getfield 41, 3) := by decide +kernel
theorem dX1_takeIn_9 : decode cX1_takeIn 9 = .ok (.istore 4, 2) := by decide +kernel
theorem dX1_takeIn_11 : decode cX1_takeIn 11 = .ok (.iconst 0, 1) := by decide +kernel
theorem dX1_takeIn_12 : decode cX1_takeIn 12 = .ok (.istore 5, 2) := by decide +kernel
theorem dX1_takeIn_14 : decode cX1_takeIn 14 = .ok (.iload 5, 2) := by decide +kernel
theorem dX1_takeIn_16 : decode cX1_takeIn 16 = .ok (.bipush 24, 2) := by decide +kernel
theorem dX1_takeIn_18 : decode cX1_takeIn 18 = .ok (.if_icmp .ge 50, 3) := by decide +kernel
theorem dX1_takeIn_21 : decode cX1_takeIn 21 = .ok (.iload 4, 2) := by decide +kernel
theorem dX1_takeIn_23 : decode cX1_takeIn 23 = .ok (.ifCond .lt 45, 3) := by decide +kernel
theorem dX1_takeIn_26 : decode cX1_takeIn 26 = .ok (.aload_n 0, 1) := by decide +kernel
theorem dX1_takeIn_27 : decode cX1_takeIn 27 = .ok (.getfield 9, 3) := by decide +kernel
theorem dX1_takeIn_30 : decode cX1_takeIn 30 = .ok (.iload 4, 2) := by decide +kernel
theorem dX1_takeIn_32 : decode cX1_takeIn 32 = .ok (.iaload, 1) := by decide +kernel
theorem dX1_takeIn_33 : decode cX1_takeIn 33 = .ok (.istore 6, 2) := by decide +kernel
theorem dX1_takeIn_35 : decode cX1_takeIn 35 = .ok (.aload_n 0, 1) := by decide +kernel
theorem dX1_takeIn_36 : decode cX1_takeIn 36 = .ok (.aload_n 1, 1) := by decide +kernel
theorem dX1_takeIn_37 : decode cX1_takeIn 37 = .ok (.iload 4, 2) := by decide +kernel
theorem dX1_takeIn_39 : decode cX1_takeIn 39 = .ok (.invokevirtual 95, 3) := by decide +kernel
theorem dX1_takeIn_42 : decode cX1_takeIn 42 = .ok (.aload_n 0, 1) := by decide +kernel
theorem dX1_takeIn_43 : decode cX1_takeIn 43 = .ok (.aload_n 1, 1) := by decide +kernel
theorem dX1_takeIn_44 : decode cX1_takeIn 44 = .ok (.iload 4, 2) := by decide +kernel
theorem dX1_takeIn_46 : decode cX1_takeIn 46 = .ok (.iload_n 3, 1) := by decide +kernel
theorem dX1_takeIn_47 : decode cX1_takeIn 47 = .ok (.invokevirtual 98, 3) := by decide +kernel
theorem dX1_takeIn_50 : decode cX1_takeIn 50 = .ok (.iload 6, 2) := by decide +kernel
theorem dX1_takeIn_52 : decode cX1_takeIn 52 = .ok (.istore_n 3, 1) := by decide +kernel
theorem dX1_takeIn_53 : decode cX1_takeIn 53 = .ok (.aload_n 0, 1) := by decide +kernel
theorem dX1_takeIn_54 : decode cX1_takeIn 54 = .ok (.getfield 38, 3) := by decide +kernel
theorem dX1_takeIn_57 : decode cX1_takeIn 57 = .ok (.iload 4, 2) := by decide +kernel
theorem dX1_takeIn_59 : decode cX1_takeIn 59 = .ok (.iaload, 1) := by decide +kernel
theorem dX1_takeIn_60 : decode cX1_takeIn 60 = .ok (.istore 4, 2) := by decide +kernel
theorem dX1_takeIn_62 : decode cX1_takeIn 62 = .ok (.iinc 5 1, 3) := by decide +kernel
theorem dX1_takeIn_65 : decode cX1_takeIn 65 = .ok (.goto (-51), 3) := by decide +kernel
theorem dX1_takeIn_68 : decode cX1_takeIn 68 = .ok (.aload_n 0, 1) := by decide +kernel
theorem dX1_takeIn_69 : decode cX1_takeIn 69 = .ok (.aload_n 1, 1) := by decide +kernel
theorem dX1_takeIn_70 : decode cX1_takeIn 70 = .ok (.iload_n 2, 1) := by decide +kernel
theorem dX1_takeIn_71 : decode cX1_takeIn 71 = .ok (.iload_n 3, 1) := by decide +kernel
theorem dX1_takeIn_72 : decode cX1_takeIn 72 = .ok (.invokevirtual 98, 3) := by decide +kernel
theorem dX1_takeIn_75 : decode cX1_takeIn 75 = .ok (.return_, 1) := by decide +kernel
theorem dX1_put_0 : decode cX1_put 0 = .ok (.iload_n 3, 1) := by decide +kernel
theorem dX1_put_1 : decode cX1_put 1 = .ok (.ifCond .lt 43, 3) := by decide +kernel
theorem dX1_put_4 : decode cX1_put 4 = .ok (.iload_n 3, 1) := by decide +kernel
theorem dX1_put_5 : decode cX1_put 5 = .ok (.aload_n 0, 1) := by decide +kernel
theorem dX1_put_6 : decode cX1_put 6 = .ok (.getfield 55, 3) := by decide +kernel
theorem dX1_put_9 : decode cX1_put 9 = .ok (.arraylength, 1) := by decide +kernel
theorem dX1_put_10 : decode cX1_put 10 = .ok (.if_icmp .ge 34, 3) := by decide +kernel
theorem dX1_put_13 : decode cX1_put 13 = .ok (.aload_n 0, 1) := by decide +kernel
theorem dX1_put_14 : decode cX1_put 14 = .ok (.getfield 55, 3) := by decide +kernel
theorem dX1_put_17 : decode cX1_put 17 = .ok (.iload_n 3, 1) := by decide +kernel
theorem dX1_put_18 : decode cX1_put 18 = .ok (.aaload, 1) := by decide +kernel
theorem dX1_put_19 : decode cX1_put 19 = .ok (.iconst 1, 1) := by decide +kernel
theorem dX1_put_20 : decode cX1_put 20 = .ok (.iload_n 2, 1) := by decide +kernel
theorem dX1_put_21 : decode cX1_put 21 = .ok (.ishl, 1) := by decide +kernel
theorem dX1_put_22 : decode cX1_put 22 = .ok (.aload_n 1, 1) := by decide +kernel
theorem dX1_put_23 : decode cX1_put 23 = .ok (.getfield 75, 3) := by decide +kernel
theorem dX1_put_26 : decode cX1_put 26 = .ok (.iload_n 2, 1) := by decide +kernel
theorem dX1_put_27 : decode cX1_put 27 = .ok (.iaload, 1) := by decide +kernel
theorem dX1_put_28 : decode cX1_put 28 = .ok (.aload_n 1, 1) := by decide +kernel
theorem dX1_put_29 : decode cX1_put 29 = .ok (.getfield 78, 3) := by decide +kernel
theorem dX1_put_32 : decode cX1_put 32 = .ok (.iload_n 2, 1) := by decide +kernel
theorem dX1_put_33 : decode cX1_put 33 = .ok (.iaload, 1) := by decide +kernel
theorem dX1_put_34 : decode cX1_put 34 = .ok (.invokevirtual 114, 3) := by decide +kernel
theorem dX1_put_37 : decode cX1_put 37 = .ok (.aload_n 0, 1) := by decide +kernel
theorem dX1_put_38 : decode cX1_put 38 = .ok (.getfield 9, 3) := by decide +kernel
theorem dX1_put_41 : decode cX1_put 41 = .ok (.iload_n 2, 1) := by decide +kernel
theorem dX1_put_42 : decode cX1_put 42 = .ok (.iload_n 3, 1) := by decide +kernel
theorem dX1_put_43 : decode cX1_put 43 = .ok (.iastore, 1) := by decide +kernel
theorem dX1_put_44 : decode cX1_put 44 = .ok (.return_, 1) := by decide +kernel
theorem dX1_remove_0 : decode cX1_remove 0 = .ok (.aload_n 0, 1) := by decide +kernel
theorem dX1_remove_1 : decode cX1_remove 1 = .ok (.getfield 9, 3) := by decide +kernel
theorem dX1_remove_4 : decode cX1_remove 4 = .ok (.iload_n 2, 1) := by decide +kernel
theorem dX1_remove_5 : decode cX1_remove 5 = .ok (.iaload, 1) := by decide +kernel
theorem dX1_remove_6 : decode cX1_remove 6 = .ok (.istore_n 3, 1) := by decide +kernel
theorem dX1_remove_7 : decode cX1_remove 7 = .ok (.iload_n 3, 1) := by decide +kernel
theorem dX1_remove_8 : decode cX1_remove 8 = .ok (.ifCond .lt 43, 3) := by decide +kernel
theorem dX1_remove_11 : decode cX1_remove 11 = .ok (.iload_n 3, 1) := by decide +kernel
theorem dX1_remove_12 : decode cX1_remove 12 = .ok (.aload_n 0, 1) := by decide +kernel
theorem dX1_remove_13 : decode cX1_remove 13 = .ok (.getfield 55, 3) := by decide +kernel
theorem dX1_remove_16 : decode cX1_remove 16 = .ok (.arraylength, 1) := by decide +kernel
theorem dX1_remove_17 : decode cX1_remove 17 = .ok (.if_icmp .ge 34, 3) := by decide +kernel
theorem dX1_remove_20 : decode cX1_remove 20 = .ok (.aload_n 0, 1) := by decide +kernel
theorem dX1_remove_21 : decode cX1_remove 21 = .ok (.getfield 55, 3) := by decide +kernel
theorem dX1_remove_24 : decode cX1_remove 24 = .ok (.iload_n 3, 1) := by decide +kernel
theorem dX1_remove_25 : decode cX1_remove 25 = .ok (.aaload, 1) := by decide +kernel
theorem dX1_remove_26 : decode cX1_remove 26 = .ok (.iconst 1, 1) := by decide +kernel
theorem dX1_remove_27 : decode cX1_remove 27 = .ok (.iload_n 2, 1) := by decide +kernel
theorem dX1_remove_28 : decode cX1_remove 28 = .ok (.ishl, 1) := by decide +kernel
theorem dX1_remove_29 : decode cX1_remove 29 = .ok (.aload_n 1, 1) := by decide +kernel
theorem dX1_remove_30 : decode cX1_remove 30 = .ok (.getfield 75, 3) := by decide +kernel
theorem dX1_remove_33 : decode cX1_remove 33 = .ok (.iload_n 2, 1) := by decide +kernel
theorem dX1_remove_34 : decode cX1_remove 34 = .ok (.iaload, 1) := by decide +kernel
theorem dX1_remove_35 : decode cX1_remove 35 = .ok (.aload_n 1, 1) := by decide +kernel
theorem dX1_remove_36 : decode cX1_remove 36 = .ok (.getfield 78, 3) := by decide +kernel
theorem dX1_remove_39 : decode cX1_remove 39 = .ok (.iload_n 2, 1) := by decide +kernel
theorem dX1_remove_40 : decode cX1_remove 40 = .ok (.iaload, 1) := by decide +kernel
theorem dX1_remove_41 : decode cX1_remove 41 = .ok (.invokevirtual 118, 3) := by decide +kernel
theorem dX1_remove_44 : decode cX1_remove 44 = .ok (.aload_n 0, 1) := by decide +kernel
theorem dX1_remove_45 : decode cX1_remove 45 = .ok (.getfield 9, 3) := by decide +kernel
theorem dX1_remove_48 : decode cX1_remove 48 = .ok (.iload_n 2, 1) := by decide +kernel
theorem dX1_remove_49 : decode cX1_remove 49 = .ok (.iconst (-1), 1) := by decide +kernel
theorem dX1_remove_50 : decode cX1_remove 50 = .ok (.iastore, 1) := by decide +kernel
theorem dX1_remove_51 : decode cX1_remove 51 = .ok (.return_, 1) := by decide +kernel
theorem dX1_leastOf_0 : decode cX1_leastOf 0 = .ok (.iconst 0, 1) := by decide +kernel
theorem dX1_leastOf_1 : decode cX1_leastOf 1 = .ok (.istore_n 1, 1) := by decide +kernel
theorem dX1_leastOf_2 : decode cX1_leastOf 2 = .ok (.iload_n 1, 1) := by decide +kernel
theorem dX1_leastOf_3 : decode cX1_leastOf 3 = .ok (.bipush 24, 2) := by decide +kernel
theorem dX1_leastOf_5 : decode cX1_leastOf 5 = .ok (.if_icmp .ge 20, 3) := by decide +kernel
theorem dX1_leastOf_8 : decode cX1_leastOf 8 = .ok (.iload_n 0, 1) := by decide +kernel
theorem dX1_leastOf_9 : decode cX1_leastOf 9 = .ok (.iload_n 1, 1) := by decide +kernel
theorem dX1_leastOf_10 : decode cX1_leastOf 10 = .ok (.ishr, 1) := by decide +kernel
theorem dX1_leastOf_11 : decode cX1_leastOf 11 = .ok (.iconst 1, 1) := by decide +kernel
theorem dX1_leastOf_12 : decode cX1_leastOf 12 = .ok (.iand, 1) := by decide +kernel
theorem dX1_leastOf_13 : decode cX1_leastOf 13 = .ok (.iconst 1, 1) := by decide +kernel
theorem dX1_leastOf_14 : decode cX1_leastOf 14 = .ok (.if_icmp .ne 5, 3) := by decide +kernel
theorem dX1_leastOf_17 : decode cX1_leastOf 17 = .ok (.iload_n 1, 1) := by decide +kernel
theorem dX1_leastOf_18 : decode cX1_leastOf 18 = .ok (.ireturn, 1) := by decide +kernel
theorem dX1_leastOf_19 : decode cX1_leastOf 19 = .ok (.iinc 1 1, 3) := by decide +kernel
theorem dX1_leastOf_22 : decode cX1_leastOf 22 = .ok (.goto (-20), 3) := by decide +kernel
theorem dX1_leastOf_25 : decode cX1_leastOf 25 = .ok (.iconst (-1), 1) := by decide +kernel
theorem dX1_leastOf_26 : decode cX1_leastOf 26 = .ok (.ireturn, 1) := by decide +kernel
theorem dX2_init_0 : decode cX2_init 0 = .ok (.aload_n 0, 1) := by decide +kernel
theorem dX2_init_1 : decode cX2_init 1 = .ok (.invokespecial 3, 3) := by decide +kernel
theorem dX2_init_4 : decode cX2_init 4 = .ok (.aload_n 0, 1) := by decide +kernel
theorem dX2_init_5 : decode cX2_init 5 = .ok (.bipush 10, 2) := by decide +kernel
theorem dX2_init_7 : decode cX2_init 7 = .ok (.newarray .int, 2) := by decide +kernel
theorem dX2_init_9 : decode cX2_init 9 = .ok (.putfield 9, 3) := by decide +kernel
theorem dX2_init_12 : decode cX2_init 12 = .ok (.aload_n 0, 1) := by decide +kernel
theorem dX2_init_13 : decode cX2_init 13 = .ok (.bipush 10, 2) := by decide +kernel
theorem dX2_init_15 : decode cX2_init 15 = .ok (.newarray .int, 2) := by decide +kernel
theorem dX2_init_17 : decode cX2_init 17 = .ok (.putfield 15, 3) := by decide +kernel
theorem dX2_init_20 : decode cX2_init 20 = .ok (.return_, 1) := by decide +kernel
theorem dX2_clear_0 : decode cX2_clear 0 = .ok (.aload_n 0, 1) := by decide +kernel
theorem dX2_clear_1 : decode cX2_clear 1 = .ok (.getfield 9, 3) := by decide +kernel
theorem dX2_clear_4 : decode cX2_clear 4 = .ok (.iconst (-1), 1) := by decide +kernel
theorem dX2_clear_5 : decode cX2_clear 5 = .ok (.invokestatic 18, 3) := by decide +kernel
theorem dX2_clear_8 : decode cX2_clear 8 = .ok (.aload_n 0, 1) := by decide +kernel
theorem dX2_clear_9 : decode cX2_clear 9 = .ok (.getfield 15, 3) := by decide +kernel
theorem dX2_clear_12 : decode cX2_clear 12 = .ok (.iconst 0, 1) := by decide +kernel
theorem dX2_clear_13 : decode cX2_clear 13 = .ok (.invokestatic 18, 3) := by decide +kernel
theorem dX2_clear_16 : decode cX2_clear 16 = .ok (.return_, 1) := by decide +kernel
theorem dX2_way_0 : decode cX2_way 0 = .ok (.iconst 0, 1) := by decide +kernel
theorem dX2_way_1 : decode cX2_way 1 = .ok (.istore_n 3, 1) := by decide +kernel
theorem dX2_way_2 : decode cX2_way 2 = .ok (.iload_n 1, 1) := by decide +kernel
theorem dX2_way_3 : decode cX2_way 3 = .ok (.istore 4, 2) := by decide +kernel
theorem dX2_way_5 : decode cX2_way 5 = .ok (.iconst 0, 1) := by decide +kernel
theorem dX2_way_6 : decode cX2_way 6 = .ok (.istore 5, 2) := by decide +kernel
theorem dX2_way_8 : decode cX2_way 8 = .ok (.iload 5, 2) := by decide +kernel
theorem dX2_way_10 : decode cX2_way 10 = .ok (.bipush 10, 2) := by decide +kernel
theorem dX2_way_12 : decode cX2_way 12 = .ok (.if_icmp .ge 30, 3) := by decide +kernel
theorem dX2_way_15 : decode cX2_way 15 = .ok (.iload 4, 2) := by decide +kernel
theorem dX2_way_17 : decode cX2_way 17 = .ok (.ifCond .lt 25, 3) := by decide +kernel
theorem dX2_way_20 : decode cX2_way 20 = .ok (.iload_n 3, 1) := by decide +kernel
theorem dX2_way_21 : decode cX2_way 21 = .ok (.iconst 1, 1) := by decide +kernel
theorem dX2_way_22 : decode cX2_way 22 = .ok (.iload 4, 2) := by decide +kernel
theorem dX2_way_24 : decode cX2_way 24 = .ok (.ishl, 1) := by decide +kernel
theorem dX2_way_25 : decode cX2_way 25 = .ok (.ior, 1) := by decide +kernel
theorem dX2_way_26 : decode cX2_way 26 = .ok (.istore_n 3, 1) := by decide +kernel
theorem dX2_way_27 : decode cX2_way 27 = .ok (.aload_n 0, 1) := by decide +kernel
theorem dX2_way_28 : decode cX2_way 28 = .ok (.getfield 9, 3) := by decide +kernel
theorem dX2_way_31 : decode cX2_way 31 = .ok (.iload 4, 2) := by decide +kernel
theorem dX2_way_33 : decode cX2_way 33 = .ok (.iaload, 1) := by decide +kernel
theorem dX2_way_34 : decode cX2_way 34 = .ok (.istore 4, 2) := by decide +kernel
theorem dX2_way_36 : decode cX2_way 36 = .ok (.iinc 5 1, 3) := by decide +kernel
theorem dX2_way_39 : decode cX2_way 39 = .ok (.goto (-31), 3) := by decide +kernel
theorem dX2_way_42 : decode cX2_way 42 = .ok (.iconst 0, 1) := by decide +kernel
theorem dX2_way_43 : decode cX2_way 43 = .ok (.istore 5, 2) := by decide +kernel
theorem dX2_way_45 : decode cX2_way 45 = .ok (.iload_n 2, 1) := by decide +kernel
theorem dX2_way_46 : decode cX2_way 46 = .ok (.istore 6, 2) := by decide +kernel
theorem dX2_way_48 : decode cX2_way 48 = .ok (.iconst 0, 1) := by decide +kernel
theorem dX2_way_49 : decode cX2_way 49 = .ok (.istore 7, 2) := by decide +kernel
theorem dX2_way_51 : decode cX2_way 51 = .ok (.iload 7, 2) := by decide +kernel
theorem dX2_way_53 : decode cX2_way 53 = .ok (.bipush 10, 2) := by decide +kernel
theorem dX2_way_55 : decode cX2_way 55 = .ok (.if_icmp .ge 44, 3) := by decide +kernel
theorem dX2_way_58 : decode cX2_way 58 = .ok (.iload 6, 2) := by decide +kernel
theorem dX2_way_60 : decode cX2_way 60 = .ok (.ifCond .lt 39, 3) := by decide +kernel
theorem dX2_way_63 : decode cX2_way 63 = .ok (.iload_n 3, 1) := by decide +kernel
theorem dX2_way_64 : decode cX2_way 64 = .ok (.iload 6, 2) := by decide +kernel
theorem dX2_way_66 : decode cX2_way 66 = .ok (.ishr, 1) := by decide +kernel
theorem dX2_way_67 : decode cX2_way 67 = .ok (.iconst 1, 1) := by decide +kernel
theorem dX2_way_68 : decode cX2_way 68 = .ok (.iand, 1) := by decide +kernel
theorem dX2_way_69 : decode cX2_way 69 = .ok (.ifCond .ne 30, 3) := by decide +kernel
theorem dX2_way_72 : decode cX2_way 72 = .ok (.iload 5, 2) := by decide +kernel
theorem dX2_way_74 : decode cX2_way 74 = .ok (.aload_n 0, 1) := by decide +kernel
theorem dX2_way_75 : decode cX2_way 75 = .ok (.getfield 15, 3) := by decide +kernel
theorem dX2_way_78 : decode cX2_way 78 = .ok (.iload 6, 2) := by decide +kernel
theorem dX2_way_80 : decode cX2_way 80 = .ok (.iaload, 1) := by decide +kernel
theorem dX2_way_81 : decode cX2_way 81 = .ok (.ior, 1) := by decide +kernel
theorem dX2_way_82 : decode cX2_way 82 = .ok (.istore 5, 2) := by decide +kernel
theorem dX2_way_84 : decode cX2_way 84 = .ok (.aload_n 0, 1) := by decide +kernel
theorem dX2_way_85 : decode cX2_way 85 = .ok (.getfield 9, 3) := by decide +kernel
theorem dX2_way_88 : decode cX2_way 88 = .ok (.iload 6, 2) := by decide +kernel
theorem dX2_way_90 : decode cX2_way 90 = .ok (.iaload, 1) := by decide +kernel
theorem dX2_way_91 : decode cX2_way 91 = .ok (.istore 6, 2) := by decide +kernel
theorem dX2_way_93 : decode cX2_way 93 = .ok (.iinc 7 1, 3) := by decide +kernel
theorem dX2_way_96 : decode cX2_way 96 = .ok (.goto (-45), 3) := by decide +kernel
theorem dX2_way_99 : decode cX2_way 99 = .ok (.iload 6, 2) := by decide +kernel
theorem dX2_way_101 : decode cX2_way 101 = .ok (.ifCond .ge 5, 3) := by decide +kernel
theorem dX2_way_104 : decode cX2_way 104 = .ok (.iconst (-1), 1) := by decide +kernel
theorem dX2_way_105 : decode cX2_way 105 = .ok (.ireturn, 1) := by decide +kernel
theorem dX2_way_106 : decode cX2_way 106 = .ok (.iload_n 1, 1) := by decide +kernel
theorem dX2_way_107 : decode cX2_way 107 = .ok (.istore 4, 2) := by decide +kernel
theorem dX2_way_109 : decode cX2_way 109 = .ok (.iconst 0, 1) := by decide +kernel
theorem dX2_way_110 : decode cX2_way 110 = .ok (.istore 7, 2) := by decide +kernel
theorem dX2_way_112 : decode cX2_way 112 = .ok (.iload 7, 2) := by decide +kernel
theorem dX2_way_114 : decode cX2_way 114 = .ok (.bipush 10, 2) := by decide +kernel
theorem dX2_way_116 : decode cX2_way 116 = .ok (.if_icmp .ge 42, 3) := by decide +kernel
theorem dX2_way_119 : decode cX2_way 119 = .ok (.iload 4, 2) := by decide +kernel
theorem dX2_way_121 : decode cX2_way 121 = .ok (.ifCond .lt 37, 3) := by decide +kernel
theorem dX2_way_124 : decode cX2_way 124 = .ok (.iload 4, 2) := by decide +kernel
theorem dX2_way_126 : decode cX2_way 126 = .ok (.iload 6, 2) := by decide +kernel
theorem dX2_way_128 : decode cX2_way 128 = .ok (.if_icmp .eq 30, 3) := by decide +kernel
theorem dX2_way_131 : decode cX2_way 131 = .ok (.iload 5, 2) := by decide +kernel
theorem dX2_way_133 : decode cX2_way 133 = .ok (.aload_n 0, 1) := by decide +kernel
theorem dX2_way_134 : decode cX2_way 134 = .ok (.getfield 15, 3) := by decide +kernel
theorem dX2_way_137 : decode cX2_way 137 = .ok (.iload 4, 2) := by decide +kernel
theorem dX2_way_139 : decode cX2_way 139 = .ok (.iaload, 1) := by decide +kernel
theorem dX2_way_140 : decode cX2_way 140 = .ok (.ior, 1) := by decide +kernel
theorem dX2_way_141 : decode cX2_way 141 = .ok (.istore 5, 2) := by decide +kernel
theorem dX2_way_143 : decode cX2_way 143 = .ok (.aload_n 0, 1) := by decide +kernel
theorem dX2_way_144 : decode cX2_way 144 = .ok (.getfield 9, 3) := by decide +kernel
theorem dX2_way_147 : decode cX2_way 147 = .ok (.iload 4, 2) := by decide +kernel
theorem dX2_way_149 : decode cX2_way 149 = .ok (.iaload, 1) := by decide +kernel
theorem dX2_way_150 : decode cX2_way 150 = .ok (.istore 4, 2) := by decide +kernel
theorem dX2_way_152 : decode cX2_way 152 = .ok (.iinc 7 1, 3) := by decide +kernel
theorem dX2_way_155 : decode cX2_way 155 = .ok (.goto (-43), 3) := by decide +kernel
theorem dX2_way_158 : decode cX2_way 158 = .ok (.iload 5, 2) := by decide +kernel
theorem dX2_way_160 : decode cX2_way 160 = .ok (.ireturn, 1) := by decide +kernel
theorem dX2_link_0 : decode cX2_link 0 = .ok (.iload_n 3, 1) := by decide +kernel
theorem dX2_link_1 : decode cX2_link 1 = .ok (.istore 4, 2) := by decide +kernel
theorem dX2_link_3 : decode cX2_link 3 = .ok (.iload_n 2, 1) := by decide +kernel
theorem dX2_link_4 : decode cX2_link 4 = .ok (.istore 5, 2) := by decide +kernel
theorem dX2_link_6 : decode cX2_link 6 = .ok (.iload_n 1, 1) := by decide +kernel
theorem dX2_link_7 : decode cX2_link 7 = .ok (.istore 6, 2) := by decide +kernel
theorem dX2_link_9 : decode cX2_link 9 = .ok (.iconst 0, 1) := by decide +kernel
theorem dX2_link_10 : decode cX2_link 10 = .ok (.istore 7, 2) := by decide +kernel
theorem dX2_link_12 : decode cX2_link 12 = .ok (.iload 7, 2) := by decide +kernel
theorem dX2_link_14 : decode cX2_link 14 = .ok (.bipush 10, 2) := by decide +kernel
theorem dX2_link_16 : decode cX2_link 16 = .ok (.if_icmp .ge 62, 3) := by decide +kernel
theorem dX2_link_19 : decode cX2_link 19 = .ok (.iload 4, 2) := by decide +kernel
theorem dX2_link_21 : decode cX2_link 21 = .ok (.ifCond .lt 57, 3) := by decide +kernel
theorem dX2_link_24 : decode cX2_link 24 = .ok (.aload_n 0, 1) := by decide +kernel
theorem dX2_link_25 : decode cX2_link 25 = .ok (.getfield 9, 3) := by decide +kernel
theorem dX2_link_28 : decode cX2_link 28 = .ok (.iload 4, 2) := by decide +kernel
theorem dX2_link_30 : decode cX2_link 30 = .ok (.iaload, 1) := by decide +kernel
theorem dX2_link_31 : decode cX2_link 31 = .ok (.istore 8, 2) := by decide +kernel
theorem dX2_link_33 : decode cX2_link 33 = .ok (.aload_n 0, 1) := by decide +kernel
theorem dX2_link_34 : decode cX2_link 34 = .ok (.getfield 15, 3) := by decide +kernel
theorem dX2_link_37 : decode cX2_link 37 = .ok (.iload 4, 2) := by decide +kernel
theorem dX2_link_39 : decode cX2_link 39 = .ok (.iaload, 1) := by decide +kernel
theorem dX2_link_40 : decode cX2_link 40 = .ok (.istore 9, 2) := by decide +kernel
theorem dX2_link_42 : decode cX2_link 42 = .ok (.aload_n 0, 1) := by decide +kernel
theorem dX2_link_43 : decode cX2_link 43 = .ok (.getfield 9, 3) := by decide +kernel
theorem dX2_link_46 : decode cX2_link 46 = .ok (.iload 4, 2) := by decide +kernel
theorem dX2_link_48 : decode cX2_link 48 = .ok (.iload 5, 2) := by decide +kernel
theorem dX2_link_50 : decode cX2_link 50 = .ok (.iastore, 1) := by decide +kernel
theorem dX2_link_51 : decode cX2_link 51 = .ok (.aload_n 0, 1) := by decide +kernel
theorem dX2_link_52 : decode cX2_link 52 = .ok (.getfield 15, 3) := by decide +kernel
theorem dX2_link_55 : decode cX2_link 55 = .ok (.iload 4, 2) := by decide +kernel
theorem dX2_link_57 : decode cX2_link 57 = .ok (.iload 6, 2) := by decide +kernel
theorem dX2_link_59 : decode cX2_link 59 = .ok (.iastore, 1) := by decide +kernel
theorem dX2_link_60 : decode cX2_link 60 = .ok (.iload 4, 2) := by decide +kernel
theorem dX2_link_62 : decode cX2_link 62 = .ok (.istore 5, 2) := by decide +kernel
theorem dX2_link_64 : decode cX2_link 64 = .ok (.iload 9, 2) := by decide +kernel
theorem dX2_link_66 : decode cX2_link 66 = .ok (.istore 6, 2) := by decide +kernel
theorem dX2_link_68 : decode cX2_link 68 = .ok (.iload 8, 2) := by decide +kernel
theorem dX2_link_70 : decode cX2_link 70 = .ok (.istore 4, 2) := by decide +kernel
theorem dX2_link_72 : decode cX2_link 72 = .ok (.iinc 7 1, 3) := by decide +kernel
theorem dX2_link_75 : decode cX2_link 75 = .ok (.goto (-63), 3) := by decide +kernel
theorem dX2_link_78 : decode cX2_link 78 = .ok (.return_, 1) := by decide +kernel
theorem dX2_unlink_0 : decode cX2_unlink 0 = .ok (.aload_n 0, 1) := by decide +kernel
theorem dX2_unlink_1 : decode cX2_unlink 1 = .ok (.getfield 15, 3) := by decide +kernel
theorem dX2_unlink_4 : decode cX2_unlink 4 = .ok (.iload_n 2, 1) := by decide +kernel
theorem dX2_unlink_5 : decode cX2_unlink 5 = .ok (.iaload, 1) := by decide +kernel
theorem dX2_unlink_6 : decode cX2_unlink 6 = .ok (.iload_n 1, 1) := by decide +kernel
theorem dX2_unlink_7 : decode cX2_unlink 7 = .ok (.if_icmp .ne 7, 3) := by decide +kernel
theorem dX2_unlink_10 : decode cX2_unlink 10 = .ok (.iload_n 2, 1) := by decide +kernel
theorem dX2_unlink_11 : decode cX2_unlink 11 = .ok (.goto 4, 3) := by decide +kernel
theorem dX2_unlink_14 : decode cX2_unlink 14 = .ok (.iload_n 3, 1) := by decide +kernel
theorem dX2_unlink_15 : decode cX2_unlink 15 = .ok (.istore 4, 2) := by decide +kernel
theorem dX2_unlink_17 : decode cX2_unlink 17 = .ok (.aload_n 0, 1) := by decide +kernel
theorem dX2_unlink_18 : decode cX2_unlink 18 = .ok (.getfield 9, 3) := by decide +kernel
theorem dX2_unlink_21 : decode cX2_unlink 21 = .ok (.iload 4, 2) := by decide +kernel
theorem dX2_unlink_23 : decode cX2_unlink 23 = .ok (.iconst (-1), 1) := by decide +kernel
theorem dX2_unlink_24 : decode cX2_unlink 24 = .ok (.iastore, 1) := by decide +kernel
theorem dX2_unlink_25 : decode cX2_unlink 25 = .ok (.aload_n 0, 1) := by decide +kernel
theorem dX2_unlink_26 : decode cX2_unlink 26 = .ok (.getfield 15, 3) := by decide +kernel
theorem dX2_unlink_29 : decode cX2_unlink 29 = .ok (.iload 4, 2) := by decide +kernel
theorem dX2_unlink_31 : decode cX2_unlink 31 = .ok (.iconst 0, 1) := by decide +kernel
theorem dX2_unlink_32 : decode cX2_unlink 32 = .ok (.iastore, 1) := by decide +kernel
theorem dX2_unlink_33 : decode cX2_unlink 33 = .ok (.return_, 1) := by decide +kernel
theorem dX3_init_0 : decode cX3_init 0 = .ok (.aload_n 0, 1) := by decide +kernel
theorem dX3_init_1 : decode cX3_init 1 = .ok (.invokespecial 1, 3) := by decide +kernel
theorem dX3_init_4 : decode cX3_init 4 = .ok (.aload_n 0, 1) := by decide +kernel
theorem dX3_init_5 : decode cX3_init 5 = .ok (.new 7, 3) := by decide +kernel
theorem dX3_init_8 : decode cX3_init 8 = .ok (.dup, 1) := by decide +kernel
theorem dX3_init_9 : decode cX3_init 9 = .ok (.invokespecial 9, 3) := by decide +kernel
theorem dX3_init_12 : decode cX3_init 12 = .ok (.putfield 10, 3) := by decide +kernel
theorem dX3_init_15 : decode cX3_init 15 = .ok (.aload_n 0, 1) := by decide +kernel
theorem dX3_init_16 : decode cX3_init 16 = .ok (.bipush 7, 2) := by decide +kernel
theorem dX3_init_18 : decode cX3_init 18 = .ok (.anewarray 16, 3) := by decide +kernel
theorem dX3_init_21 : decode cX3_init 21 = .ok (.putfield 18, 3) := by decide +kernel
theorem dX3_init_24 : decode cX3_init 24 = .ok (.iconst 0, 1) := by decide +kernel
theorem dX3_init_25 : decode cX3_init 25 = .ok (.istore_n 1, 1) := by decide +kernel
theorem dX3_init_26 : decode cX3_init 26 = .ok (.iload_n 1, 1) := by decide +kernel
theorem dX3_init_27 : decode cX3_init 27 = .ok (.bipush 6, 2) := by decide +kernel
theorem dX3_init_29 : decode cX3_init 29 = .ok (.if_icmp .gt 23, 3) := by decide +kernel
theorem dX3_init_32 : decode cX3_init 32 = .ok (.aload_n 0, 1) := by decide +kernel
theorem dX3_init_33 : decode cX3_init 33 = .ok (.getfield 18, 3) := by decide +kernel
theorem dX3_init_36 : decode cX3_init 36 = .ok (.iload_n 1, 1) := by decide +kernel
theorem dX3_init_37 : decode cX3_init 37 = .ok (.new 16, 3) := by decide +kernel
theorem dX3_init_40 : decode cX3_init 40 = .ok (.dup, 1) := by decide +kernel
theorem dX3_init_41 : decode cX3_init 41 = .ok (.iload_n 1, 1) := by decide +kernel
theorem dX3_init_42 : decode cX3_init 42 = .ok (.invokespecial 22, 3) := by decide +kernel
theorem dX3_init_45 : decode cX3_init 45 = .ok (.aastore, 1) := by decide +kernel
theorem dX3_init_46 : decode cX3_init 46 = .ok (.iinc 1 1, 3) := by decide +kernel
theorem dX3_init_49 : decode cX3_init 49 = .ok (.goto (-23), 3) := by decide +kernel
theorem dX3_init_52 : decode cX3_init 52 = .ok (.return_, 1) := by decide +kernel
theorem dX3_begin_0 : decode cX3_begin 0 = .ok (.iload_n 1, 1) := by decide +kernel
theorem dX3_begin_1 : decode cX3_begin 1 = .ok (.iconst 1, 1) := by decide +kernel
theorem dX3_begin_2 : decode cX3_begin 2 = .ok (.if_icmp .lt 9, 3) := by decide +kernel
theorem dX3_begin_5 : decode cX3_begin 5 = .ok (.iload_n 1, 1) := by decide +kernel
theorem dX3_begin_6 : decode cX3_begin 6 = .ok (.bipush 10, 2) := by decide +kernel
theorem dX3_begin_8 : decode cX3_begin 8 = .ok (.if_icmp .le 6, 3) := by decide +kernel
theorem dX3_begin_11 : decode cX3_begin 11 = .ok (.bipush (-2), 2) := by decide +kernel
theorem dX3_begin_13 : decode cX3_begin 13 = .ok (.ireturn, 1) := by decide +kernel
theorem dX3_begin_14 : decode cX3_begin 14 = .ok (.aload_n 0, 1) := by decide +kernel
theorem dX3_begin_15 : decode cX3_begin 15 = .ok (.getfield 10, 3) := by decide +kernel
theorem dX3_begin_18 : decode cX3_begin 18 = .ok (.invokevirtual 25, 3) := by decide +kernel
theorem dX3_begin_21 : decode cX3_begin 21 = .ok (.istore_n 2, 1) := by decide +kernel
end
section
theorem dX3_begin_22 : decode cX3_begin 22 = .ok (.aload_n 0, 1) := by decide +kernel
theorem dX3_begin_23 : decode cX3_begin 23 = .ok (.getfield 10, 3) := by decide +kernel
theorem dX3_begin_26 : decode cX3_begin 26 = .ok (.iload_n 1, 1) := by decide +kernel
theorem dX3_begin_27 : decode cX3_begin 27 = .ok (.putfield 29, 3) := by decide +kernel
theorem dX3_begin_30 : decode cX3_begin 30 = .ok (.aload_n 0, 1) := by decide +kernel
theorem dX3_begin_31 : decode cX3_begin 31 = .ok (.getfield 10, 3) := by decide +kernel
theorem dX3_begin_34 : decode cX3_begin 34 = .ok (.iconst 0, 1) := by decide +kernel
theorem dX3_begin_35 : decode cX3_begin 35 = .ok (.putfield 33, 3) := by decide +kernel
theorem dX3_begin_38 : decode cX3_begin 38 = .ok (.aload_n 0, 1) := by decide +kernel
theorem dX3_begin_39 : decode cX3_begin 39 = .ok (.invokevirtual 36, 3) := by decide +kernel
theorem dX3_begin_42 : decode cX3_begin 42 = .ok (.iload_n 2, 1) := by decide +kernel
theorem dX3_begin_43 : decode cX3_begin 43 = .ok (.ireturn, 1) := by decide +kernel
theorem dX3_join_0 : decode cX3_join 0 = .ok (.aload_n 0, 1) := by decide +kernel
theorem dX3_join_1 : decode cX3_join 1 = .ok (.getfield 10, 3) := by decide +kernel
theorem dX3_join_4 : decode cX3_join 4 = .ok (.iload_n 1, 1) := by decide +kernel
theorem dX3_join_5 : decode cX3_join 5 = .ok (.invokevirtual 39, 3) := by decide +kernel
theorem dX3_join_8 : decode cX3_join 8 = .ok (.ifCond .eq 19, 3) := by decide +kernel
theorem dX3_join_11 : decode cX3_join 11 = .ok (.aload_n 0, 1) := by decide +kernel
theorem dX3_join_12 : decode cX3_join 12 = .ok (.getfield 10, 3) := by decide +kernel
theorem dX3_join_15 : decode cX3_join 15 = .ok (.iload_n 2, 1) := by decide +kernel
theorem dX3_join_16 : decode cX3_join 16 = .ok (.invokevirtual 39, 3) := by decide +kernel
theorem dX3_join_19 : decode cX3_join 19 = .ok (.ifCond .eq 8, 3) := by decide +kernel
theorem dX3_join_22 : decode cX3_join 22 = .ok (.iload_n 1, 1) := by decide +kernel
theorem dX3_join_23 : decode cX3_join 23 = .ok (.iload_n 2, 1) := by decide +kernel
theorem dX3_join_24 : decode cX3_join 24 = .ok (.if_icmp .ne 6, 3) := by decide +kernel
theorem dX3_join_27 : decode cX3_join 27 = .ok (.bipush (-2), 2) := by decide +kernel
theorem dX3_join_29 : decode cX3_join 29 = .ok (.ireturn, 1) := by decide +kernel
theorem dX3_join_30 : decode cX3_join 30 = .ok (.aload_n 0, 1) := by decide +kernel
theorem dX3_join_31 : decode cX3_join 31 = .ok (.getfield 10, 3) := by decide +kernel
theorem dX3_join_34 : decode cX3_join 34 = .ok (.invokevirtual 43, 3) := by decide +kernel
theorem dX3_join_37 : decode cX3_join 37 = .ok (.istore_n 3, 1) := by decide +kernel
theorem dX3_join_38 : decode cX3_join 38 = .ok (.iload_n 3, 1) := by decide +kernel
theorem dX3_join_39 : decode cX3_join 39 = .ok (.iconst (-1), 1) := by decide +kernel
theorem dX3_join_40 : decode cX3_join 40 = .ok (.if_icmp .ne 6, 3) := by decide +kernel
theorem dX3_join_43 : decode cX3_join 43 = .ok (.bipush (-3), 2) := by decide +kernel
theorem dX3_join_45 : decode cX3_join 45 = .ok (.ireturn, 1) := by decide +kernel
theorem dX3_join_46 : decode cX3_join 46 = .ok (.aload_n 0, 1) := by decide +kernel
theorem dX3_join_47 : decode cX3_join 47 = .ok (.getfield 10, 3) := by decide +kernel
theorem dX3_join_50 : decode cX3_join 50 = .ok (.getfield 46, 3) := by decide +kernel
theorem dX3_join_53 : decode cX3_join 53 = .ok (.iload_n 3, 1) := by decide +kernel
theorem dX3_join_54 : decode cX3_join 54 = .ok (.iload_n 1, 1) := by decide +kernel
theorem dX3_join_55 : decode cX3_join 55 = .ok (.iload_n 2, 1) := by decide +kernel
theorem dX3_join_56 : decode cX3_join 56 = .ok (.invokestatic 50, 3) := by decide +kernel
theorem dX3_join_59 : decode cX3_join 59 = .ok (.iastore, 1) := by decide +kernel
theorem dX3_join_60 : decode cX3_join 60 = .ok (.aload_n 0, 1) := by decide +kernel
theorem dX3_join_61 : decode cX3_join 61 = .ok (.getfield 10, 3) := by decide +kernel
theorem dX3_join_64 : decode cX3_join 64 = .ok (.getfield 56, 3) := by decide +kernel
theorem dX3_join_67 : decode cX3_join 67 = .ok (.iload_n 3, 1) := by decide +kernel
theorem dX3_join_68 : decode cX3_join 68 = .ok (.iload_n 1, 1) := by decide +kernel
theorem dX3_join_69 : decode cX3_join 69 = .ok (.iload_n 2, 1) := by decide +kernel
theorem dX3_join_70 : decode cX3_join 70 = .ok (.invokestatic 59, 3) := by decide +kernel
theorem dX3_join_73 : decode cX3_join 73 = .ok (.iastore, 1) := by decide +kernel
theorem dX3_join_74 : decode cX3_join 74 = .ok (.aload_n 0, 1) := by decide +kernel
theorem dX3_join_75 : decode cX3_join 75 = .ok (.getfield 10, 3) := by decide +kernel
theorem dX3_join_78 : decode cX3_join 78 = .ok (.dup, 1) := by decide +kernel
theorem dX3_join_79 : decode cX3_join 79 = .ok (.getfield 33, 3) := by decide +kernel
theorem dX3_join_82 : decode cX3_join 82 = .ok (.iconst 1, 1) := by decide +kernel
theorem dX3_join_83 : decode cX3_join 83 = .ok (.iload_n 3, 1) := by decide +kernel
theorem dX3_join_84 : decode cX3_join 84 = .ok (.ishl, 1) := by decide +kernel
theorem dX3_join_85 : decode cX3_join 85 = .ok (.ior, 1) := by decide +kernel
theorem dX3_join_86 : decode cX3_join 86 = .ok (.putfield 33, 3) := by decide +kernel
theorem dX3_join_89 : decode cX3_join 89 = .ok (.aload_n 0, 1) := by decide +kernel
theorem dX3_join_90 : decode cX3_join 90 = .ok (.invokevirtual 36, 3) := by decide +kernel
theorem dX3_join_93 : decode cX3_join 93 = .ok (.iload_n 3, 1) := by decide +kernel
theorem dX3_join_94 : decode cX3_join 94 = .ok (.ireturn, 1) := by decide +kernel
theorem dX3_cut_0 : decode cX3_cut 0 = .ok (.aload_n 0, 1) := by decide +kernel
theorem dX3_cut_1 : decode cX3_cut 1 = .ok (.getfield 10, 3) := by decide +kernel
theorem dX3_cut_4 : decode cX3_cut 4 = .ok (.iload_n 1, 1) := by decide +kernel
theorem dX3_cut_5 : decode cX3_cut 5 = .ok (.invokevirtual 62, 3) := by decide +kernel
theorem dX3_cut_8 : decode cX3_cut 8 = .ok (.ifCond .ne 5, 3) := by decide +kernel
theorem dX3_cut_11 : decode cX3_cut 11 = .ok (.iconst (-1), 1) := by decide +kernel
theorem dX3_cut_12 : decode cX3_cut 12 = .ok (.ireturn, 1) := by decide +kernel
theorem dX3_cut_13 : decode cX3_cut 13 = .ok (.aload_n 0, 1) := by decide +kernel
theorem dX3_cut_14 : decode cX3_cut 14 = .ok (.getfield 10, 3) := by decide +kernel
theorem dX3_cut_17 : decode cX3_cut 17 = .ok (.dup, 1) := by decide +kernel
theorem dX3_cut_18 : decode cX3_cut 18 = .ok (.getfield 33, 3) := by decide +kernel
theorem dX3_cut_21 : decode cX3_cut 21 = .ok (.iconst 1, 1) := by decide +kernel
theorem dX3_cut_22 : decode cX3_cut 22 = .ok (.iload_n 1, 1) := by decide +kernel
theorem dX3_cut_23 : decode cX3_cut 23 = .ok (.ishl, 1) := by decide +kernel
theorem dX3_cut_24 : decode cX3_cut 24 = .ok (.iconst (-1), 1) := by decide +kernel
theorem dX3_cut_25 : decode cX3_cut 25 = .ok (.ixor, 1) := by decide +kernel
theorem dX3_cut_26 : decode cX3_cut 26 = .ok (.iand, 1) := by decide +kernel
theorem dX3_cut_27 : decode cX3_cut 27 = .ok (.putfield 33, 3) := by decide +kernel
theorem dX3_cut_30 : decode cX3_cut 30 = .ok (.aload_n 0, 1) := by decide +kernel
theorem dX3_cut_31 : decode cX3_cut 31 = .ok (.invokevirtual 36, 3) := by decide +kernel
theorem dX3_cut_34 : decode cX3_cut 34 = .ok (.aload_n 0, 1) := by decide +kernel
theorem dX3_cut_35 : decode cX3_cut 35 = .ok (.getfield 10, 3) := by decide +kernel
theorem dX3_cut_38 : decode cX3_cut 38 = .ok (.getfield 46, 3) := by decide +kernel
theorem dX3_cut_41 : decode cX3_cut 41 = .ok (.iload_n 1, 1) := by decide +kernel
theorem dX3_cut_42 : decode cX3_cut 42 = .ok (.iaload, 1) := by decide +kernel
theorem dX3_cut_43 : decode cX3_cut 43 = .ok (.bipush 10, 2) := by decide +kernel
theorem dX3_cut_45 : decode cX3_cut 45 = .ok (.imul, 1) := by decide +kernel
theorem dX3_cut_46 : decode cX3_cut 46 = .ok (.aload_n 0, 1) := by decide +kernel
theorem dX3_cut_47 : decode cX3_cut 47 = .ok (.getfield 10, 3) := by decide +kernel
theorem dX3_cut_50 : decode cX3_cut 50 = .ok (.getfield 56, 3) := by decide +kernel
theorem dX3_cut_53 : decode cX3_cut 53 = .ok (.iload_n 1, 1) := by decide +kernel
theorem dX3_cut_54 : decode cX3_cut 54 = .ok (.iaload, 1) := by decide +kernel
theorem dX3_cut_55 : decode cX3_cut 55 = .ok (.iadd, 1) := by decide +kernel
theorem dX3_cut_56 : decode cX3_cut 56 = .ok (.ireturn, 1) := by decide +kernel
theorem dX3_most_0 : decode cX3_most 0 = .ok (.iload_n 1, 1) := by decide +kernel
theorem dX3_most_1 : decode cX3_most 1 = .ok (.invokestatic 65, 3) := by decide +kernel
theorem dX3_most_4 : decode cX3_most 4 = .ok (.ifCond .eq 14, 3) := by decide +kernel
theorem dX3_most_7 : decode cX3_most 7 = .ok (.aload_n 0, 1) := by decide +kernel
theorem dX3_most_8 : decode cX3_most 8 = .ok (.iload_n 1, 1) := by decide +kernel
theorem dX3_most_9 : decode cX3_most 9 = .ok (.invokevirtual 68, 3) := by decide +kernel
theorem dX3_most_12 : decode cX3_most 12 = .ok (.getfield 72, 3) := by decide +kernel
theorem dX3_most_15 : decode cX3_most 15 = .ok (.goto 5, 3) := by decide +kernel
theorem dX3_most_18 : decode cX3_most 18 = .ok (.bipush (-2), 2) := by decide +kernel
theorem dX3_most_20 : decode cX3_most 20 = .ok (.ireturn, 1) := by decide +kernel
theorem dX3_held_0 : decode cX3_held 0 = .ok (.iload_n 1, 1) := by decide +kernel
theorem dX3_held_1 : decode cX3_held 1 = .ok (.invokestatic 65, 3) := by decide +kernel
theorem dX3_held_4 : decode cX3_held 4 = .ok (.ifCond .ne 6, 3) := by decide +kernel
theorem dX3_held_7 : decode cX3_held 7 = .ok (.bipush (-2), 2) := by decide +kernel
theorem dX3_held_9 : decode cX3_held 9 = .ok (.ireturn, 1) := by decide +kernel
theorem dX3_held_10 : decode cX3_held 10 = .ok (.aload_n 0, 1) := by decide +kernel
theorem dX3_held_11 : decode cX3_held 11 = .ok (.getfield 10, 3) := by decide +kernel
theorem dX3_held_14 : decode cX3_held 14 = .ok (.iload_n 2, 1) := by decide +kernel
theorem dX3_held_15 : decode cX3_held 15 = .ok (.invokevirtual 62, 3) := by decide +kernel
theorem dX3_held_18 : decode cX3_held 18 = .ok (.ifCond .ne 5, 3) := by decide +kernel
theorem dX3_held_21 : decode cX3_held 21 = .ok (.iconst (-1), 1) := by decide +kernel
theorem dX3_held_22 : decode cX3_held 22 = .ok (.ireturn, 1) := by decide +kernel
theorem dX3_held_23 : decode cX3_held 23 = .ok (.aload_n 0, 1) := by decide +kernel
theorem dX3_held_24 : decode cX3_held 24 = .ok (.iload_n 1, 1) := by decide +kernel
theorem dX3_held_25 : decode cX3_held 25 = .ok (.invokevirtual 68, 3) := by decide +kernel
theorem dX3_held_28 : decode cX3_held 28 = .ok (.getfield 75, 3) := by decide +kernel
theorem dX3_held_31 : decode cX3_held 31 = .ok (.iload_n 2, 1) := by decide +kernel
theorem dX3_held_32 : decode cX3_held 32 = .ok (.iaload, 1) := by decide +kernel
theorem dX3_held_33 : decode cX3_held 33 = .ok (.iconst (-1), 1) := by decide +kernel
theorem dX3_held_34 : decode cX3_held 34 = .ok (.if_icmp .eq 7, 3) := by decide +kernel
theorem dX3_held_37 : decode cX3_held 37 = .ok (.iconst 1, 1) := by decide +kernel
theorem dX3_held_38 : decode cX3_held 38 = .ok (.goto 4, 3) := by decide +kernel
theorem dX3_held_41 : decode cX3_held 41 = .ok (.iconst 0, 1) := by decide +kernel
theorem dX3_held_42 : decode cX3_held 42 = .ok (.ireturn, 1) := by decide +kernel
theorem dX3_forest_0 : decode cX3_forest 0 = .ok (.iload_n 1, 1) := by decide +kernel
theorem dX3_forest_1 : decode cX3_forest 1 = .ok (.invokestatic 65, 3) := by decide +kernel
theorem dX3_forest_4 : decode cX3_forest 4 = .ok (.ifCond .ne 6, 3) := by decide +kernel
theorem dX3_forest_7 : decode cX3_forest 7 = .ok (.bipush (-2), 2) := by decide +kernel
theorem dX3_forest_9 : decode cX3_forest 9 = .ok (.ireturn, 1) := by decide +kernel
theorem dX3_forest_10 : decode cX3_forest 10 = .ok (.aload_n 0, 1) := by decide +kernel
theorem dX3_forest_11 : decode cX3_forest 11 = .ok (.getfield 10, 3) := by decide +kernel
theorem dX3_forest_14 : decode cX3_forest 14 = .ok (.iload_n 2, 1) := by decide +kernel
theorem dX3_forest_15 : decode cX3_forest 15 = .ok (.invokevirtual 62, 3) := by decide +kernel
theorem dX3_forest_18 : decode cX3_forest 18 = .ok (.ifCond .ne 5, 3) := by decide +kernel
theorem dX3_forest_21 : decode cX3_forest 21 = .ok (.iconst (-1), 1) := by decide +kernel
theorem dX3_forest_22 : decode cX3_forest 22 = .ok (.ireturn, 1) := by decide +kernel
theorem dX3_forest_23 : decode cX3_forest 23 = .ok (.aload_n 0, 1) := by decide +kernel
theorem dX3_forest_24 : decode cX3_forest 24 = .ok (.iload_n 1, 1) := by decide +kernel
theorem dX3_forest_25 : decode cX3_forest 25 = .ok (.invokevirtual 68, 3) := by decide +kernel
theorem dX3_forest_28 : decode cX3_forest 28 = .ok (.astore_n 3, 1) := by decide +kernel
theorem dX3_forest_29 : decode cX3_forest 29 = .ok (.aload_n 3, 1) := by decide +kernel
theorem dX3_forest_30 : decode cX3_forest 30 = .ok (.aload_n 0, 1) := by decide +kernel
theorem dX3_forest_31 : decode cX3_forest 31 = .ok (.getfield 10, 3) := by decide +kernel
theorem dX3_forest_34 : decode cX3_forest 34 = .ok (.invokevirtual 78, 3) := by decide +kernel
theorem dX3_forest_37 : decode cX3_forest 37 = .ok (.aload_n 3, 1) := by decide +kernel
theorem dX3_forest_38 : decode cX3_forest 38 = .ok (.getfield 75, 3) := by decide +kernel
theorem dX3_forest_41 : decode cX3_forest 41 = .ok (.iload_n 2, 1) := by decide +kernel
theorem dX3_forest_42 : decode cX3_forest 42 = .ok (.iaload, 1) := by decide +kernel
theorem dX3_forest_43 : decode cX3_forest 43 = .ok (.ireturn, 1) := by decide +kernel
theorem dX3_why_0 : decode cX3_why 0 = .ok (.iload_n 1, 1) := by decide +kernel
theorem dX3_why_1 : decode cX3_why 1 = .ok (.invokestatic 65, 3) := by decide +kernel
theorem dX3_why_4 : decode cX3_why 4 = .ok (.ifCond .ne 6, 3) := by decide +kernel
theorem dX3_why_7 : decode cX3_why 7 = .ok (.bipush (-2), 2) := by decide +kernel
theorem dX3_why_9 : decode cX3_why 9 = .ok (.ireturn, 1) := by decide +kernel
theorem dX3_why_10 : decode cX3_why 10 = .ok (.aload_n 0, 1) := by decide +kernel
theorem dX3_why_11 : decode cX3_why 11 = .ok (.getfield 10, 3) := by decide +kernel
theorem dX3_why_14 : decode cX3_why 14 = .ok (.iload_n 2, 1) := by decide +kernel
theorem dX3_why_15 : decode cX3_why 15 = .ok (.invokevirtual 62, 3) := by decide +kernel
theorem dX3_why_18 : decode cX3_why 18 = .ok (.ifCond .eq 19, 3) := by decide +kernel
theorem dX3_why_21 : decode cX3_why 21 = .ok (.iload_n 3, 1) := by decide +kernel
theorem dX3_why_22 : decode cX3_why 22 = .ok (.iconst (-1), 1) := by decide +kernel
theorem dX3_why_23 : decode cX3_why 23 = .ok (.if_icmp .eq 16, 3) := by decide +kernel
theorem dX3_why_26 : decode cX3_why 26 = .ok (.aload_n 0, 1) := by decide +kernel
theorem dX3_why_27 : decode cX3_why 27 = .ok (.getfield 10, 3) := by decide +kernel
theorem dX3_why_30 : decode cX3_why 30 = .ok (.iload_n 3, 1) := by decide +kernel
theorem dX3_why_31 : decode cX3_why 31 = .ok (.invokevirtual 62, 3) := by decide +kernel
theorem dX3_why_34 : decode cX3_why 34 = .ok (.ifCond .ne 5, 3) := by decide +kernel
theorem dX3_why_37 : decode cX3_why 37 = .ok (.iconst (-1), 1) := by decide +kernel
theorem dX3_why_38 : decode cX3_why 38 = .ok (.ireturn, 1) := by decide +kernel
theorem dX3_why_39 : decode cX3_why 39 = .ok (.aload_n 0, 1) := by decide +kernel
theorem dX3_why_40 : decode cX3_why 40 = .ok (.iload_n 1, 1) := by decide +kernel
theorem dX3_why_41 : decode cX3_why 41 = .ok (.invokevirtual 68, 3) := by decide +kernel
theorem dX3_why_44 : decode cX3_why 44 = .ok (.astore 4, 2) := by decide +kernel
theorem dX3_why_46 : decode cX3_why 46 = .ok (.aload 4, 2) := by decide +kernel
theorem dX3_why_48 : decode cX3_why 48 = .ok (.getfield 75, 3) := by decide +kernel
theorem dX3_why_51 : decode cX3_why 51 = .ok (.iload_n 2, 1) := by decide +kernel
theorem dX3_why_52 : decode cX3_why 52 = .ok (.iaload, 1) := by decide +kernel
theorem dX3_why_53 : decode cX3_why 53 = .ok (.iconst (-1), 1) := by decide +kernel
theorem dX3_why_54 : decode cX3_why 54 = .ok (.if_icmp .eq 5, 3) := by decide +kernel
theorem dX3_why_57 : decode cX3_why 57 = .ok (.iconst (-1), 1) := by decide +kernel
theorem dX3_why_58 : decode cX3_why 58 = .ok (.ireturn, 1) := by decide +kernel
theorem dX3_why_59 : decode cX3_why 59 = .ok (.aload 4, 2) := by decide +kernel
theorem dX3_why_61 : decode cX3_why 61 = .ok (.aload_n 0, 1) := by decide +kernel
theorem dX3_why_62 : decode cX3_why 62 = .ok (.getfield 10, 3) := by decide +kernel
theorem dX3_why_65 : decode cX3_why 65 = .ok (.iload_n 2, 1) := by decide +kernel
theorem dX3_why_66 : decode cX3_why 66 = .ok (.invokevirtual 82, 3) := by decide +kernel
theorem dX3_why_69 : decode cX3_why 69 = .ok (.istore 5, 2) := by decide +kernel
theorem dX3_why_71 : decode cX3_why 71 = .ok (.iload_n 3, 1) := by decide +kernel
theorem dX3_why_72 : decode cX3_why 72 = .ok (.iconst (-1), 1) := by decide +kernel
theorem dX3_why_73 : decode cX3_why 73 = .ok (.if_icmp .ne 11, 3) := by decide +kernel
theorem dX3_why_76 : decode cX3_why 76 = .ok (.iload 5, 2) := by decide +kernel
theorem dX3_why_78 : decode cX3_why 78 = .ok (.invokestatic 86, 3) := by decide +kernel
theorem dX3_why_81 : decode cX3_why 81 = .ok (.goto 9, 3) := by decide +kernel
theorem dX3_why_84 : decode cX3_why 84 = .ok (.iload 5, 2) := by decide +kernel
theorem dX3_why_86 : decode cX3_why 86 = .ok (.iload_n 3, 1) := by decide +kernel
theorem dX3_why_87 : decode cX3_why 87 = .ok (.ishr, 1) := by decide +kernel
theorem dX3_why_88 : decode cX3_why 88 = .ok (.iconst 1, 1) := by decide +kernel
theorem dX3_why_89 : decode cX3_why 89 = .ok (.iand, 1) := by decide +kernel
theorem dX3_why_90 : decode cX3_why 90 = .ok (.ireturn, 1) := by decide +kernel
theorem dX3_tight_0 : decode cX3_tight 0 = .ok (.iload_n 1, 1) := by decide +kernel
theorem dX3_tight_1 : decode cX3_tight 1 = .ok (.invokestatic 65, 3) := by decide +kernel
theorem dX3_tight_4 : decode cX3_tight 4 = .ok (.ifCond .eq 25, 3) := by decide +kernel
theorem dX3_tight_7 : decode cX3_tight 7 = .ok (.aload_n 0, 1) := by decide +kernel
theorem dX3_tight_8 : decode cX3_tight 8 = .ok (.getfield 10, 3) := by decide +kernel
theorem dX3_tight_11 : decode cX3_tight 11 = .ok (.iload_n 2, 1) := by decide +kernel
theorem dX3_tight_12 : decode cX3_tight 12 = .ok (.invokevirtual 39, 3) := by decide +kernel
theorem dX3_tight_15 : decode cX3_tight 15 = .ok (.ifCond .eq 14, 3) := by decide +kernel
theorem dX3_tight_18 : decode cX3_tight 18 = .ok (.aload_n 0, 1) := by decide +kernel
theorem dX3_tight_19 : decode cX3_tight 19 = .ok (.getfield 10, 3) := by decide +kernel
theorem dX3_tight_22 : decode cX3_tight 22 = .ok (.iload_n 3, 1) := by decide +kernel
theorem dX3_tight_23 : decode cX3_tight 23 = .ok (.invokevirtual 39, 3) := by decide +kernel
theorem dX3_tight_26 : decode cX3_tight 26 = .ok (.ifCond .ne 6, 3) := by decide +kernel
theorem dX3_tight_29 : decode cX3_tight 29 = .ok (.bipush (-2), 2) := by decide +kernel
theorem dX3_tight_31 : decode cX3_tight 31 = .ok (.ireturn, 1) := by decide +kernel
theorem dX3_tight_32 : decode cX3_tight 32 = .ok (.aload_n 0, 1) := by decide +kernel
theorem dX3_tight_33 : decode cX3_tight 33 = .ok (.iload_n 1, 1) := by decide +kernel
theorem dX3_tight_34 : decode cX3_tight 34 = .ok (.invokevirtual 68, 3) := by decide +kernel
theorem dX3_tight_37 : decode cX3_tight 37 = .ok (.aload_n 0, 1) := by decide +kernel
theorem dX3_tight_38 : decode cX3_tight 38 = .ok (.getfield 10, 3) := by decide +kernel
theorem dX3_tight_41 : decode cX3_tight 41 = .ok (.iload_n 2, 1) := by decide +kernel
theorem dX3_tight_42 : decode cX3_tight 42 = .ok (.iload_n 3, 1) := by decide +kernel
theorem dX3_tight_43 : decode cX3_tight 43 = .ok (.invokevirtual 92, 3) := by decide +kernel
theorem dX3_tight_46 : decode cX3_tight 46 = .ok (.ifCond .eq 7, 3) := by decide +kernel
theorem dX3_tight_49 : decode cX3_tight 49 = .ok (.iconst 0, 1) := by decide +kernel
theorem dX3_tight_50 : decode cX3_tight 50 = .ok (.goto 4, 3) := by decide +kernel
theorem dX3_tight_53 : decode cX3_tight 53 = .ok (.iconst 1, 1) := by decide +kernel
theorem dX3_tight_54 : decode cX3_tight 54 = .ok (.ireturn, 1) := by decide +kernel
theorem dX3_classes_0 : decode cX3_classes 0 = .ok (.iload_n 1, 1) := by decide +kernel
theorem dX3_classes_1 : decode cX3_classes 1 = .ok (.invokestatic 65, 3) := by decide +kernel
theorem dX3_classes_4 : decode cX3_classes 4 = .ok (.ifCond .ne 6, 3) := by decide +kernel
theorem dX3_classes_7 : decode cX3_classes 7 = .ok (.bipush (-2), 2) := by decide +kernel
theorem dX3_classes_9 : decode cX3_classes 9 = .ok (.ireturn, 1) := by decide +kernel
theorem dX3_classes_10 : decode cX3_classes 10 = .ok (.aload_n 0, 1) := by decide +kernel
theorem dX3_classes_11 : decode cX3_classes 11 = .ok (.iload_n 1, 1) := by decide +kernel
theorem dX3_classes_12 : decode cX3_classes 12 = .ok (.invokevirtual 68, 3) := by decide +kernel
theorem dX3_classes_15 : decode cX3_classes 15 = .ok (.astore_n 2, 1) := by decide +kernel
theorem dX3_classes_16 : decode cX3_classes 16 = .ok (.iconst 0, 1) := by decide +kernel
theorem dX3_classes_17 : decode cX3_classes 17 = .ok (.istore_n 3, 1) := by decide +kernel
theorem dX3_classes_18 : decode cX3_classes 18 = .ok (.iconst 0, 1) := by decide +kernel
theorem dX3_classes_19 : decode cX3_classes 19 = .ok (.istore 4, 2) := by decide +kernel
theorem dX3_classes_21 : decode cX3_classes 21 = .ok (.iload 4, 2) := by decide +kernel
theorem dX3_classes_23 : decode cX3_classes 23 = .ok (.aload_n 0, 1) := by decide +kernel
theorem dX3_classes_24 : decode cX3_classes 24 = .ok (.getfield 10, 3) := by decide +kernel
theorem dX3_classes_27 : decode cX3_classes 27 = .ok (.getfield 29, 3) := by decide +kernel
theorem dX3_classes_30 : decode cX3_classes 30 = .ok (.if_icmp .ge 25, 3) := by decide +kernel
theorem dX3_classes_33 : decode cX3_classes 33 = .ok (.aload_n 2, 1) := by decide +kernel
theorem dX3_classes_34 : decode cX3_classes 34 = .ok (.aload_n 0, 1) := by decide +kernel
theorem dX3_classes_35 : decode cX3_classes 35 = .ok (.getfield 10, 3) := by decide +kernel
theorem dX3_classes_38 : decode cX3_classes 38 = .ok (.iload 4, 2) := by decide +kernel
theorem dX3_classes_40 : decode cX3_classes 40 = .ok (.invokevirtual 96, 3) := by decide +kernel
theorem dX3_classes_43 : decode cX3_classes 43 = .ok (.ifCond .eq 6, 3) := by decide +kernel
theorem dX3_classes_46 : decode cX3_classes 46 = .ok (.iinc 3 1, 3) := by decide +kernel
theorem dX3_classes_49 : decode cX3_classes 49 = .ok (.iinc 4 1, 3) := by decide +kernel
theorem dX3_classes_52 : decode cX3_classes 52 = .ok (.goto (-31), 3) := by decide +kernel
theorem dX3_classes_55 : decode cX3_classes 55 = .ok (.iload_n 3, 1) := by decide +kernel
theorem dX3_classes_56 : decode cX3_classes 56 = .ok (.ireturn, 1) := by decide +kernel
theorem dX3_crossing_0 : decode cX3_crossing 0 = .ok (.iload_n 1, 1) := by decide +kernel
theorem dX3_crossing_1 : decode cX3_crossing 1 = .ok (.invokestatic 65, 3) := by decide +kernel
theorem dX3_crossing_4 : decode cX3_crossing 4 = .ok (.ifCond .ne 6, 3) := by decide +kernel
theorem dX3_crossing_7 : decode cX3_crossing 7 = .ok (.bipush (-2), 2) := by decide +kernel
theorem dX3_crossing_9 : decode cX3_crossing 9 = .ok (.ireturn, 1) := by decide +kernel
theorem dX3_crossing_10 : decode cX3_crossing 10 = .ok (.aload_n 0, 1) := by decide +kernel
theorem dX3_crossing_11 : decode cX3_crossing 11 = .ok (.iload_n 1, 1) := by decide +kernel
theorem dX3_crossing_12 : decode cX3_crossing 12 = .ok (.invokevirtual 68, 3) := by decide +kernel
theorem dX3_crossing_15 : decode cX3_crossing 15 = .ok (.astore_n 2, 1) := by decide +kernel
theorem dX3_crossing_16 : decode cX3_crossing 16 = .ok (.iconst 0, 1) := by decide +kernel
theorem dX3_crossing_17 : decode cX3_crossing 17 = .ok (.istore_n 3, 1) := by decide +kernel
theorem dX3_crossing_18 : decode cX3_crossing 18 = .ok (.iconst 0, 1) := by decide +kernel
theorem dX3_crossing_19 : decode cX3_crossing 19 = .ok (.istore 4, 2) := by decide +kernel
theorem dX3_crossing_21 : decode cX3_crossing 21 = .ok (.iload 4, 2) := by decide +kernel
theorem dX3_crossing_23 : decode cX3_crossing 23 = .ok (.bipush 24, 2) := by decide +kernel
theorem dX3_crossing_25 : decode cX3_crossing 25 = .ok (.if_icmp .ge 55, 3) := by decide +kernel
theorem dX3_crossing_28 : decode cX3_crossing 28 = .ok (.aload_n 0, 1) := by decide +kernel
theorem dX3_crossing_29 : decode cX3_crossing 29 = .ok (.getfield 10, 3) := by decide +kernel
theorem dX3_crossing_32 : decode cX3_crossing 32 = .ok (.iload 4, 2) := by decide +kernel
theorem dX3_crossing_34 : decode cX3_crossing 34 = .ok (.invokevirtual 62, 3) := by decide +kernel
theorem dX3_crossing_37 : decode cX3_crossing 37 = .ok (.ifCond .eq 37, 3) := by decide +kernel
theorem dX3_crossing_40 : decode cX3_crossing 40 = .ok (.aload_n 2, 1) := by decide +kernel
theorem dX3_crossing_41 : decode cX3_crossing 41 = .ok (.aload_n 0, 1) := by decide +kernel
theorem dX3_crossing_42 : decode cX3_crossing 42 = .ok (.getfield 10, 3) := by decide +kernel
theorem dX3_crossing_45 : decode cX3_crossing 45 = .ok (.aload_n 0, 1) := by decide +kernel
theorem dX3_crossing_46 : decode cX3_crossing 46 = .ok (.getfield 10, 3) := by decide +kernel
theorem dX3_crossing_49 : decode cX3_crossing 49 = .ok (.getfield 46, 3) := by decide +kernel
theorem dX3_crossing_52 : decode cX3_crossing 52 = .ok (.iload 4, 2) := by decide +kernel
theorem dX3_crossing_54 : decode cX3_crossing 54 = .ok (.iaload, 1) := by decide +kernel
theorem dX3_crossing_55 : decode cX3_crossing 55 = .ok (.aload_n 0, 1) := by decide +kernel
theorem dX3_crossing_56 : decode cX3_crossing 56 = .ok (.getfield 10, 3) := by decide +kernel
theorem dX3_crossing_59 : decode cX3_crossing 59 = .ok (.getfield 56, 3) := by decide +kernel
theorem dX3_crossing_62 : decode cX3_crossing 62 = .ok (.iload 4, 2) := by decide +kernel
theorem dX3_crossing_64 : decode cX3_crossing 64 = .ok (.iaload, 1) := by decide +kernel
theorem dX3_crossing_65 : decode cX3_crossing 65 = .ok (.invokevirtual 92, 3) := by decide +kernel
theorem dX3_crossing_68 : decode cX3_crossing 68 = .ok (.ifCond .eq 6, 3) := by decide +kernel
theorem dX3_crossing_71 : decode cX3_crossing 71 = .ok (.iinc 3 1, 3) := by decide +kernel
theorem dX3_crossing_74 : decode cX3_crossing 74 = .ok (.iinc 4 1, 3) := by decide +kernel
theorem dX3_crossing_77 : decode cX3_crossing 77 = .ok (.goto (-56), 3) := by decide +kernel
theorem dX3_crossing_80 : decode cX3_crossing 80 = .ok (.iload_n 3, 1) := by decide +kernel
theorem dX3_crossing_81 : decode cX3_crossing 81 = .ok (.ireturn, 1) := by decide +kernel
theorem dX3_arboricity_0 : decode cX3_arboricity 0 = .ok (.aload_n 0, 1) := by decide +kernel
theorem dX3_arboricity_1 : decode cX3_arboricity 1 = .ok (.getfield 10, 3) := by decide +kernel
theorem dX3_arboricity_4 : decode cX3_arboricity 4 = .ok (.invokevirtual 25, 3) := by decide +kernel
theorem dX3_arboricity_7 : decode cX3_arboricity 7 = .ok (.istore_n 1, 1) := by decide +kernel
theorem dX3_arboricity_8 : decode cX3_arboricity 8 = .ok (.iconst 0, 1) := by decide +kernel
theorem dX3_arboricity_9 : decode cX3_arboricity 9 = .ok (.istore_n 2, 1) := by decide +kernel
theorem dX3_arboricity_10 : decode cX3_arboricity 10 = .ok (.iload_n 2, 1) := by decide +kernel
theorem dX3_arboricity_11 : decode cX3_arboricity 11 = .ok (.bipush 6, 2) := by decide +kernel
theorem dX3_arboricity_13 : decode cX3_arboricity 13 = .ok (.if_icmp .gt 23, 3) := by decide +kernel
theorem dX3_arboricity_16 : decode cX3_arboricity 16 = .ok (.aload_n 0, 1) := by decide +kernel
theorem dX3_arboricity_17 : decode cX3_arboricity 17 = .ok (.iload_n 2, 1) := by decide +kernel
theorem dX3_arboricity_18 : decode cX3_arboricity 18 = .ok (.invokevirtual 68, 3) := by decide +kernel
theorem dX3_arboricity_21 : decode cX3_arboricity 21 = .ok (.getfield 72, 3) := by decide +kernel
theorem dX3_arboricity_24 : decode cX3_arboricity 24 = .ok (.iload_n 1, 1) := by decide +kernel
theorem dX3_arboricity_25 : decode cX3_arboricity 25 = .ok (.if_icmp .ne 5, 3) := by decide +kernel
theorem dX3_arboricity_28 : decode cX3_arboricity 28 = .ok (.iload_n 2, 1) := by decide +kernel
theorem dX3_arboricity_29 : decode cX3_arboricity 29 = .ok (.ireturn, 1) := by decide +kernel
theorem dX3_arboricity_30 : decode cX3_arboricity 30 = .ok (.iinc 2 1, 3) := by decide +kernel
theorem dX3_arboricity_33 : decode cX3_arboricity 33 = .ok (.goto (-23), 3) := by decide +kernel
theorem dX3_arboricity_36 : decode cX3_arboricity 36 = .ok (.iconst (-1), 1) := by decide +kernel
theorem dX3_arboricity_37 : decode cX3_arboricity 37 = .ok (.ireturn, 1) := by decide +kernel
theorem dX3_dense_0 : decode cX3_dense 0 = .ok (.aload_n 0, 1) := by decide +kernel
theorem dX3_dense_1 : decode cX3_dense 1 = .ok (.invokevirtual 100, 3) := by decide +kernel
theorem dX3_dense_4 : decode cX3_dense 4 = .ok (.istore_n 1, 1) := by decide +kernel
theorem dX3_dense_5 : decode cX3_dense 5 = .ok (.iload_n 1, 1) := by decide +kernel
theorem dX3_dense_6 : decode cX3_dense 6 = .ok (.iconst (-1), 1) := by decide +kernel
theorem dX3_dense_7 : decode cX3_dense 7 = .ok (.if_icmp .ne 5, 3) := by decide +kernel
theorem dX3_dense_10 : decode cX3_dense 10 = .ok (.iconst (-1), 1) := by decide +kernel
theorem dX3_dense_11 : decode cX3_dense 11 = .ok (.ireturn, 1) := by decide +kernel
theorem dX3_dense_12 : decode cX3_dense 12 = .ok (.iload_n 1, 1) := by decide +kernel
theorem dX3_dense_13 : decode cX3_dense 13 = .ok (.ifCond .ne 5, 3) := by decide +kernel
theorem dX3_dense_16 : decode cX3_dense 16 = .ok (.iconst 0, 1) := by decide +kernel
theorem dX3_dense_17 : decode cX3_dense 17 = .ok (.ireturn, 1) := by decide +kernel
theorem dX3_dense_18 : decode cX3_dense 18 = .ok (.aload_n 0, 1) := by decide +kernel
theorem dX3_dense_19 : decode cX3_dense 19 = .ok (.iload_n 1, 1) := by decide +kernel
theorem dX3_dense_20 : decode cX3_dense 20 = .ok (.iconst 1, 1) := by decide +kernel
theorem dX3_dense_21 : decode cX3_dense 21 = .ok (.isub, 1) := by decide +kernel
theorem dX3_dense_22 : decode cX3_dense 22 = .ok (.invokevirtual 68, 3) := by decide +kernel
theorem dX3_dense_25 : decode cX3_dense 25 = .ok (.astore_n 2, 1) := by decide +kernel
theorem dX3_dense_26 : decode cX3_dense 26 = .ok (.iconst 0, 1) := by decide +kernel
theorem dX3_dense_27 : decode cX3_dense 27 = .ok (.istore_n 3, 1) := by decide +kernel
theorem dX3_dense_28 : decode cX3_dense 28 = .ok (.iload_n 3, 1) := by decide +kernel
theorem dX3_dense_29 : decode cX3_dense 29 = .ok (.bipush 24, 2) := by decide +kernel
theorem dX3_dense_31 : decode cX3_dense 31 = .ok (.if_icmp .ge 47, 3) := by decide +kernel
theorem dX3_dense_34 : decode cX3_dense 34 = .ok (.aload_n 0, 1) := by decide +kernel
theorem dX3_dense_35 : decode cX3_dense 35 = .ok (.getfield 10, 3) := by decide +kernel
theorem dX3_dense_38 : decode cX3_dense 38 = .ok (.iload_n 3, 1) := by decide +kernel
theorem dX3_dense_39 : decode cX3_dense 39 = .ok (.invokevirtual 62, 3) := by decide +kernel
theorem dX3_dense_42 : decode cX3_dense 42 = .ok (.ifCond .eq 30, 3) := by decide +kernel
theorem dX3_dense_45 : decode cX3_dense 45 = .ok (.aload_n 2, 1) := by decide +kernel
theorem dX3_dense_46 : decode cX3_dense 46 = .ok (.getfield 75, 3) := by decide +kernel
theorem dX3_dense_49 : decode cX3_dense 49 = .ok (.iload_n 3, 1) := by decide +kernel
theorem dX3_dense_50 : decode cX3_dense 50 = .ok (.iaload, 1) := by decide +kernel
theorem dX3_dense_51 : decode cX3_dense 51 = .ok (.iconst (-1), 1) := by decide +kernel
theorem dX3_dense_52 : decode cX3_dense 52 = .ok (.if_icmp .ne 20, 3) := by decide +kernel
theorem dX3_dense_55 : decode cX3_dense 55 = .ok (.aload_n 0, 1) := by decide +kernel
theorem dX3_dense_56 : decode cX3_dense 56 = .ok (.getfield 10, 3) := by decide +kernel
theorem dX3_dense_59 : decode cX3_dense 59 = .ok (.aload_n 2, 1) := by decide +kernel
theorem dX3_dense_60 : decode cX3_dense 60 = .ok (.aload_n 0, 1) := by decide +kernel
theorem dX3_dense_61 : decode cX3_dense 61 = .ok (.getfield 10, 3) := by decide +kernel
theorem dX3_dense_64 : decode cX3_dense 64 = .ok (.iload_n 3, 1) := by decide +kernel
theorem dX3_dense_65 : decode cX3_dense 65 = .ok (.invokevirtual 82, 3) := by decide +kernel
theorem dX3_dense_68 : decode cX3_dense 68 = .ok (.invokevirtual 103, 3) := by decide +kernel
theorem dX3_dense_71 : decode cX3_dense 71 = .ok (.ireturn, 1) := by decide +kernel
theorem dX3_dense_72 : decode cX3_dense 72 = .ok (.iinc 3 1, 3) := by decide +kernel
theorem dX3_dense_75 : decode cX3_dense 75 = .ok (.goto (-47), 3) := by decide +kernel
theorem dX3_dense_78 : decode cX3_dense 78 = .ok (.iconst 0, 1) := by decide +kernel
theorem dX3_dense_79 : decode cX3_dense 79 = .ok (.ireturn, 1) := by decide +kernel
theorem dX3_spanning_0 : decode cX3_spanning 0 = .ok (.bipush 6, 2) := by decide +kernel
theorem dX3_spanning_2 : decode cX3_spanning 2 = .ok (.istore_n 1, 1) := by decide +kernel
theorem dX3_spanning_3 : decode cX3_spanning 3 = .ok (.iload_n 1, 1) := by decide +kernel
theorem dX3_spanning_4 : decode cX3_spanning 4 = .ok (.ifCond .le 33, 3) := by decide +kernel
theorem dX3_spanning_7 : decode cX3_spanning 7 = .ok (.aload_n 0, 1) := by decide +kernel
theorem dX3_spanning_8 : decode cX3_spanning 8 = .ok (.iload_n 1, 1) := by decide +kernel
theorem dX3_spanning_9 : decode cX3_spanning 9 = .ok (.invokevirtual 68, 3) := by decide +kernel
theorem dX3_spanning_12 : decode cX3_spanning 12 = .ok (.getfield 72, 3) := by decide +kernel
theorem dX3_spanning_15 : decode cX3_spanning 15 = .ok (.iload_n 1, 1) := by decide +kernel
theorem dX3_spanning_16 : decode cX3_spanning 16 = .ok (.aload_n 0, 1) := by decide +kernel
theorem dX3_spanning_17 : decode cX3_spanning 17 = .ok (.getfield 10, 3) := by decide +kernel
theorem dX3_spanning_20 : decode cX3_spanning 20 = .ok (.getfield 29, 3) := by decide +kernel
theorem dX3_spanning_23 : decode cX3_spanning 23 = .ok (.iconst 1, 1) := by decide +kernel
theorem dX3_spanning_24 : decode cX3_spanning 24 = .ok (.isub, 1) := by decide +kernel
theorem dX3_spanning_25 : decode cX3_spanning 25 = .ok (.imul, 1) := by decide +kernel
theorem dX3_spanning_26 : decode cX3_spanning 26 = .ok (.if_icmp .ne 5, 3) := by decide +kernel
theorem dX3_spanning_29 : decode cX3_spanning 29 = .ok (.iload_n 1, 1) := by decide +kernel
theorem dX3_spanning_30 : decode cX3_spanning 30 = .ok (.ireturn, 1) := by decide +kernel
theorem dX3_spanning_31 : decode cX3_spanning 31 = .ok (.iinc 1 (-1), 3) := by decide +kernel
theorem dX3_spanning_34 : decode cX3_spanning 34 = .ok (.goto (-31), 3) := by decide +kernel
theorem dX3_spanning_37 : decode cX3_spanning 37 = .ok (.iconst 0, 1) := by decide +kernel
theorem dX3_spanning_38 : decode cX3_spanning 38 = .ok (.ireturn, 1) := by decide +kernel
theorem dX3_told_0 : decode cX3_told 0 = .ok (.iload_n 2, 1) := by decide +kernel
theorem dX3_told_1 : decode cX3_told 1 = .ok (.tableswitch 110 0 4 #[35, 60, 85, 93, 101], 35) := by decide +kernel
theorem dX3_told_36 : decode cX3_told 36 = .ok (.aload_n 0, 1) := by decide +kernel
theorem dX3_told_37 : decode cX3_told 37 = .ok (.getfield 10, 3) := by decide +kernel
theorem dX3_told_40 : decode cX3_told 40 = .ok (.iload_n 1, 1) := by decide +kernel
theorem dX3_told_41 : decode cX3_told 41 = .ok (.invokevirtual 62, 3) := by decide +kernel
theorem dX3_told_44 : decode cX3_told 44 = .ok (.ifCond .eq 15, 3) := by decide +kernel
theorem dX3_told_47 : decode cX3_told 47 = .ok (.aload_n 0, 1) := by decide +kernel
theorem dX3_told_48 : decode cX3_told 48 = .ok (.getfield 10, 3) := by decide +kernel
theorem dX3_told_51 : decode cX3_told 51 = .ok (.getfield 46, 3) := by decide +kernel
theorem dX3_told_54 : decode cX3_told 54 = .ok (.iload_n 1, 1) := by decide +kernel
theorem dX3_told_55 : decode cX3_told 55 = .ok (.iaload, 1) := by decide +kernel
theorem dX3_told_56 : decode cX3_told 56 = .ok (.goto 4, 3) := by decide +kernel
theorem dX3_told_59 : decode cX3_told 59 = .ok (.iconst (-1), 1) := by decide +kernel
theorem dX3_told_60 : decode cX3_told 60 = .ok (.ireturn, 1) := by decide +kernel
theorem dX3_told_61 : decode cX3_told 61 = .ok (.aload_n 0, 1) := by decide +kernel
theorem dX3_told_62 : decode cX3_told 62 = .ok (.getfield 10, 3) := by decide +kernel
theorem dX3_told_65 : decode cX3_told 65 = .ok (.iload_n 1, 1) := by decide +kernel
theorem dX3_told_66 : decode cX3_told 66 = .ok (.invokevirtual 62, 3) := by decide +kernel
theorem dX3_told_69 : decode cX3_told 69 = .ok (.ifCond .eq 15, 3) := by decide +kernel
theorem dX3_told_72 : decode cX3_told 72 = .ok (.aload_n 0, 1) := by decide +kernel
theorem dX3_told_73 : decode cX3_told 73 = .ok (.getfield 10, 3) := by decide +kernel
theorem dX3_told_76 : decode cX3_told 76 = .ok (.getfield 56, 3) := by decide +kernel
theorem dX3_told_79 : decode cX3_told 79 = .ok (.iload_n 1, 1) := by decide +kernel
theorem dX3_told_80 : decode cX3_told 80 = .ok (.iaload, 1) := by decide +kernel
theorem dX3_told_81 : decode cX3_told 81 = .ok (.goto 4, 3) := by decide +kernel
theorem dX3_told_84 : decode cX3_told 84 = .ok (.iconst (-1), 1) := by decide +kernel
theorem dX3_told_85 : decode cX3_told 85 = .ok (.ireturn, 1) := by decide +kernel
theorem dX3_told_86 : decode cX3_told 86 = .ok (.aload_n 0, 1) := by decide +kernel
theorem dX3_told_87 : decode cX3_told 87 = .ok (.getfield 10, 3) := by decide +kernel
theorem dX3_told_90 : decode cX3_told 90 = .ok (.invokevirtual 25, 3) := by decide +kernel
theorem dX3_told_93 : decode cX3_told 93 = .ok (.ireturn, 1) := by decide +kernel
theorem dX3_told_94 : decode cX3_told 94 = .ok (.aload_n 0, 1) := by decide +kernel
theorem dX3_told_95 : decode cX3_told 95 = .ok (.getfield 10, 3) := by decide +kernel
theorem dX3_told_98 : decode cX3_told 98 = .ok (.getfield 29, 3) := by decide +kernel
theorem dX3_told_101 : decode cX3_told 101 = .ok (.ireturn, 1) := by decide +kernel
theorem dX3_told_102 : decode cX3_told 102 = .ok (.aload_n 0, 1) := by decide +kernel
theorem dX3_told_103 : decode cX3_told 103 = .ok (.getfield 10, 3) := by decide +kernel
theorem dX3_told_106 : decode cX3_told 106 = .ok (.iload_n 1, 1) := by decide +kernel
theorem dX3_told_107 : decode cX3_told 107 = .ok (.invokevirtual 106, 3) := by decide +kernel
theorem dX3_told_110 : decode cX3_told 110 = .ok (.ireturn, 1) := by decide +kernel
theorem dX3_told_111 : decode cX3_told 111 = .ok (.bipush (-2), 2) := by decide +kernel
theorem dX3_told_113 : decode cX3_told 113 = .ok (.ireturn, 1) := by decide +kernel
theorem dX3_isForestCount_0 : decode cX3_isForestCount 0 = .ok (.iload_n 0, 1) := by decide +kernel
theorem dX3_isForestCount_1 : decode cX3_isForestCount 1 = .ok (.ifCond .lt 13, 3) := by decide +kernel
theorem dX3_isForestCount_4 : decode cX3_isForestCount 4 = .ok (.iload_n 0, 1) := by decide +kernel
theorem dX3_isForestCount_5 : decode cX3_isForestCount 5 = .ok (.bipush 6, 2) := by decide +kernel
theorem dX3_isForestCount_7 : decode cX3_isForestCount 7 = .ok (.if_icmp .gt 7, 3) := by decide +kernel
theorem dX3_isForestCount_10 : decode cX3_isForestCount 10 = .ok (.iconst 1, 1) := by decide +kernel
theorem dX3_isForestCount_11 : decode cX3_isForestCount 11 = .ok (.goto 4, 3) := by decide +kernel
theorem dX3_isForestCount_14 : decode cX3_isForestCount 14 = .ok (.iconst 0, 1) := by decide +kernel
theorem dX3_isForestCount_15 : decode cX3_isForestCount 15 = .ok (.ireturn, 1) := by decide +kernel
theorem dX3_forgetPackings_0 : decode cX3_forgetPackings 0 = .ok (.iconst 0, 1) := by decide +kernel
theorem dX3_forgetPackings_1 : decode cX3_forgetPackings 1 = .ok (.istore_n 1, 1) := by decide +kernel
theorem dX3_forgetPackings_2 : decode cX3_forgetPackings 2 = .ok (.iload_n 1, 1) := by decide +kernel
theorem dX3_forgetPackings_3 : decode cX3_forgetPackings 3 = .ok (.bipush 6, 2) := by decide +kernel
theorem dX3_forgetPackings_5 : decode cX3_forgetPackings 5 = .ok (.if_icmp .gt 19, 3) := by decide +kernel
theorem dX3_forgetPackings_8 : decode cX3_forgetPackings 8 = .ok (.aload_n 0, 1) := by decide +kernel
theorem dX3_forgetPackings_9 : decode cX3_forgetPackings 9 = .ok (.getfield 18, 3) := by decide +kernel
theorem dX3_forgetPackings_12 : decode cX3_forgetPackings 12 = .ok (.iload_n 1, 1) := by decide +kernel
theorem dX3_forgetPackings_13 : decode cX3_forgetPackings 13 = .ok (.aaload, 1) := by decide +kernel
theorem dX3_forgetPackings_14 : decode cX3_forgetPackings 14 = .ok (.iconst 0, 1) := by decide +kernel
theorem dX3_forgetPackings_15 : decode cX3_forgetPackings 15 = .ok (.putfield 109, 3) := by decide +kernel
theorem dX3_forgetPackings_18 : decode cX3_forgetPackings 18 = .ok (.iinc 1 1, 3) := by decide +kernel
theorem dX3_forgetPackings_21 : decode cX3_forgetPackings 21 = .ok (.goto (-19), 3) := by decide +kernel
theorem dX3_forgetPackings_24 : decode cX3_forgetPackings 24 = .ok (.return_, 1) := by decide +kernel
theorem dX3_packed_0 : decode cX3_packed 0 = .ok (.aload_n 0, 1) := by decide +kernel
theorem dX3_packed_1 : decode cX3_packed 1 = .ok (.getfield 18, 3) := by decide +kernel
theorem dX3_packed_4 : decode cX3_packed 4 = .ok (.iload_n 1, 1) := by decide +kernel
theorem dX3_packed_5 : decode cX3_packed 5 = .ok (.aaload, 1) := by decide +kernel
theorem dX3_packed_6 : decode cX3_packed 6 = .ok (.astore_n 2, 1) := by decide +kernel
theorem dX3_packed_7 : decode cX3_packed 7 = .ok (.aload_n 2, 1) := by decide +kernel
theorem dX3_packed_8 : decode cX3_packed 8 = .ok (.getfield 109, 3) := by decide +kernel
theorem dX3_packed_11 : decode cX3_packed 11 = .ok (.ifCond .ne 11, 3) := by decide +kernel
theorem dX3_packed_14 : decode cX3_packed 14 = .ok (.aload_n 2, 1) := by decide +kernel
theorem dX3_packed_15 : decode cX3_packed 15 = .ok (.aload_n 0, 1) := by decide +kernel
theorem dX3_packed_16 : decode cX3_packed 16 = .ok (.getfield 10, 3) := by decide +kernel
theorem dX3_packed_19 : decode cX3_packed 19 = .ok (.invokevirtual 113, 3) := by decide +kernel
theorem dX3_packed_22 : decode cX3_packed 22 = .ok (.aload_n 2, 1) := by decide +kernel
theorem dX3_packed_23 : decode cX3_packed 23 = .ok (.areturn, 1) := by decide +kernel
theorem dX4_init_0 : decode cX4_init 0 = .ok (.aload_n 0, 1) := by decide +kernel
theorem dX4_init_1 : decode cX4_init 1 = .ok (.invokespecial 1, 3) := by decide +kernel
theorem dX4_init_4 : decode cX4_init 4 = .ok (.aload_n 0, 1) := by decide +kernel
theorem dX4_init_5 : decode cX4_init 5 = .ok (.iconst 1, 1) := by decide +kernel
theorem dX4_init_6 : decode cX4_init 6 = .ok (.putfield 7, 3) := by decide +kernel
theorem dX4_init_9 : decode cX4_init 9 = .ok (.aload_n 0, 1) := by decide +kernel
theorem dX4_init_10 : decode cX4_init 10 = .ok (.bipush 48, 2) := by decide +kernel
theorem dX4_init_12 : decode cX4_init 12 = .ok (.newarray .int, 2) := by decide +kernel
theorem dX4_init_14 : decode cX4_init 14 = .ok (.putfield 13, 3) := by decide +kernel
theorem dX4_init_17 : decode cX4_init 17 = .ok (.aload_n 0, 1) := by decide +kernel
theorem dX4_init_18 : decode cX4_init 18 = .ok (.bipush 24, 2) := by decide +kernel
theorem dX4_init_20 : decode cX4_init 20 = .ok (.newarray .boolean, 2) := by decide +kernel
theorem dX4_init_22 : decode cX4_init 22 = .ok (.putfield 17, 3) := by decide +kernel
theorem dX4_init_25 : decode cX4_init 25 = .ok (.aload_n 0, 1) := by decide +kernel
theorem dX4_init_26 : decode cX4_init 26 = .ok (.bipush 24, 2) := by decide +kernel
theorem dX4_init_28 : decode cX4_init 28 = .ok (.newarray .int, 2) := by decide +kernel
theorem dX4_init_30 : decode cX4_init 30 = .ok (.putfield 21, 3) := by decide +kernel
theorem dX4_init_33 : decode cX4_init 33 = .ok (.aload_n 0, 1) := by decide +kernel
theorem dX4_init_34 : decode cX4_init 34 = .ok (.bipush 24, 2) := by decide +kernel
theorem dX4_init_36 : decode cX4_init 36 = .ok (.newarray .boolean, 2) := by decide +kernel
theorem dX4_init_38 : decode cX4_init 38 = .ok (.putfield 24, 3) := by decide +kernel
theorem dX4_init_41 : decode cX4_init 41 = .ok (.aload_n 0, 1) := by decide +kernel
theorem dX4_init_42 : decode cX4_init 42 = .ok (.bipush 24, 2) := by decide +kernel
theorem dX4_init_44 : decode cX4_init 44 = .ok (.newarray .int, 2) := by decide +kernel
theorem dX4_init_46 : decode cX4_init 46 = .ok (.putfield 27, 3) := by decide +kernel
theorem dX4_init_49 : decode cX4_init 49 = .ok (.aload_n 0, 1) := by decide +kernel
theorem dX4_init_50 : decode cX4_init 50 = .ok (.bipush 24, 2) := by decide +kernel
theorem dX4_init_52 : decode cX4_init 52 = .ok (.newarray .int, 2) := by decide +kernel
theorem dX4_init_54 : decode cX4_init 54 = .ok (.putfield 30, 3) := by decide +kernel
theorem dX4_init_57 : decode cX4_init 57 = .ok (.aload_n 0, 1) := by decide +kernel
theorem dX4_init_58 : decode cX4_init 58 = .ok (.bipush 24, 2) := by decide +kernel
theorem dX4_init_60 : decode cX4_init 60 = .ok (.newarray .int, 2) := by decide +kernel
theorem dX4_init_62 : decode cX4_init 62 = .ok (.putfield 33, 3) := by decide +kernel
theorem dX4_init_65 : decode cX4_init 65 = .ok (.aload_n 0, 1) := by decide +kernel
theorem dX4_init_66 : decode cX4_init 66 = .ok (.bipush 10, 2) := by decide +kernel
theorem dX4_init_68 : decode cX4_init 68 = .ok (.newarray .int, 2) := by decide +kernel
theorem dX4_init_70 : decode cX4_init 70 = .ok (.putfield 36, 3) := by decide +kernel
theorem dX4_init_73 : decode cX4_init 73 = .ok (.aload_n 0, 1) := by decide +kernel
theorem dX4_init_74 : decode cX4_init 74 = .ok (.bipush 24, 2) := by decide +kernel
theorem dX4_init_76 : decode cX4_init 76 = .ok (.newarray .int, 2) := by decide +kernel
theorem dX4_init_78 : decode cX4_init 78 = .ok (.putfield 39, 3) := by decide +kernel
theorem dX4_init_81 : decode cX4_init 81 = .ok (.aload_n 0, 1) := by decide +kernel
theorem dX4_init_82 : decode cX4_init 82 = .ok (.iconst 1, 1) := by decide +kernel
theorem dX4_init_83 : decode cX4_init 83 = .ok (.putfield 7, 3) := by decide +kernel
theorem dX4_init_86 : decode cX4_init 86 = .ok (.return_, 1) := by decide +kernel
theorem dX4_in_0 : decode cX4_in 0 = .ok (.iload_n 0, 1) := by decide +kernel
theorem dX4_in_1 : decode cX4_in 1 = .ok (.iload_n 1, 1) := by decide +kernel
theorem dX4_in_2 : decode cX4_in 2 = .ok (.if_icmp .lt 12, 3) := by decide +kernel
theorem dX4_in_5 : decode cX4_in 5 = .ok (.iload_n 0, 1) := by decide +kernel
theorem dX4_in_6 : decode cX4_in 6 = .ok (.iload_n 2, 1) := by decide +kernel
theorem dX4_in_7 : decode cX4_in 7 = .ok (.if_icmp .gt 7, 3) := by decide +kernel
theorem dX4_in_10 : decode cX4_in 10 = .ok (.iconst 1, 1) := by decide +kernel
theorem dX4_in_11 : decode cX4_in 11 = .ok (.goto 4, 3) := by decide +kernel
theorem dX4_in_14 : decode cX4_in 14 = .ok (.iconst 0, 1) := by decide +kernel
theorem dX4_in_15 : decode cX4_in 15 = .ok (.ireturn, 1) := by decide +kernel
theorem dX4_has_0 : decode cX4_has 0 = .ok (.iload_n 1, 1) := by decide +kernel
theorem dX4_has_1 : decode cX4_has 1 = .ok (.iconst 0, 1) := by decide +kernel
theorem dX4_has_2 : decode cX4_has 2 = .ok (.bipush 23, 2) := by decide +kernel
theorem dX4_has_4 : decode cX4_has 4 = .ok (.invokestatic 42, 3) := by decide +kernel
theorem dX4_has_7 : decode cX4_has 7 = .ok (.ifCond .eq 16, 3) := by decide +kernel
theorem dX4_has_10 : decode cX4_has 10 = .ok (.aload_n 0, 1) := by decide +kernel
theorem dX4_has_11 : decode cX4_has 11 = .ok (.getfield 17, 3) := by decide +kernel
theorem dX4_has_14 : decode cX4_has 14 = .ok (.iload_n 1, 1) := by decide +kernel
theorem dX4_has_15 : decode cX4_has 15 = .ok (.baload, 1) := by decide +kernel
theorem dX4_has_16 : decode cX4_has 16 = .ok (.ifCond .eq 7, 3) := by decide +kernel
theorem dX4_has_19 : decode cX4_has 19 = .ok (.iconst 1, 1) := by decide +kernel
theorem dX4_has_20 : decode cX4_has 20 = .ok (.goto 4, 3) := by decide +kernel
theorem dX4_has_23 : decode cX4_has 23 = .ok (.iconst 0, 1) := by decide +kernel
theorem dX4_has_24 : decode cX4_has 24 = .ok (.ireturn, 1) := by decide +kernel
theorem dX4_isK_0 : decode cX4_isK 0 = .ok (.iload_n 0, 1) := by decide +kernel
theorem dX4_isK_1 : decode cX4_isK 1 = .ok (.iconst 0, 1) := by decide +kernel
theorem dX4_isK_2 : decode cX4_isK 2 = .ok (.bipush 6, 2) := by decide +kernel
theorem dX4_isK_4 : decode cX4_isK 4 = .ok (.invokestatic 42, 3) := by decide +kernel
theorem dX4_isK_7 : decode cX4_isK 7 = .ok (.ireturn, 1) := by decide +kernel
theorem dX4_many_0 : decode cX4_many 0 = .ok (.iconst 0, 1) := by decide +kernel
theorem dX4_many_1 : decode cX4_many 1 = .ok (.istore_n 1, 1) := by decide +kernel
theorem dX4_many_2 : decode cX4_many 2 = .ok (.iconst 0, 1) := by decide +kernel
theorem dX4_many_3 : decode cX4_many 3 = .ok (.istore_n 2, 1) := by decide +kernel
theorem dX4_many_4 : decode cX4_many 4 = .ok (.iload_n 2, 1) := by decide +kernel
theorem dX4_many_5 : decode cX4_many 5 = .ok (.bipush 24, 2) := by decide +kernel
theorem dX4_many_7 : decode cX4_many 7 = .ok (.if_icmp .ge 26, 3) := by decide +kernel
theorem dX4_many_10 : decode cX4_many 10 = .ok (.aload_n 0, 1) := by decide +kernel
theorem dX4_many_11 : decode cX4_many 11 = .ok (.getfield 17, 3) := by decide +kernel
theorem dX4_many_14 : decode cX4_many 14 = .ok (.iload_n 2, 1) := by decide +kernel
theorem dX4_many_15 : decode cX4_many 15 = .ok (.baload, 1) := by decide +kernel
theorem dX4_many_16 : decode cX4_many 16 = .ok (.ifCond .eq 9, 3) := by decide +kernel
theorem dX4_many_19 : decode cX4_many 19 = .ok (.iload_n 1, 1) := by decide +kernel
theorem dX4_many_20 : decode cX4_many 20 = .ok (.iconst 1, 1) := by decide +kernel
theorem dX4_many_21 : decode cX4_many 21 = .ok (.iadd, 1) := by decide +kernel
theorem dX4_many_22 : decode cX4_many 22 = .ok (.goto 4, 3) := by decide +kernel
theorem dX4_many_25 : decode cX4_many 25 = .ok (.iload_n 1, 1) := by decide +kernel
theorem dX4_many_26 : decode cX4_many 26 = .ok (.istore_n 1, 1) := by decide +kernel
theorem dX4_many_27 : decode cX4_many 27 = .ok (.iinc 2 1, 3) := by decide +kernel
theorem dX4_many_30 : decode cX4_many 30 = .ok (.goto (-26), 3) := by decide +kernel
theorem dX4_many_33 : decode cX4_many 33 = .ok (.iload_n 1, 1) := by decide +kernel
theorem dX4_many_34 : decode cX4_many 34 = .ok (.ireturn, 1) := by decide +kernel
theorem dX4_begin_0 : decode cX4_begin 0 = .ok (.iload_n 1, 1) := by decide +kernel
theorem dX4_begin_1 : decode cX4_begin 1 = .ok (.iconst 1, 1) := by decide +kernel
theorem dX4_begin_2 : decode cX4_begin 2 = .ok (.bipush 10, 2) := by decide +kernel
theorem dX4_begin_4 : decode cX4_begin 4 = .ok (.invokestatic 42, 3) := by decide +kernel
theorem dX4_begin_7 : decode cX4_begin 7 = .ok (.ifCond .ne 6, 3) := by decide +kernel
theorem dX4_begin_10 : decode cX4_begin 10 = .ok (.bipush (-2), 2) := by decide +kernel
theorem dX4_begin_12 : decode cX4_begin 12 = .ok (.ireturn, 1) := by decide +kernel
theorem dX4_begin_13 : decode cX4_begin 13 = .ok (.aload_n 0, 1) := by decide +kernel
theorem dX4_begin_14 : decode cX4_begin 14 = .ok (.invokevirtual 46, 3) := by decide +kernel
theorem dX4_begin_17 : decode cX4_begin 17 = .ok (.istore_n 2, 1) := by decide +kernel
theorem dX4_begin_18 : decode cX4_begin 18 = .ok (.aload_n 0, 1) := by decide +kernel
theorem dX4_begin_19 : decode cX4_begin 19 = .ok (.iload_n 1, 1) := by decide +kernel
theorem dX4_begin_20 : decode cX4_begin 20 = .ok (.putfield 7, 3) := by decide +kernel
theorem dX4_begin_23 : decode cX4_begin 23 = .ok (.iconst 0, 1) := by decide +kernel
theorem dX4_begin_24 : decode cX4_begin 24 = .ok (.istore_n 3, 1) := by decide +kernel
theorem dX4_begin_25 : decode cX4_begin 25 = .ok (.iload_n 3, 1) := by decide +kernel
theorem dX4_begin_26 : decode cX4_begin 26 = .ok (.bipush 24, 2) := by decide +kernel
theorem dX4_begin_28 : decode cX4_begin 28 = .ok (.if_icmp .ge 16, 3) := by decide +kernel
theorem dX4_begin_31 : decode cX4_begin 31 = .ok (.aload_n 0, 1) := by decide +kernel
theorem dX4_begin_32 : decode cX4_begin 32 = .ok (.getfield 17, 3) := by decide +kernel
theorem dX4_begin_35 : decode cX4_begin 35 = .ok (.iload_n 3, 1) := by decide +kernel
theorem dX4_begin_36 : decode cX4_begin 36 = .ok (.iconst 0, 1) := by decide +kernel
theorem dX4_begin_37 : decode cX4_begin 37 = .ok (.bastore, 1) := by decide +kernel
theorem dX4_begin_38 : decode cX4_begin 38 = .ok (.iinc 3 1, 3) := by decide +kernel
theorem dX4_begin_41 : decode cX4_begin 41 = .ok (.goto (-16), 3) := by decide +kernel
theorem dX4_begin_44 : decode cX4_begin 44 = .ok (.iload_n 2, 1) := by decide +kernel
theorem dX4_begin_45 : decode cX4_begin 45 = .ok (.ireturn, 1) := by decide +kernel
theorem dX4_isVertex_0 : decode cX4_isVertex 0 = .ok (.iload_n 1, 1) := by decide +kernel
theorem dX4_isVertex_1 : decode cX4_isVertex 1 = .ok (.iconst 0, 1) := by decide +kernel
theorem dX4_isVertex_2 : decode cX4_isVertex 2 = .ok (.aload_n 0, 1) := by decide +kernel
theorem dX4_isVertex_3 : decode cX4_isVertex 3 = .ok (.getfield 7, 3) := by decide +kernel
theorem dX4_isVertex_6 : decode cX4_isVertex 6 = .ok (.iconst 1, 1) := by decide +kernel
theorem dX4_isVertex_7 : decode cX4_isVertex 7 = .ok (.isub, 1) := by decide +kernel
theorem dX4_isVertex_8 : decode cX4_isVertex 8 = .ok (.invokestatic 42, 3) := by decide +kernel
theorem dX4_isVertex_11 : decode cX4_isVertex 11 = .ok (.ireturn, 1) := by decide +kernel
theorem dX4_join_0 : decode cX4_join 0 = .ok (.aload_n 0, 1) := by decide +kernel
theorem dX4_join_1 : decode cX4_join 1 = .ok (.iload_n 1, 1) := by decide +kernel
theorem dX4_join_2 : decode cX4_join 2 = .ok (.invokevirtual 50, 3) := by decide +kernel
theorem dX4_join_5 : decode cX4_join 5 = .ok (.ifCond .eq 16, 3) := by decide +kernel
theorem dX4_join_8 : decode cX4_join 8 = .ok (.aload_n 0, 1) := by decide +kernel
theorem dX4_join_9 : decode cX4_join 9 = .ok (.iload_n 2, 1) := by decide +kernel
theorem dX4_join_10 : decode cX4_join 10 = .ok (.invokevirtual 50, 3) := by decide +kernel
theorem dX4_join_13 : decode cX4_join 13 = .ok (.ifCond .eq 8, 3) := by decide +kernel
theorem dX4_join_16 : decode cX4_join 16 = .ok (.iload_n 1, 1) := by decide +kernel
theorem dX4_join_17 : decode cX4_join 17 = .ok (.iload_n 2, 1) := by decide +kernel
theorem dX4_join_18 : decode cX4_join 18 = .ok (.if_icmp .ne 6, 3) := by decide +kernel
theorem dX4_join_21 : decode cX4_join 21 = .ok (.bipush (-2), 2) := by decide +kernel
theorem dX4_join_23 : decode cX4_join 23 = .ok (.ireturn, 1) := by decide +kernel
theorem dX4_join_24 : decode cX4_join 24 = .ok (.iconst 0, 1) := by decide +kernel
theorem dX4_join_25 : decode cX4_join 25 = .ok (.istore_n 3, 1) := by decide +kernel
theorem dX4_join_26 : decode cX4_join 26 = .ok (.iload_n 3, 1) := by decide +kernel
theorem dX4_join_27 : decode cX4_join 27 = .ok (.bipush 24, 2) := by decide +kernel
theorem dX4_join_29 : decode cX4_join 29 = .ok (.if_icmp .ge 18, 3) := by decide +kernel
theorem dX4_join_32 : decode cX4_join 32 = .ok (.aload_n 0, 1) := by decide +kernel
theorem dX4_join_33 : decode cX4_join 33 = .ok (.getfield 17, 3) := by decide +kernel
theorem dX4_join_36 : decode cX4_join 36 = .ok (.iload_n 3, 1) := by decide +kernel
theorem dX4_join_37 : decode cX4_join 37 = .ok (.baload, 1) := by decide +kernel
theorem dX4_join_38 : decode cX4_join 38 = .ok (.ifCond .eq 9, 3) := by decide +kernel
theorem dX4_join_41 : decode cX4_join 41 = .ok (.iinc 3 1, 3) := by decide +kernel
theorem dX4_join_44 : decode cX4_join 44 = .ok (.goto (-18), 3) := by decide +kernel
theorem dX4_join_47 : decode cX4_join 47 = .ok (.iload_n 3, 1) := by decide +kernel
theorem dX4_join_48 : decode cX4_join 48 = .ok (.bipush 24, 2) := by decide +kernel
theorem dX4_join_50 : decode cX4_join 50 = .ok (.if_icmp .ne 6, 3) := by decide +kernel
theorem dX4_join_53 : decode cX4_join 53 = .ok (.bipush (-3), 2) := by decide +kernel
theorem dX4_join_55 : decode cX4_join 55 = .ok (.ireturn, 1) := by decide +kernel
theorem dX4_join_56 : decode cX4_join 56 = .ok (.aload_n 0, 1) := by decide +kernel
theorem dX4_join_57 : decode cX4_join 57 = .ok (.getfield 17, 3) := by decide +kernel
theorem dX4_join_60 : decode cX4_join 60 = .ok (.iload_n 3, 1) := by decide +kernel
theorem dX4_join_61 : decode cX4_join 61 = .ok (.iconst 1, 1) := by decide +kernel
theorem dX4_join_62 : decode cX4_join 62 = .ok (.bastore, 1) := by decide +kernel
theorem dX4_join_63 : decode cX4_join 63 = .ok (.aload_n 0, 1) := by decide +kernel
theorem dX4_join_64 : decode cX4_join 64 = .ok (.getfield 13, 3) := by decide +kernel
theorem dX4_join_67 : decode cX4_join 67 = .ok (.iconst 2, 1) := by decide +kernel
theorem dX4_join_68 : decode cX4_join 68 = .ok (.iload_n 3, 1) := by decide +kernel
theorem dX4_join_69 : decode cX4_join 69 = .ok (.imul, 1) := by decide +kernel
theorem dX4_join_70 : decode cX4_join 70 = .ok (.iload_n 1, 1) := by decide +kernel
theorem dX4_join_71 : decode cX4_join 71 = .ok (.iload_n 2, 1) := by decide +kernel
theorem dX4_join_72 : decode cX4_join 72 = .ok (.if_icmp .ge 7, 3) := by decide +kernel
theorem dX4_join_75 : decode cX4_join 75 = .ok (.iload_n 1, 1) := by decide +kernel
theorem dX4_join_76 : decode cX4_join 76 = .ok (.goto 4, 3) := by decide +kernel
theorem dX4_join_79 : decode cX4_join 79 = .ok (.iload_n 2, 1) := by decide +kernel
theorem dX4_join_80 : decode cX4_join 80 = .ok (.iastore, 1) := by decide +kernel
theorem dX4_join_81 : decode cX4_join 81 = .ok (.aload_n 0, 1) := by decide +kernel
theorem dX4_join_82 : decode cX4_join 82 = .ok (.getfield 13, 3) := by decide +kernel
theorem dX4_join_85 : decode cX4_join 85 = .ok (.iconst 2, 1) := by decide +kernel
theorem dX4_join_86 : decode cX4_join 86 = .ok (.iload_n 3, 1) := by decide +kernel
theorem dX4_join_87 : decode cX4_join 87 = .ok (.imul, 1) := by decide +kernel
theorem dX4_join_88 : decode cX4_join 88 = .ok (.iconst 1, 1) := by decide +kernel
theorem dX4_join_89 : decode cX4_join 89 = .ok (.iadd, 1) := by decide +kernel
theorem dX4_join_90 : decode cX4_join 90 = .ok (.iload_n 1, 1) := by decide +kernel
theorem dX4_join_91 : decode cX4_join 91 = .ok (.iload_n 2, 1) := by decide +kernel
theorem dX4_join_92 : decode cX4_join 92 = .ok (.if_icmp .ge 7, 3) := by decide +kernel
theorem dX4_join_95 : decode cX4_join 95 = .ok (.iload_n 2, 1) := by decide +kernel
theorem dX4_join_96 : decode cX4_join 96 = .ok (.goto 4, 3) := by decide +kernel
theorem dX4_join_99 : decode cX4_join 99 = .ok (.iload_n 1, 1) := by decide +kernel
theorem dX4_join_100 : decode cX4_join 100 = .ok (.iastore, 1) := by decide +kernel
theorem dX4_join_101 : decode cX4_join 101 = .ok (.iload_n 3, 1) := by decide +kernel
theorem dX4_join_102 : decode cX4_join 102 = .ok (.ireturn, 1) := by decide +kernel
theorem dX4_cut_0 : decode cX4_cut 0 = .ok (.aload_n 0, 1) := by decide +kernel
theorem dX4_cut_1 : decode cX4_cut 1 = .ok (.iload_n 1, 1) := by decide +kernel
theorem dX4_cut_2 : decode cX4_cut 2 = .ok (.invokevirtual 54, 3) := by decide +kernel
theorem dX4_cut_5 : decode cX4_cut 5 = .ok (.ifCond .ne 5, 3) := by decide +kernel
theorem dX4_cut_8 : decode cX4_cut 8 = .ok (.iconst (-1), 1) := by decide +kernel
theorem dX4_cut_9 : decode cX4_cut 9 = .ok (.ireturn, 1) := by decide +kernel
theorem dX4_cut_10 : decode cX4_cut 10 = .ok (.aload_n 0, 1) := by decide +kernel
theorem dX4_cut_11 : decode cX4_cut 11 = .ok (.getfield 17, 3) := by decide +kernel
theorem dX4_cut_14 : decode cX4_cut 14 = .ok (.iload_n 1, 1) := by decide +kernel
theorem dX4_cut_15 : decode cX4_cut 15 = .ok (.iconst 0, 1) := by decide +kernel
theorem dX4_cut_16 : decode cX4_cut 16 = .ok (.bastore, 1) := by decide +kernel
theorem dX4_cut_17 : decode cX4_cut 17 = .ok (.bipush 10, 2) := by decide +kernel
theorem dX4_cut_19 : decode cX4_cut 19 = .ok (.aload_n 0, 1) := by decide +kernel
theorem dX4_cut_20 : decode cX4_cut 20 = .ok (.getfield 13, 3) := by decide +kernel
theorem dX4_cut_23 : decode cX4_cut 23 = .ok (.iconst 2, 1) := by decide +kernel
theorem dX4_cut_24 : decode cX4_cut 24 = .ok (.iload_n 1, 1) := by decide +kernel
theorem dX4_cut_25 : decode cX4_cut 25 = .ok (.imul, 1) := by decide +kernel
theorem dX4_cut_26 : decode cX4_cut 26 = .ok (.iaload, 1) := by decide +kernel
theorem dX4_cut_27 : decode cX4_cut 27 = .ok (.imul, 1) := by decide +kernel
theorem dX4_cut_28 : decode cX4_cut 28 = .ok (.aload_n 0, 1) := by decide +kernel
theorem dX4_cut_29 : decode cX4_cut 29 = .ok (.getfield 13, 3) := by decide +kernel
theorem dX4_cut_32 : decode cX4_cut 32 = .ok (.iconst 2, 1) := by decide +kernel
theorem dX4_cut_33 : decode cX4_cut 33 = .ok (.iload_n 1, 1) := by decide +kernel
theorem dX4_cut_34 : decode cX4_cut 34 = .ok (.imul, 1) := by decide +kernel
theorem dX4_cut_35 : decode cX4_cut 35 = .ok (.iconst 1, 1) := by decide +kernel
theorem dX4_cut_36 : decode cX4_cut 36 = .ok (.iadd, 1) := by decide +kernel
theorem dX4_cut_37 : decode cX4_cut 37 = .ok (.iaload, 1) := by decide +kernel
theorem dX4_cut_38 : decode cX4_cut 38 = .ok (.iadd, 1) := by decide +kernel
theorem dX4_cut_39 : decode cX4_cut 39 = .ok (.ireturn, 1) := by decide +kernel
theorem dX4_bitsOf_0 : decode cX4_bitsOf 0 = .ok (.iconst 0, 1) := by decide +kernel
theorem dX4_bitsOf_1 : decode cX4_bitsOf 1 = .ok (.istore_n 1, 1) := by decide +kernel
theorem dX4_bitsOf_2 : decode cX4_bitsOf 2 = .ok (.iconst 0, 1) := by decide +kernel
theorem dX4_bitsOf_3 : decode cX4_bitsOf 3 = .ok (.istore_n 2, 1) := by decide +kernel
theorem dX4_bitsOf_4 : decode cX4_bitsOf 4 = .ok (.iload_n 2, 1) := by decide +kernel
theorem dX4_bitsOf_5 : decode cX4_bitsOf 5 = .ok (.bipush 10, 2) := by decide +kernel
theorem dX4_bitsOf_7 : decode cX4_bitsOf 7 = .ok (.if_icmp .ge 17, 3) := by decide +kernel
theorem dX4_bitsOf_10 : decode cX4_bitsOf 10 = .ok (.iload_n 1, 1) := by decide +kernel
theorem dX4_bitsOf_11 : decode cX4_bitsOf 11 = .ok (.iload_n 0, 1) := by decide +kernel
theorem dX4_bitsOf_12 : decode cX4_bitsOf 12 = .ok (.iload_n 2, 1) := by decide +kernel
theorem dX4_bitsOf_13 : decode cX4_bitsOf 13 = .ok (.ishr, 1) := by decide +kernel
theorem dX4_bitsOf_14 : decode cX4_bitsOf 14 = .ok (.iconst 1, 1) := by decide +kernel
theorem dX4_bitsOf_15 : decode cX4_bitsOf 15 = .ok (.iand, 1) := by decide +kernel
theorem dX4_bitsOf_16 : decode cX4_bitsOf 16 = .ok (.iadd, 1) := by decide +kernel
theorem dX4_bitsOf_17 : decode cX4_bitsOf 17 = .ok (.istore_n 1, 1) := by decide +kernel
theorem dX4_bitsOf_18 : decode cX4_bitsOf 18 = .ok (.iinc 2 1, 3) := by decide +kernel
theorem dX4_bitsOf_21 : decode cX4_bitsOf 21 = .ok (.goto (-17), 3) := by decide +kernel
theorem dX4_bitsOf_24 : decode cX4_bitsOf 24 = .ok (.iload_n 1, 1) := by decide +kernel
theorem dX4_bitsOf_25 : decode cX4_bitsOf 25 = .ok (.ireturn, 1) := by decide +kernel
theorem dX4_within_0 : decode cX4_within 0 = .ok (.iload_n 3, 1) := by decide +kernel
theorem dX4_within_1 : decode cX4_within 1 = .ok (.ifCond .lt 26, 3) := by decide +kernel
theorem dX4_within_4 : decode cX4_within 4 = .ok (.iload_n 2, 1) := by decide +kernel
theorem dX4_within_5 : decode cX4_within 5 = .ok (.iload_n 3, 1) := by decide +kernel
theorem dX4_within_6 : decode cX4_within 6 = .ok (.ishr, 1) := by decide +kernel
theorem dX4_within_7 : decode cX4_within 7 = .ok (.iconst 1, 1) := by decide +kernel
theorem dX4_within_8 : decode cX4_within 8 = .ok (.iand, 1) := by decide +kernel
theorem dX4_within_9 : decode cX4_within 9 = .ok (.iconst 1, 1) := by decide +kernel
theorem dX4_within_10 : decode cX4_within 10 = .ok (.if_icmp .ne 17, 3) := by decide +kernel
theorem dX4_within_13 : decode cX4_within 13 = .ok (.iload_n 2, 1) := by decide +kernel
theorem dX4_within_14 : decode cX4_within 14 = .ok (.iload 4, 2) := by decide +kernel
theorem dX4_within_16 : decode cX4_within 16 = .ok (.ishr, 1) := by decide +kernel
theorem dX4_within_17 : decode cX4_within 17 = .ok (.iconst 1, 1) := by decide +kernel
theorem dX4_within_18 : decode cX4_within 18 = .ok (.iand, 1) := by decide +kernel
theorem dX4_within_19 : decode cX4_within 19 = .ok (.iconst 1, 1) := by decide +kernel
theorem dX4_within_20 : decode cX4_within 20 = .ok (.if_icmp .ne 7, 3) := by decide +kernel
theorem dX4_within_23 : decode cX4_within 23 = .ok (.iconst 1, 1) := by decide +kernel
theorem dX4_within_24 : decode cX4_within 24 = .ok (.goto 4, 3) := by decide +kernel
theorem dX4_within_27 : decode cX4_within 27 = .ok (.iconst 0, 1) := by decide +kernel
theorem dX4_within_28 : decode cX4_within 28 = .ok (.istore 5, 2) := by decide +kernel
theorem dX4_within_30 : decode cX4_within 30 = .ok (.iconst 0, 1) := by decide +kernel
theorem dX4_within_31 : decode cX4_within 31 = .ok (.istore 6, 2) := by decide +kernel
theorem dX4_within_33 : decode cX4_within 33 = .ok (.iload 6, 2) := by decide +kernel
theorem dX4_within_35 : decode cX4_within 35 = .ok (.bipush 24, 2) := by decide +kernel
theorem dX4_within_37 : decode cX4_within 37 = .ok (.if_icmp .ge 78, 3) := by decide +kernel
theorem dX4_within_40 : decode cX4_within 40 = .ok (.iload_n 1, 1) := by decide +kernel
theorem dX4_within_41 : decode cX4_within 41 = .ok (.iload 6, 2) := by decide +kernel
theorem dX4_within_43 : decode cX4_within 43 = .ok (.ishr, 1) := by decide +kernel
theorem dX4_within_44 : decode cX4_within 44 = .ok (.iconst 1, 1) := by decide +kernel
theorem dX4_within_45 : decode cX4_within 45 = .ok (.iand, 1) := by decide +kernel
theorem dX4_within_46 : decode cX4_within 46 = .ok (.iconst 1, 1) := by decide +kernel
theorem dX4_within_47 : decode cX4_within 47 = .ok (.if_icmp .ne 43, 3) := by decide +kernel
theorem dX4_within_50 : decode cX4_within 50 = .ok (.iload_n 2, 1) := by decide +kernel
theorem dX4_within_51 : decode cX4_within 51 = .ok (.aload_n 0, 1) := by decide +kernel
theorem dX4_within_52 : decode cX4_within 52 = .ok (.getfield 13, 3) := by decide +kernel
theorem dX4_within_55 : decode cX4_within 55 = .ok (.iconst 2, 1) := by decide +kernel
theorem dX4_within_56 : decode cX4_within 56 = .ok (.iload 6, 2) := by decide +kernel
theorem dX4_within_58 : decode cX4_within 58 = .ok (.imul, 1) := by decide +kernel
theorem dX4_within_59 : decode cX4_within 59 = .ok (.iaload, 1) := by decide +kernel
theorem dX4_within_60 : decode cX4_within 60 = .ok (.ishr, 1) := by decide +kernel
theorem dX4_within_61 : decode cX4_within 61 = .ok (.iconst 1, 1) := by decide +kernel
theorem dX4_within_62 : decode cX4_within 62 = .ok (.iand, 1) := by decide +kernel
theorem dX4_within_63 : decode cX4_within 63 = .ok (.iconst 1, 1) := by decide +kernel
theorem dX4_within_64 : decode cX4_within 64 = .ok (.if_icmp .ne 26, 3) := by decide +kernel
theorem dX4_within_67 : decode cX4_within 67 = .ok (.iload_n 2, 1) := by decide +kernel
theorem dX4_within_68 : decode cX4_within 68 = .ok (.aload_n 0, 1) := by decide +kernel
theorem dX4_within_69 : decode cX4_within 69 = .ok (.getfield 13, 3) := by decide +kernel
theorem dX4_within_72 : decode cX4_within 72 = .ok (.iconst 2, 1) := by decide +kernel
theorem dX4_within_73 : decode cX4_within 73 = .ok (.iload 6, 2) := by decide +kernel
theorem dX4_within_75 : decode cX4_within 75 = .ok (.imul, 1) := by decide +kernel
theorem dX4_within_76 : decode cX4_within 76 = .ok (.iconst 1, 1) := by decide +kernel
theorem dX4_within_77 : decode cX4_within 77 = .ok (.iadd, 1) := by decide +kernel
theorem dX4_within_78 : decode cX4_within 78 = .ok (.iaload, 1) := by decide +kernel
theorem dX4_within_79 : decode cX4_within 79 = .ok (.ishr, 1) := by decide +kernel
theorem dX4_within_80 : decode cX4_within 80 = .ok (.iconst 1, 1) := by decide +kernel
theorem dX4_within_81 : decode cX4_within 81 = .ok (.iand, 1) := by decide +kernel
theorem dX4_within_82 : decode cX4_within 82 = .ok (.iconst 1, 1) := by decide +kernel
theorem dX4_within_83 : decode cX4_within 83 = .ok (.if_icmp .ne 7, 3) := by decide +kernel
theorem dX4_within_86 : decode cX4_within 86 = .ok (.iconst 1, 1) := by decide +kernel
theorem dX4_within_87 : decode cX4_within 87 = .ok (.goto 4, 3) := by decide +kernel
theorem dX4_within_90 : decode cX4_within 90 = .ok (.iconst 0, 1) := by decide +kernel
theorem dX4_within_91 : decode cX4_within 91 = .ok (.istore 7, 2) := by decide +kernel
theorem dX4_within_93 : decode cX4_within 93 = .ok (.iload 7, 2) := by decide +kernel
theorem dX4_within_95 : decode cX4_within 95 = .ok (.ifCond .eq 10, 3) := by decide +kernel
theorem dX4_within_98 : decode cX4_within 98 = .ok (.iload 5, 2) := by decide +kernel
theorem dX4_within_100 : decode cX4_within 100 = .ok (.iconst 1, 1) := by decide +kernel
theorem dX4_within_101 : decode cX4_within 101 = .ok (.iadd, 1) := by decide +kernel
theorem dX4_within_102 : decode cX4_within 102 = .ok (.goto 5, 3) := by decide +kernel
theorem dX4_within_105 : decode cX4_within 105 = .ok (.iload 5, 2) := by decide +kernel
theorem dX4_within_107 : decode cX4_within 107 = .ok (.istore 5, 2) := by decide +kernel
theorem dX4_within_109 : decode cX4_within 109 = .ok (.iinc 6 1, 3) := by decide +kernel
theorem dX4_within_112 : decode cX4_within 112 = .ok (.goto (-79), 3) := by decide +kernel
theorem dX4_within_115 : decode cX4_within 115 = .ok (.iload 5, 2) := by decide +kernel
theorem dX4_within_117 : decode cX4_within 117 = .ok (.ireturn, 1) := by decide +kernel
theorem dX4_fits_0 : decode cX4_fits 0 = .ok (.iconst 1, 1) := by decide +kernel
theorem dX4_fits_1 : decode cX4_fits 1 = .ok (.istore 5, 2) := by decide +kernel
theorem dX4_fits_3 : decode cX4_fits 3 = .ok (.iload 5, 2) := by decide +kernel
theorem dX4_fits_5 : decode cX4_fits 5 = .ok (.iconst 1, 1) := by decide +kernel
theorem dX4_fits_6 : decode cX4_fits 6 = .ok (.aload_n 0, 1) := by decide +kernel
theorem dX4_fits_7 : decode cX4_fits 7 = .ok (.getfield 7, 3) := by decide +kernel
theorem dX4_fits_10 : decode cX4_fits 10 = .ok (.ishl, 1) := by decide +kernel
theorem dX4_fits_11 : decode cX4_fits 11 = .ok (.if_icmp .ge 33, 3) := by decide +kernel
theorem dX4_fits_14 : decode cX4_fits 14 = .ok (.aload_n 0, 1) := by decide +kernel
theorem dX4_fits_15 : decode cX4_fits 15 = .ok (.iload_n 1, 1) := by decide +kernel
theorem dX4_fits_16 : decode cX4_fits 16 = .ok (.iload 5, 2) := by decide +kernel
theorem dX4_fits_18 : decode cX4_fits 18 = .ok (.iload_n 3, 1) := by decide +kernel
theorem dX4_fits_19 : decode cX4_fits 19 = .ok (.iload 4, 2) := by decide +kernel
theorem dX4_fits_21 : decode cX4_fits 21 = .ok (.invokevirtual 57, 3) := by decide +kernel
theorem dX4_fits_24 : decode cX4_fits 24 = .ok (.iload_n 2, 1) := by decide +kernel
theorem dX4_fits_25 : decode cX4_fits 25 = .ok (.iload 5, 2) := by decide +kernel
theorem dX4_fits_27 : decode cX4_fits 27 = .ok (.invokestatic 61, 3) := by decide +kernel
theorem dX4_fits_30 : decode cX4_fits 30 = .ok (.iconst 1, 1) := by decide +kernel
theorem dX4_fits_31 : decode cX4_fits 31 = .ok (.isub, 1) := by decide +kernel
theorem dX4_fits_32 : decode cX4_fits 32 = .ok (.imul, 1) := by decide +kernel
theorem dX4_fits_33 : decode cX4_fits 33 = .ok (.if_icmp .le 5, 3) := by decide +kernel
theorem dX4_fits_36 : decode cX4_fits 36 = .ok (.iconst 0, 1) := by decide +kernel
theorem dX4_fits_37 : decode cX4_fits 37 = .ok (.ireturn, 1) := by decide +kernel
theorem dX4_fits_38 : decode cX4_fits 38 = .ok (.iinc 5 1, 3) := by decide +kernel
theorem dX4_fits_41 : decode cX4_fits 41 = .ok (.goto (-38), 3) := by decide +kernel
theorem dX4_fits_44 : decode cX4_fits 44 = .ok (.iconst 1, 1) := by decide +kernel
theorem dX4_fits_45 : decode cX4_fits 45 = .ok (.ireturn, 1) := by decide +kernel
theorem dX4_hold_0 : decode cX4_hold 0 = .ok (.aload_n 0, 1) := by decide +kernel
theorem dX4_hold_1 : decode cX4_hold 1 = .ok (.iconst 0, 1) := by decide +kernel
theorem dX4_hold_2 : decode cX4_hold 2 = .ok (.putfield 65, 3) := by decide +kernel
theorem dX4_hold_5 : decode cX4_hold 5 = .ok (.iconst 0, 1) := by decide +kernel
theorem dX4_hold_6 : decode cX4_hold 6 = .ok (.istore_n 2, 1) := by decide +kernel
theorem dX4_hold_7 : decode cX4_hold 7 = .ok (.iload_n 2, 1) := by decide +kernel
theorem dX4_hold_8 : decode cX4_hold 8 = .ok (.bipush 24, 2) := by decide +kernel
theorem dX4_hold_10 : decode cX4_hold 10 = .ok (.if_icmp .ge 48, 3) := by decide +kernel
theorem dX4_hold_13 : decode cX4_hold 13 = .ok (.aload_n 0, 1) := by decide +kernel
theorem dX4_hold_14 : decode cX4_hold 14 = .ok (.getfield 17, 3) := by decide +kernel
theorem dX4_hold_17 : decode cX4_hold 17 = .ok (.iload_n 2, 1) := by decide +kernel
theorem dX4_hold_18 : decode cX4_hold 18 = .ok (.baload, 1) := by decide +kernel
theorem dX4_hold_19 : decode cX4_hold 19 = .ok (.ifCond .eq 33, 3) := by decide +kernel
theorem dX4_hold_22 : decode cX4_hold 22 = .ok (.aload_n 0, 1) := by decide +kernel
theorem dX4_hold_23 : decode cX4_hold 23 = .ok (.aload_n 0, 1) := by decide +kernel
theorem dX4_hold_24 : decode cX4_hold 24 = .ok (.getfield 65, 3) := by decide +kernel
theorem dX4_hold_27 : decode cX4_hold 27 = .ok (.iconst 1, 1) := by decide +kernel
theorem dX4_hold_28 : decode cX4_hold 28 = .ok (.iload_n 2, 1) := by decide +kernel
theorem dX4_hold_29 : decode cX4_hold 29 = .ok (.ishl, 1) := by decide +kernel
theorem dX4_hold_30 : decode cX4_hold 30 = .ok (.ior, 1) := by decide +kernel
theorem dX4_hold_31 : decode cX4_hold 31 = .ok (.iload_n 1, 1) := by decide +kernel
theorem dX4_hold_32 : decode cX4_hold 32 = .ok (.iconst (-1), 1) := by decide +kernel
theorem dX4_hold_33 : decode cX4_hold 33 = .ok (.iconst (-1), 1) := by decide +kernel
theorem dX4_hold_34 : decode cX4_hold 34 = .ok (.invokevirtual 68, 3) := by decide +kernel
theorem dX4_hold_37 : decode cX4_hold 37 = .ok (.ifCond .eq 15, 3) := by decide +kernel
theorem dX4_hold_40 : decode cX4_hold 40 = .ok (.aload_n 0, 1) := by decide +kernel
theorem dX4_hold_41 : decode cX4_hold 41 = .ok (.dup, 1) := by decide +kernel
theorem dX4_hold_42 : decode cX4_hold 42 = .ok (.getfield 65, 3) := by decide +kernel
theorem dX4_hold_45 : decode cX4_hold 45 = .ok (.iconst 1, 1) := by decide +kernel
theorem dX4_hold_46 : decode cX4_hold 46 = .ok (.iload_n 2, 1) := by decide +kernel
theorem dX4_hold_47 : decode cX4_hold 47 = .ok (.ishl, 1) := by decide +kernel
theorem dX4_hold_48 : decode cX4_hold 48 = .ok (.ior, 1) := by decide +kernel
theorem dX4_hold_49 : decode cX4_hold 49 = .ok (.putfield 65, 3) := by decide +kernel
theorem dX4_hold_52 : decode cX4_hold 52 = .ok (.iinc 2 1, 3) := by decide +kernel
theorem dX4_hold_55 : decode cX4_hold 55 = .ok (.goto (-48), 3) := by decide +kernel
theorem dX4_hold_58 : decode cX4_hold 58 = .ok (.return_, 1) := by decide +kernel
theorem dX4_heldMany_0 : decode cX4_heldMany 0 = .ok (.iconst 0, 1) := by decide +kernel
theorem dX4_heldMany_1 : decode cX4_heldMany 1 = .ok (.istore_n 1, 1) := by decide +kernel
theorem dX4_heldMany_2 : decode cX4_heldMany 2 = .ok (.iconst 0, 1) := by decide +kernel
theorem dX4_heldMany_3 : decode cX4_heldMany 3 = .ok (.istore_n 2, 1) := by decide +kernel
theorem dX4_heldMany_4 : decode cX4_heldMany 4 = .ok (.iload_n 2, 1) := by decide +kernel
theorem dX4_heldMany_5 : decode cX4_heldMany 5 = .ok (.bipush 24, 2) := by decide +kernel
theorem dX4_heldMany_7 : decode cX4_heldMany 7 = .ok (.if_icmp .ge 20, 3) := by decide +kernel
theorem dX4_heldMany_10 : decode cX4_heldMany 10 = .ok (.iload_n 1, 1) := by decide +kernel
theorem dX4_heldMany_11 : decode cX4_heldMany 11 = .ok (.aload_n 0, 1) := by decide +kernel
theorem dX4_heldMany_12 : decode cX4_heldMany 12 = .ok (.getfield 65, 3) := by decide +kernel
theorem dX4_heldMany_15 : decode cX4_heldMany 15 = .ok (.iload_n 2, 1) := by decide +kernel
theorem dX4_heldMany_16 : decode cX4_heldMany 16 = .ok (.ishr, 1) := by decide +kernel
theorem dX4_heldMany_17 : decode cX4_heldMany 17 = .ok (.iconst 1, 1) := by decide +kernel
theorem dX4_heldMany_18 : decode cX4_heldMany 18 = .ok (.iand, 1) := by decide +kernel
theorem dX4_heldMany_19 : decode cX4_heldMany 19 = .ok (.iadd, 1) := by decide +kernel
theorem dX4_heldMany_20 : decode cX4_heldMany 20 = .ok (.istore_n 1, 1) := by decide +kernel
theorem dX4_heldMany_21 : decode cX4_heldMany 21 = .ok (.iinc 2 1, 3) := by decide +kernel
theorem dX4_heldMany_24 : decode cX4_heldMany 24 = .ok (.goto (-20), 3) := by decide +kernel
theorem dX4_heldMany_27 : decode cX4_heldMany 27 = .ok (.iload_n 1, 1) := by decide +kernel
theorem dX4_heldMany_28 : decode cX4_heldMany 28 = .ok (.ireturn, 1) := by decide +kernel
theorem dX4_most_0 : decode cX4_most 0 = .ok (.iload_n 1, 1) := by decide +kernel
theorem dX4_most_1 : decode cX4_most 1 = .ok (.invokestatic 72, 3) := by decide +kernel
theorem dX4_most_4 : decode cX4_most 4 = .ok (.ifCond .ne 6, 3) := by decide +kernel
theorem dX4_most_7 : decode cX4_most 7 = .ok (.bipush (-2), 2) := by decide +kernel
theorem dX4_most_9 : decode cX4_most 9 = .ok (.ireturn, 1) := by decide +kernel
theorem dX4_most_10 : decode cX4_most 10 = .ok (.aload_n 0, 1) := by decide +kernel
theorem dX4_most_11 : decode cX4_most 11 = .ok (.iload_n 1, 1) := by decide +kernel
theorem dX4_most_12 : decode cX4_most 12 = .ok (.invokevirtual 75, 3) := by decide +kernel
theorem dX4_most_15 : decode cX4_most 15 = .ok (.aload_n 0, 1) := by decide +kernel
theorem dX4_most_16 : decode cX4_most 16 = .ok (.invokevirtual 79, 3) := by decide +kernel
theorem dX4_most_19 : decode cX4_most 19 = .ok (.ireturn, 1) := by decide +kernel
theorem dX4_held_0 : decode cX4_held 0 = .ok (.iload_n 1, 1) := by decide +kernel
theorem dX4_held_1 : decode cX4_held 1 = .ok (.invokestatic 72, 3) := by decide +kernel
theorem dX4_held_4 : decode cX4_held 4 = .ok (.ifCond .ne 6, 3) := by decide +kernel
theorem dX4_held_7 : decode cX4_held 7 = .ok (.bipush (-2), 2) := by decide +kernel
theorem dX4_held_9 : decode cX4_held 9 = .ok (.ireturn, 1) := by decide +kernel
theorem dX4_held_10 : decode cX4_held 10 = .ok (.aload_n 0, 1) := by decide +kernel
theorem dX4_held_11 : decode cX4_held 11 = .ok (.iload_n 2, 1) := by decide +kernel
theorem dX4_held_12 : decode cX4_held 12 = .ok (.invokevirtual 54, 3) := by decide +kernel
theorem dX4_held_15 : decode cX4_held 15 = .ok (.ifCond .ne 5, 3) := by decide +kernel
theorem dX4_held_18 : decode cX4_held 18 = .ok (.iconst (-1), 1) := by decide +kernel
theorem dX4_held_19 : decode cX4_held 19 = .ok (.ireturn, 1) := by decide +kernel
theorem dX4_held_20 : decode cX4_held 20 = .ok (.aload_n 0, 1) := by decide +kernel
theorem dX4_held_21 : decode cX4_held 21 = .ok (.iload_n 1, 1) := by decide +kernel
theorem dX4_held_22 : decode cX4_held 22 = .ok (.invokevirtual 75, 3) := by decide +kernel
end
section
theorem dX4_held_25 : decode cX4_held 25 = .ok (.aload_n 0, 1) := by decide +kernel
theorem dX4_held_26 : decode cX4_held 26 = .ok (.getfield 65, 3) := by decide +kernel
theorem dX4_held_29 : decode cX4_held 29 = .ok (.iload_n 2, 1) := by decide +kernel
theorem dX4_held_30 : decode cX4_held 30 = .ok (.ishr, 1) := by decide +kernel
theorem dX4_held_31 : decode cX4_held 31 = .ok (.iconst 1, 1) := by decide +kernel
theorem dX4_held_32 : decode cX4_held 32 = .ok (.iand, 1) := by decide +kernel
theorem dX4_held_33 : decode cX4_held 33 = .ok (.ireturn, 1) := by decide +kernel
theorem dX4_wayIn_0 : decode cX4_wayIn 0 = .ok (.aload_n 0, 1) := by decide +kernel
theorem dX4_wayIn_1 : decode cX4_wayIn 1 = .ok (.getfield 13, 3) := by decide +kernel
theorem dX4_wayIn_4 : decode cX4_wayIn 4 = .ok (.iconst 2, 1) := by decide +kernel
theorem dX4_wayIn_5 : decode cX4_wayIn 5 = .ok (.iload_n 2, 1) := by decide +kernel
theorem dX4_wayIn_6 : decode cX4_wayIn 6 = .ok (.imul, 1) := by decide +kernel
theorem dX4_wayIn_7 : decode cX4_wayIn 7 = .ok (.iaload, 1) := by decide +kernel
theorem dX4_wayIn_8 : decode cX4_wayIn 8 = .ok (.istore_n 3, 1) := by decide +kernel
theorem dX4_wayIn_9 : decode cX4_wayIn 9 = .ok (.iconst 0, 1) := by decide +kernel
theorem dX4_wayIn_10 : decode cX4_wayIn 10 = .ok (.istore 4, 2) := by decide +kernel
theorem dX4_wayIn_12 : decode cX4_wayIn 12 = .ok (.iload 4, 2) := by decide +kernel
theorem dX4_wayIn_14 : decode cX4_wayIn 14 = .ok (.bipush 10, 2) := by decide +kernel
theorem dX4_wayIn_16 : decode cX4_wayIn 16 = .ok (.if_icmp .ge 17, 3) := by decide +kernel
theorem dX4_wayIn_19 : decode cX4_wayIn 19 = .ok (.aload_n 0, 1) := by decide +kernel
theorem dX4_wayIn_20 : decode cX4_wayIn 20 = .ok (.getfield 36, 3) := by decide +kernel
theorem dX4_wayIn_23 : decode cX4_wayIn 23 = .ok (.iload 4, 2) := by decide +kernel
theorem dX4_wayIn_25 : decode cX4_wayIn 25 = .ok (.iconst (-1), 1) := by decide +kernel
theorem dX4_wayIn_26 : decode cX4_wayIn 26 = .ok (.iastore, 1) := by decide +kernel
theorem dX4_wayIn_27 : decode cX4_wayIn 27 = .ok (.iinc 4 1, 3) := by decide +kernel
theorem dX4_wayIn_30 : decode cX4_wayIn 30 = .ok (.goto (-18), 3) := by decide +kernel
theorem dX4_wayIn_33 : decode cX4_wayIn 33 = .ok (.iconst 1, 1) := by decide +kernel
theorem dX4_wayIn_34 : decode cX4_wayIn 34 = .ok (.iload_n 3, 1) := by decide +kernel
theorem dX4_wayIn_35 : decode cX4_wayIn 35 = .ok (.ishl, 1) := by decide +kernel
theorem dX4_wayIn_36 : decode cX4_wayIn 36 = .ok (.istore 4, 2) := by decide +kernel
theorem dX4_wayIn_38 : decode cX4_wayIn 38 = .ok (.iconst 1, 1) := by decide +kernel
theorem dX4_wayIn_39 : decode cX4_wayIn 39 = .ok (.istore 5, 2) := by decide +kernel
theorem dX4_wayIn_41 : decode cX4_wayIn 41 = .ok (.iload 5, 2) := by decide +kernel
theorem dX4_wayIn_43 : decode cX4_wayIn 43 = .ok (.ifCond .eq 145, 3) := by decide +kernel
theorem dX4_wayIn_46 : decode cX4_wayIn 46 = .ok (.iconst 0, 1) := by decide +kernel
theorem dX4_wayIn_47 : decode cX4_wayIn 47 = .ok (.istore 5, 2) := by decide +kernel
theorem dX4_wayIn_49 : decode cX4_wayIn 49 = .ok (.iconst 0, 1) := by decide +kernel
theorem dX4_wayIn_50 : decode cX4_wayIn 50 = .ok (.istore 6, 2) := by decide +kernel
theorem dX4_wayIn_52 : decode cX4_wayIn 52 = .ok (.iload 6, 2) := by decide +kernel
theorem dX4_wayIn_54 : decode cX4_wayIn 54 = .ok (.bipush 24, 2) := by decide +kernel
theorem dX4_wayIn_56 : decode cX4_wayIn 56 = .ok (.if_icmp .ge 129, 3) := by decide +kernel
theorem dX4_wayIn_59 : decode cX4_wayIn 59 = .ok (.aload_n 0, 1) := by decide +kernel
theorem dX4_wayIn_60 : decode cX4_wayIn 60 = .ok (.getfield 21, 3) := by decide +kernel
theorem dX4_wayIn_63 : decode cX4_wayIn 63 = .ok (.iload 6, 2) := by decide +kernel
theorem dX4_wayIn_65 : decode cX4_wayIn 65 = .ok (.iaload, 1) := by decide +kernel
theorem dX4_wayIn_66 : decode cX4_wayIn 66 = .ok (.iload_n 1, 1) := by decide +kernel
theorem dX4_wayIn_67 : decode cX4_wayIn 67 = .ok (.if_icmp .ne 112, 3) := by decide +kernel
theorem dX4_wayIn_70 : decode cX4_wayIn 70 = .ok (.iload 6, 2) := by decide +kernel
theorem dX4_wayIn_72 : decode cX4_wayIn 72 = .ok (.iload_n 2, 1) := by decide +kernel
theorem dX4_wayIn_73 : decode cX4_wayIn 73 = .ok (.if_icmp .eq 106, 3) := by decide +kernel
theorem dX4_wayIn_76 : decode cX4_wayIn 76 = .ok (.aload_n 0, 1) := by decide +kernel
theorem dX4_wayIn_77 : decode cX4_wayIn 77 = .ok (.getfield 13, 3) := by decide +kernel
theorem dX4_wayIn_80 : decode cX4_wayIn 80 = .ok (.iconst 2, 1) := by decide +kernel
theorem dX4_wayIn_81 : decode cX4_wayIn 81 = .ok (.iload 6, 2) := by decide +kernel
theorem dX4_wayIn_83 : decode cX4_wayIn 83 = .ok (.imul, 1) := by decide +kernel
theorem dX4_wayIn_84 : decode cX4_wayIn 84 = .ok (.iaload, 1) := by decide +kernel
theorem dX4_wayIn_85 : decode cX4_wayIn 85 = .ok (.istore 7, 2) := by decide +kernel
theorem dX4_wayIn_87 : decode cX4_wayIn 87 = .ok (.aload_n 0, 1) := by decide +kernel
theorem dX4_wayIn_88 : decode cX4_wayIn 88 = .ok (.getfield 13, 3) := by decide +kernel
theorem dX4_wayIn_91 : decode cX4_wayIn 91 = .ok (.iconst 2, 1) := by decide +kernel
theorem dX4_wayIn_92 : decode cX4_wayIn 92 = .ok (.iload 6, 2) := by decide +kernel
theorem dX4_wayIn_94 : decode cX4_wayIn 94 = .ok (.imul, 1) := by decide +kernel
theorem dX4_wayIn_95 : decode cX4_wayIn 95 = .ok (.iconst 1, 1) := by decide +kernel
theorem dX4_wayIn_96 : decode cX4_wayIn 96 = .ok (.iadd, 1) := by decide +kernel
theorem dX4_wayIn_97 : decode cX4_wayIn 97 = .ok (.iaload, 1) := by decide +kernel
theorem dX4_wayIn_98 : decode cX4_wayIn 98 = .ok (.istore 8, 2) := by decide +kernel
theorem dX4_wayIn_100 : decode cX4_wayIn 100 = .ok (.iload 4, 2) := by decide +kernel
theorem dX4_wayIn_102 : decode cX4_wayIn 102 = .ok (.iload 7, 2) := by decide +kernel
theorem dX4_wayIn_104 : decode cX4_wayIn 104 = .ok (.ishr, 1) := by decide +kernel
theorem dX4_wayIn_105 : decode cX4_wayIn 105 = .ok (.iconst 1, 1) := by decide +kernel
theorem dX4_wayIn_106 : decode cX4_wayIn 106 = .ok (.iand, 1) := by decide +kernel
theorem dX4_wayIn_107 : decode cX4_wayIn 107 = .ok (.iconst 1, 1) := by decide +kernel
theorem dX4_wayIn_108 : decode cX4_wayIn 108 = .ok (.if_icmp .ne 7, 3) := by decide +kernel
theorem dX4_wayIn_111 : decode cX4_wayIn 111 = .ok (.iconst 1, 1) := by decide +kernel
theorem dX4_wayIn_112 : decode cX4_wayIn 112 = .ok (.goto 4, 3) := by decide +kernel
theorem dX4_wayIn_115 : decode cX4_wayIn 115 = .ok (.iconst 0, 1) := by decide +kernel
theorem dX4_wayIn_116 : decode cX4_wayIn 116 = .ok (.istore 9, 2) := by decide +kernel
theorem dX4_wayIn_118 : decode cX4_wayIn 118 = .ok (.iload 4, 2) := by decide +kernel
theorem dX4_wayIn_120 : decode cX4_wayIn 120 = .ok (.iload 8, 2) := by decide +kernel
theorem dX4_wayIn_122 : decode cX4_wayIn 122 = .ok (.ishr, 1) := by decide +kernel
theorem dX4_wayIn_123 : decode cX4_wayIn 123 = .ok (.iconst 1, 1) := by decide +kernel
theorem dX4_wayIn_124 : decode cX4_wayIn 124 = .ok (.iand, 1) := by decide +kernel
theorem dX4_wayIn_125 : decode cX4_wayIn 125 = .ok (.iconst 1, 1) := by decide +kernel
theorem dX4_wayIn_126 : decode cX4_wayIn 126 = .ok (.if_icmp .ne 7, 3) := by decide +kernel
theorem dX4_wayIn_129 : decode cX4_wayIn 129 = .ok (.iconst 1, 1) := by decide +kernel
theorem dX4_wayIn_130 : decode cX4_wayIn 130 = .ok (.goto 4, 3) := by decide +kernel
theorem dX4_wayIn_133 : decode cX4_wayIn 133 = .ok (.iconst 0, 1) := by decide +kernel
theorem dX4_wayIn_134 : decode cX4_wayIn 134 = .ok (.istore 10, 2) := by decide +kernel
theorem dX4_wayIn_136 : decode cX4_wayIn 136 = .ok (.iload 9, 2) := by decide +kernel
theorem dX4_wayIn_138 : decode cX4_wayIn 138 = .ok (.iload 10, 2) := by decide +kernel
theorem dX4_wayIn_140 : decode cX4_wayIn 140 = .ok (.if_icmp .eq 39, 3) := by decide +kernel
theorem dX4_wayIn_143 : decode cX4_wayIn 143 = .ok (.aload_n 0, 1) := by decide +kernel
theorem dX4_wayIn_144 : decode cX4_wayIn 144 = .ok (.getfield 36, 3) := by decide +kernel
theorem dX4_wayIn_147 : decode cX4_wayIn 147 = .ok (.iload 9, 2) := by decide +kernel
theorem dX4_wayIn_149 : decode cX4_wayIn 149 = .ok (.ifCond .eq 8, 3) := by decide +kernel
theorem dX4_wayIn_152 : decode cX4_wayIn 152 = .ok (.iload 8, 2) := by decide +kernel
theorem dX4_wayIn_154 : decode cX4_wayIn 154 = .ok (.goto 5, 3) := by decide +kernel
theorem dX4_wayIn_157 : decode cX4_wayIn 157 = .ok (.iload 7, 2) := by decide +kernel
theorem dX4_wayIn_159 : decode cX4_wayIn 159 = .ok (.iload 6, 2) := by decide +kernel
theorem dX4_wayIn_161 : decode cX4_wayIn 161 = .ok (.iastore, 1) := by decide +kernel
theorem dX4_wayIn_162 : decode cX4_wayIn 162 = .ok (.iload 4, 2) := by decide +kernel
theorem dX4_wayIn_164 : decode cX4_wayIn 164 = .ok (.iconst 1, 1) := by decide +kernel
theorem dX4_wayIn_165 : decode cX4_wayIn 165 = .ok (.iload 7, 2) := by decide +kernel
theorem dX4_wayIn_167 : decode cX4_wayIn 167 = .ok (.ishl, 1) := by decide +kernel
theorem dX4_wayIn_168 : decode cX4_wayIn 168 = .ok (.iconst 1, 1) := by decide +kernel
theorem dX4_wayIn_169 : decode cX4_wayIn 169 = .ok (.iload 8, 2) := by decide +kernel
theorem dX4_wayIn_171 : decode cX4_wayIn 171 = .ok (.ishl, 1) := by decide +kernel
theorem dX4_wayIn_172 : decode cX4_wayIn 172 = .ok (.ior, 1) := by decide +kernel
theorem dX4_wayIn_173 : decode cX4_wayIn 173 = .ok (.ior, 1) := by decide +kernel
theorem dX4_wayIn_174 : decode cX4_wayIn 174 = .ok (.istore 4, 2) := by decide +kernel
theorem dX4_wayIn_176 : decode cX4_wayIn 176 = .ok (.iconst 1, 1) := by decide +kernel
theorem dX4_wayIn_177 : decode cX4_wayIn 177 = .ok (.istore 5, 2) := by decide +kernel
theorem dX4_wayIn_179 : decode cX4_wayIn 179 = .ok (.iinc 6 1, 3) := by decide +kernel
theorem dX4_wayIn_182 : decode cX4_wayIn 182 = .ok (.goto (-130), 3) := by decide +kernel
theorem dX4_wayIn_185 : decode cX4_wayIn 185 = .ok (.goto (-144), 3) := by decide +kernel
theorem dX4_wayIn_188 : decode cX4_wayIn 188 = .ok (.aload_n 0, 1) := by decide +kernel
theorem dX4_wayIn_189 : decode cX4_wayIn 189 = .ok (.getfield 13, 3) := by decide +kernel
theorem dX4_wayIn_192 : decode cX4_wayIn 192 = .ok (.iconst 2, 1) := by decide +kernel
theorem dX4_wayIn_193 : decode cX4_wayIn 193 = .ok (.iload_n 2, 1) := by decide +kernel
theorem dX4_wayIn_194 : decode cX4_wayIn 194 = .ok (.imul, 1) := by decide +kernel
theorem dX4_wayIn_195 : decode cX4_wayIn 195 = .ok (.iconst 1, 1) := by decide +kernel
theorem dX4_wayIn_196 : decode cX4_wayIn 196 = .ok (.iadd, 1) := by decide +kernel
theorem dX4_wayIn_197 : decode cX4_wayIn 197 = .ok (.iaload, 1) := by decide +kernel
theorem dX4_wayIn_198 : decode cX4_wayIn 198 = .ok (.istore 6, 2) := by decide +kernel
theorem dX4_wayIn_200 : decode cX4_wayIn 200 = .ok (.iconst 0, 1) := by decide +kernel
theorem dX4_wayIn_201 : decode cX4_wayIn 201 = .ok (.istore 7, 2) := by decide +kernel
theorem dX4_wayIn_203 : decode cX4_wayIn 203 = .ok (.iload 6, 2) := by decide +kernel
theorem dX4_wayIn_205 : decode cX4_wayIn 205 = .ok (.iload_n 3, 1) := by decide +kernel
theorem dX4_wayIn_206 : decode cX4_wayIn 206 = .ok (.if_icmp .eq 73, 3) := by decide +kernel
theorem dX4_wayIn_209 : decode cX4_wayIn 209 = .ok (.aload_n 0, 1) := by decide +kernel
theorem dX4_wayIn_210 : decode cX4_wayIn 210 = .ok (.getfield 36, 3) := by decide +kernel
theorem dX4_wayIn_213 : decode cX4_wayIn 213 = .ok (.iload 6, 2) := by decide +kernel
theorem dX4_wayIn_215 : decode cX4_wayIn 215 = .ok (.iaload, 1) := by decide +kernel
theorem dX4_wayIn_216 : decode cX4_wayIn 216 = .ok (.ifCond .lt 63, 3) := by decide +kernel
theorem dX4_wayIn_219 : decode cX4_wayIn 219 = .ok (.aload_n 0, 1) := by decide +kernel
theorem dX4_wayIn_220 : decode cX4_wayIn 220 = .ok (.getfield 36, 3) := by decide +kernel
theorem dX4_wayIn_223 : decode cX4_wayIn 223 = .ok (.iload 6, 2) := by decide +kernel
theorem dX4_wayIn_225 : decode cX4_wayIn 225 = .ok (.iaload, 1) := by decide +kernel
theorem dX4_wayIn_226 : decode cX4_wayIn 226 = .ok (.istore 8, 2) := by decide +kernel
theorem dX4_wayIn_228 : decode cX4_wayIn 228 = .ok (.iload 7, 2) := by decide +kernel
theorem dX4_wayIn_230 : decode cX4_wayIn 230 = .ok (.iconst 1, 1) := by decide +kernel
theorem dX4_wayIn_231 : decode cX4_wayIn 231 = .ok (.iload 8, 2) := by decide +kernel
theorem dX4_wayIn_233 : decode cX4_wayIn 233 = .ok (.ishl, 1) := by decide +kernel
theorem dX4_wayIn_234 : decode cX4_wayIn 234 = .ok (.ior, 1) := by decide +kernel
theorem dX4_wayIn_235 : decode cX4_wayIn 235 = .ok (.istore 7, 2) := by decide +kernel
theorem dX4_wayIn_237 : decode cX4_wayIn 237 = .ok (.aload_n 0, 1) := by decide +kernel
theorem dX4_wayIn_238 : decode cX4_wayIn 238 = .ok (.getfield 13, 3) := by decide +kernel
theorem dX4_wayIn_241 : decode cX4_wayIn 241 = .ok (.iconst 2, 1) := by decide +kernel
theorem dX4_wayIn_242 : decode cX4_wayIn 242 = .ok (.iload 8, 2) := by decide +kernel
theorem dX4_wayIn_244 : decode cX4_wayIn 244 = .ok (.imul, 1) := by decide +kernel
theorem dX4_wayIn_245 : decode cX4_wayIn 245 = .ok (.iaload, 1) := by decide +kernel
theorem dX4_wayIn_246 : decode cX4_wayIn 246 = .ok (.iload 6, 2) := by decide +kernel
theorem dX4_wayIn_248 : decode cX4_wayIn 248 = .ok (.if_icmp .ne 17, 3) := by decide +kernel
theorem dX4_wayIn_251 : decode cX4_wayIn 251 = .ok (.aload_n 0, 1) := by decide +kernel
theorem dX4_wayIn_252 : decode cX4_wayIn 252 = .ok (.getfield 13, 3) := by decide +kernel
theorem dX4_wayIn_255 : decode cX4_wayIn 255 = .ok (.iconst 2, 1) := by decide +kernel
theorem dX4_wayIn_256 : decode cX4_wayIn 256 = .ok (.iload 8, 2) := by decide +kernel
theorem dX4_wayIn_258 : decode cX4_wayIn 258 = .ok (.imul, 1) := by decide +kernel
theorem dX4_wayIn_259 : decode cX4_wayIn 259 = .ok (.iconst 1, 1) := by decide +kernel
theorem dX4_wayIn_260 : decode cX4_wayIn 260 = .ok (.iadd, 1) := by decide +kernel
theorem dX4_wayIn_261 : decode cX4_wayIn 261 = .ok (.iaload, 1) := by decide +kernel
theorem dX4_wayIn_262 : decode cX4_wayIn 262 = .ok (.goto 12, 3) := by decide +kernel
theorem dX4_wayIn_265 : decode cX4_wayIn 265 = .ok (.aload_n 0, 1) := by decide +kernel
theorem dX4_wayIn_266 : decode cX4_wayIn 266 = .ok (.getfield 13, 3) := by decide +kernel
theorem dX4_wayIn_269 : decode cX4_wayIn 269 = .ok (.iconst 2, 1) := by decide +kernel
theorem dX4_wayIn_270 : decode cX4_wayIn 270 = .ok (.iload 8, 2) := by decide +kernel
theorem dX4_wayIn_272 : decode cX4_wayIn 272 = .ok (.imul, 1) := by decide +kernel
theorem dX4_wayIn_273 : decode cX4_wayIn 273 = .ok (.iaload, 1) := by decide +kernel
theorem dX4_wayIn_274 : decode cX4_wayIn 274 = .ok (.istore 6, 2) := by decide +kernel
theorem dX4_wayIn_276 : decode cX4_wayIn 276 = .ok (.goto (-73), 3) := by decide +kernel
theorem dX4_wayIn_279 : decode cX4_wayIn 279 = .ok (.iload 7, 2) := by decide +kernel
theorem dX4_wayIn_281 : decode cX4_wayIn 281 = .ok (.ireturn, 1) := by decide +kernel
theorem dX4_place_0 : decode cX4_place 0 = .ok (.iconst 0, 1) := by decide +kernel
theorem dX4_place_1 : decode cX4_place 1 = .ok (.istore_n 3, 1) := by decide +kernel
theorem dX4_place_2 : decode cX4_place 2 = .ok (.iload_n 3, 1) := by decide +kernel
theorem dX4_place_3 : decode cX4_place 3 = .ok (.bipush 24, 2) := by decide +kernel
theorem dX4_place_5 : decode cX4_place 5 = .ok (.if_icmp .ge 16, 3) := by decide +kernel
theorem dX4_place_8 : decode cX4_place 8 = .ok (.aload_n 0, 1) := by decide +kernel
theorem dX4_place_9 : decode cX4_place 9 = .ok (.getfield 30, 3) := by decide +kernel
theorem dX4_place_12 : decode cX4_place 12 = .ok (.iload_n 3, 1) := by decide +kernel
theorem dX4_place_13 : decode cX4_place 13 = .ok (.iconst (-1), 1) := by decide +kernel
theorem dX4_place_14 : decode cX4_place 14 = .ok (.iastore, 1) := by decide +kernel
theorem dX4_place_15 : decode cX4_place 15 = .ok (.iinc 3 1, 3) := by decide +kernel
theorem dX4_place_18 : decode cX4_place 18 = .ok (.goto (-16), 3) := by decide +kernel
theorem dX4_place_21 : decode cX4_place 21 = .ok (.iconst 0, 1) := by decide +kernel
theorem dX4_place_22 : decode cX4_place 22 = .ok (.istore_n 3, 1) := by decide +kernel
theorem dX4_place_23 : decode cX4_place 23 = .ok (.iconst 1, 1) := by decide +kernel
theorem dX4_place_24 : decode cX4_place 24 = .ok (.istore 4, 2) := by decide +kernel
theorem dX4_place_26 : decode cX4_place 26 = .ok (.aload_n 0, 1) := by decide +kernel
theorem dX4_place_27 : decode cX4_place 27 = .ok (.getfield 27, 3) := by decide +kernel
theorem dX4_place_30 : decode cX4_place 30 = .ok (.iconst 0, 1) := by decide +kernel
theorem dX4_place_31 : decode cX4_place 31 = .ok (.iload_n 1, 1) := by decide +kernel
theorem dX4_place_32 : decode cX4_place 32 = .ok (.iastore, 1) := by decide +kernel
theorem dX4_place_33 : decode cX4_place 33 = .ok (.aload_n 0, 1) := by decide +kernel
theorem dX4_place_34 : decode cX4_place 34 = .ok (.getfield 30, 3) := by decide +kernel
theorem dX4_place_37 : decode cX4_place 37 = .ok (.iload_n 1, 1) := by decide +kernel
theorem dX4_place_38 : decode cX4_place 38 = .ok (.iload_n 1, 1) := by decide +kernel
theorem dX4_place_39 : decode cX4_place 39 = .ok (.iastore, 1) := by decide +kernel
theorem dX4_place_40 : decode cX4_place 40 = .ok (.iload_n 3, 1) := by decide +kernel
theorem dX4_place_41 : decode cX4_place 41 = .ok (.iload 4, 2) := by decide +kernel
theorem dX4_place_43 : decode cX4_place 43 = .ok (.if_icmp .ge 138, 3) := by decide +kernel
theorem dX4_place_46 : decode cX4_place 46 = .ok (.aload_n 0, 1) := by decide +kernel
theorem dX4_place_47 : decode cX4_place 47 = .ok (.getfield 27, 3) := by decide +kernel
theorem dX4_place_50 : decode cX4_place 50 = .ok (.iload_n 3, 1) := by decide +kernel
theorem dX4_place_51 : decode cX4_place 51 = .ok (.iaload, 1) := by decide +kernel
theorem dX4_place_52 : decode cX4_place 52 = .ok (.istore 5, 2) := by decide +kernel
theorem dX4_place_54 : decode cX4_place 54 = .ok (.iinc 3 1, 3) := by decide +kernel
theorem dX4_place_57 : decode cX4_place 57 = .ok (.iconst 0, 1) := by decide +kernel
theorem dX4_place_58 : decode cX4_place 58 = .ok (.istore 6, 2) := by decide +kernel
theorem dX4_place_60 : decode cX4_place 60 = .ok (.iload 6, 2) := by decide +kernel
theorem dX4_place_62 : decode cX4_place 62 = .ok (.iload_n 2, 1) := by decide +kernel
theorem dX4_place_63 : decode cX4_place 63 = .ok (.if_icmp .ge 115, 3) := by decide +kernel
theorem dX4_place_66 : decode cX4_place 66 = .ok (.aload_n 0, 1) := by decide +kernel
theorem dX4_place_67 : decode cX4_place 67 = .ok (.getfield 21, 3) := by decide +kernel
theorem dX4_place_70 : decode cX4_place 70 = .ok (.iload 5, 2) := by decide +kernel
theorem dX4_place_72 : decode cX4_place 72 = .ok (.iaload, 1) := by decide +kernel
theorem dX4_place_73 : decode cX4_place 73 = .ok (.iload 6, 2) := by decide +kernel
theorem dX4_place_75 : decode cX4_place 75 = .ok (.if_icmp .eq 97, 3) := by decide +kernel
theorem dX4_place_78 : decode cX4_place 78 = .ok (.aload_n 0, 1) := by decide +kernel
theorem dX4_place_79 : decode cX4_place 79 = .ok (.iload 6, 2) := by decide +kernel
theorem dX4_place_81 : decode cX4_place 81 = .ok (.iload 5, 2) := by decide +kernel
theorem dX4_place_83 : decode cX4_place 83 = .ok (.invokevirtual 82, 3) := by decide +kernel
theorem dX4_place_86 : decode cX4_place 86 = .ok (.istore 7, 2) := by decide +kernel
theorem dX4_place_88 : decode cX4_place 88 = .ok (.iload 7, 2) := by decide +kernel
theorem dX4_place_90 : decode cX4_place 90 = .ok (.ifCond .ne 14, 3) := by decide +kernel
theorem dX4_place_93 : decode cX4_place 93 = .ok (.aload_n 0, 1) := by decide +kernel
theorem dX4_place_94 : decode cX4_place 94 = .ok (.iload 5, 2) := by decide +kernel
theorem dX4_place_96 : decode cX4_place 96 = .ok (.iload 6, 2) := by decide +kernel
theorem dX4_place_98 : decode cX4_place 98 = .ok (.iload_n 1, 1) := by decide +kernel
theorem dX4_place_99 : decode cX4_place 99 = .ok (.invokevirtual 86, 3) := by decide +kernel
theorem dX4_place_102 : decode cX4_place 102 = .ok (.iconst 1, 1) := by decide +kernel
theorem dX4_place_103 : decode cX4_place 103 = .ok (.ireturn, 1) := by decide +kernel
theorem dX4_place_104 : decode cX4_place 104 = .ok (.iconst 0, 1) := by decide +kernel
theorem dX4_place_105 : decode cX4_place 105 = .ok (.istore 8, 2) := by decide +kernel
theorem dX4_place_107 : decode cX4_place 107 = .ok (.iload 8, 2) := by decide +kernel
theorem dX4_place_109 : decode cX4_place 109 = .ok (.bipush 24, 2) := by decide +kernel
theorem dX4_place_111 : decode cX4_place 111 = .ok (.if_icmp .ge 61, 3) := by decide +kernel
theorem dX4_place_114 : decode cX4_place 114 = .ok (.iload 7, 2) := by decide +kernel
theorem dX4_place_116 : decode cX4_place 116 = .ok (.iload 8, 2) := by decide +kernel
theorem dX4_place_118 : decode cX4_place 118 = .ok (.ishr, 1) := by decide +kernel
theorem dX4_place_119 : decode cX4_place 119 = .ok (.iconst 1, 1) := by decide +kernel
theorem dX4_place_120 : decode cX4_place 120 = .ok (.iand, 1) := by decide +kernel
theorem dX4_place_121 : decode cX4_place 121 = .ok (.iconst 1, 1) := by decide +kernel
theorem dX4_place_122 : decode cX4_place 122 = .ok (.if_icmp .ne 44, 3) := by decide +kernel
theorem dX4_place_125 : decode cX4_place 125 = .ok (.aload_n 0, 1) := by decide +kernel
theorem dX4_place_126 : decode cX4_place 126 = .ok (.getfield 24, 3) := by decide +kernel
theorem dX4_place_129 : decode cX4_place 129 = .ok (.iload 8, 2) := by decide +kernel
theorem dX4_place_131 : decode cX4_place 131 = .ok (.baload, 1) := by decide +kernel
theorem dX4_place_132 : decode cX4_place 132 = .ok (.ifCond .ne 34, 3) := by decide +kernel
theorem dX4_place_135 : decode cX4_place 135 = .ok (.aload_n 0, 1) := by decide +kernel
theorem dX4_place_136 : decode cX4_place 136 = .ok (.getfield 30, 3) := by decide +kernel
theorem dX4_place_139 : decode cX4_place 139 = .ok (.iload 8, 2) := by decide +kernel
theorem dX4_place_141 : decode cX4_place 141 = .ok (.iaload, 1) := by decide +kernel
theorem dX4_place_142 : decode cX4_place 142 = .ok (.ifCond .ge 24, 3) := by decide +kernel
theorem dX4_place_145 : decode cX4_place 145 = .ok (.aload_n 0, 1) := by decide +kernel
theorem dX4_place_146 : decode cX4_place 146 = .ok (.getfield 30, 3) := by decide +kernel
theorem dX4_place_149 : decode cX4_place 149 = .ok (.iload 8, 2) := by decide +kernel
theorem dX4_place_151 : decode cX4_place 151 = .ok (.iload 5, 2) := by decide +kernel
theorem dX4_place_153 : decode cX4_place 153 = .ok (.iastore, 1) := by decide +kernel
theorem dX4_place_154 : decode cX4_place 154 = .ok (.aload_n 0, 1) := by decide +kernel
theorem dX4_place_155 : decode cX4_place 155 = .ok (.getfield 27, 3) := by decide +kernel
theorem dX4_place_158 : decode cX4_place 158 = .ok (.iload 4, 2) := by decide +kernel
theorem dX4_place_160 : decode cX4_place 160 = .ok (.iload 8, 2) := by decide +kernel
theorem dX4_place_162 : decode cX4_place 162 = .ok (.iastore, 1) := by decide +kernel
theorem dX4_place_163 : decode cX4_place 163 = .ok (.iinc 4 1, 3) := by decide +kernel
theorem dX4_place_166 : decode cX4_place 166 = .ok (.iinc 8 1, 3) := by decide +kernel
theorem dX4_place_169 : decode cX4_place 169 = .ok (.goto (-62), 3) := by decide +kernel
theorem dX4_place_172 : decode cX4_place 172 = .ok (.iinc 6 1, 3) := by decide +kernel
theorem dX4_place_175 : decode cX4_place 175 = .ok (.goto (-115), 3) := by decide +kernel
theorem dX4_place_178 : decode cX4_place 178 = .ok (.goto (-138), 3) := by decide +kernel
theorem dX4_place_181 : decode cX4_place 181 = .ok (.iconst 0, 1) := by decide +kernel
theorem dX4_place_182 : decode cX4_place 182 = .ok (.ireturn, 1) := by decide +kernel
theorem dX4_shift_0 : decode cX4_shift 0 = .ok (.iload_n 1, 1) := by decide +kernel
theorem dX4_shift_1 : decode cX4_shift 1 = .ok (.istore 4, 2) := by decide +kernel
theorem dX4_shift_3 : decode cX4_shift 3 = .ok (.iload_n 2, 1) := by decide +kernel
theorem dX4_shift_4 : decode cX4_shift 4 = .ok (.istore 5, 2) := by decide +kernel
theorem dX4_shift_6 : decode cX4_shift 6 = .ok (.iconst 1, 1) := by decide +kernel
theorem dX4_shift_7 : decode cX4_shift 7 = .ok (.istore 6, 2) := by decide +kernel
theorem dX4_shift_9 : decode cX4_shift 9 = .ok (.iload 6, 2) := by decide +kernel
theorem dX4_shift_11 : decode cX4_shift 11 = .ok (.ifCond .eq 50, 3) := by decide +kernel
theorem dX4_shift_14 : decode cX4_shift 14 = .ok (.aload_n 0, 1) := by decide +kernel
theorem dX4_shift_15 : decode cX4_shift 15 = .ok (.getfield 21, 3) := by decide +kernel
theorem dX4_shift_18 : decode cX4_shift 18 = .ok (.iload 4, 2) := by decide +kernel
theorem dX4_shift_20 : decode cX4_shift 20 = .ok (.iaload, 1) := by decide +kernel
theorem dX4_shift_21 : decode cX4_shift 21 = .ok (.istore 7, 2) := by decide +kernel
theorem dX4_shift_23 : decode cX4_shift 23 = .ok (.aload_n 0, 1) := by decide +kernel
theorem dX4_shift_24 : decode cX4_shift 24 = .ok (.getfield 21, 3) := by decide +kernel
theorem dX4_shift_27 : decode cX4_shift 27 = .ok (.iload 4, 2) := by decide +kernel
theorem dX4_shift_29 : decode cX4_shift 29 = .ok (.iload 5, 2) := by decide +kernel
theorem dX4_shift_31 : decode cX4_shift 31 = .ok (.iastore, 1) := by decide +kernel
theorem dX4_shift_32 : decode cX4_shift 32 = .ok (.iload 7, 2) := by decide +kernel
theorem dX4_shift_34 : decode cX4_shift 34 = .ok (.istore 5, 2) := by decide +kernel
theorem dX4_shift_36 : decode cX4_shift 36 = .ok (.iload 4, 2) := by decide +kernel
theorem dX4_shift_38 : decode cX4_shift 38 = .ok (.iload_n 3, 1) := by decide +kernel
theorem dX4_shift_39 : decode cX4_shift 39 = .ok (.if_icmp .eq 7, 3) := by decide +kernel
theorem dX4_shift_42 : decode cX4_shift 42 = .ok (.iconst 1, 1) := by decide +kernel
theorem dX4_shift_43 : decode cX4_shift 43 = .ok (.goto 4, 3) := by decide +kernel
theorem dX4_shift_46 : decode cX4_shift 46 = .ok (.iconst 0, 1) := by decide +kernel
theorem dX4_shift_47 : decode cX4_shift 47 = .ok (.istore 6, 2) := by decide +kernel
theorem dX4_shift_49 : decode cX4_shift 49 = .ok (.aload_n 0, 1) := by decide +kernel
theorem dX4_shift_50 : decode cX4_shift 50 = .ok (.getfield 30, 3) := by decide +kernel
theorem dX4_shift_53 : decode cX4_shift 53 = .ok (.iload 4, 2) := by decide +kernel
theorem dX4_shift_55 : decode cX4_shift 55 = .ok (.iaload, 1) := by decide +kernel
theorem dX4_shift_56 : decode cX4_shift 56 = .ok (.istore 4, 2) := by decide +kernel
theorem dX4_shift_58 : decode cX4_shift 58 = .ok (.goto (-49), 3) := by decide +kernel
theorem dX4_shift_61 : decode cX4_shift 61 = .ok (.return_, 1) := by decide +kernel
theorem dX4_move_0 : decode cX4_move 0 = .ok (.iconst 0, 1) := by decide +kernel
theorem dX4_move_1 : decode cX4_move 1 = .ok (.istore 4, 2) := by decide +kernel
theorem dX4_move_3 : decode cX4_move 3 = .ok (.iload 4, 2) := by decide +kernel
theorem dX4_move_5 : decode cX4_move 5 = .ok (.bipush 24, 2) := by decide +kernel
theorem dX4_move_7 : decode cX4_move 7 = .ok (.if_icmp .ge 23, 3) := by decide +kernel
theorem dX4_move_10 : decode cX4_move 10 = .ok (.aload_n 0, 1) := by decide +kernel
theorem dX4_move_11 : decode cX4_move 11 = .ok (.getfield 39, 3) := by decide +kernel
theorem dX4_move_14 : decode cX4_move 14 = .ok (.iload 4, 2) := by decide +kernel
theorem dX4_move_16 : decode cX4_move 16 = .ok (.aload_n 0, 1) := by decide +kernel
theorem dX4_move_17 : decode cX4_move 17 = .ok (.getfield 21, 3) := by decide +kernel
theorem dX4_move_20 : decode cX4_move 20 = .ok (.iload 4, 2) := by decide +kernel
theorem dX4_move_22 : decode cX4_move 22 = .ok (.iaload, 1) := by decide +kernel
theorem dX4_move_23 : decode cX4_move 23 = .ok (.iastore, 1) := by decide +kernel
theorem dX4_move_24 : decode cX4_move 24 = .ok (.iinc 4 1, 3) := by decide +kernel
theorem dX4_move_27 : decode cX4_move 27 = .ok (.goto (-24), 3) := by decide +kernel
theorem dX4_move_30 : decode cX4_move 30 = .ok (.aload_n 0, 1) := by decide +kernel
theorem dX4_move_31 : decode cX4_move 31 = .ok (.iload_n 2, 1) := by decide +kernel
theorem dX4_move_32 : decode cX4_move 32 = .ok (.iload_n 1, 1) := by decide +kernel
theorem dX4_move_33 : decode cX4_move 33 = .ok (.invokevirtual 82, 3) := by decide +kernel
theorem dX4_move_36 : decode cX4_move 36 = .ok (.istore 4, 2) := by decide +kernel
theorem dX4_move_38 : decode cX4_move 38 = .ok (.aload_n 0, 1) := by decide +kernel
theorem dX4_move_39 : decode cX4_move 39 = .ok (.getfield 21, 3) := by decide +kernel
theorem dX4_move_42 : decode cX4_move 42 = .ok (.iload_n 1, 1) := by decide +kernel
theorem dX4_move_43 : decode cX4_move 43 = .ok (.iload_n 2, 1) := by decide +kernel
theorem dX4_move_44 : decode cX4_move 44 = .ok (.iastore, 1) := by decide +kernel
theorem dX4_move_45 : decode cX4_move 45 = .ok (.aload_n 0, 1) := by decide +kernel
theorem dX4_move_46 : decode cX4_move 46 = .ok (.getfield 24, 3) := by decide +kernel
theorem dX4_move_49 : decode cX4_move 49 = .ok (.iload_n 1, 1) := by decide +kernel
theorem dX4_move_50 : decode cX4_move 50 = .ok (.iconst 1, 1) := by decide +kernel
theorem dX4_move_51 : decode cX4_move 51 = .ok (.bastore, 1) := by decide +kernel
theorem dX4_move_52 : decode cX4_move 52 = .ok (.iconst (-1), 1) := by decide +kernel
theorem dX4_move_53 : decode cX4_move 53 = .ok (.istore 5, 2) := by decide +kernel
theorem dX4_move_55 : decode cX4_move 55 = .ok (.iconst 0, 1) := by decide +kernel
theorem dX4_move_56 : decode cX4_move 56 = .ok (.istore 6, 2) := by decide +kernel
theorem dX4_move_58 : decode cX4_move 58 = .ok (.iload 6, 2) := by decide +kernel
theorem dX4_move_60 : decode cX4_move 60 = .ok (.bipush 24, 2) := by decide +kernel
theorem dX4_move_62 : decode cX4_move 62 = .ok (.if_icmp .ge 39, 3) := by decide +kernel
theorem dX4_move_65 : decode cX4_move 65 = .ok (.iload 4, 2) := by decide +kernel
theorem dX4_move_67 : decode cX4_move 67 = .ok (.iload 6, 2) := by decide +kernel
theorem dX4_move_69 : decode cX4_move 69 = .ok (.ishr, 1) := by decide +kernel
theorem dX4_move_70 : decode cX4_move 70 = .ok (.iconst 1, 1) := by decide +kernel
theorem dX4_move_71 : decode cX4_move 71 = .ok (.iand, 1) := by decide +kernel
theorem dX4_move_72 : decode cX4_move 72 = .ok (.iconst 1, 1) := by decide +kernel
theorem dX4_move_73 : decode cX4_move 73 = .ok (.if_icmp .ne 18, 3) := by decide +kernel
theorem dX4_move_76 : decode cX4_move 76 = .ok (.aload_n 0, 1) := by decide +kernel
theorem dX4_move_77 : decode cX4_move 77 = .ok (.getfield 24, 3) := by decide +kernel
theorem dX4_move_80 : decode cX4_move 80 = .ok (.iload 6, 2) := by decide +kernel
theorem dX4_move_82 : decode cX4_move 82 = .ok (.baload, 1) := by decide +kernel
theorem dX4_move_83 : decode cX4_move 83 = .ok (.ifCond .ne 8, 3) := by decide +kernel
theorem dX4_move_86 : decode cX4_move 86 = .ok (.iload 6, 2) := by decide +kernel
theorem dX4_move_88 : decode cX4_move 88 = .ok (.goto 5, 3) := by decide +kernel
theorem dX4_move_91 : decode cX4_move 91 = .ok (.iload 5, 2) := by decide +kernel
theorem dX4_move_93 : decode cX4_move 93 = .ok (.istore 5, 2) := by decide +kernel
theorem dX4_move_95 : decode cX4_move 95 = .ok (.iinc 6 1, 3) := by decide +kernel
theorem dX4_move_98 : decode cX4_move 98 = .ok (.goto (-40), 3) := by decide +kernel
theorem dX4_move_101 : decode cX4_move 101 = .ok (.iload 4, 2) := by decide +kernel
theorem dX4_move_103 : decode cX4_move 103 = .ok (.ifCond .ne 7, 3) := by decide +kernel
theorem dX4_move_106 : decode cX4_move 106 = .ok (.iconst 1, 1) := by decide +kernel
theorem dX4_move_107 : decode cX4_move 107 = .ok (.goto 4, 3) := by decide +kernel
theorem dX4_move_110 : decode cX4_move 110 = .ok (.iconst 0, 1) := by decide +kernel
theorem dX4_move_111 : decode cX4_move 111 = .ok (.istore 6, 2) := by decide +kernel
theorem dX4_move_113 : decode cX4_move 113 = .ok (.iload 5, 2) := by decide +kernel
theorem dX4_move_115 : decode cX4_move 115 = .ok (.ifCond .lt 20, 3) := by decide +kernel
theorem dX4_move_118 : decode cX4_move 118 = .ok (.aload_n 0, 1) := by decide +kernel
theorem dX4_move_119 : decode cX4_move 119 = .ok (.getfield 21, 3) := by decide +kernel
theorem dX4_move_122 : decode cX4_move 122 = .ok (.iload 5, 2) := by decide +kernel
theorem dX4_move_124 : decode cX4_move 124 = .ok (.iconst (-1), 1) := by decide +kernel
theorem dX4_move_125 : decode cX4_move 125 = .ok (.iastore, 1) := by decide +kernel
theorem dX4_move_126 : decode cX4_move 126 = .ok (.aload_n 0, 1) := by decide +kernel
theorem dX4_move_127 : decode cX4_move 127 = .ok (.iload 5, 2) := by decide +kernel
theorem dX4_move_129 : decode cX4_move 129 = .ok (.iload_n 3, 1) := by decide +kernel
theorem dX4_move_130 : decode cX4_move 130 = .ok (.invokevirtual 90, 3) := by decide +kernel
theorem dX4_move_133 : decode cX4_move 133 = .ok (.istore 6, 2) := by decide +kernel
theorem dX4_move_135 : decode cX4_move 135 = .ok (.iload 6, 2) := by decide +kernel
theorem dX4_move_137 : decode cX4_move 137 = .ok (.ifCond .ne 33, 3) := by decide +kernel
theorem dX4_move_140 : decode cX4_move 140 = .ok (.iconst 0, 1) := by decide +kernel
theorem dX4_move_141 : decode cX4_move 141 = .ok (.istore 7, 2) := by decide +kernel
theorem dX4_move_143 : decode cX4_move 143 = .ok (.iload 7, 2) := by decide +kernel
theorem dX4_move_145 : decode cX4_move 145 = .ok (.bipush 24, 2) := by decide +kernel
theorem dX4_move_147 : decode cX4_move 147 = .ok (.if_icmp .ge 23, 3) := by decide +kernel
theorem dX4_move_150 : decode cX4_move 150 = .ok (.aload_n 0, 1) := by decide +kernel
theorem dX4_move_151 : decode cX4_move 151 = .ok (.getfield 21, 3) := by decide +kernel
theorem dX4_move_154 : decode cX4_move 154 = .ok (.iload 7, 2) := by decide +kernel
theorem dX4_move_156 : decode cX4_move 156 = .ok (.aload_n 0, 1) := by decide +kernel
theorem dX4_move_157 : decode cX4_move 157 = .ok (.getfield 39, 3) := by decide +kernel
theorem dX4_move_160 : decode cX4_move 160 = .ok (.iload 7, 2) := by decide +kernel
theorem dX4_move_162 : decode cX4_move 162 = .ok (.iaload, 1) := by decide +kernel
theorem dX4_move_163 : decode cX4_move 163 = .ok (.iastore, 1) := by decide +kernel
theorem dX4_move_164 : decode cX4_move 164 = .ok (.iinc 7 1, 3) := by decide +kernel
theorem dX4_move_167 : decode cX4_move 167 = .ok (.goto (-24), 3) := by decide +kernel
theorem dX4_move_170 : decode cX4_move 170 = .ok (.aload_n 0, 1) := by decide +kernel
theorem dX4_move_171 : decode cX4_move 171 = .ok (.getfield 24, 3) := by decide +kernel
theorem dX4_move_174 : decode cX4_move 174 = .ok (.iload_n 1, 1) := by decide +kernel
theorem dX4_move_175 : decode cX4_move 175 = .ok (.iload 6, 2) := by decide +kernel
theorem dX4_move_177 : decode cX4_move 177 = .ok (.bastore, 1) := by decide +kernel
theorem dX4_move_178 : decode cX4_move 178 = .ok (.iload 6, 2) := by decide +kernel
theorem dX4_move_180 : decode cX4_move 180 = .ok (.ireturn, 1) := by decide +kernel
theorem dX4_part_0 : decode cX4_part 0 = .ok (.aload_n 0, 1) := by decide +kernel
theorem dX4_part_1 : decode cX4_part 1 = .ok (.iload_n 1, 1) := by decide +kernel
theorem dX4_part_2 : decode cX4_part 2 = .ok (.invokevirtual 75, 3) := by decide +kernel
theorem dX4_part_5 : decode cX4_part 5 = .ok (.iconst 0, 1) := by decide +kernel
theorem dX4_part_6 : decode cX4_part 6 = .ok (.istore_n 2, 1) := by decide +kernel
theorem dX4_part_7 : decode cX4_part 7 = .ok (.iload_n 2, 1) := by decide +kernel
theorem dX4_part_8 : decode cX4_part 8 = .ok (.bipush 24, 2) := by decide +kernel
theorem dX4_part_10 : decode cX4_part 10 = .ok (.if_icmp .ge 23, 3) := by decide +kernel
theorem dX4_part_13 : decode cX4_part 13 = .ok (.aload_n 0, 1) := by decide +kernel
theorem dX4_part_14 : decode cX4_part 14 = .ok (.getfield 21, 3) := by decide +kernel
theorem dX4_part_17 : decode cX4_part 17 = .ok (.iload_n 2, 1) := by decide +kernel
theorem dX4_part_18 : decode cX4_part 18 = .ok (.iconst (-1), 1) := by decide +kernel
theorem dX4_part_19 : decode cX4_part 19 = .ok (.iastore, 1) := by decide +kernel
theorem dX4_part_20 : decode cX4_part 20 = .ok (.aload_n 0, 1) := by decide +kernel
theorem dX4_part_21 : decode cX4_part 21 = .ok (.getfield 24, 3) := by decide +kernel
theorem dX4_part_24 : decode cX4_part 24 = .ok (.iload_n 2, 1) := by decide +kernel
theorem dX4_part_25 : decode cX4_part 25 = .ok (.iconst 0, 1) := by decide +kernel
theorem dX4_part_26 : decode cX4_part 26 = .ok (.bastore, 1) := by decide +kernel
theorem dX4_part_27 : decode cX4_part 27 = .ok (.iinc 2 1, 3) := by decide +kernel
theorem dX4_part_30 : decode cX4_part 30 = .ok (.goto (-23), 3) := by decide +kernel
theorem dX4_part_33 : decode cX4_part 33 = .ok (.iconst 1, 1) := by decide +kernel
theorem dX4_part_34 : decode cX4_part 34 = .ok (.istore_n 2, 1) := by decide +kernel
theorem dX4_part_35 : decode cX4_part 35 = .ok (.iconst 0, 1) := by decide +kernel
theorem dX4_part_36 : decode cX4_part 36 = .ok (.istore_n 3, 1) := by decide +kernel
theorem dX4_part_37 : decode cX4_part 37 = .ok (.iload_n 3, 1) := by decide +kernel
theorem dX4_part_38 : decode cX4_part 38 = .ok (.bipush 24, 2) := by decide +kernel
theorem dX4_part_40 : decode cX4_part 40 = .ok (.if_icmp .ge 40, 3) := by decide +kernel
theorem dX4_part_43 : decode cX4_part 43 = .ok (.aload_n 0, 1) := by decide +kernel
theorem dX4_part_44 : decode cX4_part 44 = .ok (.getfield 65, 3) := by decide +kernel
theorem dX4_part_47 : decode cX4_part 47 = .ok (.iload_n 3, 1) := by decide +kernel
theorem dX4_part_48 : decode cX4_part 48 = .ok (.ishr, 1) := by decide +kernel
theorem dX4_part_49 : decode cX4_part 49 = .ok (.iconst 1, 1) := by decide +kernel
theorem dX4_part_50 : decode cX4_part 50 = .ok (.iand, 1) := by decide +kernel
theorem dX4_part_51 : decode cX4_part 51 = .ok (.iconst 1, 1) := by decide +kernel
theorem dX4_part_52 : decode cX4_part 52 = .ok (.if_icmp .ne 22, 3) := by decide +kernel
theorem dX4_part_55 : decode cX4_part 55 = .ok (.aload_n 0, 1) := by decide +kernel
theorem dX4_part_56 : decode cX4_part 56 = .ok (.iload_n 3, 1) := by decide +kernel
theorem dX4_part_57 : decode cX4_part 57 = .ok (.iload_n 1, 1) := by decide +kernel
theorem dX4_part_58 : decode cX4_part 58 = .ok (.invokevirtual 90, 3) := by decide +kernel
theorem dX4_part_61 : decode cX4_part 61 = .ok (.ifCond .eq 11, 3) := by decide +kernel
theorem dX4_part_64 : decode cX4_part 64 = .ok (.iload_n 2, 1) := by decide +kernel
theorem dX4_part_65 : decode cX4_part 65 = .ok (.ifCond .eq 7, 3) := by decide +kernel
theorem dX4_part_68 : decode cX4_part 68 = .ok (.iconst 1, 1) := by decide +kernel
theorem dX4_part_69 : decode cX4_part 69 = .ok (.goto 4, 3) := by decide +kernel
theorem dX4_part_72 : decode cX4_part 72 = .ok (.iconst 0, 1) := by decide +kernel
theorem dX4_part_73 : decode cX4_part 73 = .ok (.istore_n 2, 1) := by decide +kernel
theorem dX4_part_74 : decode cX4_part 74 = .ok (.iinc 3 1, 3) := by decide +kernel
theorem dX4_part_77 : decode cX4_part 77 = .ok (.goto (-40), 3) := by decide +kernel
theorem dX4_part_80 : decode cX4_part 80 = .ok (.iconst 0, 1) := by decide +kernel
theorem dX4_part_81 : decode cX4_part 81 = .ok (.istore_n 3, 1) := by decide +kernel
theorem dX4_part_82 : decode cX4_part 82 = .ok (.iload_n 3, 1) := by decide +kernel
theorem dX4_part_83 : decode cX4_part 83 = .ok (.bipush 24, 2) := by decide +kernel
theorem dX4_part_85 : decode cX4_part 85 = .ok (.if_icmp .ge 88, 3) := by decide +kernel
theorem dX4_part_88 : decode cX4_part 88 = .ok (.iload_n 2, 1) := by decide +kernel
theorem dX4_part_89 : decode cX4_part 89 = .ok (.ifCond .eq 84, 3) := by decide +kernel
theorem dX4_part_92 : decode cX4_part 92 = .ok (.aload_n 0, 1) := by decide +kernel
theorem dX4_part_93 : decode cX4_part 93 = .ok (.getfield 65, 3) := by decide +kernel
theorem dX4_part_96 : decode cX4_part 96 = .ok (.iload_n 3, 1) := by decide +kernel
theorem dX4_part_97 : decode cX4_part 97 = .ok (.ishr, 1) := by decide +kernel
theorem dX4_part_98 : decode cX4_part 98 = .ok (.iconst 1, 1) := by decide +kernel
theorem dX4_part_99 : decode cX4_part 99 = .ok (.iand, 1) := by decide +kernel
theorem dX4_part_100 : decode cX4_part 100 = .ok (.ifCond .ne 7, 3) := by decide +kernel
theorem dX4_part_103 : decode cX4_part 103 = .ok (.iconst 1, 1) := by decide +kernel
theorem dX4_part_104 : decode cX4_part 104 = .ok (.goto 4, 3) := by decide +kernel
theorem dX4_part_107 : decode cX4_part 107 = .ok (.iconst 0, 1) := by decide +kernel
theorem dX4_part_108 : decode cX4_part 108 = .ok (.istore 4, 2) := by decide +kernel
theorem dX4_part_110 : decode cX4_part 110 = .ok (.iconst 0, 1) := by decide +kernel
theorem dX4_part_111 : decode cX4_part 111 = .ok (.istore 5, 2) := by decide +kernel
theorem dX4_part_113 : decode cX4_part 113 = .ok (.iload 5, 2) := by decide +kernel
theorem dX4_part_115 : decode cX4_part 115 = .ok (.iload_n 1, 1) := by decide +kernel
theorem dX4_part_116 : decode cX4_part 116 = .ok (.if_icmp .ge 51, 3) := by decide +kernel
theorem dX4_part_119 : decode cX4_part 119 = .ok (.iload 4, 2) := by decide +kernel
theorem dX4_part_121 : decode cX4_part 121 = .ok (.ifCond .ne 46, 3) := by decide +kernel
theorem dX4_part_124 : decode cX4_part 124 = .ok (.aload_n 0, 1) := by decide +kernel
theorem dX4_part_125 : decode cX4_part 125 = .ok (.getfield 21, 3) := by decide +kernel
theorem dX4_part_128 : decode cX4_part 128 = .ok (.iload_n 3, 1) := by decide +kernel
theorem dX4_part_129 : decode cX4_part 129 = .ok (.iaload, 1) := by decide +kernel
theorem dX4_part_130 : decode cX4_part 130 = .ok (.iload 5, 2) := by decide +kernel
theorem dX4_part_132 : decode cX4_part 132 = .ok (.if_icmp .eq 14, 3) := by decide +kernel
theorem dX4_part_135 : decode cX4_part 135 = .ok (.aload_n 0, 1) := by decide +kernel
theorem dX4_part_136 : decode cX4_part 136 = .ok (.iload_n 3, 1) := by decide +kernel
theorem dX4_part_137 : decode cX4_part 137 = .ok (.iload 5, 2) := by decide +kernel
theorem dX4_part_139 : decode cX4_part 139 = .ok (.iload_n 1, 1) := by decide +kernel
theorem dX4_part_140 : decode cX4_part 140 = .ok (.invokevirtual 94, 3) := by decide +kernel
theorem dX4_part_143 : decode cX4_part 143 = .ok (.ifCond .eq 7, 3) := by decide +kernel
theorem dX4_part_146 : decode cX4_part 146 = .ok (.iconst 1, 1) := by decide +kernel
theorem dX4_part_147 : decode cX4_part 147 = .ok (.goto 4, 3) := by decide +kernel
theorem dX4_part_150 : decode cX4_part 150 = .ok (.iconst 0, 1) := by decide +kernel
theorem dX4_part_151 : decode cX4_part 151 = .ok (.istore 4, 2) := by decide +kernel
theorem dX4_part_153 : decode cX4_part 153 = .ok (.aload_n 0, 1) := by decide +kernel
theorem dX4_part_154 : decode cX4_part 154 = .ok (.getfield 24, 3) := by decide +kernel
theorem dX4_part_157 : decode cX4_part 157 = .ok (.iload_n 3, 1) := by decide +kernel
theorem dX4_part_158 : decode cX4_part 158 = .ok (.iload 4, 2) := by decide +kernel
theorem dX4_part_160 : decode cX4_part 160 = .ok (.bastore, 1) := by decide +kernel
theorem dX4_part_161 : decode cX4_part 161 = .ok (.iinc 5 1, 3) := by decide +kernel
theorem dX4_part_164 : decode cX4_part 164 = .ok (.goto (-51), 3) := by decide +kernel
theorem dX4_part_167 : decode cX4_part 167 = .ok (.iinc 3 1, 3) := by decide +kernel
theorem dX4_part_170 : decode cX4_part 170 = .ok (.goto (-88), 3) := by decide +kernel
theorem dX4_part_173 : decode cX4_part 173 = .ok (.return_, 1) := by decide +kernel
theorem dX4_forest_0 : decode cX4_forest 0 = .ok (.iload_n 1, 1) := by decide +kernel
theorem dX4_forest_1 : decode cX4_forest 1 = .ok (.invokestatic 72, 3) := by decide +kernel
theorem dX4_forest_4 : decode cX4_forest 4 = .ok (.ifCond .ne 6, 3) := by decide +kernel
theorem dX4_forest_7 : decode cX4_forest 7 = .ok (.bipush (-2), 2) := by decide +kernel
theorem dX4_forest_9 : decode cX4_forest 9 = .ok (.ireturn, 1) := by decide +kernel
theorem dX4_forest_10 : decode cX4_forest 10 = .ok (.aload_n 0, 1) := by decide +kernel
theorem dX4_forest_11 : decode cX4_forest 11 = .ok (.iload_n 2, 1) := by decide +kernel
theorem dX4_forest_12 : decode cX4_forest 12 = .ok (.invokevirtual 54, 3) := by decide +kernel
theorem dX4_forest_15 : decode cX4_forest 15 = .ok (.ifCond .ne 5, 3) := by decide +kernel
theorem dX4_forest_18 : decode cX4_forest 18 = .ok (.iconst (-1), 1) := by decide +kernel
theorem dX4_forest_19 : decode cX4_forest 19 = .ok (.ireturn, 1) := by decide +kernel
theorem dX4_forest_20 : decode cX4_forest 20 = .ok (.aload_n 0, 1) := by decide +kernel
theorem dX4_forest_21 : decode cX4_forest 21 = .ok (.iload_n 1, 1) := by decide +kernel
theorem dX4_forest_22 : decode cX4_forest 22 = .ok (.invokevirtual 97, 3) := by decide +kernel
theorem dX4_forest_25 : decode cX4_forest 25 = .ok (.aload_n 0, 1) := by decide +kernel
theorem dX4_forest_26 : decode cX4_forest 26 = .ok (.getfield 65, 3) := by decide +kernel
theorem dX4_forest_29 : decode cX4_forest 29 = .ok (.iload_n 2, 1) := by decide +kernel
theorem dX4_forest_30 : decode cX4_forest 30 = .ok (.ishr, 1) := by decide +kernel
theorem dX4_forest_31 : decode cX4_forest 31 = .ok (.iconst 1, 1) := by decide +kernel
theorem dX4_forest_32 : decode cX4_forest 32 = .ok (.iand, 1) := by decide +kernel
theorem dX4_forest_33 : decode cX4_forest 33 = .ok (.iconst 1, 1) := by decide +kernel
theorem dX4_forest_34 : decode cX4_forest 34 = .ok (.if_icmp .ne 12, 3) := by decide +kernel
theorem dX4_forest_37 : decode cX4_forest 37 = .ok (.aload_n 0, 1) := by decide +kernel
theorem dX4_forest_38 : decode cX4_forest 38 = .ok (.getfield 21, 3) := by decide +kernel
theorem dX4_forest_41 : decode cX4_forest 41 = .ok (.iload_n 2, 1) := by decide +kernel
theorem dX4_forest_42 : decode cX4_forest 42 = .ok (.iaload, 1) := by decide +kernel
theorem dX4_forest_43 : decode cX4_forest 43 = .ok (.goto 4, 3) := by decide +kernel
theorem dX4_forest_46 : decode cX4_forest 46 = .ok (.iconst (-1), 1) := by decide +kernel
theorem dX4_forest_47 : decode cX4_forest 47 = .ok (.ireturn, 1) := by decide +kernel
theorem dX4_whyBits_0 : decode cX4_whyBits 0 = .ok (.iconst 1, 1) := by decide +kernel
theorem dX4_whyBits_1 : decode cX4_whyBits 1 = .ok (.iload_n 2, 1) := by decide +kernel
theorem dX4_whyBits_2 : decode cX4_whyBits 2 = .ok (.ishl, 1) := by decide +kernel
theorem dX4_whyBits_3 : decode cX4_whyBits 3 = .ok (.istore_n 3, 1) := by decide +kernel
theorem dX4_whyBits_4 : decode cX4_whyBits 4 = .ok (.iconst 0, 1) := by decide +kernel
theorem dX4_whyBits_5 : decode cX4_whyBits 5 = .ok (.istore 4, 2) := by decide +kernel
theorem dX4_whyBits_7 : decode cX4_whyBits 7 = .ok (.iload 4, 2) := by decide +kernel
theorem dX4_whyBits_9 : decode cX4_whyBits 9 = .ok (.bipush 24, 2) := by decide +kernel
theorem dX4_whyBits_11 : decode cX4_whyBits 11 = .ok (.if_icmp .ge 54, 3) := by decide +kernel
theorem dX4_whyBits_14 : decode cX4_whyBits 14 = .ok (.aload_n 0, 1) := by decide +kernel
theorem dX4_whyBits_15 : decode cX4_whyBits 15 = .ok (.getfield 65, 3) := by decide +kernel
theorem dX4_whyBits_18 : decode cX4_whyBits 18 = .ok (.iload 4, 2) := by decide +kernel
theorem dX4_whyBits_20 : decode cX4_whyBits 20 = .ok (.ishr, 1) := by decide +kernel
theorem dX4_whyBits_21 : decode cX4_whyBits 21 = .ok (.iconst 1, 1) := by decide +kernel
theorem dX4_whyBits_22 : decode cX4_whyBits 22 = .ok (.iand, 1) := by decide +kernel
theorem dX4_whyBits_23 : decode cX4_whyBits 23 = .ok (.iconst 1, 1) := by decide +kernel
theorem dX4_whyBits_24 : decode cX4_whyBits 24 = .ok (.if_icmp .ne 35, 3) := by decide +kernel
theorem dX4_whyBits_27 : decode cX4_whyBits 27 = .ok (.aload_n 0, 1) := by decide +kernel
theorem dX4_whyBits_28 : decode cX4_whyBits 28 = .ok (.aload_n 0, 1) := by decide +kernel
theorem dX4_whyBits_29 : decode cX4_whyBits 29 = .ok (.getfield 65, 3) := by decide +kernel
theorem dX4_whyBits_32 : decode cX4_whyBits 32 = .ok (.iconst 1, 1) := by decide +kernel
theorem dX4_whyBits_33 : decode cX4_whyBits 33 = .ok (.iload 4, 2) := by decide +kernel
theorem dX4_whyBits_35 : decode cX4_whyBits 35 = .ok (.ishl, 1) := by decide +kernel
theorem dX4_whyBits_36 : decode cX4_whyBits 36 = .ok (.iconst (-1), 1) := by decide +kernel
theorem dX4_whyBits_37 : decode cX4_whyBits 37 = .ok (.ixor, 1) := by decide +kernel
theorem dX4_whyBits_38 : decode cX4_whyBits 38 = .ok (.iand, 1) := by decide +kernel
theorem dX4_whyBits_39 : decode cX4_whyBits 39 = .ok (.iconst 1, 1) := by decide +kernel
theorem dX4_whyBits_40 : decode cX4_whyBits 40 = .ok (.iload_n 2, 1) := by decide +kernel
theorem dX4_whyBits_41 : decode cX4_whyBits 41 = .ok (.ishl, 1) := by decide +kernel
theorem dX4_whyBits_42 : decode cX4_whyBits 42 = .ok (.ior, 1) := by decide +kernel
theorem dX4_whyBits_43 : decode cX4_whyBits 43 = .ok (.iload_n 1, 1) := by decide +kernel
theorem dX4_whyBits_44 : decode cX4_whyBits 44 = .ok (.iconst (-1), 1) := by decide +kernel
theorem dX4_whyBits_45 : decode cX4_whyBits 45 = .ok (.iconst (-1), 1) := by decide +kernel
theorem dX4_whyBits_46 : decode cX4_whyBits 46 = .ok (.invokevirtual 68, 3) := by decide +kernel
theorem dX4_whyBits_49 : decode cX4_whyBits 49 = .ok (.ifCond .eq 10, 3) := by decide +kernel
theorem dX4_whyBits_52 : decode cX4_whyBits 52 = .ok (.iload_n 3, 1) := by decide +kernel
theorem dX4_whyBits_53 : decode cX4_whyBits 53 = .ok (.iconst 1, 1) := by decide +kernel
theorem dX4_whyBits_54 : decode cX4_whyBits 54 = .ok (.iload 4, 2) := by decide +kernel
theorem dX4_whyBits_56 : decode cX4_whyBits 56 = .ok (.ishl, 1) := by decide +kernel
theorem dX4_whyBits_57 : decode cX4_whyBits 57 = .ok (.ior, 1) := by decide +kernel
theorem dX4_whyBits_58 : decode cX4_whyBits 58 = .ok (.istore_n 3, 1) := by decide +kernel
theorem dX4_whyBits_59 : decode cX4_whyBits 59 = .ok (.iinc 4 1, 3) := by decide +kernel
theorem dX4_whyBits_62 : decode cX4_whyBits 62 = .ok (.goto (-55), 3) := by decide +kernel
theorem dX4_whyBits_65 : decode cX4_whyBits 65 = .ok (.iload_n 3, 1) := by decide +kernel
theorem dX4_whyBits_66 : decode cX4_whyBits 66 = .ok (.ireturn, 1) := by decide +kernel
theorem dX4_why_0 : decode cX4_why 0 = .ok (.iload_n 1, 1) := by decide +kernel
theorem dX4_why_1 : decode cX4_why 1 = .ok (.invokestatic 72, 3) := by decide +kernel
theorem dX4_why_4 : decode cX4_why 4 = .ok (.ifCond .ne 6, 3) := by decide +kernel
theorem dX4_why_7 : decode cX4_why 7 = .ok (.bipush (-2), 2) := by decide +kernel
theorem dX4_why_9 : decode cX4_why 9 = .ok (.ireturn, 1) := by decide +kernel
theorem dX4_why_10 : decode cX4_why 10 = .ok (.aload_n 0, 1) := by decide +kernel
theorem dX4_why_11 : decode cX4_why 11 = .ok (.iload_n 2, 1) := by decide +kernel
theorem dX4_why_12 : decode cX4_why 12 = .ok (.invokevirtual 54, 3) := by decide +kernel
theorem dX4_why_15 : decode cX4_why 15 = .ok (.ifCond .eq 16, 3) := by decide +kernel
theorem dX4_why_18 : decode cX4_why 18 = .ok (.iload_n 3, 1) := by decide +kernel
theorem dX4_why_19 : decode cX4_why 19 = .ok (.iconst (-1), 1) := by decide +kernel
theorem dX4_why_20 : decode cX4_why 20 = .ok (.if_icmp .eq 13, 3) := by decide +kernel
theorem dX4_why_23 : decode cX4_why 23 = .ok (.aload_n 0, 1) := by decide +kernel
theorem dX4_why_24 : decode cX4_why 24 = .ok (.iload_n 3, 1) := by decide +kernel
theorem dX4_why_25 : decode cX4_why 25 = .ok (.invokevirtual 54, 3) := by decide +kernel
theorem dX4_why_28 : decode cX4_why 28 = .ok (.ifCond .ne 5, 3) := by decide +kernel
theorem dX4_why_31 : decode cX4_why 31 = .ok (.iconst (-1), 1) := by decide +kernel
theorem dX4_why_32 : decode cX4_why 32 = .ok (.ireturn, 1) := by decide +kernel
theorem dX4_why_33 : decode cX4_why 33 = .ok (.aload_n 0, 1) := by decide +kernel
theorem dX4_why_34 : decode cX4_why 34 = .ok (.iload_n 1, 1) := by decide +kernel
theorem dX4_why_35 : decode cX4_why 35 = .ok (.invokevirtual 75, 3) := by decide +kernel
theorem dX4_why_38 : decode cX4_why 38 = .ok (.aload_n 0, 1) := by decide +kernel
theorem dX4_why_39 : decode cX4_why 39 = .ok (.getfield 65, 3) := by decide +kernel
theorem dX4_why_42 : decode cX4_why 42 = .ok (.iload_n 2, 1) := by decide +kernel
theorem dX4_why_43 : decode cX4_why 43 = .ok (.ishr, 1) := by decide +kernel
theorem dX4_why_44 : decode cX4_why 44 = .ok (.iconst 1, 1) := by decide +kernel
theorem dX4_why_45 : decode cX4_why 45 = .ok (.iand, 1) := by decide +kernel
theorem dX4_why_46 : decode cX4_why 46 = .ok (.iconst 1, 1) := by decide +kernel
theorem dX4_why_47 : decode cX4_why 47 = .ok (.if_icmp .ne 5, 3) := by decide +kernel
theorem dX4_why_50 : decode cX4_why 50 = .ok (.iconst (-1), 1) := by decide +kernel
theorem dX4_why_51 : decode cX4_why 51 = .ok (.ireturn, 1) := by decide +kernel
theorem dX4_why_52 : decode cX4_why 52 = .ok (.aload_n 0, 1) := by decide +kernel
theorem dX4_why_53 : decode cX4_why 53 = .ok (.iload_n 1, 1) := by decide +kernel
theorem dX4_why_54 : decode cX4_why 54 = .ok (.iload_n 2, 1) := by decide +kernel
theorem dX4_why_55 : decode cX4_why 55 = .ok (.invokevirtual 100, 3) := by decide +kernel
theorem dX4_why_58 : decode cX4_why 58 = .ok (.istore 4, 2) := by decide +kernel
theorem dX4_why_60 : decode cX4_why 60 = .ok (.iconst 0, 1) := by decide +kernel
theorem dX4_why_61 : decode cX4_why 61 = .ok (.istore 5, 2) := by decide +kernel
theorem dX4_why_63 : decode cX4_why 63 = .ok (.iconst 0, 1) := by decide +kernel
theorem dX4_why_64 : decode cX4_why 64 = .ok (.istore 6, 2) := by decide +kernel
theorem dX4_why_66 : decode cX4_why 66 = .ok (.iload 6, 2) := by decide +kernel
theorem dX4_why_68 : decode cX4_why 68 = .ok (.bipush 24, 2) := by decide +kernel
theorem dX4_why_70 : decode cX4_why 70 = .ok (.if_icmp .ge 21, 3) := by decide +kernel
theorem dX4_why_73 : decode cX4_why 73 = .ok (.iload 5, 2) := by decide +kernel
theorem dX4_why_75 : decode cX4_why 75 = .ok (.iload 4, 2) := by decide +kernel
theorem dX4_why_77 : decode cX4_why 77 = .ok (.iload 6, 2) := by decide +kernel
theorem dX4_why_79 : decode cX4_why 79 = .ok (.ishr, 1) := by decide +kernel
theorem dX4_why_80 : decode cX4_why 80 = .ok (.iconst 1, 1) := by decide +kernel
theorem dX4_why_81 : decode cX4_why 81 = .ok (.iand, 1) := by decide +kernel
theorem dX4_why_82 : decode cX4_why 82 = .ok (.iadd, 1) := by decide +kernel
theorem dX4_why_83 : decode cX4_why 83 = .ok (.istore 5, 2) := by decide +kernel
theorem dX4_why_85 : decode cX4_why 85 = .ok (.iinc 6 1, 3) := by decide +kernel
theorem dX4_why_88 : decode cX4_why 88 = .ok (.goto (-22), 3) := by decide +kernel
theorem dX4_why_91 : decode cX4_why 91 = .ok (.iload_n 3, 1) := by decide +kernel
theorem dX4_why_92 : decode cX4_why 92 = .ok (.iconst (-1), 1) := by decide +kernel
theorem dX4_why_93 : decode cX4_why 93 = .ok (.if_icmp .ne 8, 3) := by decide +kernel
theorem dX4_why_96 : decode cX4_why 96 = .ok (.iload 5, 2) := by decide +kernel
theorem dX4_why_98 : decode cX4_why 98 = .ok (.goto 9, 3) := by decide +kernel
theorem dX4_why_101 : decode cX4_why 101 = .ok (.iload 4, 2) := by decide +kernel
theorem dX4_why_103 : decode cX4_why 103 = .ok (.iload_n 3, 1) := by decide +kernel
theorem dX4_why_104 : decode cX4_why 104 = .ok (.ishr, 1) := by decide +kernel
theorem dX4_why_105 : decode cX4_why 105 = .ok (.iconst 1, 1) := by decide +kernel
theorem dX4_why_106 : decode cX4_why 106 = .ok (.iand, 1) := by decide +kernel
theorem dX4_why_107 : decode cX4_why 107 = .ok (.ireturn, 1) := by decide +kernel
theorem dX4_isTight_0 : decode cX4_isTight 0 = .ok (.iload_n 2, 1) := by decide +kernel
theorem dX4_isTight_1 : decode cX4_isTight 1 = .ok (.iload_n 3, 1) := by decide +kernel
theorem dX4_isTight_2 : decode cX4_isTight 2 = .ok (.if_icmp .eq 17, 3) := by decide +kernel
theorem dX4_isTight_5 : decode cX4_isTight 5 = .ok (.aload_n 0, 1) := by decide +kernel
theorem dX4_isTight_6 : decode cX4_isTight 6 = .ok (.aload_n 0, 1) := by decide +kernel
theorem dX4_isTight_7 : decode cX4_isTight 7 = .ok (.getfield 65, 3) := by decide +kernel
theorem dX4_isTight_10 : decode cX4_isTight 10 = .ok (.iload_n 1, 1) := by decide +kernel
theorem dX4_isTight_11 : decode cX4_isTight 11 = .ok (.iload_n 2, 1) := by decide +kernel
theorem dX4_isTight_12 : decode cX4_isTight 12 = .ok (.iload_n 3, 1) := by decide +kernel
theorem dX4_isTight_13 : decode cX4_isTight 13 = .ok (.invokevirtual 68, 3) := by decide +kernel
theorem dX4_isTight_16 : decode cX4_isTight 16 = .ok (.ifCond .ne 7, 3) := by decide +kernel
theorem dX4_isTight_19 : decode cX4_isTight 19 = .ok (.iconst 1, 1) := by decide +kernel
theorem dX4_isTight_20 : decode cX4_isTight 20 = .ok (.goto 4, 3) := by decide +kernel
theorem dX4_isTight_23 : decode cX4_isTight 23 = .ok (.iconst 0, 1) := by decide +kernel
theorem dX4_isTight_24 : decode cX4_isTight 24 = .ok (.ireturn, 1) := by decide +kernel
theorem dX4_tight_0 : decode cX4_tight 0 = .ok (.iload_n 1, 1) := by decide +kernel
theorem dX4_tight_1 : decode cX4_tight 1 = .ok (.invokestatic 72, 3) := by decide +kernel
theorem dX4_tight_4 : decode cX4_tight 4 = .ok (.ifCond .eq 19, 3) := by decide +kernel
theorem dX4_tight_7 : decode cX4_tight 7 = .ok (.aload_n 0, 1) := by decide +kernel
theorem dX4_tight_8 : decode cX4_tight 8 = .ok (.iload_n 2, 1) := by decide +kernel
theorem dX4_tight_9 : decode cX4_tight 9 = .ok (.invokevirtual 50, 3) := by decide +kernel
theorem dX4_tight_12 : decode cX4_tight 12 = .ok (.ifCond .eq 11, 3) := by decide +kernel
theorem dX4_tight_15 : decode cX4_tight 15 = .ok (.aload_n 0, 1) := by decide +kernel
theorem dX4_tight_16 : decode cX4_tight 16 = .ok (.iload_n 3, 1) := by decide +kernel
theorem dX4_tight_17 : decode cX4_tight 17 = .ok (.invokevirtual 50, 3) := by decide +kernel
theorem dX4_tight_20 : decode cX4_tight 20 = .ok (.ifCond .ne 6, 3) := by decide +kernel
theorem dX4_tight_23 : decode cX4_tight 23 = .ok (.bipush (-2), 2) := by decide +kernel
theorem dX4_tight_25 : decode cX4_tight 25 = .ok (.ireturn, 1) := by decide +kernel
theorem dX4_tight_26 : decode cX4_tight 26 = .ok (.aload_n 0, 1) := by decide +kernel
theorem dX4_tight_27 : decode cX4_tight 27 = .ok (.iload_n 1, 1) := by decide +kernel
theorem dX4_tight_28 : decode cX4_tight 28 = .ok (.invokevirtual 75, 3) := by decide +kernel
theorem dX4_tight_31 : decode cX4_tight 31 = .ok (.aload_n 0, 1) := by decide +kernel
theorem dX4_tight_32 : decode cX4_tight 32 = .ok (.iload_n 1, 1) := by decide +kernel
theorem dX4_tight_33 : decode cX4_tight 33 = .ok (.iload_n 2, 1) := by decide +kernel
theorem dX4_tight_34 : decode cX4_tight 34 = .ok (.iload_n 3, 1) := by decide +kernel
theorem dX4_tight_35 : decode cX4_tight 35 = .ok (.invokevirtual 103, 3) := by decide +kernel
theorem dX4_tight_38 : decode cX4_tight 38 = .ok (.ifCond .eq 7, 3) := by decide +kernel
theorem dX4_tight_41 : decode cX4_tight 41 = .ok (.iconst 1, 1) := by decide +kernel
theorem dX4_tight_42 : decode cX4_tight 42 = .ok (.goto 4, 3) := by decide +kernel
theorem dX4_tight_45 : decode cX4_tight 45 = .ok (.iconst 0, 1) := by decide +kernel
theorem dX4_tight_46 : decode cX4_tight 46 = .ok (.ireturn, 1) := by decide +kernel
theorem dX4_classes_0 : decode cX4_classes 0 = .ok (.iload_n 1, 1) := by decide +kernel
theorem dX4_classes_1 : decode cX4_classes 1 = .ok (.invokestatic 72, 3) := by decide +kernel
theorem dX4_classes_4 : decode cX4_classes 4 = .ok (.ifCond .ne 6, 3) := by decide +kernel
theorem dX4_classes_7 : decode cX4_classes 7 = .ok (.bipush (-2), 2) := by decide +kernel
theorem dX4_classes_9 : decode cX4_classes 9 = .ok (.ireturn, 1) := by decide +kernel
theorem dX4_classes_10 : decode cX4_classes 10 = .ok (.aload_n 0, 1) := by decide +kernel
theorem dX4_classes_11 : decode cX4_classes 11 = .ok (.iload_n 1, 1) := by decide +kernel
theorem dX4_classes_12 : decode cX4_classes 12 = .ok (.invokevirtual 75, 3) := by decide +kernel
theorem dX4_classes_15 : decode cX4_classes 15 = .ok (.iconst 0, 1) := by decide +kernel
theorem dX4_classes_16 : decode cX4_classes 16 = .ok (.istore_n 2, 1) := by decide +kernel
theorem dX4_classes_17 : decode cX4_classes 17 = .ok (.iconst 0, 1) := by decide +kernel
theorem dX4_classes_18 : decode cX4_classes 18 = .ok (.istore_n 3, 1) := by decide +kernel
theorem dX4_classes_19 : decode cX4_classes 19 = .ok (.iload_n 3, 1) := by decide +kernel
theorem dX4_classes_20 : decode cX4_classes 20 = .ok (.aload_n 0, 1) := by decide +kernel
theorem dX4_classes_21 : decode cX4_classes 21 = .ok (.getfield 7, 3) := by decide +kernel
theorem dX4_classes_24 : decode cX4_classes 24 = .ok (.if_icmp .ge 63, 3) := by decide +kernel
theorem dX4_classes_27 : decode cX4_classes 27 = .ok (.iconst 1, 1) := by decide +kernel
theorem dX4_classes_28 : decode cX4_classes 28 = .ok (.istore 4, 2) := by decide +kernel
theorem dX4_classes_30 : decode cX4_classes 30 = .ok (.iconst 0, 1) := by decide +kernel
theorem dX4_classes_31 : decode cX4_classes 31 = .ok (.istore 5, 2) := by decide +kernel
theorem dX4_classes_33 : decode cX4_classes 33 = .ok (.iload 5, 2) := by decide +kernel
theorem dX4_classes_35 : decode cX4_classes 35 = .ok (.iload_n 3, 1) := by decide +kernel
theorem dX4_classes_36 : decode cX4_classes 36 = .ok (.if_icmp .ge 32, 3) := by decide +kernel
theorem dX4_classes_39 : decode cX4_classes 39 = .ok (.iload 4, 2) := by decide +kernel
theorem dX4_classes_41 : decode cX4_classes 41 = .ok (.ifCond .eq 18, 3) := by decide +kernel
theorem dX4_classes_44 : decode cX4_classes 44 = .ok (.aload_n 0, 1) := by decide +kernel
theorem dX4_classes_45 : decode cX4_classes 45 = .ok (.iload_n 1, 1) := by decide +kernel
theorem dX4_classes_46 : decode cX4_classes 46 = .ok (.iload_n 3, 1) := by decide +kernel
theorem dX4_classes_47 : decode cX4_classes 47 = .ok (.iload 5, 2) := by decide +kernel
theorem dX4_classes_49 : decode cX4_classes 49 = .ok (.invokevirtual 103, 3) := by decide +kernel
theorem dX4_classes_52 : decode cX4_classes 52 = .ok (.ifCond .ne 7, 3) := by decide +kernel
theorem dX4_classes_55 : decode cX4_classes 55 = .ok (.iconst 1, 1) := by decide +kernel
theorem dX4_classes_56 : decode cX4_classes 56 = .ok (.goto 4, 3) := by decide +kernel
theorem dX4_classes_59 : decode cX4_classes 59 = .ok (.iconst 0, 1) := by decide +kernel
theorem dX4_classes_60 : decode cX4_classes 60 = .ok (.istore 4, 2) := by decide +kernel
theorem dX4_classes_62 : decode cX4_classes 62 = .ok (.iinc 5 1, 3) := by decide +kernel
theorem dX4_classes_65 : decode cX4_classes 65 = .ok (.goto (-32), 3) := by decide +kernel
theorem dX4_classes_68 : decode cX4_classes 68 = .ok (.iload 4, 2) := by decide +kernel
theorem dX4_classes_70 : decode cX4_classes 70 = .ok (.ifCond .eq 9, 3) := by decide +kernel
theorem dX4_classes_73 : decode cX4_classes 73 = .ok (.iload_n 2, 1) := by decide +kernel
theorem dX4_classes_74 : decode cX4_classes 74 = .ok (.iconst 1, 1) := by decide +kernel
theorem dX4_classes_75 : decode cX4_classes 75 = .ok (.iadd, 1) := by decide +kernel
theorem dX4_classes_76 : decode cX4_classes 76 = .ok (.goto 4, 3) := by decide +kernel
theorem dX4_classes_79 : decode cX4_classes 79 = .ok (.iload_n 2, 1) := by decide +kernel
theorem dX4_classes_80 : decode cX4_classes 80 = .ok (.istore_n 2, 1) := by decide +kernel
theorem dX4_classes_81 : decode cX4_classes 81 = .ok (.iinc 3 1, 3) := by decide +kernel
theorem dX4_classes_84 : decode cX4_classes 84 = .ok (.goto (-65), 3) := by decide +kernel
theorem dX4_classes_87 : decode cX4_classes 87 = .ok (.iload_n 2, 1) := by decide +kernel
theorem dX4_classes_88 : decode cX4_classes 88 = .ok (.ireturn, 1) := by decide +kernel
theorem dX4_crossing_0 : decode cX4_crossing 0 = .ok (.iload_n 1, 1) := by decide +kernel
theorem dX4_crossing_1 : decode cX4_crossing 1 = .ok (.invokestatic 72, 3) := by decide +kernel
theorem dX4_crossing_4 : decode cX4_crossing 4 = .ok (.ifCond .ne 6, 3) := by decide +kernel
theorem dX4_crossing_7 : decode cX4_crossing 7 = .ok (.bipush (-2), 2) := by decide +kernel
theorem dX4_crossing_9 : decode cX4_crossing 9 = .ok (.ireturn, 1) := by decide +kernel
theorem dX4_crossing_10 : decode cX4_crossing 10 = .ok (.aload_n 0, 1) := by decide +kernel
theorem dX4_crossing_11 : decode cX4_crossing 11 = .ok (.iload_n 1, 1) := by decide +kernel
theorem dX4_crossing_12 : decode cX4_crossing 12 = .ok (.invokevirtual 75, 3) := by decide +kernel
theorem dX4_crossing_15 : decode cX4_crossing 15 = .ok (.iconst 0, 1) := by decide +kernel
theorem dX4_crossing_16 : decode cX4_crossing 16 = .ok (.istore_n 2, 1) := by decide +kernel
theorem dX4_crossing_17 : decode cX4_crossing 17 = .ok (.iconst 0, 1) := by decide +kernel
theorem dX4_crossing_18 : decode cX4_crossing 18 = .ok (.istore_n 3, 1) := by decide +kernel
theorem dX4_crossing_19 : decode cX4_crossing 19 = .ok (.iload_n 3, 1) := by decide +kernel
theorem dX4_crossing_20 : decode cX4_crossing 20 = .ok (.bipush 24, 2) := by decide +kernel
theorem dX4_crossing_22 : decode cX4_crossing 22 = .ok (.if_icmp .ge 52, 3) := by decide +kernel
theorem dX4_crossing_25 : decode cX4_crossing 25 = .ok (.aload_n 0, 1) := by decide +kernel
theorem dX4_crossing_26 : decode cX4_crossing 26 = .ok (.getfield 17, 3) := by decide +kernel
theorem dX4_crossing_29 : decode cX4_crossing 29 = .ok (.iload_n 3, 1) := by decide +kernel
theorem dX4_crossing_30 : decode cX4_crossing 30 = .ok (.baload, 1) := by decide +kernel
theorem dX4_crossing_31 : decode cX4_crossing 31 = .ok (.ifCond .eq 35, 3) := by decide +kernel
theorem dX4_crossing_34 : decode cX4_crossing 34 = .ok (.aload_n 0, 1) := by decide +kernel
theorem dX4_crossing_35 : decode cX4_crossing 35 = .ok (.iload_n 1, 1) := by decide +kernel
theorem dX4_crossing_36 : decode cX4_crossing 36 = .ok (.aload_n 0, 1) := by decide +kernel
theorem dX4_crossing_37 : decode cX4_crossing 37 = .ok (.getfield 13, 3) := by decide +kernel
theorem dX4_crossing_40 : decode cX4_crossing 40 = .ok (.iconst 2, 1) := by decide +kernel
theorem dX4_crossing_41 : decode cX4_crossing 41 = .ok (.iload_n 3, 1) := by decide +kernel
theorem dX4_crossing_42 : decode cX4_crossing 42 = .ok (.imul, 1) := by decide +kernel
theorem dX4_crossing_43 : decode cX4_crossing 43 = .ok (.iaload, 1) := by decide +kernel
theorem dX4_crossing_44 : decode cX4_crossing 44 = .ok (.aload_n 0, 1) := by decide +kernel
theorem dX4_crossing_45 : decode cX4_crossing 45 = .ok (.getfield 13, 3) := by decide +kernel
theorem dX4_crossing_48 : decode cX4_crossing 48 = .ok (.iconst 2, 1) := by decide +kernel
theorem dX4_crossing_49 : decode cX4_crossing 49 = .ok (.iload_n 3, 1) := by decide +kernel
theorem dX4_crossing_50 : decode cX4_crossing 50 = .ok (.imul, 1) := by decide +kernel
theorem dX4_crossing_51 : decode cX4_crossing 51 = .ok (.iconst 1, 1) := by decide +kernel
theorem dX4_crossing_52 : decode cX4_crossing 52 = .ok (.iadd, 1) := by decide +kernel
theorem dX4_crossing_53 : decode cX4_crossing 53 = .ok (.iaload, 1) := by decide +kernel
theorem dX4_crossing_54 : decode cX4_crossing 54 = .ok (.invokevirtual 103, 3) := by decide +kernel
theorem dX4_crossing_57 : decode cX4_crossing 57 = .ok (.ifCond .ne 9, 3) := by decide +kernel
theorem dX4_crossing_60 : decode cX4_crossing 60 = .ok (.iload_n 2, 1) := by decide +kernel
theorem dX4_crossing_61 : decode cX4_crossing 61 = .ok (.iconst 1, 1) := by decide +kernel
theorem dX4_crossing_62 : decode cX4_crossing 62 = .ok (.iadd, 1) := by decide +kernel
theorem dX4_crossing_63 : decode cX4_crossing 63 = .ok (.goto 4, 3) := by decide +kernel
theorem dX4_crossing_66 : decode cX4_crossing 66 = .ok (.iload_n 2, 1) := by decide +kernel
theorem dX4_crossing_67 : decode cX4_crossing 67 = .ok (.istore_n 2, 1) := by decide +kernel
theorem dX4_crossing_68 : decode cX4_crossing 68 = .ok (.iinc 3 1, 3) := by decide +kernel
theorem dX4_crossing_71 : decode cX4_crossing 71 = .ok (.goto (-52), 3) := by decide +kernel
theorem dX4_crossing_74 : decode cX4_crossing 74 = .ok (.iload_n 2, 1) := by decide +kernel
theorem dX4_crossing_75 : decode cX4_crossing 75 = .ok (.ireturn, 1) := by decide +kernel
theorem dX4_arboricity_0 : decode cX4_arboricity 0 = .ok (.aload_n 0, 1) := by decide +kernel
theorem dX4_arboricity_1 : decode cX4_arboricity 1 = .ok (.invokevirtual 46, 3) := by decide +kernel
theorem dX4_arboricity_4 : decode cX4_arboricity 4 = .ok (.istore_n 1, 1) := by decide +kernel
theorem dX4_arboricity_5 : decode cX4_arboricity 5 = .ok (.iconst 0, 1) := by decide +kernel
theorem dX4_arboricity_6 : decode cX4_arboricity 6 = .ok (.istore_n 2, 1) := by decide +kernel
theorem dX4_arboricity_7 : decode cX4_arboricity 7 = .ok (.iload_n 2, 1) := by decide +kernel
theorem dX4_arboricity_8 : decode cX4_arboricity 8 = .ok (.bipush 6, 2) := by decide +kernel
theorem dX4_arboricity_10 : decode cX4_arboricity 10 = .ok (.if_icmp .gt 20, 3) := by decide +kernel
theorem dX4_arboricity_13 : decode cX4_arboricity 13 = .ok (.aload_n 0, 1) := by decide +kernel
theorem dX4_arboricity_14 : decode cX4_arboricity 14 = .ok (.iload_n 2, 1) := by decide +kernel
theorem dX4_arboricity_15 : decode cX4_arboricity 15 = .ok (.invokevirtual 106, 3) := by decide +kernel
theorem dX4_arboricity_18 : decode cX4_arboricity 18 = .ok (.iload_n 1, 1) := by decide +kernel
theorem dX4_arboricity_19 : decode cX4_arboricity 19 = .ok (.if_icmp .ne 5, 3) := by decide +kernel
theorem dX4_arboricity_22 : decode cX4_arboricity 22 = .ok (.iload_n 2, 1) := by decide +kernel
theorem dX4_arboricity_23 : decode cX4_arboricity 23 = .ok (.ireturn, 1) := by decide +kernel
theorem dX4_arboricity_24 : decode cX4_arboricity 24 = .ok (.iinc 2 1, 3) := by decide +kernel
theorem dX4_arboricity_27 : decode cX4_arboricity 27 = .ok (.goto (-20), 3) := by decide +kernel
theorem dX4_arboricity_30 : decode cX4_arboricity 30 = .ok (.iconst (-1), 1) := by decide +kernel
theorem dX4_arboricity_31 : decode cX4_arboricity 31 = .ok (.ireturn, 1) := by decide +kernel
theorem dX4_dense_0 : decode cX4_dense 0 = .ok (.aload_n 0, 1) := by decide +kernel
theorem dX4_dense_1 : decode cX4_dense 1 = .ok (.invokevirtual 109, 3) := by decide +kernel
theorem dX4_dense_4 : decode cX4_dense 4 = .ok (.istore_n 1, 1) := by decide +kernel
theorem dX4_dense_5 : decode cX4_dense 5 = .ok (.iload_n 1, 1) := by decide +kernel
theorem dX4_dense_6 : decode cX4_dense 6 = .ok (.iconst 1, 1) := by decide +kernel
theorem dX4_dense_7 : decode cX4_dense 7 = .ok (.if_icmp .ge 5, 3) := by decide +kernel
theorem dX4_dense_10 : decode cX4_dense 10 = .ok (.iload_n 1, 1) := by decide +kernel
theorem dX4_dense_11 : decode cX4_dense 11 = .ok (.ireturn, 1) := by decide +kernel
theorem dX4_dense_12 : decode cX4_dense 12 = .ok (.aload_n 0, 1) := by decide +kernel
theorem dX4_dense_13 : decode cX4_dense 13 = .ok (.iload_n 1, 1) := by decide +kernel
theorem dX4_dense_14 : decode cX4_dense 14 = .ok (.iconst 1, 1) := by decide +kernel
theorem dX4_dense_15 : decode cX4_dense 15 = .ok (.isub, 1) := by decide +kernel
theorem dX4_dense_16 : decode cX4_dense 16 = .ok (.invokevirtual 75, 3) := by decide +kernel
theorem dX4_dense_19 : decode cX4_dense 19 = .ok (.iconst 0, 1) := by decide +kernel
theorem dX4_dense_20 : decode cX4_dense 20 = .ok (.istore_n 2, 1) := by decide +kernel
theorem dX4_dense_21 : decode cX4_dense 21 = .ok (.aload_n 0, 1) := by decide +kernel
theorem dX4_dense_22 : decode cX4_dense 22 = .ok (.getfield 17, 3) := by decide +kernel
theorem dX4_dense_25 : decode cX4_dense 25 = .ok (.iload_n 2, 1) := by decide +kernel
theorem dX4_dense_26 : decode cX4_dense 26 = .ok (.baload, 1) := by decide +kernel
theorem dX4_dense_27 : decode cX4_dense 27 = .ok (.ifCond .eq 15, 3) := by decide +kernel
theorem dX4_dense_30 : decode cX4_dense 30 = .ok (.aload_n 0, 1) := by decide +kernel
theorem dX4_dense_31 : decode cX4_dense 31 = .ok (.getfield 65, 3) := by decide +kernel
theorem dX4_dense_34 : decode cX4_dense 34 = .ok (.iload_n 2, 1) := by decide +kernel
theorem dX4_dense_35 : decode cX4_dense 35 = .ok (.ishr, 1) := by decide +kernel
theorem dX4_dense_36 : decode cX4_dense 36 = .ok (.iconst 1, 1) := by decide +kernel
theorem dX4_dense_37 : decode cX4_dense 37 = .ok (.iand, 1) := by decide +kernel
theorem dX4_dense_38 : decode cX4_dense 38 = .ok (.iconst 1, 1) := by decide +kernel
theorem dX4_dense_39 : decode cX4_dense 39 = .ok (.if_icmp .ne 9, 3) := by decide +kernel
theorem dX4_dense_42 : decode cX4_dense 42 = .ok (.iinc 2 1, 3) := by decide +kernel
theorem dX4_dense_45 : decode cX4_dense 45 = .ok (.goto (-24), 3) := by decide +kernel
theorem dX4_dense_48 : decode cX4_dense 48 = .ok (.aload_n 0, 1) := by decide +kernel
theorem dX4_dense_49 : decode cX4_dense 49 = .ok (.iload_n 1, 1) := by decide +kernel
theorem dX4_dense_50 : decode cX4_dense 50 = .ok (.iconst 1, 1) := by decide +kernel
theorem dX4_dense_51 : decode cX4_dense 51 = .ok (.isub, 1) := by decide +kernel
theorem dX4_dense_52 : decode cX4_dense 52 = .ok (.iload_n 2, 1) := by decide +kernel
theorem dX4_dense_53 : decode cX4_dense 53 = .ok (.invokevirtual 100, 3) := by decide +kernel
theorem dX4_dense_56 : decode cX4_dense 56 = .ok (.istore_n 3, 1) := by decide +kernel
theorem dX4_dense_57 : decode cX4_dense 57 = .ok (.iconst 0, 1) := by decide +kernel
theorem dX4_dense_58 : decode cX4_dense 58 = .ok (.istore 4, 2) := by decide +kernel
theorem dX4_dense_60 : decode cX4_dense 60 = .ok (.iconst 0, 1) := by decide +kernel
theorem dX4_dense_61 : decode cX4_dense 61 = .ok (.istore 5, 2) := by decide +kernel
theorem dX4_dense_63 : decode cX4_dense 63 = .ok (.iload 5, 2) := by decide +kernel
theorem dX4_dense_65 : decode cX4_dense 65 = .ok (.bipush 24, 2) := by decide +kernel
theorem dX4_dense_67 : decode cX4_dense 67 = .ok (.if_icmp .ge 54, 3) := by decide +kernel
theorem dX4_dense_70 : decode cX4_dense 70 = .ok (.iload_n 3, 1) := by decide +kernel
theorem dX4_dense_71 : decode cX4_dense 71 = .ok (.iload 5, 2) := by decide +kernel
theorem dX4_dense_73 : decode cX4_dense 73 = .ok (.ishr, 1) := by decide +kernel
theorem dX4_dense_74 : decode cX4_dense 74 = .ok (.iconst 1, 1) := by decide +kernel
theorem dX4_dense_75 : decode cX4_dense 75 = .ok (.iand, 1) := by decide +kernel
theorem dX4_dense_76 : decode cX4_dense 76 = .ok (.iconst 1, 1) := by decide +kernel
theorem dX4_dense_77 : decode cX4_dense 77 = .ok (.if_icmp .ne 34, 3) := by decide +kernel
theorem dX4_dense_80 : decode cX4_dense 80 = .ok (.iload 4, 2) := by decide +kernel
theorem dX4_dense_82 : decode cX4_dense 82 = .ok (.iconst 1, 1) := by decide +kernel
theorem dX4_dense_83 : decode cX4_dense 83 = .ok (.aload_n 0, 1) := by decide +kernel
theorem dX4_dense_84 : decode cX4_dense 84 = .ok (.getfield 13, 3) := by decide +kernel
theorem dX4_dense_87 : decode cX4_dense 87 = .ok (.iconst 2, 1) := by decide +kernel
theorem dX4_dense_88 : decode cX4_dense 88 = .ok (.iload 5, 2) := by decide +kernel
theorem dX4_dense_90 : decode cX4_dense 90 = .ok (.imul, 1) := by decide +kernel
theorem dX4_dense_91 : decode cX4_dense 91 = .ok (.iaload, 1) := by decide +kernel
theorem dX4_dense_92 : decode cX4_dense 92 = .ok (.ishl, 1) := by decide +kernel
theorem dX4_dense_93 : decode cX4_dense 93 = .ok (.ior, 1) := by decide +kernel
theorem dX4_dense_94 : decode cX4_dense 94 = .ok (.iconst 1, 1) := by decide +kernel
theorem dX4_dense_95 : decode cX4_dense 95 = .ok (.aload_n 0, 1) := by decide +kernel
theorem dX4_dense_96 : decode cX4_dense 96 = .ok (.getfield 13, 3) := by decide +kernel
theorem dX4_dense_99 : decode cX4_dense 99 = .ok (.iconst 2, 1) := by decide +kernel
theorem dX4_dense_100 : decode cX4_dense 100 = .ok (.iload 5, 2) := by decide +kernel
theorem dX4_dense_102 : decode cX4_dense 102 = .ok (.imul, 1) := by decide +kernel
theorem dX4_dense_103 : decode cX4_dense 103 = .ok (.iconst 1, 1) := by decide +kernel
theorem dX4_dense_104 : decode cX4_dense 104 = .ok (.iadd, 1) := by decide +kernel
theorem dX4_dense_105 : decode cX4_dense 105 = .ok (.iaload, 1) := by decide +kernel
theorem dX4_dense_106 : decode cX4_dense 106 = .ok (.ishl, 1) := by decide +kernel
theorem dX4_dense_107 : decode cX4_dense 107 = .ok (.ior, 1) := by decide +kernel
theorem dX4_dense_108 : decode cX4_dense 108 = .ok (.goto 5, 3) := by decide +kernel
theorem dX4_dense_111 : decode cX4_dense 111 = .ok (.iload 4, 2) := by decide +kernel
theorem dX4_dense_113 : decode cX4_dense 113 = .ok (.istore 4, 2) := by decide +kernel
theorem dX4_dense_115 : decode cX4_dense 115 = .ok (.iinc 5 1, 3) := by decide +kernel
theorem dX4_dense_118 : decode cX4_dense 118 = .ok (.goto (-55), 3) := by decide +kernel
theorem dX4_dense_121 : decode cX4_dense 121 = .ok (.iload 4, 2) := by decide +kernel
theorem dX4_dense_123 : decode cX4_dense 123 = .ok (.ireturn, 1) := by decide +kernel
theorem dX4_spanning_0 : decode cX4_spanning 0 = .ok (.bipush 6, 2) := by decide +kernel
theorem dX4_spanning_2 : decode cX4_spanning 2 = .ok (.istore_n 1, 1) := by decide +kernel
theorem dX4_spanning_3 : decode cX4_spanning 3 = .ok (.aload_n 0, 1) := by decide +kernel
theorem dX4_spanning_4 : decode cX4_spanning 4 = .ok (.iload_n 1, 1) := by decide +kernel
theorem dX4_spanning_5 : decode cX4_spanning 5 = .ok (.invokevirtual 106, 3) := by decide +kernel
theorem dX4_spanning_8 : decode cX4_spanning 8 = .ok (.iload_n 1, 1) := by decide +kernel
theorem dX4_spanning_9 : decode cX4_spanning 9 = .ok (.aload_n 0, 1) := by decide +kernel
theorem dX4_spanning_10 : decode cX4_spanning 10 = .ok (.getfield 7, 3) := by decide +kernel
theorem dX4_spanning_13 : decode cX4_spanning 13 = .ok (.iconst 1, 1) := by decide +kernel
theorem dX4_spanning_14 : decode cX4_spanning 14 = .ok (.isub, 1) := by decide +kernel
theorem dX4_spanning_15 : decode cX4_spanning 15 = .ok (.imul, 1) := by decide +kernel
theorem dX4_spanning_16 : decode cX4_spanning 16 = .ok (.if_icmp .eq 9, 3) := by decide +kernel
theorem dX4_spanning_19 : decode cX4_spanning 19 = .ok (.iinc 1 (-1), 3) := by decide +kernel
theorem dX4_spanning_22 : decode cX4_spanning 22 = .ok (.goto (-19), 3) := by decide +kernel
theorem dX4_spanning_25 : decode cX4_spanning 25 = .ok (.iload_n 1, 1) := by decide +kernel
theorem dX4_spanning_26 : decode cX4_spanning 26 = .ok (.ireturn, 1) := by decide +kernel
theorem dX4_told_0 : decode cX4_told 0 = .ok (.iload_n 2, 1) := by decide +kernel
theorem dX4_told_1 : decode cX4_told 1 = .ok (.iconst 0, 1) := by decide +kernel
theorem dX4_told_2 : decode cX4_told 2 = .ok (.iconst 4, 1) := by decide +kernel
theorem dX4_told_3 : decode cX4_told 3 = .ok (.invokestatic 42, 3) := by decide +kernel
theorem dX4_told_6 : decode cX4_told 6 = .ok (.ifCond .ne 6, 3) := by decide +kernel
theorem dX4_told_9 : decode cX4_told 9 = .ok (.bipush (-2), 2) := by decide +kernel
theorem dX4_told_11 : decode cX4_told 11 = .ok (.ireturn, 1) := by decide +kernel
theorem dX4_told_12 : decode cX4_told 12 = .ok (.iload_n 2, 1) := by decide +kernel
end
section
theorem dX4_told_13 : decode cX4_told 13 = .ok (.iconst 2, 1) := by decide +kernel
theorem dX4_told_14 : decode cX4_told 14 = .ok (.if_icmp .ge 26, 3) := by decide +kernel
theorem dX4_told_17 : decode cX4_told 17 = .ok (.aload_n 0, 1) := by decide +kernel
theorem dX4_told_18 : decode cX4_told 18 = .ok (.iload_n 1, 1) := by decide +kernel
theorem dX4_told_19 : decode cX4_told 19 = .ok (.invokevirtual 54, 3) := by decide +kernel
theorem dX4_told_22 : decode cX4_told 22 = .ok (.ifCond .eq 16, 3) := by decide +kernel
theorem dX4_told_25 : decode cX4_told 25 = .ok (.aload_n 0, 1) := by decide +kernel
theorem dX4_told_26 : decode cX4_told 26 = .ok (.getfield 13, 3) := by decide +kernel
theorem dX4_told_29 : decode cX4_told 29 = .ok (.iconst 2, 1) := by decide +kernel
theorem dX4_told_30 : decode cX4_told 30 = .ok (.iload_n 1, 1) := by decide +kernel
theorem dX4_told_31 : decode cX4_told 31 = .ok (.imul, 1) := by decide +kernel
theorem dX4_told_32 : decode cX4_told 32 = .ok (.iload_n 2, 1) := by decide +kernel
theorem dX4_told_33 : decode cX4_told 33 = .ok (.iadd, 1) := by decide +kernel
theorem dX4_told_34 : decode cX4_told 34 = .ok (.iaload, 1) := by decide +kernel
theorem dX4_told_35 : decode cX4_told 35 = .ok (.goto 4, 3) := by decide +kernel
theorem dX4_told_38 : decode cX4_told 38 = .ok (.iconst (-1), 1) := by decide +kernel
theorem dX4_told_39 : decode cX4_told 39 = .ok (.ireturn, 1) := by decide +kernel
theorem dX4_told_40 : decode cX4_told 40 = .ok (.iload_n 2, 1) := by decide +kernel
theorem dX4_told_41 : decode cX4_told 41 = .ok (.iconst 2, 1) := by decide +kernel
theorem dX4_told_42 : decode cX4_told 42 = .ok (.if_icmp .ne 8, 3) := by decide +kernel
theorem dX4_told_45 : decode cX4_told 45 = .ok (.aload_n 0, 1) := by decide +kernel
theorem dX4_told_46 : decode cX4_told 46 = .ok (.invokevirtual 46, 3) := by decide +kernel
theorem dX4_told_49 : decode cX4_told 49 = .ok (.ireturn, 1) := by decide +kernel
theorem dX4_told_50 : decode cX4_told 50 = .ok (.iload_n 2, 1) := by decide +kernel
theorem dX4_told_51 : decode cX4_told 51 = .ok (.iconst 3, 1) := by decide +kernel
theorem dX4_told_52 : decode cX4_told 52 = .ok (.if_icmp .ne 8, 3) := by decide +kernel
theorem dX4_told_55 : decode cX4_told 55 = .ok (.aload_n 0, 1) := by decide +kernel
theorem dX4_told_56 : decode cX4_told 56 = .ok (.getfield 7, 3) := by decide +kernel
theorem dX4_told_59 : decode cX4_told 59 = .ok (.ireturn, 1) := by decide +kernel
theorem dX4_told_60 : decode cX4_told 60 = .ok (.iconst 0, 1) := by decide +kernel
theorem dX4_told_61 : decode cX4_told 61 = .ok (.istore_n 3, 1) := by decide +kernel
theorem dX4_told_62 : decode cX4_told 62 = .ok (.iconst 0, 1) := by decide +kernel
theorem dX4_told_63 : decode cX4_told 63 = .ok (.istore 4, 2) := by decide +kernel
theorem dX4_told_65 : decode cX4_told 65 = .ok (.iload 4, 2) := by decide +kernel
theorem dX4_told_67 : decode cX4_told 67 = .ok (.bipush 24, 2) := by decide +kernel
theorem dX4_told_69 : decode cX4_told 69 = .ok (.if_icmp .ge 63, 3) := by decide +kernel
theorem dX4_told_72 : decode cX4_told 72 = .ok (.aload_n 0, 1) := by decide +kernel
theorem dX4_told_73 : decode cX4_told 73 = .ok (.getfield 17, 3) := by decide +kernel
theorem dX4_told_76 : decode cX4_told 76 = .ok (.iload 4, 2) := by decide +kernel
theorem dX4_told_78 : decode cX4_told 78 = .ok (.baload, 1) := by decide +kernel
theorem dX4_told_79 : decode cX4_told 79 = .ok (.ifCond .eq 45, 3) := by decide +kernel
theorem dX4_told_82 : decode cX4_told 82 = .ok (.iload_n 1, 1) := by decide +kernel
theorem dX4_told_83 : decode cX4_told 83 = .ok (.aload_n 0, 1) := by decide +kernel
theorem dX4_told_84 : decode cX4_told 84 = .ok (.getfield 13, 3) := by decide +kernel
theorem dX4_told_87 : decode cX4_told 87 = .ok (.iconst 2, 1) := by decide +kernel
theorem dX4_told_88 : decode cX4_told 88 = .ok (.iload 4, 2) := by decide +kernel
theorem dX4_told_90 : decode cX4_told 90 = .ok (.imul, 1) := by decide +kernel
theorem dX4_told_91 : decode cX4_told 91 = .ok (.iaload, 1) := by decide +kernel
theorem dX4_told_92 : decode cX4_told 92 = .ok (.ishr, 1) := by decide +kernel
theorem dX4_told_93 : decode cX4_told 93 = .ok (.iconst 1, 1) := by decide +kernel
theorem dX4_told_94 : decode cX4_told 94 = .ok (.iand, 1) := by decide +kernel
theorem dX4_told_95 : decode cX4_told 95 = .ok (.iconst 1, 1) := by decide +kernel
theorem dX4_told_96 : decode cX4_told 96 = .ok (.if_icmp .ne 28, 3) := by decide +kernel
theorem dX4_told_99 : decode cX4_told 99 = .ok (.iload_n 1, 1) := by decide +kernel
theorem dX4_told_100 : decode cX4_told 100 = .ok (.aload_n 0, 1) := by decide +kernel
theorem dX4_told_101 : decode cX4_told 101 = .ok (.getfield 13, 3) := by decide +kernel
theorem dX4_told_104 : decode cX4_told 104 = .ok (.iconst 2, 1) := by decide +kernel
theorem dX4_told_105 : decode cX4_told 105 = .ok (.iload 4, 2) := by decide +kernel
theorem dX4_told_107 : decode cX4_told 107 = .ok (.imul, 1) := by decide +kernel
theorem dX4_told_108 : decode cX4_told 108 = .ok (.iconst 1, 1) := by decide +kernel
theorem dX4_told_109 : decode cX4_told 109 = .ok (.iadd, 1) := by decide +kernel
theorem dX4_told_110 : decode cX4_told 110 = .ok (.iaload, 1) := by decide +kernel
theorem dX4_told_111 : decode cX4_told 111 = .ok (.ishr, 1) := by decide +kernel
theorem dX4_told_112 : decode cX4_told 112 = .ok (.iconst 1, 1) := by decide +kernel
theorem dX4_told_113 : decode cX4_told 113 = .ok (.iand, 1) := by decide +kernel
theorem dX4_told_114 : decode cX4_told 114 = .ok (.iconst 1, 1) := by decide +kernel
theorem dX4_told_115 : decode cX4_told 115 = .ok (.if_icmp .ne 9, 3) := by decide +kernel
theorem dX4_told_118 : decode cX4_told 118 = .ok (.iload_n 3, 1) := by decide +kernel
theorem dX4_told_119 : decode cX4_told 119 = .ok (.iconst 1, 1) := by decide +kernel
theorem dX4_told_120 : decode cX4_told 120 = .ok (.iadd, 1) := by decide +kernel
theorem dX4_told_121 : decode cX4_told 121 = .ok (.goto 4, 3) := by decide +kernel
theorem dX4_told_124 : decode cX4_told 124 = .ok (.iload_n 3, 1) := by decide +kernel
theorem dX4_told_125 : decode cX4_told 125 = .ok (.istore_n 3, 1) := by decide +kernel
theorem dX4_told_126 : decode cX4_told 126 = .ok (.iinc 4 1, 3) := by decide +kernel
theorem dX4_told_129 : decode cX4_told 129 = .ok (.goto (-64), 3) := by decide +kernel
theorem dX4_told_132 : decode cX4_told 132 = .ok (.iload_n 3, 1) := by decide +kernel
theorem dX4_told_133 : decode cX4_told 133 = .ok (.ireturn, 1) := by decide +kernel
theorem dJ6_bitCount_0f7a4_0 : decode cJ6_bitCount_0f7a4 0 = .ok (.iload_n 0, 1) := by decide +kernel
theorem dJ6_bitCount_0f7a4_1 : decode cJ6_bitCount_0f7a4 1 = .ok (.iload_n 0, 1) := by decide +kernel
theorem dJ6_bitCount_0f7a4_2 : decode cJ6_bitCount_0f7a4 2 = .ok (.iconst 1, 1) := by decide +kernel
theorem dJ6_bitCount_0f7a4_3 : decode cJ6_bitCount_0f7a4 3 = .ok (.iushr, 1) := by decide +kernel
theorem dJ6_bitCount_0f7a4_4 : decode cJ6_bitCount_0f7a4 4 = .ok (.ldc_w 265, 3) := by decide +kernel
theorem dJ6_bitCount_0f7a4_7 : decode cJ6_bitCount_0f7a4 7 = .ok (.iand, 1) := by decide +kernel
theorem dJ6_bitCount_0f7a4_8 : decode cJ6_bitCount_0f7a4 8 = .ok (.isub, 1) := by decide +kernel
theorem dJ6_bitCount_0f7a4_9 : decode cJ6_bitCount_0f7a4 9 = .ok (.istore_n 0, 1) := by decide +kernel
theorem dJ6_bitCount_0f7a4_10 : decode cJ6_bitCount_0f7a4 10 = .ok (.iload_n 0, 1) := by decide +kernel
theorem dJ6_bitCount_0f7a4_11 : decode cJ6_bitCount_0f7a4 11 = .ok (.ldc_w 266, 3) := by decide +kernel
theorem dJ6_bitCount_0f7a4_14 : decode cJ6_bitCount_0f7a4 14 = .ok (.iand, 1) := by decide +kernel
theorem dJ6_bitCount_0f7a4_15 : decode cJ6_bitCount_0f7a4 15 = .ok (.iload_n 0, 1) := by decide +kernel
theorem dJ6_bitCount_0f7a4_16 : decode cJ6_bitCount_0f7a4 16 = .ok (.iconst 2, 1) := by decide +kernel
theorem dJ6_bitCount_0f7a4_17 : decode cJ6_bitCount_0f7a4 17 = .ok (.iushr, 1) := by decide +kernel
theorem dJ6_bitCount_0f7a4_18 : decode cJ6_bitCount_0f7a4 18 = .ok (.ldc_w 266, 3) := by decide +kernel
theorem dJ6_bitCount_0f7a4_21 : decode cJ6_bitCount_0f7a4 21 = .ok (.iand, 1) := by decide +kernel
theorem dJ6_bitCount_0f7a4_22 : decode cJ6_bitCount_0f7a4 22 = .ok (.iadd, 1) := by decide +kernel
theorem dJ6_bitCount_0f7a4_23 : decode cJ6_bitCount_0f7a4 23 = .ok (.istore_n 0, 1) := by decide +kernel
theorem dJ6_bitCount_0f7a4_24 : decode cJ6_bitCount_0f7a4 24 = .ok (.iload_n 0, 1) := by decide +kernel
theorem dJ6_bitCount_0f7a4_25 : decode cJ6_bitCount_0f7a4 25 = .ok (.iload_n 0, 1) := by decide +kernel
theorem dJ6_bitCount_0f7a4_26 : decode cJ6_bitCount_0f7a4 26 = .ok (.iconst 4, 1) := by decide +kernel
theorem dJ6_bitCount_0f7a4_27 : decode cJ6_bitCount_0f7a4 27 = .ok (.iushr, 1) := by decide +kernel
theorem dJ6_bitCount_0f7a4_28 : decode cJ6_bitCount_0f7a4 28 = .ok (.iadd, 1) := by decide +kernel
theorem dJ6_bitCount_0f7a4_29 : decode cJ6_bitCount_0f7a4 29 = .ok (.ldc_w 267, 3) := by decide +kernel
theorem dJ6_bitCount_0f7a4_32 : decode cJ6_bitCount_0f7a4 32 = .ok (.iand, 1) := by decide +kernel
theorem dJ6_bitCount_0f7a4_33 : decode cJ6_bitCount_0f7a4 33 = .ok (.istore_n 0, 1) := by decide +kernel
theorem dJ6_bitCount_0f7a4_34 : decode cJ6_bitCount_0f7a4 34 = .ok (.iload_n 0, 1) := by decide +kernel
theorem dJ6_bitCount_0f7a4_35 : decode cJ6_bitCount_0f7a4 35 = .ok (.iload_n 0, 1) := by decide +kernel
theorem dJ6_bitCount_0f7a4_36 : decode cJ6_bitCount_0f7a4 36 = .ok (.bipush 8, 2) := by decide +kernel
theorem dJ6_bitCount_0f7a4_38 : decode cJ6_bitCount_0f7a4 38 = .ok (.iushr, 1) := by decide +kernel
theorem dJ6_bitCount_0f7a4_39 : decode cJ6_bitCount_0f7a4 39 = .ok (.iadd, 1) := by decide +kernel
theorem dJ6_bitCount_0f7a4_40 : decode cJ6_bitCount_0f7a4 40 = .ok (.istore_n 0, 1) := by decide +kernel
theorem dJ6_bitCount_0f7a4_41 : decode cJ6_bitCount_0f7a4 41 = .ok (.iload_n 0, 1) := by decide +kernel
theorem dJ6_bitCount_0f7a4_42 : decode cJ6_bitCount_0f7a4 42 = .ok (.iload_n 0, 1) := by decide +kernel
theorem dJ6_bitCount_0f7a4_43 : decode cJ6_bitCount_0f7a4 43 = .ok (.bipush 16, 2) := by decide +kernel
theorem dJ6_bitCount_0f7a4_45 : decode cJ6_bitCount_0f7a4 45 = .ok (.iushr, 1) := by decide +kernel
theorem dJ6_bitCount_0f7a4_46 : decode cJ6_bitCount_0f7a4 46 = .ok (.iadd, 1) := by decide +kernel
theorem dJ6_bitCount_0f7a4_47 : decode cJ6_bitCount_0f7a4 47 = .ok (.istore_n 0, 1) := by decide +kernel
theorem dJ6_bitCount_0f7a4_48 : decode cJ6_bitCount_0f7a4 48 = .ok (.iload_n 0, 1) := by decide +kernel
theorem dJ6_bitCount_0f7a4_49 : decode cJ6_bitCount_0f7a4 49 = .ok (.bipush 63, 2) := by decide +kernel
theorem dJ6_bitCount_0f7a4_51 : decode cJ6_bitCount_0f7a4 51 = .ok (.iand, 1) := by decide +kernel
theorem dJ6_bitCount_0f7a4_52 : decode cJ6_bitCount_0f7a4 52 = .ok (.ireturn, 1) := by decide +kernel
theorem dJ9_max_7cf53_0 : decode cJ9_max_7cf53 0 = .ok (.iload_n 0, 1) := by decide +kernel
theorem dJ9_max_7cf53_1 : decode cJ9_max_7cf53 1 = .ok (.iload_n 1, 1) := by decide +kernel
theorem dJ9_max_7cf53_2 : decode cJ9_max_7cf53 2 = .ok (.if_icmp .lt 7, 3) := by decide +kernel
theorem dJ9_max_7cf53_5 : decode cJ9_max_7cf53 5 = .ok (.iload_n 0, 1) := by decide +kernel
theorem dJ9_max_7cf53_6 : decode cJ9_max_7cf53 6 = .ok (.goto 4, 3) := by decide +kernel
theorem dJ9_max_7cf53_9 : decode cJ9_max_7cf53 9 = .ok (.iload_n 1, 1) := by decide +kernel
theorem dJ9_max_7cf53_10 : decode cJ9_max_7cf53 10 = .ok (.ireturn, 1) := by decide +kernel
theorem dJ9_min_7cf53_0 : decode cJ9_min_7cf53 0 = .ok (.iload_n 0, 1) := by decide +kernel
theorem dJ9_min_7cf53_1 : decode cJ9_min_7cf53 1 = .ok (.iload_n 1, 1) := by decide +kernel
theorem dJ9_min_7cf53_2 : decode cJ9_min_7cf53 2 = .ok (.if_icmp .gt 7, 3) := by decide +kernel
theorem dJ9_min_7cf53_5 : decode cJ9_min_7cf53 5 = .ok (.iload_n 0, 1) := by decide +kernel
theorem dJ9_min_7cf53_6 : decode cJ9_min_7cf53 6 = .ok (.goto 4, 3) := by decide +kernel
theorem dJ9_min_7cf53_9 : decode cJ9_min_7cf53 9 = .ok (.iload_n 1, 1) := by decide +kernel
theorem dJ9_min_7cf53_10 : decode cJ9_min_7cf53 10 = .ok (.ireturn, 1) := by decide +kernel
theorem dJ7_fill_53178_0 : decode cJ7_fill_53178 0 = .ok (.iconst 0, 1) := by decide +kernel
theorem dJ7_fill_53178_1 : decode cJ7_fill_53178 1 = .ok (.istore_n 2, 1) := by decide +kernel
theorem dJ7_fill_53178_2 : decode cJ7_fill_53178 2 = .ok (.aload_n 0, 1) := by decide +kernel
theorem dJ7_fill_53178_3 : decode cJ7_fill_53178 3 = .ok (.arraylength, 1) := by decide +kernel
theorem dJ7_fill_53178_4 : decode cJ7_fill_53178 4 = .ok (.istore_n 3, 1) := by decide +kernel
theorem dJ7_fill_53178_5 : decode cJ7_fill_53178 5 = .ok (.iload_n 2, 1) := by decide +kernel
theorem dJ7_fill_53178_6 : decode cJ7_fill_53178 6 = .ok (.iload_n 3, 1) := by decide +kernel
theorem dJ7_fill_53178_7 : decode cJ7_fill_53178 7 = .ok (.if_icmp .ge 13, 3) := by decide +kernel
theorem dJ7_fill_53178_10 : decode cJ7_fill_53178 10 = .ok (.aload_n 0, 1) := by decide +kernel
theorem dJ7_fill_53178_11 : decode cJ7_fill_53178 11 = .ok (.iload_n 2, 1) := by decide +kernel
theorem dJ7_fill_53178_12 : decode cJ7_fill_53178 12 = .ok (.iload_n 1, 1) := by decide +kernel
theorem dJ7_fill_53178_13 : decode cJ7_fill_53178 13 = .ok (.iastore, 1) := by decide +kernel
theorem dJ7_fill_53178_14 : decode cJ7_fill_53178 14 = .ok (.iinc 2 1, 3) := by decide +kernel
theorem dJ7_fill_53178_17 : decode cJ7_fill_53178 17 = .ok (.goto (-12), 3) := by decide +kernel
theorem dJ7_fill_53178_20 : decode cJ7_fill_53178 20 = .ok (.return_, 1) := by decide +kernel
theorem dL_law_0 : decode cL_law 0 = .ok (.new 7, 3) := by decide +kernel
theorem dL_law_3 : decode cL_law 3 = .ok (.dup, 1) := by decide +kernel
theorem dL_law_4 : decode cL_law 4 = .ok (.invokespecial 9, 3) := by decide +kernel
theorem dL_law_7 : decode cL_law 7 = .ok (.astore_n 1, 1) := by decide +kernel
theorem dL_law_8 : decode cL_law 8 = .ok (.new 10, 3) := by decide +kernel
theorem dL_law_11 : decode cL_law 11 = .ok (.dup, 1) := by decide +kernel
theorem dL_law_12 : decode cL_law 12 = .ok (.invokespecial 12, 3) := by decide +kernel
theorem dL_law_15 : decode cL_law 15 = .ok (.astore_n 2, 1) := by decide +kernel
theorem dL_law_16 : decode cL_law 16 = .ok (.iconst 0, 1) := by decide +kernel
theorem dL_law_17 : decode cL_law 17 = .ok (.istore_n 3, 1) := by decide +kernel
theorem dL_law_18 : decode cL_law 18 = .ok (.iload_n 3, 1) := by decide +kernel
theorem dL_law_19 : decode cL_law 19 = .ok (.aload_n 0, 1) := by decide +kernel
theorem dL_law_20 : decode cL_law 20 = .ok (.arraylength, 1) := by decide +kernel
theorem dL_law_21 : decode cL_law 21 = .ok (.iconst 4, 1) := by decide +kernel
theorem dL_law_22 : decode cL_law 22 = .ok (.isub, 1) := by decide +kernel
theorem dL_law_23 : decode cL_law 23 = .ok (.if_icmp .gt 459, 3) := by decide +kernel
theorem dL_law_26 : decode cL_law 26 = .ok (.aload_n 0, 1) := by decide +kernel
theorem dL_law_27 : decode cL_law 27 = .ok (.iload_n 3, 1) := by decide +kernel
theorem dL_law_28 : decode cL_law 28 = .ok (.iaload, 1) := by decide +kernel
theorem dL_law_29 : decode cL_law 29 = .ok (.bipush 15, 2) := by decide +kernel
theorem dL_law_31 : decode cL_law 31 = .ok (.iand, 1) := by decide +kernel
theorem dL_law_32 : decode cL_law 32 = .ok (.tableswitch 444 0 13 #[72, 95, 128, 151, 174, 207, 240, 283, 326, 349, 372, 385, 398, 411], 72) := by decide +kernel
theorem dL_law_104 : decode cL_law 104 = .ok (.aload_n 1, 1) := by decide +kernel
theorem dL_law_105 : decode cL_law 105 = .ok (.aload_n 0, 1) := by decide +kernel
theorem dL_law_106 : decode cL_law 106 = .ok (.iload_n 3, 1) := by decide +kernel
theorem dL_law_107 : decode cL_law 107 = .ok (.iconst 1, 1) := by decide +kernel
theorem dL_law_108 : decode cL_law 108 = .ok (.iadd, 1) := by decide +kernel
theorem dL_law_109 : decode cL_law 109 = .ok (.iaload, 1) := by decide +kernel
theorem dL_law_110 : decode cL_law 110 = .ok (.invokevirtual 13, 3) := by decide +kernel
theorem dL_law_113 : decode cL_law 113 = .ok (.aload_n 2, 1) := by decide +kernel
theorem dL_law_114 : decode cL_law 114 = .ok (.aload_n 0, 1) := by decide +kernel
theorem dL_law_115 : decode cL_law 115 = .ok (.iload_n 3, 1) := by decide +kernel
theorem dL_law_116 : decode cL_law 116 = .ok (.iconst 1, 1) := by decide +kernel
theorem dL_law_117 : decode cL_law 117 = .ok (.iadd, 1) := by decide +kernel
theorem dL_law_118 : decode cL_law 118 = .ok (.iaload, 1) := by decide +kernel
theorem dL_law_119 : decode cL_law 119 = .ok (.invokevirtual 17, 3) := by decide +kernel
theorem dL_law_122 : decode cL_law 122 = .ok (.if_icmp .eq 354, 3) := by decide +kernel
theorem dL_law_125 : decode cL_law 125 = .ok (.iconst 0, 1) := by decide +kernel
theorem dL_law_126 : decode cL_law 126 = .ok (.ireturn, 1) := by decide +kernel
theorem dL_law_127 : decode cL_law 127 = .ok (.aload_n 1, 1) := by decide +kernel
theorem dL_law_128 : decode cL_law 128 = .ok (.aload_n 0, 1) := by decide +kernel
theorem dL_law_129 : decode cL_law 129 = .ok (.iload_n 3, 1) := by decide +kernel
theorem dL_law_130 : decode cL_law 130 = .ok (.iconst 1, 1) := by decide +kernel
theorem dL_law_131 : decode cL_law 131 = .ok (.iadd, 1) := by decide +kernel
theorem dL_law_132 : decode cL_law 132 = .ok (.iaload, 1) := by decide +kernel
theorem dL_law_133 : decode cL_law 133 = .ok (.aload_n 0, 1) := by decide +kernel
theorem dL_law_134 : decode cL_law 134 = .ok (.iload_n 3, 1) := by decide +kernel
theorem dL_law_135 : decode cL_law 135 = .ok (.iconst 2, 1) := by decide +kernel
theorem dL_law_136 : decode cL_law 136 = .ok (.iadd, 1) := by decide +kernel
theorem dL_law_137 : decode cL_law 137 = .ok (.iaload, 1) := by decide +kernel
theorem dL_law_138 : decode cL_law 138 = .ok (.invokevirtual 18, 3) := by decide +kernel
theorem dL_law_141 : decode cL_law 141 = .ok (.aload_n 2, 1) := by decide +kernel
theorem dL_law_142 : decode cL_law 142 = .ok (.aload_n 0, 1) := by decide +kernel
theorem dL_law_143 : decode cL_law 143 = .ok (.iload_n 3, 1) := by decide +kernel
theorem dL_law_144 : decode cL_law 144 = .ok (.iconst 1, 1) := by decide +kernel
theorem dL_law_145 : decode cL_law 145 = .ok (.iadd, 1) := by decide +kernel
theorem dL_law_146 : decode cL_law 146 = .ok (.iaload, 1) := by decide +kernel
theorem dL_law_147 : decode cL_law 147 = .ok (.aload_n 0, 1) := by decide +kernel
theorem dL_law_148 : decode cL_law 148 = .ok (.iload_n 3, 1) := by decide +kernel
theorem dL_law_149 : decode cL_law 149 = .ok (.iconst 2, 1) := by decide +kernel
theorem dL_law_150 : decode cL_law 150 = .ok (.iadd, 1) := by decide +kernel
theorem dL_law_151 : decode cL_law 151 = .ok (.iaload, 1) := by decide +kernel
theorem dL_law_152 : decode cL_law 152 = .ok (.invokevirtual 22, 3) := by decide +kernel
theorem dL_law_155 : decode cL_law 155 = .ok (.if_icmp .eq 321, 3) := by decide +kernel
theorem dL_law_158 : decode cL_law 158 = .ok (.iconst 0, 1) := by decide +kernel
theorem dL_law_159 : decode cL_law 159 = .ok (.ireturn, 1) := by decide +kernel
theorem dL_law_160 : decode cL_law 160 = .ok (.aload_n 1, 1) := by decide +kernel
theorem dL_law_161 : decode cL_law 161 = .ok (.aload_n 0, 1) := by decide +kernel
theorem dL_law_162 : decode cL_law 162 = .ok (.iload_n 3, 1) := by decide +kernel
theorem dL_law_163 : decode cL_law 163 = .ok (.iconst 1, 1) := by decide +kernel
theorem dL_law_164 : decode cL_law 164 = .ok (.iadd, 1) := by decide +kernel
theorem dL_law_165 : decode cL_law 165 = .ok (.iaload, 1) := by decide +kernel
theorem dL_law_166 : decode cL_law 166 = .ok (.invokevirtual 23, 3) := by decide +kernel
theorem dL_law_169 : decode cL_law 169 = .ok (.aload_n 2, 1) := by decide +kernel
theorem dL_law_170 : decode cL_law 170 = .ok (.aload_n 0, 1) := by decide +kernel
theorem dL_law_171 : decode cL_law 171 = .ok (.iload_n 3, 1) := by decide +kernel
theorem dL_law_172 : decode cL_law 172 = .ok (.iconst 1, 1) := by decide +kernel
theorem dL_law_173 : decode cL_law 173 = .ok (.iadd, 1) := by decide +kernel
theorem dL_law_174 : decode cL_law 174 = .ok (.iaload, 1) := by decide +kernel
theorem dL_law_175 : decode cL_law 175 = .ok (.invokevirtual 26, 3) := by decide +kernel
theorem dL_law_178 : decode cL_law 178 = .ok (.if_icmp .eq 298, 3) := by decide +kernel
theorem dL_law_181 : decode cL_law 181 = .ok (.iconst 0, 1) := by decide +kernel
theorem dL_law_182 : decode cL_law 182 = .ok (.ireturn, 1) := by decide +kernel
theorem dL_law_183 : decode cL_law 183 = .ok (.aload_n 1, 1) := by decide +kernel
theorem dL_law_184 : decode cL_law 184 = .ok (.aload_n 0, 1) := by decide +kernel
theorem dL_law_185 : decode cL_law 185 = .ok (.iload_n 3, 1) := by decide +kernel
theorem dL_law_186 : decode cL_law 186 = .ok (.iconst 1, 1) := by decide +kernel
theorem dL_law_187 : decode cL_law 187 = .ok (.iadd, 1) := by decide +kernel
theorem dL_law_188 : decode cL_law 188 = .ok (.iaload, 1) := by decide +kernel
theorem dL_law_189 : decode cL_law 189 = .ok (.invokevirtual 27, 3) := by decide +kernel
theorem dL_law_192 : decode cL_law 192 = .ok (.aload_n 2, 1) := by decide +kernel
theorem dL_law_193 : decode cL_law 193 = .ok (.aload_n 0, 1) := by decide +kernel
theorem dL_law_194 : decode cL_law 194 = .ok (.iload_n 3, 1) := by decide +kernel
theorem dL_law_195 : decode cL_law 195 = .ok (.iconst 1, 1) := by decide +kernel
theorem dL_law_196 : decode cL_law 196 = .ok (.iadd, 1) := by decide +kernel
theorem dL_law_197 : decode cL_law 197 = .ok (.iaload, 1) := by decide +kernel
theorem dL_law_198 : decode cL_law 198 = .ok (.invokevirtual 30, 3) := by decide +kernel
theorem dL_law_201 : decode cL_law 201 = .ok (.if_icmp .eq 275, 3) := by decide +kernel
theorem dL_law_204 : decode cL_law 204 = .ok (.iconst 0, 1) := by decide +kernel
theorem dL_law_205 : decode cL_law 205 = .ok (.ireturn, 1) := by decide +kernel
theorem dL_law_206 : decode cL_law 206 = .ok (.aload_n 1, 1) := by decide +kernel
theorem dL_law_207 : decode cL_law 207 = .ok (.aload_n 0, 1) := by decide +kernel
theorem dL_law_208 : decode cL_law 208 = .ok (.iload_n 3, 1) := by decide +kernel
theorem dL_law_209 : decode cL_law 209 = .ok (.iconst 1, 1) := by decide +kernel
theorem dL_law_210 : decode cL_law 210 = .ok (.iadd, 1) := by decide +kernel
theorem dL_law_211 : decode cL_law 211 = .ok (.iaload, 1) := by decide +kernel
theorem dL_law_212 : decode cL_law 212 = .ok (.aload_n 0, 1) := by decide +kernel
theorem dL_law_213 : decode cL_law 213 = .ok (.iload_n 3, 1) := by decide +kernel
theorem dL_law_214 : decode cL_law 214 = .ok (.iconst 2, 1) := by decide +kernel
theorem dL_law_215 : decode cL_law 215 = .ok (.iadd, 1) := by decide +kernel
theorem dL_law_216 : decode cL_law 216 = .ok (.iaload, 1) := by decide +kernel
theorem dL_law_217 : decode cL_law 217 = .ok (.invokevirtual 31, 3) := by decide +kernel
theorem dL_law_220 : decode cL_law 220 = .ok (.aload_n 2, 1) := by decide +kernel
theorem dL_law_221 : decode cL_law 221 = .ok (.aload_n 0, 1) := by decide +kernel
theorem dL_law_222 : decode cL_law 222 = .ok (.iload_n 3, 1) := by decide +kernel
theorem dL_law_223 : decode cL_law 223 = .ok (.iconst 1, 1) := by decide +kernel
theorem dL_law_224 : decode cL_law 224 = .ok (.iadd, 1) := by decide +kernel
theorem dL_law_225 : decode cL_law 225 = .ok (.iaload, 1) := by decide +kernel
theorem dL_law_226 : decode cL_law 226 = .ok (.aload_n 0, 1) := by decide +kernel
theorem dL_law_227 : decode cL_law 227 = .ok (.iload_n 3, 1) := by decide +kernel
theorem dL_law_228 : decode cL_law 228 = .ok (.iconst 2, 1) := by decide +kernel
theorem dL_law_229 : decode cL_law 229 = .ok (.iadd, 1) := by decide +kernel
theorem dL_law_230 : decode cL_law 230 = .ok (.iaload, 1) := by decide +kernel
theorem dL_law_231 : decode cL_law 231 = .ok (.invokevirtual 34, 3) := by decide +kernel
theorem dL_law_234 : decode cL_law 234 = .ok (.if_icmp .eq 242, 3) := by decide +kernel
theorem dL_law_237 : decode cL_law 237 = .ok (.iconst 0, 1) := by decide +kernel
theorem dL_law_238 : decode cL_law 238 = .ok (.ireturn, 1) := by decide +kernel
theorem dL_law_239 : decode cL_law 239 = .ok (.aload_n 1, 1) := by decide +kernel
theorem dL_law_240 : decode cL_law 240 = .ok (.aload_n 0, 1) := by decide +kernel
theorem dL_law_241 : decode cL_law 241 = .ok (.iload_n 3, 1) := by decide +kernel
theorem dL_law_242 : decode cL_law 242 = .ok (.iconst 1, 1) := by decide +kernel
theorem dL_law_243 : decode cL_law 243 = .ok (.iadd, 1) := by decide +kernel
theorem dL_law_244 : decode cL_law 244 = .ok (.iaload, 1) := by decide +kernel
theorem dL_law_245 : decode cL_law 245 = .ok (.aload_n 0, 1) := by decide +kernel
theorem dL_law_246 : decode cL_law 246 = .ok (.iload_n 3, 1) := by decide +kernel
theorem dL_law_247 : decode cL_law 247 = .ok (.iconst 2, 1) := by decide +kernel
theorem dL_law_248 : decode cL_law 248 = .ok (.iadd, 1) := by decide +kernel
theorem dL_law_249 : decode cL_law 249 = .ok (.iaload, 1) := by decide +kernel
theorem dL_law_250 : decode cL_law 250 = .ok (.invokevirtual 35, 3) := by decide +kernel
theorem dL_law_253 : decode cL_law 253 = .ok (.aload_n 2, 1) := by decide +kernel
theorem dL_law_254 : decode cL_law 254 = .ok (.aload_n 0, 1) := by decide +kernel
theorem dL_law_255 : decode cL_law 255 = .ok (.iload_n 3, 1) := by decide +kernel
theorem dL_law_256 : decode cL_law 256 = .ok (.iconst 1, 1) := by decide +kernel
theorem dL_law_257 : decode cL_law 257 = .ok (.iadd, 1) := by decide +kernel
theorem dL_law_258 : decode cL_law 258 = .ok (.iaload, 1) := by decide +kernel
theorem dL_law_259 : decode cL_law 259 = .ok (.aload_n 0, 1) := by decide +kernel
theorem dL_law_260 : decode cL_law 260 = .ok (.iload_n 3, 1) := by decide +kernel
theorem dL_law_261 : decode cL_law 261 = .ok (.iconst 2, 1) := by decide +kernel
theorem dL_law_262 : decode cL_law 262 = .ok (.iadd, 1) := by decide +kernel
theorem dL_law_263 : decode cL_law 263 = .ok (.iaload, 1) := by decide +kernel
theorem dL_law_264 : decode cL_law 264 = .ok (.invokevirtual 38, 3) := by decide +kernel
theorem dL_law_267 : decode cL_law 267 = .ok (.if_icmp .eq 209, 3) := by decide +kernel
theorem dL_law_270 : decode cL_law 270 = .ok (.iconst 0, 1) := by decide +kernel
theorem dL_law_271 : decode cL_law 271 = .ok (.ireturn, 1) := by decide +kernel
theorem dL_law_272 : decode cL_law 272 = .ok (.aload_n 1, 1) := by decide +kernel
theorem dL_law_273 : decode cL_law 273 = .ok (.aload_n 0, 1) := by decide +kernel
theorem dL_law_274 : decode cL_law 274 = .ok (.iload_n 3, 1) := by decide +kernel
theorem dL_law_275 : decode cL_law 275 = .ok (.iconst 1, 1) := by decide +kernel
theorem dL_law_276 : decode cL_law 276 = .ok (.iadd, 1) := by decide +kernel
theorem dL_law_277 : decode cL_law 277 = .ok (.iaload, 1) := by decide +kernel
theorem dL_law_278 : decode cL_law 278 = .ok (.aload_n 0, 1) := by decide +kernel
theorem dL_law_279 : decode cL_law 279 = .ok (.iload_n 3, 1) := by decide +kernel
theorem dL_law_280 : decode cL_law 280 = .ok (.iconst 2, 1) := by decide +kernel
theorem dL_law_281 : decode cL_law 281 = .ok (.iadd, 1) := by decide +kernel
theorem dL_law_282 : decode cL_law 282 = .ok (.iaload, 1) := by decide +kernel
theorem dL_law_283 : decode cL_law 283 = .ok (.aload_n 0, 1) := by decide +kernel
theorem dL_law_284 : decode cL_law 284 = .ok (.iload_n 3, 1) := by decide +kernel
theorem dL_law_285 : decode cL_law 285 = .ok (.iconst 3, 1) := by decide +kernel
theorem dL_law_286 : decode cL_law 286 = .ok (.iadd, 1) := by decide +kernel
theorem dL_law_287 : decode cL_law 287 = .ok (.iaload, 1) := by decide +kernel
theorem dL_law_288 : decode cL_law 288 = .ok (.invokevirtual 39, 3) := by decide +kernel
theorem dL_law_291 : decode cL_law 291 = .ok (.aload_n 2, 1) := by decide +kernel
theorem dL_law_292 : decode cL_law 292 = .ok (.aload_n 0, 1) := by decide +kernel
theorem dL_law_293 : decode cL_law 293 = .ok (.iload_n 3, 1) := by decide +kernel
theorem dL_law_294 : decode cL_law 294 = .ok (.iconst 1, 1) := by decide +kernel
theorem dL_law_295 : decode cL_law 295 = .ok (.iadd, 1) := by decide +kernel
theorem dL_law_296 : decode cL_law 296 = .ok (.iaload, 1) := by decide +kernel
theorem dL_law_297 : decode cL_law 297 = .ok (.aload_n 0, 1) := by decide +kernel
theorem dL_law_298 : decode cL_law 298 = .ok (.iload_n 3, 1) := by decide +kernel
theorem dL_law_299 : decode cL_law 299 = .ok (.iconst 2, 1) := by decide +kernel
theorem dL_law_300 : decode cL_law 300 = .ok (.iadd, 1) := by decide +kernel
theorem dL_law_301 : decode cL_law 301 = .ok (.iaload, 1) := by decide +kernel
theorem dL_law_302 : decode cL_law 302 = .ok (.aload_n 0, 1) := by decide +kernel
theorem dL_law_303 : decode cL_law 303 = .ok (.iload_n 3, 1) := by decide +kernel
theorem dL_law_304 : decode cL_law 304 = .ok (.iconst 3, 1) := by decide +kernel
theorem dL_law_305 : decode cL_law 305 = .ok (.iadd, 1) := by decide +kernel
theorem dL_law_306 : decode cL_law 306 = .ok (.iaload, 1) := by decide +kernel
theorem dL_law_307 : decode cL_law 307 = .ok (.invokevirtual 43, 3) := by decide +kernel
theorem dL_law_310 : decode cL_law 310 = .ok (.if_icmp .eq 166, 3) := by decide +kernel
theorem dL_law_313 : decode cL_law 313 = .ok (.iconst 0, 1) := by decide +kernel
theorem dL_law_314 : decode cL_law 314 = .ok (.ireturn, 1) := by decide +kernel
theorem dL_law_315 : decode cL_law 315 = .ok (.aload_n 1, 1) := by decide +kernel
theorem dL_law_316 : decode cL_law 316 = .ok (.aload_n 0, 1) := by decide +kernel
theorem dL_law_317 : decode cL_law 317 = .ok (.iload_n 3, 1) := by decide +kernel
theorem dL_law_318 : decode cL_law 318 = .ok (.iconst 1, 1) := by decide +kernel
theorem dL_law_319 : decode cL_law 319 = .ok (.iadd, 1) := by decide +kernel
theorem dL_law_320 : decode cL_law 320 = .ok (.iaload, 1) := by decide +kernel
theorem dL_law_321 : decode cL_law 321 = .ok (.aload_n 0, 1) := by decide +kernel
theorem dL_law_322 : decode cL_law 322 = .ok (.iload_n 3, 1) := by decide +kernel
theorem dL_law_323 : decode cL_law 323 = .ok (.iconst 2, 1) := by decide +kernel
theorem dL_law_324 : decode cL_law 324 = .ok (.iadd, 1) := by decide +kernel
theorem dL_law_325 : decode cL_law 325 = .ok (.iaload, 1) := by decide +kernel
theorem dL_law_326 : decode cL_law 326 = .ok (.aload_n 0, 1) := by decide +kernel
theorem dL_law_327 : decode cL_law 327 = .ok (.iload_n 3, 1) := by decide +kernel
theorem dL_law_328 : decode cL_law 328 = .ok (.iconst 3, 1) := by decide +kernel
theorem dL_law_329 : decode cL_law 329 = .ok (.iadd, 1) := by decide +kernel
theorem dL_law_330 : decode cL_law 330 = .ok (.iaload, 1) := by decide +kernel
theorem dL_law_331 : decode cL_law 331 = .ok (.invokevirtual 44, 3) := by decide +kernel
theorem dL_law_334 : decode cL_law 334 = .ok (.aload_n 2, 1) := by decide +kernel
theorem dL_law_335 : decode cL_law 335 = .ok (.aload_n 0, 1) := by decide +kernel
theorem dL_law_336 : decode cL_law 336 = .ok (.iload_n 3, 1) := by decide +kernel
theorem dL_law_337 : decode cL_law 337 = .ok (.iconst 1, 1) := by decide +kernel
theorem dL_law_338 : decode cL_law 338 = .ok (.iadd, 1) := by decide +kernel
theorem dL_law_339 : decode cL_law 339 = .ok (.iaload, 1) := by decide +kernel
theorem dL_law_340 : decode cL_law 340 = .ok (.aload_n 0, 1) := by decide +kernel
theorem dL_law_341 : decode cL_law 341 = .ok (.iload_n 3, 1) := by decide +kernel
theorem dL_law_342 : decode cL_law 342 = .ok (.iconst 2, 1) := by decide +kernel
theorem dL_law_343 : decode cL_law 343 = .ok (.iadd, 1) := by decide +kernel
theorem dL_law_344 : decode cL_law 344 = .ok (.iaload, 1) := by decide +kernel
theorem dL_law_345 : decode cL_law 345 = .ok (.aload_n 0, 1) := by decide +kernel
theorem dL_law_346 : decode cL_law 346 = .ok (.iload_n 3, 1) := by decide +kernel
theorem dL_law_347 : decode cL_law 347 = .ok (.iconst 3, 1) := by decide +kernel
theorem dL_law_348 : decode cL_law 348 = .ok (.iadd, 1) := by decide +kernel
theorem dL_law_349 : decode cL_law 349 = .ok (.iaload, 1) := by decide +kernel
theorem dL_law_350 : decode cL_law 350 = .ok (.invokevirtual 47, 3) := by decide +kernel
theorem dL_law_353 : decode cL_law 353 = .ok (.if_icmp .eq 123, 3) := by decide +kernel
theorem dL_law_356 : decode cL_law 356 = .ok (.iconst 0, 1) := by decide +kernel
theorem dL_law_357 : decode cL_law 357 = .ok (.ireturn, 1) := by decide +kernel
theorem dL_law_358 : decode cL_law 358 = .ok (.aload_n 1, 1) := by decide +kernel
theorem dL_law_359 : decode cL_law 359 = .ok (.aload_n 0, 1) := by decide +kernel
theorem dL_law_360 : decode cL_law 360 = .ok (.iload_n 3, 1) := by decide +kernel
theorem dL_law_361 : decode cL_law 361 = .ok (.iconst 1, 1) := by decide +kernel
theorem dL_law_362 : decode cL_law 362 = .ok (.iadd, 1) := by decide +kernel
theorem dL_law_363 : decode cL_law 363 = .ok (.iaload, 1) := by decide +kernel
theorem dL_law_364 : decode cL_law 364 = .ok (.invokevirtual 48, 3) := by decide +kernel
theorem dL_law_367 : decode cL_law 367 = .ok (.aload_n 2, 1) := by decide +kernel
theorem dL_law_368 : decode cL_law 368 = .ok (.aload_n 0, 1) := by decide +kernel
theorem dL_law_369 : decode cL_law 369 = .ok (.iload_n 3, 1) := by decide +kernel
theorem dL_law_370 : decode cL_law 370 = .ok (.iconst 1, 1) := by decide +kernel
theorem dL_law_371 : decode cL_law 371 = .ok (.iadd, 1) := by decide +kernel
theorem dL_law_372 : decode cL_law 372 = .ok (.iaload, 1) := by decide +kernel
theorem dL_law_373 : decode cL_law 373 = .ok (.invokevirtual 51, 3) := by decide +kernel
theorem dL_law_376 : decode cL_law 376 = .ok (.if_icmp .eq 100, 3) := by decide +kernel
theorem dL_law_379 : decode cL_law 379 = .ok (.iconst 0, 1) := by decide +kernel
theorem dL_law_380 : decode cL_law 380 = .ok (.ireturn, 1) := by decide +kernel
theorem dL_law_381 : decode cL_law 381 = .ok (.aload_n 1, 1) := by decide +kernel
theorem dL_law_382 : decode cL_law 382 = .ok (.aload_n 0, 1) := by decide +kernel
theorem dL_law_383 : decode cL_law 383 = .ok (.iload_n 3, 1) := by decide +kernel
theorem dL_law_384 : decode cL_law 384 = .ok (.iconst 1, 1) := by decide +kernel
theorem dL_law_385 : decode cL_law 385 = .ok (.iadd, 1) := by decide +kernel
theorem dL_law_386 : decode cL_law 386 = .ok (.iaload, 1) := by decide +kernel
theorem dL_law_387 : decode cL_law 387 = .ok (.invokevirtual 52, 3) := by decide +kernel
theorem dL_law_390 : decode cL_law 390 = .ok (.aload_n 2, 1) := by decide +kernel
theorem dL_law_391 : decode cL_law 391 = .ok (.aload_n 0, 1) := by decide +kernel
theorem dL_law_392 : decode cL_law 392 = .ok (.iload_n 3, 1) := by decide +kernel
theorem dL_law_393 : decode cL_law 393 = .ok (.iconst 1, 1) := by decide +kernel
theorem dL_law_394 : decode cL_law 394 = .ok (.iadd, 1) := by decide +kernel
theorem dL_law_395 : decode cL_law 395 = .ok (.iaload, 1) := by decide +kernel
theorem dL_law_396 : decode cL_law 396 = .ok (.invokevirtual 55, 3) := by decide +kernel
theorem dL_law_399 : decode cL_law 399 = .ok (.if_icmp .eq 77, 3) := by decide +kernel
theorem dL_law_402 : decode cL_law 402 = .ok (.iconst 0, 1) := by decide +kernel
theorem dL_law_403 : decode cL_law 403 = .ok (.ireturn, 1) := by decide +kernel
theorem dL_law_404 : decode cL_law 404 = .ok (.aload_n 1, 1) := by decide +kernel
theorem dL_law_405 : decode cL_law 405 = .ok (.invokevirtual 56, 3) := by decide +kernel
theorem dL_law_408 : decode cL_law 408 = .ok (.aload_n 2, 1) := by decide +kernel
theorem dL_law_409 : decode cL_law 409 = .ok (.invokevirtual 60, 3) := by decide +kernel
theorem dL_law_412 : decode cL_law 412 = .ok (.if_icmp .eq 64, 3) := by decide +kernel
theorem dL_law_415 : decode cL_law 415 = .ok (.iconst 0, 1) := by decide +kernel
theorem dL_law_416 : decode cL_law 416 = .ok (.ireturn, 1) := by decide +kernel
theorem dL_law_417 : decode cL_law 417 = .ok (.aload_n 1, 1) := by decide +kernel
theorem dL_law_418 : decode cL_law 418 = .ok (.invokevirtual 61, 3) := by decide +kernel
theorem dL_law_421 : decode cL_law 421 = .ok (.aload_n 2, 1) := by decide +kernel
theorem dL_law_422 : decode cL_law 422 = .ok (.invokevirtual 64, 3) := by decide +kernel
theorem dL_law_425 : decode cL_law 425 = .ok (.if_icmp .eq 51, 3) := by decide +kernel
theorem dL_law_428 : decode cL_law 428 = .ok (.iconst 0, 1) := by decide +kernel
theorem dL_law_429 : decode cL_law 429 = .ok (.ireturn, 1) := by decide +kernel
theorem dL_law_430 : decode cL_law 430 = .ok (.aload_n 1, 1) := by decide +kernel
theorem dL_law_431 : decode cL_law 431 = .ok (.invokevirtual 65, 3) := by decide +kernel
theorem dL_law_434 : decode cL_law 434 = .ok (.aload_n 2, 1) := by decide +kernel
theorem dL_law_435 : decode cL_law 435 = .ok (.invokevirtual 68, 3) := by decide +kernel
theorem dL_law_438 : decode cL_law 438 = .ok (.if_icmp .eq 38, 3) := by decide +kernel
theorem dL_law_441 : decode cL_law 441 = .ok (.iconst 0, 1) := by decide +kernel
theorem dL_law_442 : decode cL_law 442 = .ok (.ireturn, 1) := by decide +kernel
theorem dL_law_443 : decode cL_law 443 = .ok (.aload_n 1, 1) := by decide +kernel
theorem dL_law_444 : decode cL_law 444 = .ok (.aload_n 0, 1) := by decide +kernel
theorem dL_law_445 : decode cL_law 445 = .ok (.iload_n 3, 1) := by decide +kernel
theorem dL_law_446 : decode cL_law 446 = .ok (.iconst 1, 1) := by decide +kernel
theorem dL_law_447 : decode cL_law 447 = .ok (.iadd, 1) := by decide +kernel
theorem dL_law_448 : decode cL_law 448 = .ok (.iaload, 1) := by decide +kernel
theorem dL_law_449 : decode cL_law 449 = .ok (.aload_n 0, 1) := by decide +kernel
theorem dL_law_450 : decode cL_law 450 = .ok (.iload_n 3, 1) := by decide +kernel
theorem dL_law_451 : decode cL_law 451 = .ok (.iconst 2, 1) := by decide +kernel
theorem dL_law_452 : decode cL_law 452 = .ok (.iadd, 1) := by decide +kernel
theorem dL_law_453 : decode cL_law 453 = .ok (.iaload, 1) := by decide +kernel
theorem dL_law_454 : decode cL_law 454 = .ok (.invokevirtual 69, 3) := by decide +kernel
theorem dL_law_457 : decode cL_law 457 = .ok (.aload_n 2, 1) := by decide +kernel
theorem dL_law_458 : decode cL_law 458 = .ok (.aload_n 0, 1) := by decide +kernel
theorem dL_law_459 : decode cL_law 459 = .ok (.iload_n 3, 1) := by decide +kernel
theorem dL_law_460 : decode cL_law 460 = .ok (.iconst 1, 1) := by decide +kernel
theorem dL_law_461 : decode cL_law 461 = .ok (.iadd, 1) := by decide +kernel
theorem dL_law_462 : decode cL_law 462 = .ok (.iaload, 1) := by decide +kernel
theorem dL_law_463 : decode cL_law 463 = .ok (.aload_n 0, 1) := by decide +kernel
theorem dL_law_464 : decode cL_law 464 = .ok (.iload_n 3, 1) := by decide +kernel
theorem dL_law_465 : decode cL_law 465 = .ok (.iconst 2, 1) := by decide +kernel
theorem dL_law_466 : decode cL_law 466 = .ok (.iadd, 1) := by decide +kernel
theorem dL_law_467 : decode cL_law 467 = .ok (.iaload, 1) := by decide +kernel
theorem dL_law_468 : decode cL_law 468 = .ok (.invokevirtual 72, 3) := by decide +kernel
theorem dL_law_471 : decode cL_law 471 = .ok (.if_icmp .eq 5, 3) := by decide +kernel
theorem dL_law_474 : decode cL_law 474 = .ok (.iconst 0, 1) := by decide +kernel
theorem dL_law_475 : decode cL_law 475 = .ok (.ireturn, 1) := by decide +kernel
theorem dL_law_476 : decode cL_law 476 = .ok (.iinc 3 4, 3) := by decide +kernel
theorem dL_law_479 : decode cL_law 479 = .ok (.goto (-461), 3) := by decide +kernel
theorem dL_law_482 : decode cL_law 482 = .ok (.iconst 1, 1) := by decide +kernel
theorem dL_law_483 : decode cL_law 483 = .ok (.ireturn, 1) := by decide +kernel
end
section
/-! THE MEMORY BY NAMES. A cell has a name (a number); ad gives its address; a state is what the int fields (first) and the rows (second) hold, by name. References never change once the objects are made. -/
abbrev gm_S : Type := (Nat → Nat → Int32) × (Nat → Nat → Int32)
abbrev gm_E : Type := va_G × (ClassId × ClassId × ClassId × ClassId) × (Nat → Nat)
/-- field j of x becomes v -/
def gm_sc (σ : gm_S) (x j : Nat) (v : Int32) : gm_S := (va_up σ.1 x (upd (σ.1 x) j v), σ.2)
/-- place i of the row x becomes v -/
def gm_ar (σ : gm_S) (x i : Nat) (v : Int32) : gm_S := (σ.1, va_up σ.2 x (upd (σ.2 x) i v))
/-- the packing of k forests -/
abbrev gm_P (k : Nat) : Nat := 20 + 30 * k
def gm_names : List Nat := List.range 15 ++ (List.range 7).flatMap (fun k => (List.range (5 + 3 * k)).map (fun r => 20 + 30 * k + r))
def gm_cl (E : gm_E) (x : Nat) (f g : Nat → Int32) : va_E :=
  if x < 20 then match x with
    | 0 => .inr (3, [.ref (E.2.2 1), .ref (E.2.2 4)])
    | 1 => .inr (0, [.ref (E.2.2 2), .ref (E.2.2 3), .int (f 2), .int (f 3)])
    | 4 => .inl (E.2.1.2.2.1, 7, .inr (.inr (.inr (.inr (fun i => some (E.2.2 (gm_P i)))))))
    | 5 => .inr (4, [.int (f 0), .ref (E.2.2 6), .ref (E.2.2 7), .int (f 3), .ref (E.2.2 8), .ref (E.2.2 9), .ref (E.2.2 10), .ref (E.2.2 11), .ref (E.2.2 12), .ref (E.2.2 13), .ref (E.2.2 14)])
    | 6 => .inl (E.2.1.1, 48, .inl g)
    | 7 => .inl (E.2.1.2.1, 24, .inl g)
    | 9 => .inl (E.2.1.2.1, 24, .inl g)
    | 13 => .inl (E.2.1.1, 10, .inl g)
    | _ => .inl (E.2.1.1, 24, .inl g)
  else if (x - 20) % 30 = 0 then .inr (1, [.ref (E.2.2 (x + 1)), .int (f 1), .int (f 2), .ref (E.2.2 (x + 4)), .int (f 4), .int (f 5), .int (f 6), .ref (E.2.2 (x + 2)), .int (f 8), .ref (E.2.2 (x + 3)), .int (f 10), .int (f 11)])
  else if (x - 20) % 30 < 4 then .inl (E.2.1.1, 24, .inl g)
  else if (x - 20) % 30 = 4 then .inl (E.2.1.2.2.2, (x - 20) / 30, .inr (.inr (.inr (.inr (fun i => some (E.2.2 (x + 1 + 3 * i)))))))
  else if (x - 20) % 30 % 3 = 2 then .inr (2, [.ref (E.2.2 (x + 1)), .ref (E.2.2 (x + 2))])
  else .inl (E.2.1.1, 10, .inl g)
def gm_cell (E : gm_E) (σ : gm_S) (x : Nat) : va_E := gm_cl E x (σ.1 x) (σ.2 x)
def gm_w (E : gm_E) (σ : gm_S) : va_W := gm_names.map (fun x => (E.2.2 x, gm_cell E σ x))
def gm_tys (E : gm_E) : List (ClassId × FieldType) := [(E.2.1.1, .int), (E.2.1.2.1, .boolean), (E.2.1.2.2.1, .object "ForestPacker$Packing"), (E.2.1.2.2.2, .object "ForestPacker$RootedForest")]
theorem gm_in_lo {x : Nat} (h : x < 15) : x ∈ gm_names := List.mem_append_left _ (List.mem_range.mpr h)
theorem gm_in_P {k r : Nat} (hk : k < 7) (hr : r < 5 + 3 * k) : gm_P k + r ∈ gm_names := List.mem_append_right _ (List.mem_flatMap.mpr ⟨k, List.mem_range.mpr hk, List.mem_map.mpr ⟨r, List.mem_range.mpr hr, rfl⟩⟩)
theorem gm_at {E : gm_E} (σ : gm_S) {x : Nat} (hx : x ∈ gm_names) : ∃ q : Nat, (gm_w E σ)[q]? = some (E.2.2 x, gm_cell E σ x) := by
  apply List.getElem?_of_mem
  exact List.mem_map.mpr ⟨x, hx, rfl⟩
theorem gm_adr (E : gm_E) (σ : gm_S) (j : Nat) (a : Nat) (e : va_E) (h : (gm_w E σ)[j]? = some (a, e)) : ∃ y, gm_names[j]? = some y ∧ a = E.2.2 y ∧ e = gm_cell E σ y := by
  simp only [gm_w, List.getElem?_map] at h
  cases hb : gm_names[j]? with
  | none => rw [hb] at h; cases h
  | some y =>
    rw [hb] at h
    cases h
    exact ⟨y, rfl, rfl, rfl⟩
theorem gm_set {A : Nat → Prop} {E : gm_E} {σ σ' : gm_S} {x q : Nat} {e : va_E} (hx : x ∈ gm_names) (hD : va_D A (gm_w E σ)) (hq : (gm_w E σ)[q]? = some (E.2.2 x, gm_cell E σ x)) (he : gm_cell E σ' x = e) (ho : ∀ y, y ≠ x → gm_cell E σ' y = gm_cell E σ y) : (gm_w E σ).set q (E.2.2 x, e) = gm_w E σ' := by
  have hl := (List.getElem?_eq_some_iff.mp hq).1
  obtain ⟨i, hi⟩ := List.getElem?_of_mem hx
  have hwi : (gm_w E σ)[i]? = some (E.2.2 x, gm_cell E σ x) := by simp only [gm_w, List.getElem?_map, hi]; rfl
  have hiq : i = q := hD.1 i q _ _ hwi hq rfl
  subst hiq
  apply List.ext_getElem?
  intro j
  by_cases hj : j = i
  · subst hj
    rw [List.getElem?_set_self hl]
    simp only [gm_w, List.getElem?_map, hi, Option.map_some, he]
  · rw [List.getElem?_set_ne (Ne.symm hj)]
    simp only [gm_w, List.getElem?_map]
    cases hb : gm_names[j]? with
    | none => rfl
    | some y =>
      have hyx : y ≠ x := by
        intro h
        subst h
        have h2 : (gm_w E σ)[j]? = some (E.2.2 y, gm_cell E σ y) := by simp only [gm_w, List.getElem?_map, hb]; rfl
        exact hj (hD.1 j i _ _ h2 hq rfl)
      simp only [Option.map_some, ho y hyx]
theorem gm_sc_o {E : gm_E} {σ : gm_S} {x j : Nat} {v : Int32} (y : Nat) (h : y ≠ x) : gm_cell E (gm_sc σ x j v) y = gm_cell E σ y := by
  simp only [gm_cell, gm_sc, va_up_ne _ _ h]
theorem gm_ar_o {E : gm_E} {σ : gm_S} {x j : Nat} {v : Int32} (y : Nat) (h : y ≠ x) : gm_cell E (gm_ar σ x j v) y = gm_cell E σ y := by
  simp only [gm_cell, gm_ar, va_up_ne _ _ h]
theorem gm_sc_s {E : gm_E} {σ : gm_S} {x j : Nat} {v : Int32} : gm_cell E (gm_sc σ x j v) x = gm_cl E x (upd (σ.1 x) j v) (σ.2 x) := by
  simp only [gm_cell, gm_sc, va_up_self]
theorem gm_ar_s {E : gm_E} {σ : gm_S} {x j : Nat} {v : Int32} : gm_cell E (gm_ar σ x j v) x = gm_cl E x (σ.1 x) (upd (σ.2 x) j v) := by
  simp only [gm_cell, gm_ar, va_up_self]
/-! the kinds -/
theorem gm_cP (E : gm_E) (k : Nat) (f g : Nat → Int32) : gm_cl E (gm_P k) f g = .inr (1, [.ref (E.2.2 (gm_P k + 1)), .int (f 1), .int (f 2), .ref (E.2.2 (gm_P k + 4)), .int (f 4), .int (f 5), .int (f 6), .ref (E.2.2 (gm_P k + 2)), .int (f 8), .ref (E.2.2 (gm_P k + 3)), .int (f 10), .int (f 11)]) := by
  unfold gm_cl
  rw [if_neg (by show ¬ 20 + 30 * k < 20; omega), if_pos (by show (20 + 30 * k - 20) % 30 = 0; omega)]
theorem gm_cR (E : gm_E) (k r : Nat) (h1 : 1 ≤ r) (h2 : r < 4) (f g : Nat → Int32) : gm_cl E (gm_P k + r) f g = .inl (E.2.1.1, 24, .inl g) := by
  unfold gm_cl
  rw [if_neg (by show ¬ 20 + 30 * k + r < 20; omega), if_neg (by show ¬ (20 + 30 * k + r - 20) % 30 = 0; omega), if_pos (by show (20 + 30 * k + r - 20) % 30 < 4; omega)]
theorem gm_cF (E : gm_E) (k : Nat) (f g : Nat → Int32) : gm_cl E (gm_P k + 4) f g = .inl (E.2.1.2.2.2, k, .inr (.inr (.inr (.inr (fun i => some (E.2.2 (gm_P k + 5 + 3 * i))))))) := by
  unfold gm_cl
  rw [if_neg (by show ¬ 20 + 30 * k + 4 < 20; omega), if_neg (by show ¬ (20 + 30 * k + 4 - 20) % 30 = 0; omega), if_neg (by show ¬ (20 + 30 * k + 4 - 20) % 30 < 4; omega), if_pos (by show (20 + 30 * k + 4 - 20) % 30 = 4; omega), show (20 + 30 * k + 4 - 20) / 30 = k by omega]
theorem gm_cT (E : gm_E) (k i : Nat) (hi : i < 7) (f g : Nat → Int32) : gm_cl E (gm_P k + 5 + 3 * i) f g = .inr (2, [.ref (E.2.2 (gm_P k + 5 + 3 * i + 1)), .ref (E.2.2 (gm_P k + 5 + 3 * i + 2))]) := by
  unfold gm_cl
  rw [if_neg (by show ¬ 20 + 30 * k + 5 + 3 * i < 20; omega), if_neg (by show ¬ (20 + 30 * k + 5 + 3 * i - 20) % 30 = 0; omega), if_neg (by show ¬ (20 + 30 * k + 5 + 3 * i - 20) % 30 < 4; omega), if_neg (by show ¬ (20 + 30 * k + 5 + 3 * i - 20) % 30 = 4; omega), if_pos (by show (20 + 30 * k + 5 + 3 * i - 20) % 30 % 3 = 2; omega)]
theorem gm_cU (E : gm_E) (k i r : Nat) (hi : i < 7) (h1 : 1 ≤ r) (h2 : r < 3) (f g : Nat → Int32) : gm_cl E (gm_P k + 5 + 3 * i + r) f g = .inl (E.2.1.1, 10, .inl g) := by
  unfold gm_cl
  rw [if_neg (by show ¬ 20 + 30 * k + 5 + 3 * i + r < 20; omega), if_neg (by show ¬ (20 + 30 * k + 5 + 3 * i + r - 20) % 30 = 0; omega), if_neg (by show ¬ (20 + 30 * k + 5 + 3 * i + r - 20) % 30 < 4; omega), if_neg (by show ¬ (20 + 30 * k + 5 + 3 * i + r - 20) % 30 = 4; omega), if_neg (by show ¬ (20 + 30 * k + 5 + 3 * i + r - 20) % 30 % 3 = 2; omega)]
/-- x is a row of n ints -/
def gm_isI (E : gm_E) (x n : Nat) : Prop := x ∈ gm_names ∧ ∀ f g, gm_cl E x f g = .inl (E.2.1.1, n, .inl g)
def gm_isZ (E : gm_E) (x n : Nat) : Prop := x ∈ gm_names ∧ ∀ f g, gm_cl E x f g = .inl (E.2.1.2.1, n, .inl g)
/-- x is an object: the number of its class, its fields out of the ints that it holds -/
def gm_isO (E : gm_E) (x ci : Nat) (fs : (Nat → Int32) → List Value) : Prop := x ∈ gm_names ∧ ∀ f g, gm_cl E x f g = .inr (ci, fs f)

theorem gm_i2 (E : gm_E) : gm_isI E 2 24 := ⟨gm_in_lo (by decide), fun _ _ => rfl⟩
theorem gm_i3 (E : gm_E) : gm_isI E 3 24 := ⟨gm_in_lo (by decide), fun _ _ => rfl⟩
theorem gm_i6 (E : gm_E) : gm_isI E 6 48 := ⟨gm_in_lo (by decide), fun _ _ => rfl⟩
theorem gm_i8 (E : gm_E) : gm_isI E 8 24 := ⟨gm_in_lo (by decide), fun _ _ => rfl⟩
theorem gm_i10 (E : gm_E) : gm_isI E 10 24 := ⟨gm_in_lo (by decide), fun _ _ => rfl⟩
theorem gm_i11 (E : gm_E) : gm_isI E 11 24 := ⟨gm_in_lo (by decide), fun _ _ => rfl⟩
theorem gm_i12 (E : gm_E) : gm_isI E 12 24 := ⟨gm_in_lo (by decide), fun _ _ => rfl⟩
theorem gm_i13 (E : gm_E) : gm_isI E 13 10 := ⟨gm_in_lo (by decide), fun _ _ => rfl⟩
theorem gm_i14 (E : gm_E) : gm_isI E 14 24 := ⟨gm_in_lo (by decide), fun _ _ => rfl⟩
theorem gm_i7 (E : gm_E) : gm_isZ E 7 24 := ⟨gm_in_lo (by decide), fun _ _ => rfl⟩
theorem gm_i9 (E : gm_E) : gm_isZ E 9 24 := ⟨gm_in_lo (by decide), fun _ _ => rfl⟩
theorem gm_iR (E : gm_E) {k : Nat} (hk : k < 7) (r : Nat) (h1 : 1 ≤ r) (h2 : r < 4) : gm_isI E (gm_P k + r) 24 := ⟨gm_in_P hk (by omega), fun f g => gm_cR E k r h1 h2 f g⟩
theorem gm_iU (E : gm_E) {k i : Nat} (hk : k < 7) (hi : i < k) (r : Nat) (h1 : 1 ≤ r) (h2 : r < 3) : gm_isI E (gm_P k + 5 + 3 * i + r) 10 := ⟨by rw [Nat.add_assoc, Nat.add_assoc]; exact gm_in_P hk (by omega), fun f g => gm_cU E k i r (by omega) h1 h2 f g⟩
def gm_f0 (E : gm_E) : (Nat → Int32) → List Value := fun f => [.ref (E.2.2 2), .ref (E.2.2 3), .int (f 2), .int (f 3)]
def gm_f1 (E : gm_E) (x : Nat) : (Nat → Int32) → List Value := fun f => [.ref (E.2.2 (x + 1)), .int (f 1), .int (f 2), .ref (E.2.2 (x + 4)), .int (f 4), .int (f 5), .int (f 6), .ref (E.2.2 (x + 2)), .int (f 8), .ref (E.2.2 (x + 3)), .int (f 10), .int (f 11)]
def gm_f2 (E : gm_E) (x : Nat) : (Nat → Int32) → List Value := fun _ => [.ref (E.2.2 (x + 1)), .ref (E.2.2 (x + 2))]
def gm_f3 (E : gm_E) : (Nat → Int32) → List Value := fun _ => [.ref (E.2.2 1), .ref (E.2.2 4)]
def gm_f4 (E : gm_E) : (Nat → Int32) → List Value := fun f => [.int (f 0), .ref (E.2.2 6), .ref (E.2.2 7), .int (f 3), .ref (E.2.2 8), .ref (E.2.2 9), .ref (E.2.2 10), .ref (E.2.2 11), .ref (E.2.2 12), .ref (E.2.2 13), .ref (E.2.2 14)]
theorem gm_o0 (E : gm_E) : gm_isO E 1 0 (gm_f0 E) := ⟨gm_in_lo (by decide), fun _ _ => rfl⟩
theorem gm_o1 (E : gm_E) {k : Nat} (hk : k < 7) : gm_isO E (gm_P k) 1 (gm_f1 E (gm_P k)) := ⟨gm_in_P (r := 0) hk (by omega), fun f g => gm_cP E k f g⟩
theorem gm_o2 (E : gm_E) {k i : Nat} (hk : k < 7) (hi : i < k) : gm_isO E (gm_P k + 5 + 3 * i) 2 (gm_f2 E (gm_P k + 5 + 3 * i)) := ⟨by rw [Nat.add_assoc]; exact gm_in_P hk (by omega), fun f g => gm_cT E k i (by omega) f g⟩
theorem gm_o3 (E : gm_E) : gm_isO E 0 3 (gm_f3 E) := ⟨gm_in_lo (by decide), fun _ _ => rfl⟩
theorem gm_o4 (E : gm_E) : gm_isO E 5 4 (gm_f4 E) := ⟨gm_in_lo (by decide), fun _ _ => rfl⟩
/-! THE JUDGEMENT. X: the machine's fixed things of one call; gm_G: from pc with locals lo, stack st and memory σ the machine comes to the call's end as Q says. -/
abbrev gm_X : Type := Program × Launch × Env × Room × State × MethodId × Array Value × List Frame × Method × Code × Nat × Nat × (State → Prop) × (Nat → Prop)
def gm_lo (ls : Array Slot) (nL : Nat) (lo : List (Option Value)) : Prop := ls.size = nL ∧ lv_wf ls ∧ ∀ (k : Nat) (v : Value), lo[k]? = some (some v) → v.category = 1 ∧ ls[k]? = some (.val v)
def gm_G (X : gm_X) (E : gm_E) (nL pc : Nat) (lo : List (Option Value)) (st : List Value) (σ : gm_S) : Prop :=
  match X with
  | (p, l, e, R, s, m, args, below, meth, c, cells, slots, Q, A) => ∀ (H : Heap) (locs : List Loc) (ls : Array Slot), va_P E.1 vwCl (gm_w E σ) H → va_D A (gm_w E σ) → va_S A s.heap H locs → gm_lo ls nL lo → W p l e R s m args below meth c H locs cells slots Q (F0 m pc ls st)
def gm_ok (X : gm_X) (E : gm_E) (cc : ByteArray) (nL : Nat) (own : String) (Ts : List Cond) (rm : Room) : Prop :=
  match X with
  | (p, _, _, R, s, m, args, _, meth, c, cells, slots, _, A) => p.tables.exec = Jvm.exec ∧ c.code = cc ∧ c.maxLocals = nL ∧ s.vm.findClass own = some m.cls ∧ (∀ w ∈ Ts, w.before args s = true) ∧ va_K E.1 vwCl (gm_tys E) s ∧ R = rm ∧ (∀ x ∈ gm_names, A (E.2.2 x)) ∧ (∀ q, s.heap.size ≤ q → A q) ∧ meth.locks = false ∧ cells ≤ rm.cells ∧ slots ≤ rm.slots
def gm_prs (lo : List (Option Value)) : List (Nat × Value) := (List.range lo.length).filterMap (fun k => match lo[k]? with | some (some v) => some (k, v) | _ => none)
theorem gm_prs_mem {lo : List (Option Value)} {q : Nat × Value} : q ∈ gm_prs lo ↔ lo[q.1]? = some (some q.2) := by
  simp only [gm_prs, List.mem_filterMap, List.mem_range]
  constructor
  · rintro ⟨k, hk, h⟩
    split at h
    · rename_i v hv; cases h; exact hv
    · cases h
  · intro h
    exact ⟨q.1, (List.getElem?_eq_some_iff.mp h).1, by rw [h]⟩
theorem gm_lo_has {ls : Array Slot} {nL : Nat} {lo : List (Option Value)} (h : gm_lo ls nL lo) : lv_has ls nL (gm_prs lo) := ⟨h.1, h.2.1, fun _ hq => (h.2.2 _ _ (gm_prs_mem.mp hq)).2⟩
theorem gm_lo_set {ls ls' : Array Slot} {nL i : Nat} {v : Value} {lo : List (Option Value)} (h : gm_lo ls nL lo) (hc : v.category = 1) (h' : lv_has ls' nL ((i, v) :: (gm_prs lo).filter (fun q => !(q.1 == i) && !(q.1 + 1 == i && q.2.category == 2)))) : gm_lo ls' nL (lo.set i (some v)) := by
  refine ⟨h'.1, h'.2.1, fun k w hk => ?_⟩
  by_cases hki : k = i
  · subst hki
    have hl : k < lo.length := by
      have := (List.getElem?_eq_some_iff.mp hk).1
      simpa using this
    rw [List.getElem?_set_self hl] at hk
    cases hk
    exact ⟨hc, h'.2.2 (k, v) List.mem_cons_self⟩
  · rw [List.getElem?_set_ne (Ne.symm hki)] at hk
    obtain ⟨h1, -⟩ := h.2.2 k w hk
    refine ⟨h1, h'.2.2 (k, w) (List.mem_cons_of_mem _ (List.mem_filter.mpr ⟨gm_prs_mem.mpr hk, ?_⟩))⟩
    simp [hki, h1]

section GM
variable {X : gm_X} {E : gm_E} {cc : ByteArray} {nL pc : Nat} {own : String} {Ts : List Cond} {rm : Room} {lo : List (Option Value)} {st : List Value} {σ : gm_S}
theorem gi_const (hC : gm_ok X E cc nL own Ts rm) {n : Int} {v : Int32} (d : decode cc pc = .ok (.iconst n, 1)) (hv : Int32.ofInt n = v) (k : gm_G X E nL (pc + 1) lo (.int v :: st) σ) : gm_G X E nL pc lo st σ := by
  obtain ⟨p, l, e, R, s, m, args, below, meth, c, cells, slots, Q, A⟩ := X
  intro H locs ls hP hD hS hl
  exact lv_iconst hC.1 hC.2.1 d hv (k H locs ls hP hD hS hl)
theorem gi_bipush (hC : gm_ok X E cc nL own Ts rm) {n : Int} {v : Int32} (d : decode cc pc = .ok (.bipush n, 2)) (hv : (Int8.ofInt n).toInt32 = v) (k : gm_G X E nL (pc + 2) lo (.int v :: st) σ) : gm_G X E nL pc lo st σ := by
  obtain ⟨p, l, e, R, s, m, args, below, meth, c, cells, slots, Q, A⟩ := X
  intro H locs ls hP hD hS hl
  exact lv_bipush hC.1 hC.2.1 d hv (k H locs ls hP hD hS hl)
theorem gi_ldcw (hC : gm_ok X E cc nL own Ts rm) {n : Nat} {v : Int32} (d : decode cc pc = .ok (.ldc_w n, 3)) (hv : (Jvm.Cond.constant own n v) ∈ Ts) (k : gm_G X E nL (pc + 3) lo (.int v :: st) σ) : gm_G X E nL pc lo st σ := by
  obtain ⟨p, l, e, R, s, m, args, below, meth, c, cells, slots, Q, A⟩ := X
  intro H locs ls hP hD hS hl
  exact lv_ldcw hC.1 hC.2.1 hC.2.2.2.1 (hC.2.2.2.2.1 _ hv) d (k H locs ls hP hD hS hl)
theorem gi_ildn (hC : gm_ok X E cc nL own Ts rm) {i : Fin 4} {x : Int32} (d : decode cc pc = .ok (.iload_n i, 1)) (hv : lo[(i : Nat)]? = some (some (.int x))) (k : gm_G X E nL (pc + 1) lo (.int x :: st) σ) : gm_G X E nL pc lo st σ := by
  obtain ⟨p, l, e, R, s, m, args, below, meth, c, cells, slots, Q, A⟩ := X
  intro H locs ls hP hD hS hl
  exact lv_iload_n hC.1 hC.2.1 d rfl (hl.2.2 _ _ hv).2 (k H locs ls hP hD hS hl)
theorem gi_ild (hC : gm_ok X E cc nL own Ts rm) {i : Nat} {x : Int32} (d : decode cc pc = .ok (.iload i, 2)) (hv : lo[i]? = some (some (.int x))) (k : gm_G X E nL (pc + 2) lo (.int x :: st) σ) : gm_G X E nL pc lo st σ := by
  obtain ⟨p, l, e, R, s, m, args, below, meth, c, cells, slots, Q, A⟩ := X
  intro H locs ls hP hD hS hl
  exact lv_iload hC.1 hC.2.1 d (hl.2.2 _ _ hv).2 (k H locs ls hP hD hS hl)
theorem gi_aldn (hC : gm_ok X E cc nL own Ts rm) {i : Fin 4} {x : Nat} (d : decode cc pc = .ok (.aload_n i, 1)) (hv : lo[(i : Nat)]? = some (some (.ref x))) (k : gm_G X E nL (pc + 1) lo (.ref x :: st) σ) : gm_G X E nL pc lo st σ := by
  obtain ⟨p, l, e, R, s, m, args, below, meth, c, cells, slots, Q, A⟩ := X
  intro H locs ls hP hD hS hl
  exact lv_aload_n hC.1 hC.2.1 d rfl (hl.2.2 _ _ hv).2 (k H locs ls hP hD hS hl)
theorem gi_ald (hC : gm_ok X E cc nL own Ts rm) {i : Nat} {x : Nat} (d : decode cc pc = .ok (.aload i, 2)) (hv : lo[i]? = some (some (.ref x))) (k : gm_G X E nL (pc + 2) lo (.ref x :: st) σ) : gm_G X E nL pc lo st σ := by
  obtain ⟨p, l, e, R, s, m, args, below, meth, c, cells, slots, Q, A⟩ := X
  intro H locs ls hP hD hS hl
  exact lv_aload hC.1 hC.2.1 d (hl.2.2 _ _ hv).2 (k H locs ls hP hD hS hl)
theorem gi_istn0 (hC : gm_ok X E cc nL own Ts rm) {i : Fin 4} {x : Int32} (d : decode cc pc = .ok (.istore_n i, 1)) (hn : (i : Nat) < nL) (k : gm_G X E nL (pc + 1) (lo.set (i : Nat) (some (.int x))) st σ) : gm_G X E nL pc lo (.int x :: st) σ := by
  obtain ⟨p, l, e, R, s, m, args, below, meth, c, cells, slots, Q, A⟩ := X
  intro H locs ls hP hD hS hl
  exact lv_istore_n hC.1 hC.2.1 d rfl (gm_lo_has hl) hn rfl (fun ls2 h2 => k H locs ls2 hP hD hS (gm_lo_set hl rfl h2))
theorem gi_ist0 (hC : gm_ok X E cc nL own Ts rm) {i : Nat} {x : Int32} (d : decode cc pc = .ok (.istore i, 2)) (hn : i < nL) (k : gm_G X E nL (pc + 2) (lo.set i (some (.int x))) st σ) : gm_G X E nL pc lo (.int x :: st) σ := by
  obtain ⟨p, l, e, R, s, m, args, below, meth, c, cells, slots, Q, A⟩ := X
  intro H locs ls hP hD hS hl
  exact lv_istore hC.1 hC.2.1 d (gm_lo_has hl) hn rfl (fun ls2 h2 => k H locs ls2 hP hD hS (gm_lo_set hl rfl h2))
theorem gi_astn0 (hC : gm_ok X E cc nL own Ts rm) {i : Fin 4} {x : Nat} (d : decode cc pc = .ok (.astore_n i, 1)) (hn : (i : Nat) < nL) (k : gm_G X E nL (pc + 1) (lo.set (i : Nat) (some (.ref x))) st σ) : gm_G X E nL pc lo (.ref x :: st) σ := by
  obtain ⟨p, l, e, R, s, m, args, below, meth, c, cells, slots, Q, A⟩ := X
  intro H locs ls hP hD hS hl
  exact lv_astore_n hC.1 hC.2.1 d rfl (gm_lo_has hl) hn rfl (fun ls2 h2 => k H locs ls2 hP hD hS (gm_lo_set hl rfl h2))
theorem gi_ast0 (hC : gm_ok X E cc nL own Ts rm) {i : Nat} {x : Nat} (d : decode cc pc = .ok (.astore i, 2)) (hn : i < nL) (k : gm_G X E nL (pc + 2) (lo.set i (some (.ref x))) st σ) : gm_G X E nL pc lo (.ref x :: st) σ := by
  obtain ⟨p, l, e, R, s, m, args, below, meth, c, cells, slots, Q, A⟩ := X
  intro H locs ls hP hD hS hl
  exact lv_astore hC.1 hC.2.1 d (gm_lo_has hl) hn rfl (fun ls2 h2 => k H locs ls2 hP hD hS (gm_lo_set hl rfl h2))
theorem gi_iinc0 (hC : gm_ok X E cc nL own Ts rm) {i : Nat} {n : Int} {x v : Int32} (d : decode cc pc = .ok (.iinc i n, 3)) (hx : lo[i]? = some (some (.int x))) (hv : x + Int32.ofInt n = v) (hn : i < nL) (k : gm_G X E nL (pc + 3) (lo.set i (some (.int v))) st σ) : gm_G X E nL pc lo st σ := by
  obtain ⟨p, l, e, R, s, m, args, below, meth, c, cells, slots, Q, A⟩ := X
  intro H locs ls hP hD hS hl
  obtain ⟨j, hj⟩ := List.getElem?_of_mem (gm_prs_mem (lo := lo) (q := (i, .int x)) |>.mpr hx)
  exact lv_iinc hC.1 hC.2.1 d (gm_lo_has hl) hj hv hn rfl (fun ls2 h2 => k H locs ls2 hP hD hS (gm_lo_set hl rfl h2))
theorem gi_istn_0 (hC : gm_ok X E cc nL own Ts rm) {x : Int32} {a0 : Option Value} {tl : List (Option Value)} (d : decode cc pc = .ok (.istore_n 0, 1)) (hn : 0 < nL) (k : gm_G X E nL (pc + 1) (some (.int x) :: tl) st σ) : gm_G X E nL pc (a0 :: tl) (.int x :: st) σ := gi_istn0 hC (i := 0) d hn k
theorem gi_astn_0 (hC : gm_ok X E cc nL own Ts rm) {x : Nat} {a0 : Option Value} {tl : List (Option Value)} (d : decode cc pc = .ok (.astore_n 0, 1)) (hn : 0 < nL) (k : gm_G X E nL (pc + 1) (some (.ref x) :: tl) st σ) : gm_G X E nL pc (a0 :: tl) (.ref x :: st) σ := gi_astn0 hC (i := 0) d hn k
theorem gi_iinc_0 (hC : gm_ok X E cc nL own Ts rm) {n : Int} {x v : Int32} {tl : List (Option Value)} (d : decode cc pc = .ok (.iinc 0 n, 3)) (hv : x + Int32.ofInt n = v) (hn : 0 < nL) (k : gm_G X E nL (pc + 3) (some (.int v) :: tl) st σ) : gm_G X E nL pc (some (.int x) :: tl) st σ := gi_iinc0 hC (i := 0) d rfl hv hn k
theorem gi_istn_1 (hC : gm_ok X E cc nL own Ts rm) {x : Int32} {a0 a1 : Option Value} {tl : List (Option Value)} (d : decode cc pc = .ok (.istore_n 1, 1)) (hn : 1 < nL) (k : gm_G X E nL (pc + 1) (a0 :: some (.int x) :: tl) st σ) : gm_G X E nL pc (a0 :: a1 :: tl) (.int x :: st) σ := gi_istn0 hC (i := 1) d hn k
theorem gi_astn_1 (hC : gm_ok X E cc nL own Ts rm) {x : Nat} {a0 a1 : Option Value} {tl : List (Option Value)} (d : decode cc pc = .ok (.astore_n 1, 1)) (hn : 1 < nL) (k : gm_G X E nL (pc + 1) (a0 :: some (.ref x) :: tl) st σ) : gm_G X E nL pc (a0 :: a1 :: tl) (.ref x :: st) σ := gi_astn0 hC (i := 1) d hn k
theorem gi_iinc_1 (hC : gm_ok X E cc nL own Ts rm) {n : Int} {x v : Int32} {a0 : Option Value} {tl : List (Option Value)} (d : decode cc pc = .ok (.iinc 1 n, 3)) (hv : x + Int32.ofInt n = v) (hn : 1 < nL) (k : gm_G X E nL (pc + 3) (a0 :: some (.int v) :: tl) st σ) : gm_G X E nL pc (a0 :: some (.int x) :: tl) st σ := gi_iinc0 hC (i := 1) d rfl hv hn k
theorem gi_istn_2 (hC : gm_ok X E cc nL own Ts rm) {x : Int32} {a0 a1 a2 : Option Value} {tl : List (Option Value)} (d : decode cc pc = .ok (.istore_n 2, 1)) (hn : 2 < nL) (k : gm_G X E nL (pc + 1) (a0 :: a1 :: some (.int x) :: tl) st σ) : gm_G X E nL pc (a0 :: a1 :: a2 :: tl) (.int x :: st) σ := gi_istn0 hC (i := 2) d hn k
theorem gi_astn_2 (hC : gm_ok X E cc nL own Ts rm) {x : Nat} {a0 a1 a2 : Option Value} {tl : List (Option Value)} (d : decode cc pc = .ok (.astore_n 2, 1)) (hn : 2 < nL) (k : gm_G X E nL (pc + 1) (a0 :: a1 :: some (.ref x) :: tl) st σ) : gm_G X E nL pc (a0 :: a1 :: a2 :: tl) (.ref x :: st) σ := gi_astn0 hC (i := 2) d hn k
theorem gi_iinc_2 (hC : gm_ok X E cc nL own Ts rm) {n : Int} {x v : Int32} {a0 a1 : Option Value} {tl : List (Option Value)} (d : decode cc pc = .ok (.iinc 2 n, 3)) (hv : x + Int32.ofInt n = v) (hn : 2 < nL) (k : gm_G X E nL (pc + 3) (a0 :: a1 :: some (.int v) :: tl) st σ) : gm_G X E nL pc (a0 :: a1 :: some (.int x) :: tl) st σ := gi_iinc0 hC (i := 2) d rfl hv hn k
theorem gi_istn_3 (hC : gm_ok X E cc nL own Ts rm) {x : Int32} {a0 a1 a2 a3 : Option Value} {tl : List (Option Value)} (d : decode cc pc = .ok (.istore_n 3, 1)) (hn : 3 < nL) (k : gm_G X E nL (pc + 1) (a0 :: a1 :: a2 :: some (.int x) :: tl) st σ) : gm_G X E nL pc (a0 :: a1 :: a2 :: a3 :: tl) (.int x :: st) σ := gi_istn0 hC (i := 3) d hn k
theorem gi_astn_3 (hC : gm_ok X E cc nL own Ts rm) {x : Nat} {a0 a1 a2 a3 : Option Value} {tl : List (Option Value)} (d : decode cc pc = .ok (.astore_n 3, 1)) (hn : 3 < nL) (k : gm_G X E nL (pc + 1) (a0 :: a1 :: a2 :: some (.ref x) :: tl) st σ) : gm_G X E nL pc (a0 :: a1 :: a2 :: a3 :: tl) (.ref x :: st) σ := gi_astn0 hC (i := 3) d hn k
theorem gi_iinc_3 (hC : gm_ok X E cc nL own Ts rm) {n : Int} {x v : Int32} {a0 a1 a2 : Option Value} {tl : List (Option Value)} (d : decode cc pc = .ok (.iinc 3 n, 3)) (hv : x + Int32.ofInt n = v) (hn : 3 < nL) (k : gm_G X E nL (pc + 3) (a0 :: a1 :: a2 :: some (.int v) :: tl) st σ) : gm_G X E nL pc (a0 :: a1 :: a2 :: some (.int x) :: tl) st σ := gi_iinc0 hC (i := 3) d rfl hv hn k
theorem gi_ist_4 (hC : gm_ok X E cc nL own Ts rm) {x : Int32} {a0 a1 a2 a3 a4 : Option Value} {tl : List (Option Value)} (d : decode cc pc = .ok (.istore 4, 2)) (hn : 4 < nL) (k : gm_G X E nL (pc + 2) (a0 :: a1 :: a2 :: a3 :: some (.int x) :: tl) st σ) : gm_G X E nL pc (a0 :: a1 :: a2 :: a3 :: a4 :: tl) (.int x :: st) σ := gi_ist0 hC (i := 4) d hn k
theorem gi_ast_4 (hC : gm_ok X E cc nL own Ts rm) {x : Nat} {a0 a1 a2 a3 a4 : Option Value} {tl : List (Option Value)} (d : decode cc pc = .ok (.astore 4, 2)) (hn : 4 < nL) (k : gm_G X E nL (pc + 2) (a0 :: a1 :: a2 :: a3 :: some (.ref x) :: tl) st σ) : gm_G X E nL pc (a0 :: a1 :: a2 :: a3 :: a4 :: tl) (.ref x :: st) σ := gi_ast0 hC (i := 4) d hn k
theorem gi_iinc_4 (hC : gm_ok X E cc nL own Ts rm) {n : Int} {x v : Int32} {a0 a1 a2 a3 : Option Value} {tl : List (Option Value)} (d : decode cc pc = .ok (.iinc 4 n, 3)) (hv : x + Int32.ofInt n = v) (hn : 4 < nL) (k : gm_G X E nL (pc + 3) (a0 :: a1 :: a2 :: a3 :: some (.int v) :: tl) st σ) : gm_G X E nL pc (a0 :: a1 :: a2 :: a3 :: some (.int x) :: tl) st σ := gi_iinc0 hC (i := 4) d rfl hv hn k
theorem gi_ist_5 (hC : gm_ok X E cc nL own Ts rm) {x : Int32} {a0 a1 a2 a3 a4 a5 : Option Value} {tl : List (Option Value)} (d : decode cc pc = .ok (.istore 5, 2)) (hn : 5 < nL) (k : gm_G X E nL (pc + 2) (a0 :: a1 :: a2 :: a3 :: a4 :: some (.int x) :: tl) st σ) : gm_G X E nL pc (a0 :: a1 :: a2 :: a3 :: a4 :: a5 :: tl) (.int x :: st) σ := gi_ist0 hC (i := 5) d hn k
theorem gi_ast_5 (hC : gm_ok X E cc nL own Ts rm) {x : Nat} {a0 a1 a2 a3 a4 a5 : Option Value} {tl : List (Option Value)} (d : decode cc pc = .ok (.astore 5, 2)) (hn : 5 < nL) (k : gm_G X E nL (pc + 2) (a0 :: a1 :: a2 :: a3 :: a4 :: some (.ref x) :: tl) st σ) : gm_G X E nL pc (a0 :: a1 :: a2 :: a3 :: a4 :: a5 :: tl) (.ref x :: st) σ := gi_ast0 hC (i := 5) d hn k
theorem gi_iinc_5 (hC : gm_ok X E cc nL own Ts rm) {n : Int} {x v : Int32} {a0 a1 a2 a3 a4 : Option Value} {tl : List (Option Value)} (d : decode cc pc = .ok (.iinc 5 n, 3)) (hv : x + Int32.ofInt n = v) (hn : 5 < nL) (k : gm_G X E nL (pc + 3) (a0 :: a1 :: a2 :: a3 :: a4 :: some (.int v) :: tl) st σ) : gm_G X E nL pc (a0 :: a1 :: a2 :: a3 :: a4 :: some (.int x) :: tl) st σ := gi_iinc0 hC (i := 5) d rfl hv hn k
theorem gi_ist_6 (hC : gm_ok X E cc nL own Ts rm) {x : Int32} {a0 a1 a2 a3 a4 a5 a6 : Option Value} {tl : List (Option Value)} (d : decode cc pc = .ok (.istore 6, 2)) (hn : 6 < nL) (k : gm_G X E nL (pc + 2) (a0 :: a1 :: a2 :: a3 :: a4 :: a5 :: some (.int x) :: tl) st σ) : gm_G X E nL pc (a0 :: a1 :: a2 :: a3 :: a4 :: a5 :: a6 :: tl) (.int x :: st) σ := gi_ist0 hC (i := 6) d hn k
theorem gi_ast_6 (hC : gm_ok X E cc nL own Ts rm) {x : Nat} {a0 a1 a2 a3 a4 a5 a6 : Option Value} {tl : List (Option Value)} (d : decode cc pc = .ok (.astore 6, 2)) (hn : 6 < nL) (k : gm_G X E nL (pc + 2) (a0 :: a1 :: a2 :: a3 :: a4 :: a5 :: some (.ref x) :: tl) st σ) : gm_G X E nL pc (a0 :: a1 :: a2 :: a3 :: a4 :: a5 :: a6 :: tl) (.ref x :: st) σ := gi_ast0 hC (i := 6) d hn k
theorem gi_iinc_6 (hC : gm_ok X E cc nL own Ts rm) {n : Int} {x v : Int32} {a0 a1 a2 a3 a4 a5 : Option Value} {tl : List (Option Value)} (d : decode cc pc = .ok (.iinc 6 n, 3)) (hv : x + Int32.ofInt n = v) (hn : 6 < nL) (k : gm_G X E nL (pc + 3) (a0 :: a1 :: a2 :: a3 :: a4 :: a5 :: some (.int v) :: tl) st σ) : gm_G X E nL pc (a0 :: a1 :: a2 :: a3 :: a4 :: a5 :: some (.int x) :: tl) st σ := gi_iinc0 hC (i := 6) d rfl hv hn k
theorem gi_ist_7 (hC : gm_ok X E cc nL own Ts rm) {x : Int32} {a0 a1 a2 a3 a4 a5 a6 a7 : Option Value} {tl : List (Option Value)} (d : decode cc pc = .ok (.istore 7, 2)) (hn : 7 < nL) (k : gm_G X E nL (pc + 2) (a0 :: a1 :: a2 :: a3 :: a4 :: a5 :: a6 :: some (.int x) :: tl) st σ) : gm_G X E nL pc (a0 :: a1 :: a2 :: a3 :: a4 :: a5 :: a6 :: a7 :: tl) (.int x :: st) σ := gi_ist0 hC (i := 7) d hn k
theorem gi_ast_7 (hC : gm_ok X E cc nL own Ts rm) {x : Nat} {a0 a1 a2 a3 a4 a5 a6 a7 : Option Value} {tl : List (Option Value)} (d : decode cc pc = .ok (.astore 7, 2)) (hn : 7 < nL) (k : gm_G X E nL (pc + 2) (a0 :: a1 :: a2 :: a3 :: a4 :: a5 :: a6 :: some (.ref x) :: tl) st σ) : gm_G X E nL pc (a0 :: a1 :: a2 :: a3 :: a4 :: a5 :: a6 :: a7 :: tl) (.ref x :: st) σ := gi_ast0 hC (i := 7) d hn k
theorem gi_iinc_7 (hC : gm_ok X E cc nL own Ts rm) {n : Int} {x v : Int32} {a0 a1 a2 a3 a4 a5 a6 : Option Value} {tl : List (Option Value)} (d : decode cc pc = .ok (.iinc 7 n, 3)) (hv : x + Int32.ofInt n = v) (hn : 7 < nL) (k : gm_G X E nL (pc + 3) (a0 :: a1 :: a2 :: a3 :: a4 :: a5 :: a6 :: some (.int v) :: tl) st σ) : gm_G X E nL pc (a0 :: a1 :: a2 :: a3 :: a4 :: a5 :: a6 :: some (.int x) :: tl) st σ := gi_iinc0 hC (i := 7) d rfl hv hn k
theorem gi_ist_8 (hC : gm_ok X E cc nL own Ts rm) {x : Int32} {a0 a1 a2 a3 a4 a5 a6 a7 a8 : Option Value} {tl : List (Option Value)} (d : decode cc pc = .ok (.istore 8, 2)) (hn : 8 < nL) (k : gm_G X E nL (pc + 2) (a0 :: a1 :: a2 :: a3 :: a4 :: a5 :: a6 :: a7 :: some (.int x) :: tl) st σ) : gm_G X E nL pc (a0 :: a1 :: a2 :: a3 :: a4 :: a5 :: a6 :: a7 :: a8 :: tl) (.int x :: st) σ := gi_ist0 hC (i := 8) d hn k
theorem gi_ast_8 (hC : gm_ok X E cc nL own Ts rm) {x : Nat} {a0 a1 a2 a3 a4 a5 a6 a7 a8 : Option Value} {tl : List (Option Value)} (d : decode cc pc = .ok (.astore 8, 2)) (hn : 8 < nL) (k : gm_G X E nL (pc + 2) (a0 :: a1 :: a2 :: a3 :: a4 :: a5 :: a6 :: a7 :: some (.ref x) :: tl) st σ) : gm_G X E nL pc (a0 :: a1 :: a2 :: a3 :: a4 :: a5 :: a6 :: a7 :: a8 :: tl) (.ref x :: st) σ := gi_ast0 hC (i := 8) d hn k
theorem gi_iinc_8 (hC : gm_ok X E cc nL own Ts rm) {n : Int} {x v : Int32} {a0 a1 a2 a3 a4 a5 a6 a7 : Option Value} {tl : List (Option Value)} (d : decode cc pc = .ok (.iinc 8 n, 3)) (hv : x + Int32.ofInt n = v) (hn : 8 < nL) (k : gm_G X E nL (pc + 3) (a0 :: a1 :: a2 :: a3 :: a4 :: a5 :: a6 :: a7 :: some (.int v) :: tl) st σ) : gm_G X E nL pc (a0 :: a1 :: a2 :: a3 :: a4 :: a5 :: a6 :: a7 :: some (.int x) :: tl) st σ := gi_iinc0 hC (i := 8) d rfl hv hn k
theorem gi_ist_9 (hC : gm_ok X E cc nL own Ts rm) {x : Int32} {a0 a1 a2 a3 a4 a5 a6 a7 a8 a9 : Option Value} {tl : List (Option Value)} (d : decode cc pc = .ok (.istore 9, 2)) (hn : 9 < nL) (k : gm_G X E nL (pc + 2) (a0 :: a1 :: a2 :: a3 :: a4 :: a5 :: a6 :: a7 :: a8 :: some (.int x) :: tl) st σ) : gm_G X E nL pc (a0 :: a1 :: a2 :: a3 :: a4 :: a5 :: a6 :: a7 :: a8 :: a9 :: tl) (.int x :: st) σ := gi_ist0 hC (i := 9) d hn k
theorem gi_ast_9 (hC : gm_ok X E cc nL own Ts rm) {x : Nat} {a0 a1 a2 a3 a4 a5 a6 a7 a8 a9 : Option Value} {tl : List (Option Value)} (d : decode cc pc = .ok (.astore 9, 2)) (hn : 9 < nL) (k : gm_G X E nL (pc + 2) (a0 :: a1 :: a2 :: a3 :: a4 :: a5 :: a6 :: a7 :: a8 :: some (.ref x) :: tl) st σ) : gm_G X E nL pc (a0 :: a1 :: a2 :: a3 :: a4 :: a5 :: a6 :: a7 :: a8 :: a9 :: tl) (.ref x :: st) σ := gi_ast0 hC (i := 9) d hn k
theorem gi_iinc_9 (hC : gm_ok X E cc nL own Ts rm) {n : Int} {x v : Int32} {a0 a1 a2 a3 a4 a5 a6 a7 a8 : Option Value} {tl : List (Option Value)} (d : decode cc pc = .ok (.iinc 9 n, 3)) (hv : x + Int32.ofInt n = v) (hn : 9 < nL) (k : gm_G X E nL (pc + 3) (a0 :: a1 :: a2 :: a3 :: a4 :: a5 :: a6 :: a7 :: a8 :: some (.int v) :: tl) st σ) : gm_G X E nL pc (a0 :: a1 :: a2 :: a3 :: a4 :: a5 :: a6 :: a7 :: a8 :: some (.int x) :: tl) st σ := gi_iinc0 hC (i := 9) d rfl hv hn k
theorem gi_ist_10 (hC : gm_ok X E cc nL own Ts rm) {x : Int32} {a0 a1 a2 a3 a4 a5 a6 a7 a8 a9 a10 : Option Value} {tl : List (Option Value)} (d : decode cc pc = .ok (.istore 10, 2)) (hn : 10 < nL) (k : gm_G X E nL (pc + 2) (a0 :: a1 :: a2 :: a3 :: a4 :: a5 :: a6 :: a7 :: a8 :: a9 :: some (.int x) :: tl) st σ) : gm_G X E nL pc (a0 :: a1 :: a2 :: a3 :: a4 :: a5 :: a6 :: a7 :: a8 :: a9 :: a10 :: tl) (.int x :: st) σ := gi_ist0 hC (i := 10) d hn k
theorem gi_ast_10 (hC : gm_ok X E cc nL own Ts rm) {x : Nat} {a0 a1 a2 a3 a4 a5 a6 a7 a8 a9 a10 : Option Value} {tl : List (Option Value)} (d : decode cc pc = .ok (.astore 10, 2)) (hn : 10 < nL) (k : gm_G X E nL (pc + 2) (a0 :: a1 :: a2 :: a3 :: a4 :: a5 :: a6 :: a7 :: a8 :: a9 :: some (.ref x) :: tl) st σ) : gm_G X E nL pc (a0 :: a1 :: a2 :: a3 :: a4 :: a5 :: a6 :: a7 :: a8 :: a9 :: a10 :: tl) (.ref x :: st) σ := gi_ast0 hC (i := 10) d hn k
theorem gi_iinc_10 (hC : gm_ok X E cc nL own Ts rm) {n : Int} {x v : Int32} {a0 a1 a2 a3 a4 a5 a6 a7 a8 a9 : Option Value} {tl : List (Option Value)} (d : decode cc pc = .ok (.iinc 10 n, 3)) (hv : x + Int32.ofInt n = v) (hn : 10 < nL) (k : gm_G X E nL (pc + 3) (a0 :: a1 :: a2 :: a3 :: a4 :: a5 :: a6 :: a7 :: a8 :: a9 :: some (.int v) :: tl) st σ) : gm_G X E nL pc (a0 :: a1 :: a2 :: a3 :: a4 :: a5 :: a6 :: a7 :: a8 :: a9 :: some (.int x) :: tl) st σ := gi_iinc0 hC (i := 10) d rfl hv hn k
theorem gi_ist_11 (hC : gm_ok X E cc nL own Ts rm) {x : Int32} {a0 a1 a2 a3 a4 a5 a6 a7 a8 a9 a10 a11 : Option Value} {tl : List (Option Value)} (d : decode cc pc = .ok (.istore 11, 2)) (hn : 11 < nL) (k : gm_G X E nL (pc + 2) (a0 :: a1 :: a2 :: a3 :: a4 :: a5 :: a6 :: a7 :: a8 :: a9 :: a10 :: some (.int x) :: tl) st σ) : gm_G X E nL pc (a0 :: a1 :: a2 :: a3 :: a4 :: a5 :: a6 :: a7 :: a8 :: a9 :: a10 :: a11 :: tl) (.int x :: st) σ := gi_ist0 hC (i := 11) d hn k
theorem gi_ast_11 (hC : gm_ok X E cc nL own Ts rm) {x : Nat} {a0 a1 a2 a3 a4 a5 a6 a7 a8 a9 a10 a11 : Option Value} {tl : List (Option Value)} (d : decode cc pc = .ok (.astore 11, 2)) (hn : 11 < nL) (k : gm_G X E nL (pc + 2) (a0 :: a1 :: a2 :: a3 :: a4 :: a5 :: a6 :: a7 :: a8 :: a9 :: a10 :: some (.ref x) :: tl) st σ) : gm_G X E nL pc (a0 :: a1 :: a2 :: a3 :: a4 :: a5 :: a6 :: a7 :: a8 :: a9 :: a10 :: a11 :: tl) (.ref x :: st) σ := gi_ast0 hC (i := 11) d hn k
theorem gi_iinc_11 (hC : gm_ok X E cc nL own Ts rm) {n : Int} {x v : Int32} {a0 a1 a2 a3 a4 a5 a6 a7 a8 a9 a10 : Option Value} {tl : List (Option Value)} (d : decode cc pc = .ok (.iinc 11 n, 3)) (hv : x + Int32.ofInt n = v) (hn : 11 < nL) (k : gm_G X E nL (pc + 3) (a0 :: a1 :: a2 :: a3 :: a4 :: a5 :: a6 :: a7 :: a8 :: a9 :: a10 :: some (.int v) :: tl) st σ) : gm_G X E nL pc (a0 :: a1 :: a2 :: a3 :: a4 :: a5 :: a6 :: a7 :: a8 :: a9 :: a10 :: some (.int x) :: tl) st σ := gi_iinc0 hC (i := 11) d rfl hv hn k
theorem gi_iadd (hC : gm_ok X E cc nL own Ts rm) {x y : Int32} (d : decode cc pc = .ok (.iadd, 1)) (k : gm_G X E nL (pc + 1) lo (.int (x + y) :: st) σ) : gm_G X E nL pc lo (.int y :: .int x :: st) σ := by
  obtain ⟨p, l, e, R, s, m, args, below, meth, c, cells, slots, Q, A⟩ := X
  intro H locs ls hP hD hS hl
  exact lv_iadd hC.1 hC.2.1 d (k H locs ls hP hD hS hl)
theorem gi_isub (hC : gm_ok X E cc nL own Ts rm) {x y : Int32} (d : decode cc pc = .ok (.isub, 1)) (k : gm_G X E nL (pc + 1) lo (.int (x - y) :: st) σ) : gm_G X E nL pc lo (.int y :: .int x :: st) σ := by
  obtain ⟨p, l, e, R, s, m, args, below, meth, c, cells, slots, Q, A⟩ := X
  intro H locs ls hP hD hS hl
  exact lv_isub hC.1 hC.2.1 d (k H locs ls hP hD hS hl)
theorem gi_imul (hC : gm_ok X E cc nL own Ts rm) {x y : Int32} (d : decode cc pc = .ok (.imul, 1)) (k : gm_G X E nL (pc + 1) lo (.int (x * y) :: st) σ) : gm_G X E nL pc lo (.int y :: .int x :: st) σ := by
  obtain ⟨p, l, e, R, s, m, args, below, meth, c, cells, slots, Q, A⟩ := X
  intro H locs ls hP hD hS hl
  exact lv_imul hC.1 hC.2.1 d (k H locs ls hP hD hS hl)
theorem gi_iand (hC : gm_ok X E cc nL own Ts rm) {x y : Int32} (d : decode cc pc = .ok (.iand, 1)) (k : gm_G X E nL (pc + 1) lo (.int (x &&& y) :: st) σ) : gm_G X E nL pc lo (.int y :: .int x :: st) σ := by
  obtain ⟨p, l, e, R, s, m, args, below, meth, c, cells, slots, Q, A⟩ := X
  intro H locs ls hP hD hS hl
  exact lv_iand hC.1 hC.2.1 d (k H locs ls hP hD hS hl)
theorem gi_ior (hC : gm_ok X E cc nL own Ts rm) {x y : Int32} (d : decode cc pc = .ok (.ior, 1)) (k : gm_G X E nL (pc + 1) lo (.int (x ||| y) :: st) σ) : gm_G X E nL pc lo (.int y :: .int x :: st) σ := by
  obtain ⟨p, l, e, R, s, m, args, below, meth, c, cells, slots, Q, A⟩ := X
  intro H locs ls hP hD hS hl
  exact lv_ior hC.1 hC.2.1 d (k H locs ls hP hD hS hl)
theorem gi_ixor (hC : gm_ok X E cc nL own Ts rm) {x y : Int32} (d : decode cc pc = .ok (.ixor, 1)) (k : gm_G X E nL (pc + 1) lo (.int (x ^^^ y) :: st) σ) : gm_G X E nL pc lo (.int y :: .int x :: st) σ := by
  obtain ⟨p, l, e, R, s, m, args, below, meth, c, cells, slots, Q, A⟩ := X
  intro H locs ls hP hD hS hl
  exact lv_ixor hC.1 hC.2.1 d (k H locs ls hP hD hS hl)
theorem gi_ishl (hC : gm_ok X E cc nL own Ts rm) {x y : Int32} (d : decode cc pc = .ok (.ishl, 1)) (k : gm_G X E nL (pc + 1) lo (.int (x <<< (y &&& 31)) :: st) σ) : gm_G X E nL pc lo (.int y :: .int x :: st) σ := by
  obtain ⟨p, l, e, R, s, m, args, below, meth, c, cells, slots, Q, A⟩ := X
  intro H locs ls hP hD hS hl
  exact lv_ishl hC.1 hC.2.1 d (k H locs ls hP hD hS hl)
theorem gi_ishr (hC : gm_ok X E cc nL own Ts rm) {x y : Int32} (d : decode cc pc = .ok (.ishr, 1)) (k : gm_G X E nL (pc + 1) lo (.int (x >>> (y &&& 31)) :: st) σ) : gm_G X E nL pc lo (.int y :: .int x :: st) σ := by
  obtain ⟨p, l, e, R, s, m, args, below, meth, c, cells, slots, Q, A⟩ := X
  intro H locs ls hP hD hS hl
  exact lv_ishr hC.1 hC.2.1 d (k H locs ls hP hD hS hl)
theorem gi_iushr (hC : gm_ok X E cc nL own Ts rm) {x y : Int32} (d : decode cc pc = .ok (.iushr, 1)) (k : gm_G X E nL (pc + 1) lo (.int ((x.toUInt32 >>> (y.toUInt32 &&& Int32.toUInt32 31)).toInt32) :: st) σ) : gm_G X E nL pc lo (.int y :: .int x :: st) σ := by
  obtain ⟨p, l, e, R, s, m, args, below, meth, c, cells, slots, Q, A⟩ := X
  intro H locs ls hP hD hS hl
  exact lv_iushr hC.1 hC.2.1 d rfl (k H locs ls hP hD hS hl)
theorem gi_dup (hC : gm_ok X E cc nL own Ts rm) {v : Value} (d : decode cc pc = .ok (.dup, 1)) (hv : v.category = 1) (k : gm_G X E nL (pc + 1) lo (v :: v :: st) σ) : gm_G X E nL pc lo (v :: st) σ := by
  obtain ⟨p, l, e, R, s, m, args, below, meth, c, cells, slots, Q, A⟩ := X
  intro H locs ls hP hD hS hl
  exact lv_dup hC.1 hC.2.1 d hv (k H locs ls hP hD hS hl)
theorem gi_pop (hC : gm_ok X E cc nL own Ts rm) {v : Value} (d : decode cc pc = .ok (.pop, 1)) (hv : v.category = 1) (k : gm_G X E nL (pc + 1) lo st σ) : gm_G X E nL pc lo (v :: st) σ := by
  obtain ⟨p, l, e, R, s, m, args, below, meth, c, cells, slots, Q, A⟩ := X
  intro H locs ls hP hD hS hl
  exact lv_pop hC.1 hC.2.1 d hv (k H locs ls hP hD hS hl)
theorem gi_if_eq (hC : gm_ok X E cc nL own Ts rm) {x : Int32} {off : Int} (tgt : Nat) (d : decode cc pc = .ok (.ifCond .eq off, 3)) (ht : (pc : Int) + off = (tgt : Int)) (kt : x = 0 → gm_G X E nL tgt lo st σ) (kf : ¬ x = 0 → gm_G X E nL (pc + 3) lo st σ) : gm_G X E nL pc lo (.int x :: st) σ := by
  obtain ⟨p, l, e, R, s, m, args, below, meth, c, cells, slots, Q, A⟩ := X
  intro H locs ls hP hD hS hl
  exact lv_if_eq hC.1 hC.2.1 d ht (fun h => kt h H locs ls hP hD hS hl) (fun h => kf h H locs ls hP hD hS hl)
theorem gi_icmp_eq (hC : gm_ok X E cc nL own Ts rm) {x y : Int32} {off : Int} (tgt : Nat) (d : decode cc pc = .ok (.if_icmp .eq off, 3)) (ht : (pc : Int) + off = (tgt : Int)) (kt : x = y → gm_G X E nL tgt lo st σ) (kf : ¬ x = y → gm_G X E nL (pc + 3) lo st σ) : gm_G X E nL pc lo (.int y :: .int x :: st) σ := by
  obtain ⟨p, l, e, R, s, m, args, below, meth, c, cells, slots, Q, A⟩ := X
  intro H locs ls hP hD hS hl
  exact lv_icmp_eq hC.1 hC.2.1 d ht (fun h => kt h H locs ls hP hD hS hl) (fun h => kf h H locs ls hP hD hS hl)
theorem gi_if_ne (hC : gm_ok X E cc nL own Ts rm) {x : Int32} {off : Int} (tgt : Nat) (d : decode cc pc = .ok (.ifCond .ne off, 3)) (ht : (pc : Int) + off = (tgt : Int)) (kt : ¬ x = 0 → gm_G X E nL tgt lo st σ) (kf : x = 0 → gm_G X E nL (pc + 3) lo st σ) : gm_G X E nL pc lo (.int x :: st) σ := by
  obtain ⟨p, l, e, R, s, m, args, below, meth, c, cells, slots, Q, A⟩ := X
  intro H locs ls hP hD hS hl
  exact lv_if_ne hC.1 hC.2.1 d ht (fun h => kt h H locs ls hP hD hS hl) (fun h => kf h H locs ls hP hD hS hl)
theorem gi_icmp_ne (hC : gm_ok X E cc nL own Ts rm) {x y : Int32} {off : Int} (tgt : Nat) (d : decode cc pc = .ok (.if_icmp .ne off, 3)) (ht : (pc : Int) + off = (tgt : Int)) (kt : ¬ x = y → gm_G X E nL tgt lo st σ) (kf : x = y → gm_G X E nL (pc + 3) lo st σ) : gm_G X E nL pc lo (.int y :: .int x :: st) σ := by
  obtain ⟨p, l, e, R, s, m, args, below, meth, c, cells, slots, Q, A⟩ := X
  intro H locs ls hP hD hS hl
  exact lv_icmp_ne hC.1 hC.2.1 d ht (fun h => kt h H locs ls hP hD hS hl) (fun h => kf h H locs ls hP hD hS hl)
theorem gi_if_lt (hC : gm_ok X E cc nL own Ts rm) {x : Int32} {off : Int} (tgt : Nat) (d : decode cc pc = .ok (.ifCond .lt off, 3)) (ht : (pc : Int) + off = (tgt : Int)) (kt : x < 0 → gm_G X E nL tgt lo st σ) (kf : ¬ x < 0 → gm_G X E nL (pc + 3) lo st σ) : gm_G X E nL pc lo (.int x :: st) σ := by
  obtain ⟨p, l, e, R, s, m, args, below, meth, c, cells, slots, Q, A⟩ := X
  intro H locs ls hP hD hS hl
  exact lv_if_lt hC.1 hC.2.1 d ht (fun h => kt h H locs ls hP hD hS hl) (fun h => kf h H locs ls hP hD hS hl)
theorem gi_icmp_lt (hC : gm_ok X E cc nL own Ts rm) {x y : Int32} {off : Int} (tgt : Nat) (d : decode cc pc = .ok (.if_icmp .lt off, 3)) (ht : (pc : Int) + off = (tgt : Int)) (kt : x < y → gm_G X E nL tgt lo st σ) (kf : ¬ x < y → gm_G X E nL (pc + 3) lo st σ) : gm_G X E nL pc lo (.int y :: .int x :: st) σ := by
  obtain ⟨p, l, e, R, s, m, args, below, meth, c, cells, slots, Q, A⟩ := X
  intro H locs ls hP hD hS hl
  exact lv_icmp_lt hC.1 hC.2.1 d ht (fun h => kt h H locs ls hP hD hS hl) (fun h => kf h H locs ls hP hD hS hl)
theorem gi_if_ge (hC : gm_ok X E cc nL own Ts rm) {x : Int32} {off : Int} (tgt : Nat) (d : decode cc pc = .ok (.ifCond .ge off, 3)) (ht : (pc : Int) + off = (tgt : Int)) (kt : 0 ≤ x → gm_G X E nL tgt lo st σ) (kf : ¬ 0 ≤ x → gm_G X E nL (pc + 3) lo st σ) : gm_G X E nL pc lo (.int x :: st) σ := by
  obtain ⟨p, l, e, R, s, m, args, below, meth, c, cells, slots, Q, A⟩ := X
  intro H locs ls hP hD hS hl
  exact lv_if_ge hC.1 hC.2.1 d ht (fun h => kt h H locs ls hP hD hS hl) (fun h => kf h H locs ls hP hD hS hl)
theorem gi_icmp_ge (hC : gm_ok X E cc nL own Ts rm) {x y : Int32} {off : Int} (tgt : Nat) (d : decode cc pc = .ok (.if_icmp .ge off, 3)) (ht : (pc : Int) + off = (tgt : Int)) (kt : y ≤ x → gm_G X E nL tgt lo st σ) (kf : ¬ y ≤ x → gm_G X E nL (pc + 3) lo st σ) : gm_G X E nL pc lo (.int y :: .int x :: st) σ := by
  obtain ⟨p, l, e, R, s, m, args, below, meth, c, cells, slots, Q, A⟩ := X
  intro H locs ls hP hD hS hl
  exact lv_icmp_ge hC.1 hC.2.1 d ht (fun h => kt h H locs ls hP hD hS hl) (fun h => kf h H locs ls hP hD hS hl)
theorem gi_if_gt (hC : gm_ok X E cc nL own Ts rm) {x : Int32} {off : Int} (tgt : Nat) (d : decode cc pc = .ok (.ifCond .gt off, 3)) (ht : (pc : Int) + off = (tgt : Int)) (kt : 0 < x → gm_G X E nL tgt lo st σ) (kf : ¬ 0 < x → gm_G X E nL (pc + 3) lo st σ) : gm_G X E nL pc lo (.int x :: st) σ := by
  obtain ⟨p, l, e, R, s, m, args, below, meth, c, cells, slots, Q, A⟩ := X
  intro H locs ls hP hD hS hl
  exact lv_if_gt hC.1 hC.2.1 d ht (fun h => kt h H locs ls hP hD hS hl) (fun h => kf h H locs ls hP hD hS hl)
theorem gi_icmp_gt (hC : gm_ok X E cc nL own Ts rm) {x y : Int32} {off : Int} (tgt : Nat) (d : decode cc pc = .ok (.if_icmp .gt off, 3)) (ht : (pc : Int) + off = (tgt : Int)) (kt : y < x → gm_G X E nL tgt lo st σ) (kf : ¬ y < x → gm_G X E nL (pc + 3) lo st σ) : gm_G X E nL pc lo (.int y :: .int x :: st) σ := by
  obtain ⟨p, l, e, R, s, m, args, below, meth, c, cells, slots, Q, A⟩ := X
  intro H locs ls hP hD hS hl
  exact lv_icmp_gt hC.1 hC.2.1 d ht (fun h => kt h H locs ls hP hD hS hl) (fun h => kf h H locs ls hP hD hS hl)
theorem gi_if_le (hC : gm_ok X E cc nL own Ts rm) {x : Int32} {off : Int} (tgt : Nat) (d : decode cc pc = .ok (.ifCond .le off, 3)) (ht : (pc : Int) + off = (tgt : Int)) (kt : x ≤ 0 → gm_G X E nL tgt lo st σ) (kf : ¬ x ≤ 0 → gm_G X E nL (pc + 3) lo st σ) : gm_G X E nL pc lo (.int x :: st) σ := by
  obtain ⟨p, l, e, R, s, m, args, below, meth, c, cells, slots, Q, A⟩ := X
  intro H locs ls hP hD hS hl
  exact lv_if_le hC.1 hC.2.1 d ht (fun h => kt h H locs ls hP hD hS hl) (fun h => kf h H locs ls hP hD hS hl)
theorem gi_icmp_le (hC : gm_ok X E cc nL own Ts rm) {x y : Int32} {off : Int} (tgt : Nat) (d : decode cc pc = .ok (.if_icmp .le off, 3)) (ht : (pc : Int) + off = (tgt : Int)) (kt : x ≤ y → gm_G X E nL tgt lo st σ) (kf : ¬ x ≤ y → gm_G X E nL (pc + 3) lo st σ) : gm_G X E nL pc lo (.int y :: .int x :: st) σ := by
  obtain ⟨p, l, e, R, s, m, args, below, meth, c, cells, slots, Q, A⟩ := X
  intro H locs ls hP hD hS hl
  exact lv_icmp_le hC.1 hC.2.1 d ht (fun h => kt h H locs ls hP hD hS hl) (fun h => kf h H locs ls hP hD hS hl)
theorem gi_goto (hC : gm_ok X E cc nL own Ts rm) {off : Int} (tgt : Nat) (d : decode cc pc = .ok (.goto off, 3)) (ht : (pc : Int) + off = (tgt : Int)) (k : gm_G X E nL tgt lo st σ) : gm_G X E nL pc lo st σ := by
  obtain ⟨p, l, e, R, s, m, args, below, meth, c, cells, slots, Q, A⟩ := X
  intro H locs ls hP hD hS hl
  exact lv_goto hC.1 hC.2.1 d ht (k H locs ls hP hD hS hl)
/-- a reference or int field of an object -/
theorem gi_get (hC : gm_ok X E cc nL own Ts rm) {x ci j idx N : Nat} {C ref : String} {T : u_T} {fs : (Nat → Int32) → List Value} {v : Value} (ho : gm_isO E x ci fs) (hc : vwCl[ci]? = some (C, T, N)) (hin : ∀ w ∈ u_ws C T N, w ∈ Ts) (hj : j < N) (hlk : Cond.fieldLink own idx ref (T j).2.1 (T j).2.2.1 ∈ Ts) (hrf : ref = (T j).1) (hv : (fs (σ.1 x))[j]? = some v) (d : decode cc pc = .ok (.getfield idx, 3)) (k : gm_G X E nL (pc + 3) lo (v :: st) σ) : gm_G X E nL pc lo (.ref (E.2.2 x) :: st) σ := by
  obtain ⟨p, l, e, R, s, m, args, below, meth, c, cells, slots, Q, A⟩ := X
  intro H locs ls hP hD hS hl
  obtain ⟨q, hq⟩ := gm_at (E := E) σ ho.1
  have hq2 : (gm_w E σ)[q]? = some (E.2.2 x, .inr (ci, fs (σ.1 x))) := by rw [hq]; simp only [gm_cell, ho.2]
  subst hrf
  exact va_get (D := E.1) hC.1 hC.2.1 hC.2.2.2.2.1 hin hC.2.2.2.1 hC.2.2.2.2.2.1 hP q hq2 hc j hj (hC.2.2.2.2.1 _ hlk) (fun _ h9 => h9) hv d (k H locs ls hP hD hS hl)
/-- an int (or boolean) field of an object becomes v -/
theorem gi_put (hC : gm_ok X E cc nL own Ts rm) {x ci j idx N : Nat} {C ref : String} {T : u_T} {fs : (Nat → Int32) → List Value} {v : Int32} {ty : FieldType} (ty0 : Nat → FieldType) (hty : ∀ k, k < N → parseFieldDescriptor (T k).2.2.1 = some (ty0 k)) (hnm : ∀ a, a < N → ∀ b, b < N → a ≠ b → (T a).2.1 ≠ (T b).2.1) (ho : gm_isO E x ci fs) (hc : vwCl[ci]? = some (C, T, N)) (hin : ∀ w ∈ u_ws C T N, w ∈ Ts) (hj : j < N) (hlk : Cond.fieldLink own idx ref (T j).2.1 (T j).2.2.1 ∈ Ts) (hrf : ref = (T j).1) (hfin : (T j).2.2.2 = false) (hd : parseFieldDescriptor (T j).2.2.1 = some ty) (hn : narrow ty (.int v) = .int v) (hfit : fits ty (.int v) = true) (hlen : j < (fs (σ.1 x)).length) (hset : (fs (σ.1 x)).set j (.int v) = fs (upd (σ.1 x) j v)) (d : decode cc pc = .ok (.putfield idx, 3)) (k : gm_G X E nL (pc + 3) lo st (gm_sc σ x j v)) : gm_G X E nL pc lo (.int v :: .ref (E.2.2 x) :: st) σ := by
  obtain ⟨p, l, e, R, s, m, args, below, meth, c, cells, slots, Q, A⟩ := X
  intro H locs ls hP hD hS hl
  obtain ⟨q, hq⟩ := gm_at (E := E) σ ho.1
  have hq2 : (gm_w E σ)[q]? = some (E.2.2 x, .inr (ci, fs (σ.1 x))) := by rw [hq]; simp only [gm_cell, ho.2]
  subst hrf
  refine va_put (D := E.1) hC.1 hC.2.1 hC.2.2.2.2.1 hin ty0 hty hnm hC.2.2.2.1 hC.2.2.2.2.2.1 hP hD hS q hq2 hc j hj (hC.2.2.2.2.1 _ hlk) (fun _ h9 => h9) hfin hd hn hfit hlen d (fun H1 locs1 hP1 hD1 hS1 => ?_)
  have he : (gm_w E σ).set q (E.2.2 x, .inr (ci, (fs (σ.1 x)).set j (.int v))) = gm_w E (gm_sc σ x j v) := gm_set ho.1 hD hq (by rw [gm_sc_s, ho.2, hset]) (fun y h => gm_sc_o y h)
  rw [he] at hP1 hD1
  exact k H1 locs1 ls hP1 hD1 hS1 hl
theorem gi_iald (hC : gm_ok X E cc nL own Ts rm) {x n j : Nat} {i : Int32} (ho : gm_isI E x n) (hj : j < n) (hi : i = nI j) (hn : n < 2 ^ 31) (d : decode cc pc = .ok (.iaload, 1)) (k : gm_G X E nL (pc + 1) lo (.int (σ.2 x j) :: st) σ) : gm_G X E nL pc lo (.int i :: .ref (E.2.2 x) :: st) σ := by
  obtain ⟨p, l, e, R, s, m, args, below, meth, c, cells, slots, Q, A⟩ := X
  intro H locs ls hP hD hS hl
  obtain ⟨q, hq⟩ := gm_at (E := E) σ ho.1
  have hq2 : (gm_w E σ)[q]? = some (E.2.2 x, .inl (E.2.1.1, n, .inl (σ.2 x))) := by rw [hq]; simp only [gm_cell, ho.2]
  subst hi
  refine va_iald (D := E.1) hC.1 hC.2.1 hC.2.2.2.2.2.1 hP q 0 hq2 rfl (vp_in_nI hj hn) d ?_
  rw [nI_clamp (by omega)]
  exact k H locs ls hP hD hS hl
theorem gi_zald (hC : gm_ok X E cc nL own Ts rm) {x n j : Nat} {i : Int32} (ho : gm_isZ E x n) (hj : j < n) (hi : i = nI j) (hn : n < 2 ^ 31) (d : decode cc pc = .ok (.baload, 1)) (k : gm_G X E nL (pc + 1) lo (.int (σ.2 x j) :: st) σ) : gm_G X E nL pc lo (.int i :: .ref (E.2.2 x) :: st) σ := by
  obtain ⟨p, l, e, R, s, m, args, below, meth, c, cells, slots, Q, A⟩ := X
  intro H locs ls hP hD hS hl
  obtain ⟨q, hq⟩ := gm_at (E := E) σ ho.1
  have hq2 : (gm_w E σ)[q]? = some (E.2.2 x, .inl (E.2.1.2.1, n, .inl (σ.2 x))) := by rw [hq]; simp only [gm_cell, ho.2]
  subst hi
  refine va_zald (D := E.1) hC.1 hC.2.1 hC.2.2.2.2.2.1 hP q 1 hq2 rfl (vp_in_nI hj hn) d ?_
  rw [nI_clamp (by omega)]
  exact k H locs ls hP hD hS hl
theorem gi_iast (hC : gm_ok X E cc nL own Ts rm) {x n j : Nat} {i v : Int32} (ho : gm_isI E x n) (hj : j < n) (hi : i = nI j) (hn : n < 2 ^ 31) (d : decode cc pc = .ok (.iastore, 1)) (k : gm_G X E nL (pc + 1) lo st (gm_ar σ x j v)) : gm_G X E nL pc lo (.int v :: .int i :: .ref (E.2.2 x) :: st) σ := by
  obtain ⟨p, l, e, R, s, m, args, below, meth, c, cells, slots, Q, A⟩ := X
  intro H locs ls hP hD hS hl
  obtain ⟨q, hq⟩ := gm_at (E := E) σ ho.1
  have hq2 : (gm_w E σ)[q]? = some (E.2.2 x, .inl (E.2.1.1, n, .inl (σ.2 x))) := by rw [hq]; simp only [gm_cell, ho.2]
  subst hi
  refine va_iast (D := E.1) hC.1 hC.2.1 hC.2.2.2.2.2.1 hP hD hS q 0 hq2 rfl (vp_in_nI hj hn) d (fun H1 locs1 hP1 hD1 hS1 => ?_)
  rw [nI_clamp (by omega)] at hP1 hD1
  have he : (gm_w E σ).set q (E.2.2 x, .inl (E.2.1.1, n, .inl (upd (σ.2 x) j v))) = gm_w E (gm_ar σ x j v) := gm_set ho.1 hD hq (by rw [gm_ar_s, ho.2]) (fun y h => gm_ar_o y h)
  rw [he] at hP1 hD1
  exact k H1 locs1 ls hP1 hD1 hS1 hl
theorem gi_zast (hC : gm_ok X E cc nL own Ts rm) {x n j : Nat} {i v : Int32} (ho : gm_isZ E x n) (hj : j < n) (hi : i = nI j) (hv : v = 0 ∨ v = 1) (hn : n < 2 ^ 31) (d : decode cc pc = .ok (.bastore, 1)) (k : gm_G X E nL (pc + 1) lo st (gm_ar σ x j v)) : gm_G X E nL pc lo (.int v :: .int i :: .ref (E.2.2 x) :: st) σ := by
  obtain ⟨p, l, e, R, s, m, args, below, meth, c, cells, slots, Q, A⟩ := X
  intro H locs ls hP hD hS hl
  obtain ⟨q, hq⟩ := gm_at (E := E) σ ho.1
  have hq2 : (gm_w E σ)[q]? = some (E.2.2 x, .inl (E.2.1.2.1, n, .inl (σ.2 x))) := by rw [hq]; simp only [gm_cell, ho.2]
  subst hi
  have hvv : vp_nar .boolean v = v := by rcases hv with rfl | rfl <;> decide +kernel
  refine va_zast (D := E.1) hC.1 hC.2.1 hC.2.2.2.2.2.1 hP hD hS q 1 hq2 rfl (vp_in_nI hj hn) d (fun H1 locs1 hP1 hD1 hS1 => ?_)
  rw [nI_clamp (by omega), hvv] at hP1 hD1
  have he : (gm_w E σ).set q (E.2.2 x, .inl (E.2.1.2.1, n, .inl (upd (σ.2 x) j v))) = gm_w E (gm_ar σ x j v) := gm_set ho.1 hD hq (by rw [gm_ar_s, ho.2]) (fun y h => gm_ar_o y h)
  rw [he] at hP1 hD1
  exact k H1 locs1 ls hP1 hD1 hS1 hl
/-- a packing out of the packer's row, a forest out of a packing's row, and the row's length -/
theorem gi_aaldP (hC : gm_ok X E cc nL own Ts rm) {j : Nat} {i : Int32} (hj : j < 7) (hi : i = nI j) (d : decode cc pc = .ok (.aaload, 1)) (k : gm_G X E nL (pc + 1) lo (.ref (E.2.2 (gm_P j)) :: st) σ) : gm_G X E nL pc lo (.int i :: .ref (E.2.2 4) :: st) σ := by
  obtain ⟨p, l, e, R, s, m, args, below, meth, c, cells, slots, Q, A⟩ := X
  intro H locs ls hP hD hS hl
  obtain ⟨q, hq⟩ := gm_at (E := E) σ (gm_in_lo (x := 4) (by decide))
  subst hi
  refine va_aldq (D := E.1) hC.1 hC.2.1 hC.2.2.2.2.2.1 hP q 2 hq rfl (vp_in_nI hj (by decide)) d ?_
  rw [nI_clamp (by omega)]
  exact k H locs ls hP hD hS hl
theorem gi_aaldF (hC : gm_ok X E cc nL own Ts rm) {kk j : Nat} {i : Int32} (hk : kk < 7) (hj : j < kk) (hi : i = nI j) (d : decode cc pc = .ok (.aaload, 1)) (k : gm_G X E nL (pc + 1) lo (.ref (E.2.2 (gm_P kk + 5 + 3 * j)) :: st) σ) : gm_G X E nL pc lo (.int i :: .ref (E.2.2 (gm_P kk + 4)) :: st) σ := by
  obtain ⟨p, l, e, R, s, m, args, below, meth, c, cells, slots, Q, A⟩ := X
  intro H locs ls hP hD hS hl
  obtain ⟨q, hq⟩ := gm_at (E := E) σ (gm_in_P (r := 4) hk (by omega))
  have hq2 : (gm_w E σ)[q]? = some (E.2.2 (gm_P kk + 4), .inl (E.2.1.2.2.2, kk, .inr (.inr (.inr (.inr (fun i => some (E.2.2 (gm_P kk + 5 + 3 * i)))))))) := by rw [hq]; simp only [gm_cell, gm_cF]
  subst hi
  refine va_aldq (D := E.1) hC.1 hC.2.1 hC.2.2.2.2.2.1 hP q 3 hq2 rfl (vp_in_nI hj (by omega)) d ?_
  rw [nI_clamp (by omega)]
  exact k H locs ls hP hD hS hl
theorem gi_alenF (hC : gm_ok X E cc nL own Ts rm) {kk : Nat} (hk : kk < 7) (d : decode cc pc = .ok (.arraylength, 1)) (k : gm_G X E nL (pc + 1) lo (.int (nI kk) :: st) σ) : gm_G X E nL pc lo (.ref (E.2.2 (gm_P kk + 4)) :: st) σ := by
  obtain ⟨p, l, e, R, s, m, args, below, meth, c, cells, slots, Q, A⟩ := X
  intro H locs ls hP hD hS hl
  obtain ⟨q, hq⟩ := gm_at (E := E) σ (gm_in_P (r := 4) hk (by omega))
  have hq2 : (gm_w E σ)[q]? = some (E.2.2 (gm_P kk + 4), .inl (E.2.1.2.2.2, kk, .inr (.inr (.inr (.inr (fun i => some (E.2.2 (gm_P kk + 5 + 3 * i)))))))) := by rw [hq]; simp only [gm_cell, gm_cF]
  exact va_alen (D := E.1) hC.1 hC.2.1 hC.2.2.2.2.2.1 hP q 3 hq2 rfl rfl d (k H locs ls hP hD hS hl)
theorem gi_alenI (hC : gm_ok X E cc nL own Ts rm) {x n : Nat} (ho : gm_isI E x n) (d : decode cc pc = .ok (.arraylength, 1)) (k : gm_G X E nL (pc + 1) lo (.int (nI n) :: st) σ) : gm_G X E nL pc lo (.ref (E.2.2 x) :: st) σ := by
  obtain ⟨p, l, e, R, s, m, args, below, meth, c, cells, slots, Q, A⟩ := X
  intro H locs ls hP hD hS hl
  obtain ⟨q, hq⟩ := gm_at (E := E) σ ho.1
  have hq2 : (gm_w E σ)[q]? = some (E.2.2 x, .inl (E.2.1.1, n, .inl (σ.2 x))) := by rw [hq]; simp only [gm_cell, ho.2]
  exact va_alen (D := E.1) hC.1 hC.2.1 hC.2.2.2.2.2.1 hP q 0 hq2 rfl rfl d (k H locs ls hP hD hS hl)
end GM
end
section
/-! CONTRACTS over the memory by names, a method's entry and its end, and calls -/
def gm_A (E : gm_E) (sz : Nat) : Nat → Prop := fun q => (∃ x, x ∈ gm_names ∧ q = E.2.2 x) ∨ sz ≤ q
def gm_pre (E : gm_E) (σ : gm_S) (sz : Nat) : State → Prop := fun U => U.heap.size = sz ∧ va_P E.1 vwCl (gm_w E σ) U.heap ∧ va_K E.1 vwCl (gm_tys E) U ∧ va_D (fun _ => True) (gm_w E σ)
def gm_B (E : gm_E) (A : Nat → Prop) (σ : gm_S) (t : State) : Prop := va_P E.1 vwCl (gm_w E σ) t.heap ∧ va_K E.1 vwCl (gm_tys E) t ∧ va_D A (gm_w E σ)
/-- the contract of a method that answers an int (or a boolean), that answers nothing, that answers the cell x -/
def gm_MI (l : Launch) (E : gm_E) (y : MethodName) (ws : List Cond) (rm : Room) (av : List Value) (σ : gm_S) (post : Int32 → gm_S → Prop) : Prop := ∀ sz : Nat, Met l y ws rm (va_Pc av (gm_pre E σ sz)) (va_Qi post (gm_B E (gm_A E sz)) (gm_A E sz)) 0 0 (gm_A E sz)
def gm_MV (l : Launch) (E : gm_E) (y : MethodName) (ws : List Cond) (rm : Room) (av : List Value) (σ : gm_S) (post : gm_S → Prop) : Prop := ∀ sz : Nat, Met l y ws rm (va_Pc av (gm_pre E σ sz)) (va_Qv post (gm_B E (gm_A E sz)) (gm_A E sz)) 0 0 (gm_A E sz)
def gm_MR (l : Launch) (E : gm_E) (y : MethodName) (ws : List Cond) (rm : Room) (av : List Value) (σ : gm_S) (x : Nat) (post : gm_S → Prop) : Prop := ∀ sz : Nat, Met l y ws rm (va_Pc av (gm_pre E σ sz)) (va_Qr post (fun σ' a t => a = E.2.2 x ∧ gm_B E (gm_A E sz) σ' t) (gm_A E sz)) 0 0 (gm_A E sz)
theorem gm_blind {av : List Value} {E : gm_E} {σ : gm_S} {sz : Nat} : FrameBlind (va_Pc av (gm_pre E σ sz)) := fun a U g mk q => by
  obtain ⟨q0, q1, qP, qK, qD⟩ := q
  exact ⟨q0, q1, qP, va_K.moved (u := U) (U := U.calling g mk a) (Vm.Alike.refl U.vm) qK, qD⟩
theorem gm_Dself {E : gm_E} {σ : gm_S} {A : Nat → Prop} {sz : Nat} (h : va_D A (gm_w E σ)) : va_D (gm_A E sz) (gm_w E σ) := ⟨h.1, fun k q hk => by
  obtain ⟨y, h1, h2, -⟩ := gm_adr E σ k q.1 q.2 hk
  exact Or.inl ⟨y, List.mem_of_getElem? h1, h2⟩⟩
theorem gm_sl_len : ∀ (av : List Value), (∀ v ∈ av, v.category = 1) → (lg_sl av).length = av.length
  | [], _ => rfl
  | v :: av, h => by
    have ih := gm_sl_len av (fun w hw => h w (List.mem_cons_of_mem _ hw))
    have hv := h v List.mem_cons_self
    simp only [lg_sl, List.flatMap_cons] at ih ⊢
    rw [if_neg (by omega), List.length_append, ih]
    simp only [List.length_cons, List.length_nil]
    omega
theorem gm_args : ∀ (av : List Value) (i k : Nat) (v : Value), (∀ w ∈ av, w.category = 1) → av[k]? = some v → (i + k, v) ∈ lv_args i av
  | [], i, k, v, _, h => by simp at h
  | w :: av, i, k, v, hc, h => by
    have hw := hc w List.mem_cons_self
    rw [lv_args, if_neg (by omega)]
    cases k with
    | zero =>
      rw [List.getElem?_cons_zero] at h
      cases h
      exact List.mem_cons_self
    | succ k =>
      rw [List.getElem?_cons_succ] at h
      have := gm_args av (i + 1) k v (fun z hz => hc z (List.mem_cons_of_mem _ hz)) h
      rw [show i + (k + 1) = i + 1 + k by omega]
      exact List.mem_cons_of_mem _ this
def gm_lo0 (av : List Value) (n : Nat) : List (Option Value) := av.map some ++ List.replicate (n - av.length) none
theorem gm_entry {av : List Value} {n : Nat} (hc : ∀ v ∈ av, v.category = 1) (hn : av.length ≤ n) : gm_lo ((lg_sl av ++ List.replicate (n - (lg_sl av).length) Slot.unset).toArray) n (gm_lo0 av n) := by
  have h := lv_entry av (n := n) (by rw [gm_sl_len av hc]; exact hn)
  refine ⟨h.1, h.2.1, fun k v hk => ?_⟩
  have hav : av[k]? = some v := by
    by_cases hl : k < av.length
    · rw [gm_lo0, List.getElem?_append_left (by simpa using hl), List.getElem?_map] at hk
      cases hb : av[k]? with
      | none => rw [hb] at hk; cases hk
      | some w => rw [hb] at hk; cases hk; rfl
    · rw [gm_lo0, List.getElem?_append_right (by simp; omega)] at hk
      have := List.mem_of_getElem? hk
      have := List.eq_of_mem_replicate this
      cases this
  exact ⟨hc v (List.mem_of_getElem? hav), h.2.2 (k, v) (by have := gm_args av 0 k v hc hav; rwa [Nat.zero_add] at this)⟩
theorem gm_enterI {l : Launch} {E : gm_E} {y : MethodName} {ws ws' : List Cond} {rm : Room} {av : List Value} {σ : gm_S} {post : Int32 → gm_S → Prop} {cc : ByteArray} {maxL : Nat} {rt : FieldType} (own : String) (hy : plainName y.cls = true) (hw : ws = Cond.code y cc maxL (some rt) :: ws') (hown : y.cls = own) (hn : av.length ≤ maxL) (hc : ∀ v ∈ av, v.category = 1)
    (body : ∀ X : gm_X, gm_ok X E cc maxL own ws rm → (∀ (r : Int32) (σ' : gm_S) (pc : Nat) (lo : List (Option Value)), narrow rt (.int r) = .int r → post r σ' → decode cc pc = .ok (.ireturn, 1) → gm_G X E maxL pc lo [.int r] σ') → gm_G X E maxL 0 (gm_lo0 av maxL) [] σ) : gm_MI l E y ws rm av σ post := by
  intro sz
  refine Met.ofW (cc := cc) (maxL := maxL) (ret := some rt) hy hw ?_
  intro p e s m args below meth c s₁ B hml hv
  obtain ⟨rfl, hsz, hP, hK, hD0⟩ := hv
  subst hsz
  have hlocks := B.notSynchronized
  have hf : s.vm.findClass own = some m.cls := by rw [← hown]; exact findClass_of_methodNamed B.named
  have h := body (p, l, e, (headSpec ws rm).room, s, m, av.toArray, below, meth, c, 0, 0, MQ below (va_Qi post (gm_B E (gm_A E s.heap.size)) (gm_A E s.heap.size)) av.toArray s 0 0 (gm_A E s.heap.size), gm_A E s.heap.size)
    ⟨B.exec, B.bytes, hml, hf, atoms_spec (ws := ws) B.pre, hK, rfl, fun x hx => Or.inl ⟨x, hx, rfl⟩, fun q hq => Or.inr hq, hlocks, Nat.zero_le _, Nat.zero_le _⟩
    (fun r σ' pc lo hr hp d H locs ls hP hD hS hl => W.zret B.exec B.bytes B.returns hr (fun t ht hW => ⟨⟨r, σ', rfl, hp, by rw [ht]; exact hP, va_K.moved hW.alike hK, hD⟩, hS.F ht⟩) hS.2.2 d hlocks)
  rw [lg_entry_eq]
  exact h s.heap [] _ hP (gm_Dself hD0) va_S.rf (gm_entry hc hn)
theorem gm_enterV {l : Launch} {E : gm_E} {y : MethodName} {ws ws' : List Cond} {rm : Room} {av : List Value} {σ : gm_S} {post : gm_S → Prop} {cc : ByteArray} {maxL : Nat} (own : String) (hy : plainName y.cls = true) (hw : ws = Cond.code y cc maxL none :: ws') (hown : y.cls = own) (hn : av.length ≤ maxL) (hc : ∀ v ∈ av, v.category = 1)
    (body : ∀ X : gm_X, gm_ok X E cc maxL own ws rm → (∀ (σ' : gm_S) (pc : Nat) (lo : List (Option Value)), post σ' → decode cc pc = .ok (.return_, 1) → gm_G X E maxL pc lo [] σ') → gm_G X E maxL 0 (gm_lo0 av maxL) [] σ) : gm_MV l E y ws rm av σ post := by
  intro sz
  refine Met.ofW (cc := cc) (maxL := maxL) (ret := none) hy hw ?_
  intro p e s m args below meth c s₁ B hml hv
  obtain ⟨rfl, hsz, hP, hK, hD0⟩ := hv
  subst hsz
  have hlocks := B.notSynchronized
  have hf : s.vm.findClass own = some m.cls := by rw [← hown]; exact findClass_of_methodNamed B.named
  have h := body (p, l, e, (headSpec ws rm).room, s, m, av.toArray, below, meth, c, 0, 0, MQ below (va_Qv post (gm_B E (gm_A E s.heap.size)) (gm_A E s.heap.size)) av.toArray s 0 0 (gm_A E s.heap.size), gm_A E s.heap.size)
    ⟨B.exec, B.bytes, hml, hf, atoms_spec (ws := ws) B.pre, hK, rfl, fun x hx => Or.inl ⟨x, hx, rfl⟩, fun q hq => Or.inr hq, hlocks, Nat.zero_le _, Nat.zero_le _⟩
    (fun σ' pc lo hp d H locs ls hP hD hS hl => W.vret B.exec B.bytes B.returns (fun t ht hW => ⟨⟨σ', rfl, hp, by rw [ht]; exact hP, va_K.moved hW.alike hK, hD⟩, hS.F ht⟩) hS.2.2 d hlocks)
  rw [lg_entry_eq]
  exact h s.heap [] _ hP (gm_Dself hD0) va_S.rf (gm_entry hc hn)
theorem gm_enterR {l : Launch} {E : gm_E} {y : MethodName} {ws ws' : List Cond} {rm : Room} {av : List Value} {σ : gm_S} {x : Nat} {post : gm_S → Prop} {cc : ByteArray} {maxL : Nat} {rt : FieldType} (own : String) (hy : plainName y.cls = true) (hw : ws = Cond.code y cc maxL (some rt) :: ws') (hrt : (∃ n, rt = .object n) ∨ ∃ t, rt = .array t) (hown : y.cls = own) (hn : av.length ≤ maxL) (hc : ∀ v ∈ av, v.category = 1)
    (body : ∀ X : gm_X, gm_ok X E cc maxL own ws rm → (∀ (σ' : gm_S) (pc : Nat) (lo : List (Option Value)), post σ' → decode cc pc = .ok (.areturn, 1) → gm_G X E maxL pc lo [.ref (E.2.2 x)] σ') → gm_G X E maxL 0 (gm_lo0 av maxL) [] σ) : gm_MR l E y ws rm av σ x post := by
  intro sz
  refine Met.ofW (cc := cc) (maxL := maxL) (ret := some rt) hy hw ?_
  intro p e s m args below meth c s₁ B hml hv
  obtain ⟨rfl, hsz, hP, hK, hD0⟩ := hv
  subst hsz
  have hlocks := B.notSynchronized
  have hf : s.vm.findClass own = some m.cls := by rw [← hown]; exact findClass_of_methodNamed B.named
  have h := body (p, l, e, (headSpec ws rm).room, s, m, av.toArray, below, meth, c, 0, 0, MQ below (va_Qr post (fun σ' a t => a = E.2.2 x ∧ gm_B E (gm_A E s.heap.size) σ' t) (gm_A E s.heap.size)) av.toArray s 0 0 (gm_A E s.heap.size), gm_A E s.heap.size)
    ⟨B.exec, B.bytes, hml, hf, atoms_spec (ws := ws) B.pre, hK, rfl, fun x hx => Or.inl ⟨x, hx, rfl⟩, fun q hq => Or.inr hq, hlocks, Nat.zero_le _, Nat.zero_le _⟩
    (fun σ' pc lo hp d H locs ls hP hD hS hl => W.aret B.exec B.bytes B.returns hrt (Or.inr ⟨_, rfl⟩) (fun t ht hW => ⟨⟨σ', E.2.2 x, rfl, hp, rfl, by rw [ht]; exact hP, va_K.moved hW.alike hK, hD⟩, hS.F ht⟩) hS.2.2 d hlocks)
  rw [lg_entry_eq]
  exact h s.heap [] _ hP (gm_Dself hD0) va_S.rf (gm_entry hc hn)
section GK
variable {X : gm_X} {E : gm_E} {cc bytes : ByteArray} {nL pc x ci idx maxL n N : Nat} {own C : String} {T : u_T} {fs : (Nat → Int32) → List Value} {Ts ws ws' : List Cond} {rm rm2 : Room} {lo : List (Option Value)} {st : List Value} {σ : gm_S} {y : MethodName} {As rest : List Value} {ret : Option FieldType}

theorem gk_VI (hC : gm_ok X E cc nL own Ts rm) {post : Int32 → gm_S → Prop} (hM : ∀ l : Launch, gm_MI l E y ws rm2 (.ref (E.2.2 x) :: As) σ post) (ho : gm_isO E x ci fs) (hc : vwCl[ci]? = some (C, T, N)) (hT : GoodIn Ts (wsV own idx C y ws)) (hw : ws = Cond.code y bytes maxL ret :: ws') (hrm : rm2.cells = 0 ∧ rm2.slots = 0) (hn : As.length = n) (hd : y.cls = C ∧ y.cls ≠ "java/lang/invoke/MethodHandle" ∧ y.cls ≠ "java/lang/invoke/VarHandle" ∧ (parseMethodDescriptor y.desc).map (fun d => d.parameters.length) = some n) (hR : rm2.frames + 1 ≤ rm.frames ∧ 8 + (maxL + 11) + rm2.locals ≤ rm.locals) (hW : (rest.map fun v => v.category).sum ≤ 8) (d : decode cc pc = .ok (.invokevirtual idx, 3)) (k : ∀ (r : Int32) (σ2 : gm_S), post r σ2 → gm_G X E nL (pc + 3) lo (.int r :: rest) σ2) : gm_G X E nL pc lo (As.reverse ++ .ref (E.2.2 x) :: rest) σ := by
  obtain ⟨p, l, e, R, s, m, args, below, meth, c, cells, slots, Q, A⟩ := X
  intro H locs ls hP hD hS hl
  obtain ⟨hx, hb, hml, hown, hts, hK, hRm, hnm, hA, hlk, hcs, hss⟩ := hC
  subst hRm
  have hF : ∀ q, gm_A E H.size q → A q := by
    rintro q (⟨z, hz, rfl⟩ | h)
    · exact hnm z hz
    · exact hA q (Nat.le_trans hS.1 h)
  obtain ⟨q, hq⟩ := gm_at (E := E) σ ho.1
  have hq2 : (gm_w E σ)[q]? = some (E.2.2 x, .inr (ci, fs (σ.1 x))) := by rw [hq]; simp only [gm_cell, ho.2]
  refine va_calli (va_runV (As := As) (rest := rest) ⟨hx, hb, hml, hown, hts⟩ (hM l H.size) (cwV n hts hT hw hrm.1 hrm.2 hd hR) ⟨gm_blind, va_recv hK hP hc hq2, (fun U hU hW2 => ⟨rfl, by rw [hU], by rw [hU]; exact hP, va_K.moved hW2.alike hK, hD.weaken (fun _ _ _ _ => trivial)⟩)⟩ rfl hn hl.1 rfl (lv_room hW) d ⟨hcs, hss⟩) hS (fun q _ h => hF q h) hF (fun r u t H1 locs1 ht hvm hw2 hB hz hk hS1 => ?_)
  obtain ⟨hP1, -, hD1⟩ := hB
  rw [ht] at hP1
  exact k r u hw2 H1 locs1 ls hP1 (hD1.weaken (fun _ q _ h => hF q.1 h)) hS1 hl
theorem gk_VV (hC : gm_ok X E cc nL own Ts rm) {post : gm_S → Prop} (hM : ∀ l : Launch, gm_MV l E y ws rm2 (.ref (E.2.2 x) :: As) σ post) (ho : gm_isO E x ci fs) (hc : vwCl[ci]? = some (C, T, N)) (hT : GoodIn Ts (wsV own idx C y ws)) (hw : ws = Cond.code y bytes maxL ret :: ws') (hrm : rm2.cells = 0 ∧ rm2.slots = 0) (hn : As.length = n) (hd : y.cls = C ∧ y.cls ≠ "java/lang/invoke/MethodHandle" ∧ y.cls ≠ "java/lang/invoke/VarHandle" ∧ (parseMethodDescriptor y.desc).map (fun d => d.parameters.length) = some n) (hR : rm2.frames + 1 ≤ rm.frames ∧ 8 + (maxL + 11) + rm2.locals ≤ rm.locals) (hW : (rest.map fun v => v.category).sum ≤ 8) (d : decode cc pc = .ok (.invokevirtual idx, 3)) (k : ∀ (σ2 : gm_S), post σ2 → gm_G X E nL (pc + 3) lo rest σ2) : gm_G X E nL pc lo (As.reverse ++ .ref (E.2.2 x) :: rest) σ := by
  obtain ⟨p, l, e, R, s, m, args, below, meth, c, cells, slots, Q, A⟩ := X
  intro H locs ls hP hD hS hl
  obtain ⟨hx, hb, hml, hown, hts, hK, hRm, hnm, hA, hlk, hcs, hss⟩ := hC
  subst hRm
  have hF : ∀ q, gm_A E H.size q → A q := by
    rintro q (⟨z, hz, rfl⟩ | h)
    · exact hnm z hz
    · exact hA q (Nat.le_trans hS.1 h)
  obtain ⟨q, hq⟩ := gm_at (E := E) σ ho.1
  have hq2 : (gm_w E σ)[q]? = some (E.2.2 x, .inr (ci, fs (σ.1 x))) := by rw [hq]; simp only [gm_cell, ho.2]
  refine va_callv (va_runV (As := As) (rest := rest) ⟨hx, hb, hml, hown, hts⟩ (hM l H.size) (cwV n hts hT hw hrm.1 hrm.2 hd hR) ⟨gm_blind, va_recv hK hP hc hq2, (fun U hU hW2 => ⟨rfl, by rw [hU], by rw [hU]; exact hP, va_K.moved hW2.alike hK, hD.weaken (fun _ _ _ _ => trivial)⟩)⟩ rfl hn hl.1 rfl (lv_room hW) d ⟨hcs, hss⟩) hS (fun q _ h => hF q h) hF (fun u t H1 locs1 ht hvm hw2 hB hz hk hS1 => ?_)
  obtain ⟨hP1, -, hD1⟩ := hB
  rw [ht] at hP1
  exact k u hw2 H1 locs1 ls hP1 (hD1.weaken (fun _ q _ h => hF q.1 h)) hS1 hl
theorem gk_VR (hC : gm_ok X E cc nL own Ts rm) {post : gm_S → Prop} {x2 : Nat} (hM : ∀ l : Launch, gm_MR l E y ws rm2 (.ref (E.2.2 x) :: As) σ x2 post) (ho : gm_isO E x ci fs) (hc : vwCl[ci]? = some (C, T, N)) (hT : GoodIn Ts (wsV own idx C y ws)) (hw : ws = Cond.code y bytes maxL ret :: ws') (hrm : rm2.cells = 0 ∧ rm2.slots = 0) (hn : As.length = n) (hd : y.cls = C ∧ y.cls ≠ "java/lang/invoke/MethodHandle" ∧ y.cls ≠ "java/lang/invoke/VarHandle" ∧ (parseMethodDescriptor y.desc).map (fun d => d.parameters.length) = some n) (hR : rm2.frames + 1 ≤ rm.frames ∧ 8 + (maxL + 11) + rm2.locals ≤ rm.locals) (hW : (rest.map fun v => v.category).sum ≤ 8) (d : decode cc pc = .ok (.invokevirtual idx, 3)) (k : ∀ (σ2 : gm_S), post σ2 → gm_G X E nL (pc + 3) lo (.ref (E.2.2 x2) :: rest) σ2) : gm_G X E nL pc lo (As.reverse ++ .ref (E.2.2 x) :: rest) σ := by
  obtain ⟨p, l, e, R, s, m, args, below, meth, c, cells, slots, Q, A⟩ := X
  intro H locs ls hP hD hS hl
  obtain ⟨hx, hb, hml, hown, hts, hK, hRm, hnm, hA, hlk, hcs, hss⟩ := hC
  subst hRm
  have hF : ∀ q, gm_A E H.size q → A q := by
    rintro q (⟨z, hz, rfl⟩ | h)
    · exact hnm z hz
    · exact hA q (Nat.le_trans hS.1 h)
  obtain ⟨q, hq⟩ := gm_at (E := E) σ ho.1
  have hq2 : (gm_w E σ)[q]? = some (E.2.2 x, .inr (ci, fs (σ.1 x))) := by rw [hq]; simp only [gm_cell, ho.2]
  refine va_callr (va_runV (As := As) (rest := rest) ⟨hx, hb, hml, hown, hts⟩ (hM l H.size) (cwV n hts hT hw hrm.1 hrm.2 hd hR) ⟨gm_blind, va_recv hK hP hc hq2, (fun U hU hW2 => ⟨rfl, by rw [hU], by rw [hU]; exact hP, va_K.moved hW2.alike hK, hD.weaken (fun _ _ _ _ => trivial)⟩)⟩ rfl hn hl.1 rfl (lv_room hW) d ⟨hcs, hss⟩) hS (fun q _ h => hF q h) hF (fun u ra t H1 locs1 ht hvm hw2 hB hz hk hS1 => ?_)
  obtain ⟨rfl, hB⟩ := hB
  obtain ⟨hP1, -, hD1⟩ := hB
  rw [ht] at hP1
  exact k u hw2 H1 locs1 ls hP1 (hD1.weaken (fun _ q _ h => hF q.1 h)) hS1 hl
theorem gk_SI (hC : gm_ok X E cc nL own Ts rm) {post : Int32 → gm_S → Prop} (hM : ∀ l : Launch, gm_MI l E y ws rm2 As σ post) (hT : GoodIn Ts (va_wsS own idx y ws)) (hw : ws = Cond.code y bytes maxL ret :: ws') (hrm : rm2.cells = 0 ∧ rm2.slots = 0) (hn : As.length = n) (hd : y.cls ≠ "java/lang/invoke/MethodHandle" ∧ y.cls ≠ "java/lang/invoke/VarHandle" ∧ (parseMethodDescriptor y.desc).map (fun d => d.parameters.length) = some n) (hR : rm2.frames + 1 ≤ rm.frames ∧ 8 + (maxL + 11) + rm2.locals ≤ rm.locals) (hW : (rest.map fun v => v.category).sum ≤ 8) (d : decode cc pc = .ok (.invokestatic idx, 3)) (k : ∀ (r : Int32) (σ2 : gm_S), post r σ2 → gm_G X E nL (pc + 3) lo (.int r :: rest) σ2) : gm_G X E nL pc lo (As.reverse ++ rest) σ := by
  obtain ⟨p, l, e, R, s, m, args, below, meth, c, cells, slots, Q, A⟩ := X
  intro H locs ls hP hD hS hl
  obtain ⟨hx, hb, hml, hown, hts, hK, hRm, hnm, hA, hlk, hcs, hss⟩ := hC
  subst hRm
  have hF : ∀ q, gm_A E H.size q → A q := by
    rintro q (⟨z, hz, rfl⟩ | h)
    · exact hnm z hz
    · exact hA q (Nat.le_trans hS.1 h)
  refine va_calli (va_runS (As := As) (rest := rest) ⟨hx, hb, hml, hown, hts⟩ (hM l H.size) (va_cwS n hts hT hw hrm.1 hrm.2 hd hR) ⟨gm_blind, (fun U hU hW2 => ⟨rfl, by rw [hU], by rw [hU]; exact hP, va_K.moved hW2.alike hK, hD.weaken (fun _ _ _ _ => trivial)⟩)⟩ rfl hn hl.1 rfl (lv_room hW) d ⟨hcs, hss⟩) hS (fun q _ h => hF q h) hF (fun r u t H1 locs1 ht hvm hw2 hB hz hk hS1 => ?_)
  obtain ⟨hP1, -, hD1⟩ := hB
  rw [ht] at hP1
  exact k r u hw2 H1 locs1 ls hP1 (hD1.weaken (fun _ q _ h => hF q.1 h)) hS1 hl
theorem gk_SV (hC : gm_ok X E cc nL own Ts rm) {post : gm_S → Prop} (hM : ∀ l : Launch, gm_MV l E y ws rm2 As σ post) (hT : GoodIn Ts (va_wsS own idx y ws)) (hw : ws = Cond.code y bytes maxL ret :: ws') (hrm : rm2.cells = 0 ∧ rm2.slots = 0) (hn : As.length = n) (hd : y.cls ≠ "java/lang/invoke/MethodHandle" ∧ y.cls ≠ "java/lang/invoke/VarHandle" ∧ (parseMethodDescriptor y.desc).map (fun d => d.parameters.length) = some n) (hR : rm2.frames + 1 ≤ rm.frames ∧ 8 + (maxL + 11) + rm2.locals ≤ rm.locals) (hW : (rest.map fun v => v.category).sum ≤ 8) (d : decode cc pc = .ok (.invokestatic idx, 3)) (k : ∀ (σ2 : gm_S), post σ2 → gm_G X E nL (pc + 3) lo rest σ2) : gm_G X E nL pc lo (As.reverse ++ rest) σ := by
  obtain ⟨p, l, e, R, s, m, args, below, meth, c, cells, slots, Q, A⟩ := X
  intro H locs ls hP hD hS hl
  obtain ⟨hx, hb, hml, hown, hts, hK, hRm, hnm, hA, hlk, hcs, hss⟩ := hC
  subst hRm
  have hF : ∀ q, gm_A E H.size q → A q := by
    rintro q (⟨z, hz, rfl⟩ | h)
    · exact hnm z hz
    · exact hA q (Nat.le_trans hS.1 h)
  refine va_callv (va_runS (As := As) (rest := rest) ⟨hx, hb, hml, hown, hts⟩ (hM l H.size) (va_cwS n hts hT hw hrm.1 hrm.2 hd hR) ⟨gm_blind, (fun U hU hW2 => ⟨rfl, by rw [hU], by rw [hU]; exact hP, va_K.moved hW2.alike hK, hD.weaken (fun _ _ _ _ => trivial)⟩)⟩ rfl hn hl.1 rfl (lv_room hW) d ⟨hcs, hss⟩) hS (fun q _ h => hF q h) hF (fun u t H1 locs1 ht hvm hw2 hB hz hk hS1 => ?_)
  obtain ⟨hP1, -, hD1⟩ := hB
  rw [ht] at hP1
  exact k u hw2 H1 locs1 ls hP1 (hD1.weaken (fun _ q _ h => hF q.1 h)) hS1 hl
end GK
end
section
/-! fields, a row each -/
def gm_c1 (av : List Value) : Bool := av.all (fun v => v.category == 1)
theorem gm_c1_ok {av : List Value} (h : gm_c1 av = true) : ∀ v ∈ av, v.category = 1 := fun v hv => by have := List.all_eq_true.mp h v hv; simpa using this
theorem fW_G : ∀ w ∈ u_ws RX0 TX0 4, w ∈ gw_T := by decide +kernel
theorem fW_P : ∀ w ∈ u_ws RX1 TX1 12, w ∈ gw_T := by decide +kernel
theorem fW_F : ∀ w ∈ u_ws RX2 TX2 2, w ∈ gw_T := by decide +kernel
theorem fW_K : ∀ w ∈ u_ws RX3 TX3 2, w ∈ gw_T := by decide +kernel
theorem fW_M : ∀ w ∈ u_ws RX4 TX4 11, w ∈ gw_T := by decide +kernel
section GF5
variable {X : gm_X} {E : gm_E} {cc : ByteArray} {nL pc idx : Nat} {own : String} {c0 : Cond} {rm : Room} {lo : List (Option Value)} {st : List Value} {σ : gm_S}
theorem gf_G_lesser (hC : gm_ok X E cc nL own (c0 :: gw_T) rm) (hlk : Cond.fieldLink own idx "ForestPacker$Graph" "lesser" "[I" ∈ gw_T) (d : decode cc pc = .ok (.getfield idx, 3)) (k : gm_G X E nL (pc + 3) lo (.ref (E.2.2 2) :: st) σ) : gm_G X E nL pc lo (.ref (E.2.2 1) :: st) σ := gi_get hC (gm_o0 E) (C := RX0) (T := TX0) (N := 4) rfl (fun w h => List.mem_cons_of_mem _ (fW_G w h)) (j := 0) (by decide) (List.mem_cons_of_mem _ hlk) rfl rfl d k
theorem gf_G_greater (hC : gm_ok X E cc nL own (c0 :: gw_T) rm) (hlk : Cond.fieldLink own idx "ForestPacker$Graph" "greater" "[I" ∈ gw_T) (d : decode cc pc = .ok (.getfield idx, 3)) (k : gm_G X E nL (pc + 3) lo (.ref (E.2.2 3) :: st) σ) : gm_G X E nL pc lo (.ref (E.2.2 1) :: st) σ := gi_get hC (gm_o0 E) (C := RX0) (T := TX0) (N := 4) rfl (fun w h => List.mem_cons_of_mem _ (fW_G w h)) (j := 1) (by decide) (List.mem_cons_of_mem _ hlk) rfl rfl d k
theorem gf_G_present (hC : gm_ok X E cc nL own (c0 :: gw_T) rm) (hlk : Cond.fieldLink own idx "ForestPacker$Graph" "present" "I" ∈ gw_T) (d : decode cc pc = .ok (.getfield idx, 3)) (k : gm_G X E nL (pc + 3) lo (.int (σ.1 1 2) :: st) σ) : gm_G X E nL pc lo (.ref (E.2.2 1) :: st) σ := gi_get hC (gm_o0 E) (C := RX0) (T := TX0) (N := 4) rfl (fun w h => List.mem_cons_of_mem _ (fW_G w h)) (j := 2) (by decide) (List.mem_cons_of_mem _ hlk) rfl rfl d k
theorem pf_G_present (hC : gm_ok X E cc nL own (c0 :: gw_T) rm) {v : Int32} (hlk : Cond.fieldLink own idx "ForestPacker$Graph" "present" "I" ∈ gw_T) (d : decode cc pc = .ok (.putfield idx, 3)) (k : gm_G X E nL (pc + 3) lo st (gm_sc σ 1 2 v)) : gm_G X E nL pc lo (.int v :: .ref (E.2.2 1) :: st) σ := gi_put hC tyX0 tyX0_ok nmX0 (gm_o0 E) (C := RX0) (T := TX0) (N := 4) (ty := .int) rfl (fun w h => List.mem_cons_of_mem _ (fW_G w h)) (j := 2) (by decide) (List.mem_cons_of_mem _ hlk) rfl rfl (by decide +kernel) rfl rfl (Nat.le_of_ble_eq_true rfl) rfl d k
theorem gf_G_vertices (hC : gm_ok X E cc nL own (c0 :: gw_T) rm) (hlk : Cond.fieldLink own idx "ForestPacker$Graph" "vertices" "I" ∈ gw_T) (d : decode cc pc = .ok (.getfield idx, 3)) (k : gm_G X E nL (pc + 3) lo (.int (σ.1 1 3) :: st) σ) : gm_G X E nL pc lo (.ref (E.2.2 1) :: st) σ := gi_get hC (gm_o0 E) (C := RX0) (T := TX0) (N := 4) rfl (fun w h => List.mem_cons_of_mem _ (fW_G w h)) (j := 3) (by decide) (List.mem_cons_of_mem _ hlk) rfl rfl d k
theorem pf_G_vertices (hC : gm_ok X E cc nL own (c0 :: gw_T) rm) {v : Int32} (hlk : Cond.fieldLink own idx "ForestPacker$Graph" "vertices" "I" ∈ gw_T) (d : decode cc pc = .ok (.putfield idx, 3)) (k : gm_G X E nL (pc + 3) lo st (gm_sc σ 1 3 v)) : gm_G X E nL pc lo (.int v :: .ref (E.2.2 1) :: st) σ := gi_put hC tyX0 tyX0_ok nmX0 (gm_o0 E) (C := RX0) (T := TX0) (N := 4) (ty := .int) rfl (fun w h => List.mem_cons_of_mem _ (fW_G w h)) (j := 3) (by decide) (List.mem_cons_of_mem _ hlk) rfl rfl (by decide +kernel) rfl rfl (Nat.le_of_ble_eq_true rfl) rfl d k
theorem gf_P_place (hC : gm_ok X E cc nL own (c0 :: gw_T) rm) {kk : Nat} (hk : kk < 7) (hlk : Cond.fieldLink own idx "ForestPacker$Packing" "place" "[I" ∈ gw_T) (d : decode cc pc = .ok (.getfield idx, 3)) (k : gm_G X E nL (pc + 3) lo (.ref (E.2.2 (gm_P kk + 1)) :: st) σ) : gm_G X E nL pc lo (.ref (E.2.2 (gm_P kk)) :: st) σ := gi_get hC (gm_o1 E hk) (C := RX1) (T := TX1) (N := 12) rfl (fun w h => List.mem_cons_of_mem _ (fW_P w h)) (j := 0) (by decide) (List.mem_cons_of_mem _ hlk) rfl rfl d k
theorem gf_P_size (hC : gm_ok X E cc nL own (c0 :: gw_T) rm) {kk : Nat} (hk : kk < 7) (hlk : Cond.fieldLink own idx "ForestPacker$Packing" "size" "I" ∈ gw_T) (d : decode cc pc = .ok (.getfield idx, 3)) (k : gm_G X E nL (pc + 3) lo (.int (σ.1 (gm_P kk) 1) :: st) σ) : gm_G X E nL pc lo (.ref (E.2.2 (gm_P kk)) :: st) σ := gi_get hC (gm_o1 E hk) (C := RX1) (T := TX1) (N := 12) rfl (fun w h => List.mem_cons_of_mem _ (fW_P w h)) (j := 1) (by decide) (List.mem_cons_of_mem _ hlk) rfl rfl d k
theorem pf_P_size (hC : gm_ok X E cc nL own (c0 :: gw_T) rm) {kk : Nat} (hk : kk < 7) {v : Int32} (hlk : Cond.fieldLink own idx "ForestPacker$Packing" "size" "I" ∈ gw_T) (d : decode cc pc = .ok (.putfield idx, 3)) (k : gm_G X E nL (pc + 3) lo st (gm_sc σ (gm_P kk) 1 v)) : gm_G X E nL pc lo (.int v :: .ref (E.2.2 (gm_P kk)) :: st) σ := gi_put hC tyX1 tyX1_ok nmX1 (gm_o1 E hk) (C := RX1) (T := TX1) (N := 12) (ty := .int) rfl (fun w h => List.mem_cons_of_mem _ (fW_P w h)) (j := 1) (by decide) (List.mem_cons_of_mem _ hlk) rfl rfl (by decide +kernel) rfl rfl (Nat.le_of_ble_eq_true rfl) rfl d k
theorem gf_P_isPacked (hC : gm_ok X E cc nL own (c0 :: gw_T) rm) {kk : Nat} (hk : kk < 7) (hlk : Cond.fieldLink own idx "ForestPacker$Packing" "isPacked" "Z" ∈ gw_T) (d : decode cc pc = .ok (.getfield idx, 3)) (k : gm_G X E nL (pc + 3) lo (.int (σ.1 (gm_P kk) 2) :: st) σ) : gm_G X E nL pc lo (.ref (E.2.2 (gm_P kk)) :: st) σ := gi_get hC (gm_o1 E hk) (C := RX1) (T := TX1) (N := 12) rfl (fun w h => List.mem_cons_of_mem _ (fW_P w h)) (j := 2) (by decide) (List.mem_cons_of_mem _ hlk) rfl rfl d k
theorem pf_P_isPacked (hC : gm_ok X E cc nL own (c0 :: gw_T) rm) {kk : Nat} (hk : kk < 7) {v : Int32} (hv : v = 0 ∨ v = 1) (hlk : Cond.fieldLink own idx "ForestPacker$Packing" "isPacked" "Z" ∈ gw_T) (d : decode cc pc = .ok (.putfield idx, 3)) (k : gm_G X E nL (pc + 3) lo st (gm_sc σ (gm_P kk) 2 v)) : gm_G X E nL pc lo (.int v :: .ref (E.2.2 (gm_P kk)) :: st) σ := gi_put hC tyX1 tyX1_ok nmX1 (gm_o1 E hk) (C := RX1) (T := TX1) (N := 12) (ty := .boolean) rfl (fun w h => List.mem_cons_of_mem _ (fW_P w h)) (j := 2) (by decide) (List.mem_cons_of_mem _ hlk) rfl rfl (by decide +kernel) (by rcases hv with rfl | rfl <;> decide +kernel) (by rcases hv with rfl | rfl <;> decide +kernel) (Nat.le_of_ble_eq_true rfl) rfl d k
theorem gf_P_forests (hC : gm_ok X E cc nL own (c0 :: gw_T) rm) {kk : Nat} (hk : kk < 7) (hlk : Cond.fieldLink own idx "ForestPacker$Packing" "forests" "[LForestPacker$RootedForest;" ∈ gw_T) (d : decode cc pc = .ok (.getfield idx, 3)) (k : gm_G X E nL (pc + 3) lo (.ref (E.2.2 (gm_P kk + 4)) :: st) σ) : gm_G X E nL pc lo (.ref (E.2.2 (gm_P kk)) :: st) σ := gi_get hC (gm_o1 E hk) (C := RX1) (T := TX1) (N := 12) rfl (fun w h => List.mem_cons_of_mem _ (fW_P w h)) (j := 3) (by decide) (List.mem_cons_of_mem _ hlk) rfl rfl d k
theorem gf_P_isSettled (hC : gm_ok X E cc nL own (c0 :: gw_T) rm) {kk : Nat} (hk : kk < 7) (hlk : Cond.fieldLink own idx "ForestPacker$Packing" "isSettled" "Z" ∈ gw_T) (d : decode cc pc = .ok (.getfield idx, 3)) (k : gm_G X E nL (pc + 3) lo (.int (σ.1 (gm_P kk) 4) :: st) σ) : gm_G X E nL pc lo (.ref (E.2.2 (gm_P kk)) :: st) σ := gi_get hC (gm_o1 E hk) (C := RX1) (T := TX1) (N := 12) rfl (fun w h => List.mem_cons_of_mem _ (fW_P w h)) (j := 4) (by decide) (List.mem_cons_of_mem _ hlk) rfl rfl d k
theorem pf_P_isSettled (hC : gm_ok X E cc nL own (c0 :: gw_T) rm) {kk : Nat} (hk : kk < 7) {v : Int32} (hv : v = 0 ∨ v = 1) (hlk : Cond.fieldLink own idx "ForestPacker$Packing" "isSettled" "Z" ∈ gw_T) (d : decode cc pc = .ok (.putfield idx, 3)) (k : gm_G X E nL (pc + 3) lo st (gm_sc σ (gm_P kk) 4 v)) : gm_G X E nL pc lo (.int v :: .ref (E.2.2 (gm_P kk)) :: st) σ := gi_put hC tyX1 tyX1_ok nmX1 (gm_o1 E hk) (C := RX1) (T := TX1) (N := 12) (ty := .boolean) rfl (fun w h => List.mem_cons_of_mem _ (fW_P w h)) (j := 4) (by decide) (List.mem_cons_of_mem _ hlk) rfl rfl (by decide +kernel) (by rcases hv with rfl | rfl <;> decide +kernel) (by rcases hv with rfl | rfl <;> decide +kernel) (Nat.le_of_ble_eq_true rfl) rfl d k
theorem gf_P_fixed (hC : gm_ok X E cc nL own (c0 :: gw_T) rm) {kk : Nat} (hk : kk < 7) (hlk : Cond.fieldLink own idx "ForestPacker$Packing" "fixed" "I" ∈ gw_T) (d : decode cc pc = .ok (.getfield idx, 3)) (k : gm_G X E nL (pc + 3) lo (.int (σ.1 (gm_P kk) 5) :: st) σ) : gm_G X E nL pc lo (.ref (E.2.2 (gm_P kk)) :: st) σ := gi_get hC (gm_o1 E hk) (C := RX1) (T := TX1) (N := 12) rfl (fun w h => List.mem_cons_of_mem _ (fW_P w h)) (j := 5) (by decide) (List.mem_cons_of_mem _ hlk) rfl rfl d k
theorem pf_P_fixed (hC : gm_ok X E cc nL own (c0 :: gw_T) rm) {kk : Nat} (hk : kk < 7) {v : Int32} (hlk : Cond.fieldLink own idx "ForestPacker$Packing" "fixed" "I" ∈ gw_T) (d : decode cc pc = .ok (.putfield idx, 3)) (k : gm_G X E nL (pc + 3) lo st (gm_sc σ (gm_P kk) 5 v)) : gm_G X E nL pc lo (.int v :: .ref (E.2.2 (gm_P kk)) :: st) σ := gi_put hC tyX1 tyX1_ok nmX1 (gm_o1 E hk) (C := RX1) (T := TX1) (N := 12) (ty := .int) rfl (fun w h => List.mem_cons_of_mem _ (fW_P w h)) (j := 5) (by decide) (List.mem_cons_of_mem _ hlk) rfl rfl (by decide +kernel) rfl rfl (Nat.le_of_ble_eq_true rfl) rfl d k
theorem gf_P_reached (hC : gm_ok X E cc nL own (c0 :: gw_T) rm) {kk : Nat} (hk : kk < 7) (hlk : Cond.fieldLink own idx "ForestPacker$Packing" "reached" "I" ∈ gw_T) (d : decode cc pc = .ok (.getfield idx, 3)) (k : gm_G X E nL (pc + 3) lo (.int (σ.1 (gm_P kk) 6) :: st) σ) : gm_G X E nL pc lo (.ref (E.2.2 (gm_P kk)) :: st) σ := gi_get hC (gm_o1 E hk) (C := RX1) (T := TX1) (N := 12) rfl (fun w h => List.mem_cons_of_mem _ (fW_P w h)) (j := 6) (by decide) (List.mem_cons_of_mem _ hlk) rfl rfl d k
theorem pf_P_reached (hC : gm_ok X E cc nL own (c0 :: gw_T) rm) {kk : Nat} (hk : kk < 7) {v : Int32} (hlk : Cond.fieldLink own idx "ForestPacker$Packing" "reached" "I" ∈ gw_T) (d : decode cc pc = .ok (.putfield idx, 3)) (k : gm_G X E nL (pc + 3) lo st (gm_sc σ (gm_P kk) 6 v)) : gm_G X E nL pc lo (.int v :: .ref (E.2.2 (gm_P kk)) :: st) σ := gi_put hC tyX1 tyX1_ok nmX1 (gm_o1 E hk) (C := RX1) (T := TX1) (N := 12) (ty := .int) rfl (fun w h => List.mem_cons_of_mem _ (fW_P w h)) (j := 6) (by decide) (List.mem_cons_of_mem _ hlk) rfl rfl (by decide +kernel) rfl rfl (Nat.le_of_ble_eq_true rfl) rfl d k
theorem gf_P_queue (hC : gm_ok X E cc nL own (c0 :: gw_T) rm) {kk : Nat} (hk : kk < 7) (hlk : Cond.fieldLink own idx "ForestPacker$Packing" "queue" "[I" ∈ gw_T) (d : decode cc pc = .ok (.getfield idx, 3)) (k : gm_G X E nL (pc + 3) lo (.ref (E.2.2 (gm_P kk + 2)) :: st) σ) : gm_G X E nL pc lo (.ref (E.2.2 (gm_P kk)) :: st) σ := gi_get hC (gm_o1 E hk) (C := RX1) (T := TX1) (N := 12) rfl (fun w h => List.mem_cons_of_mem _ (fW_P w h)) (j := 7) (by decide) (List.mem_cons_of_mem _ hlk) rfl rfl d k
theorem gf_P_queued (hC : gm_ok X E cc nL own (c0 :: gw_T) rm) {kk : Nat} (hk : kk < 7) (hlk : Cond.fieldLink own idx "ForestPacker$Packing" "queued" "I" ∈ gw_T) (d : decode cc pc = .ok (.getfield idx, 3)) (k : gm_G X E nL (pc + 3) lo (.int (σ.1 (gm_P kk) 8) :: st) σ) : gm_G X E nL pc lo (.ref (E.2.2 (gm_P kk)) :: st) σ := gi_get hC (gm_o1 E hk) (C := RX1) (T := TX1) (N := 12) rfl (fun w h => List.mem_cons_of_mem _ (fW_P w h)) (j := 8) (by decide) (List.mem_cons_of_mem _ hlk) rfl rfl d k
theorem pf_P_queued (hC : gm_ok X E cc nL own (c0 :: gw_T) rm) {kk : Nat} (hk : kk < 7) {v : Int32} (hlk : Cond.fieldLink own idx "ForestPacker$Packing" "queued" "I" ∈ gw_T) (d : decode cc pc = .ok (.putfield idx, 3)) (k : gm_G X E nL (pc + 3) lo st (gm_sc σ (gm_P kk) 8 v)) : gm_G X E nL pc lo (.int v :: .ref (E.2.2 (gm_P kk)) :: st) σ := gi_put hC tyX1 tyX1_ok nmX1 (gm_o1 E hk) (C := RX1) (T := TX1) (N := 12) (ty := .int) rfl (fun w h => List.mem_cons_of_mem _ (fW_P w h)) (j := 8) (by decide) (List.mem_cons_of_mem _ hlk) rfl rfl (by decide +kernel) rfl rfl (Nat.le_of_ble_eq_true rfl) rfl d k
theorem gf_P_follower (hC : gm_ok X E cc nL own (c0 :: gw_T) rm) {kk : Nat} (hk : kk < 7) (hlk : Cond.fieldLink own idx "ForestPacker$Packing" "follower" "[I" ∈ gw_T) (d : decode cc pc = .ok (.getfield idx, 3)) (k : gm_G X E nL (pc + 3) lo (.ref (E.2.2 (gm_P kk + 3)) :: st) σ) : gm_G X E nL pc lo (.ref (E.2.2 (gm_P kk)) :: st) σ := gi_get hC (gm_o1 E hk) (C := RX1) (T := TX1) (N := 12) rfl (fun w h => List.mem_cons_of_mem _ (fW_P w h)) (j := 9) (by decide) (List.mem_cons_of_mem _ hlk) rfl rfl d k
theorem gf_P_lastMoved (hC : gm_ok X E cc nL own (c0 :: gw_T) rm) {kk : Nat} (hk : kk < 7) (hlk : Cond.fieldLink own idx "ForestPacker$Packing" "lastMoved" "I" ∈ gw_T) (d : decode cc pc = .ok (.getfield idx, 3)) (k : gm_G X E nL (pc + 3) lo (.int (σ.1 (gm_P kk) 10) :: st) σ) : gm_G X E nL pc lo (.ref (E.2.2 (gm_P kk)) :: st) σ := gi_get hC (gm_o1 E hk) (C := RX1) (T := TX1) (N := 12) rfl (fun w h => List.mem_cons_of_mem _ (fW_P w h)) (j := 10) (by decide) (List.mem_cons_of_mem _ hlk) rfl rfl d k
theorem pf_P_lastMoved (hC : gm_ok X E cc nL own (c0 :: gw_T) rm) {kk : Nat} (hk : kk < 7) {v : Int32} (hlk : Cond.fieldLink own idx "ForestPacker$Packing" "lastMoved" "I" ∈ gw_T) (d : decode cc pc = .ok (.putfield idx, 3)) (k : gm_G X E nL (pc + 3) lo st (gm_sc σ (gm_P kk) 10 v)) : gm_G X E nL pc lo (.int v :: .ref (E.2.2 (gm_P kk)) :: st) σ := gi_put hC tyX1 tyX1_ok nmX1 (gm_o1 E hk) (C := RX1) (T := TX1) (N := 12) (ty := .int) rfl (fun w h => List.mem_cons_of_mem _ (fW_P w h)) (j := 10) (by decide) (List.mem_cons_of_mem _ hlk) rfl rfl (by decide +kernel) rfl rfl (Nat.le_of_ble_eq_true rfl) rfl d k
theorem gf_P_room (hC : gm_ok X E cc nL own (c0 :: gw_T) rm) {kk : Nat} (hk : kk < 7) (hlk : Cond.fieldLink own idx "ForestPacker$Packing" "room" "I" ∈ gw_T) (d : decode cc pc = .ok (.getfield idx, 3)) (k : gm_G X E nL (pc + 3) lo (.int (σ.1 (gm_P kk) 11) :: st) σ) : gm_G X E nL pc lo (.ref (E.2.2 (gm_P kk)) :: st) σ := gi_get hC (gm_o1 E hk) (C := RX1) (T := TX1) (N := 12) rfl (fun w h => List.mem_cons_of_mem _ (fW_P w h)) (j := 11) (by decide) (List.mem_cons_of_mem _ hlk) rfl rfl d k
theorem pf_P_room (hC : gm_ok X E cc nL own (c0 :: gw_T) rm) {kk : Nat} (hk : kk < 7) {v : Int32} (hlk : Cond.fieldLink own idx "ForestPacker$Packing" "room" "I" ∈ gw_T) (d : decode cc pc = .ok (.putfield idx, 3)) (k : gm_G X E nL (pc + 3) lo st (gm_sc σ (gm_P kk) 11 v)) : gm_G X E nL pc lo (.int v :: .ref (E.2.2 (gm_P kk)) :: st) σ := gi_put hC tyX1 tyX1_ok nmX1 (gm_o1 E hk) (C := RX1) (T := TX1) (N := 12) (ty := .int) rfl (fun w h => List.mem_cons_of_mem _ (fW_P w h)) (j := 11) (by decide) (List.mem_cons_of_mem _ hlk) rfl rfl (by decide +kernel) rfl rfl (Nat.le_of_ble_eq_true rfl) rfl d k
theorem gf_F_parent (hC : gm_ok X E cc nL own (c0 :: gw_T) rm) {kk ii : Nat} (hk : kk < 7) (hi : ii < kk) (hlk : Cond.fieldLink own idx "ForestPacker$RootedForest" "parent" "[I" ∈ gw_T) (d : decode cc pc = .ok (.getfield idx, 3)) (k : gm_G X E nL (pc + 3) lo (.ref (E.2.2 (gm_P kk + 5 + 3 * ii + 1)) :: st) σ) : gm_G X E nL pc lo (.ref (E.2.2 (gm_P kk + 5 + 3 * ii)) :: st) σ := gi_get hC (gm_o2 E hk hi) (C := RX2) (T := TX2) (N := 2) rfl (fun w h => List.mem_cons_of_mem _ (fW_F w h)) (j := 0) (by decide) (List.mem_cons_of_mem _ hlk) rfl rfl d k
theorem gf_F_edgeUp (hC : gm_ok X E cc nL own (c0 :: gw_T) rm) {kk ii : Nat} (hk : kk < 7) (hi : ii < kk) (hlk : Cond.fieldLink own idx "ForestPacker$RootedForest" "edgeUp" "[I" ∈ gw_T) (d : decode cc pc = .ok (.getfield idx, 3)) (k : gm_G X E nL (pc + 3) lo (.ref (E.2.2 (gm_P kk + 5 + 3 * ii + 2)) :: st) σ) : gm_G X E nL pc lo (.ref (E.2.2 (gm_P kk + 5 + 3 * ii)) :: st) σ := gi_get hC (gm_o2 E hk hi) (C := RX2) (T := TX2) (N := 2) rfl (fun w h => List.mem_cons_of_mem _ (fW_F w h)) (j := 1) (by decide) (List.mem_cons_of_mem _ hlk) rfl rfl d k
theorem gf_K_graph (hC : gm_ok X E cc nL own (c0 :: gw_T) rm) (hlk : Cond.fieldLink own idx "ForestPacker" "graph" "LForestPacker$Graph;" ∈ gw_T) (d : decode cc pc = .ok (.getfield idx, 3)) (k : gm_G X E nL (pc + 3) lo (.ref (E.2.2 1) :: st) σ) : gm_G X E nL pc lo (.ref (E.2.2 0) :: st) σ := gi_get hC (gm_o3 E) (C := RX3) (T := TX3) (N := 2) rfl (fun w h => List.mem_cons_of_mem _ (fW_K w h)) (j := 0) (by decide) (List.mem_cons_of_mem _ hlk) rfl rfl d k
theorem gf_K_packings (hC : gm_ok X E cc nL own (c0 :: gw_T) rm) (hlk : Cond.fieldLink own idx "ForestPacker" "packings" "[LForestPacker$Packing;" ∈ gw_T) (d : decode cc pc = .ok (.getfield idx, 3)) (k : gm_G X E nL (pc + 3) lo (.ref (E.2.2 4) :: st) σ) : gm_G X E nL pc lo (.ref (E.2.2 0) :: st) σ := gi_get hC (gm_o3 E) (C := RX3) (T := TX3) (N := 2) rfl (fun w h => List.mem_cons_of_mem _ (fW_K w h)) (j := 1) (by decide) (List.mem_cons_of_mem _ hlk) rfl rfl d k
theorem gf_M_n (hC : gm_ok X E cc nL own (c0 :: gw_T) rm) (hlk : Cond.fieldLink own idx "ForestPackerModel" "n" "I" ∈ gw_T) (d : decode cc pc = .ok (.getfield idx, 3)) (k : gm_G X E nL (pc + 3) lo (.int (σ.1 5 0) :: st) σ) : gm_G X E nL pc lo (.ref (E.2.2 5) :: st) σ := gi_get hC (gm_o4 E) (C := RX4) (T := TX4) (N := 11) rfl (fun w h => List.mem_cons_of_mem _ (fW_M w h)) (j := 0) (by decide) (List.mem_cons_of_mem _ hlk) rfl rfl d k
theorem pf_M_n (hC : gm_ok X E cc nL own (c0 :: gw_T) rm) {v : Int32} (hlk : Cond.fieldLink own idx "ForestPackerModel" "n" "I" ∈ gw_T) (d : decode cc pc = .ok (.putfield idx, 3)) (k : gm_G X E nL (pc + 3) lo st (gm_sc σ 5 0 v)) : gm_G X E nL pc lo (.int v :: .ref (E.2.2 5) :: st) σ := gi_put hC tyX4 tyX4_ok nmX4 (gm_o4 E) (C := RX4) (T := TX4) (N := 11) (ty := .int) rfl (fun w h => List.mem_cons_of_mem _ (fW_M w h)) (j := 0) (by decide) (List.mem_cons_of_mem _ hlk) rfl rfl (by decide +kernel) rfl rfl (Nat.le_of_ble_eq_true rfl) rfl d k
theorem gf_M_ends (hC : gm_ok X E cc nL own (c0 :: gw_T) rm) (hlk : Cond.fieldLink own idx "ForestPackerModel" "ends" "[I" ∈ gw_T) (d : decode cc pc = .ok (.getfield idx, 3)) (k : gm_G X E nL (pc + 3) lo (.ref (E.2.2 6) :: st) σ) : gm_G X E nL pc lo (.ref (E.2.2 5) :: st) σ := gi_get hC (gm_o4 E) (C := RX4) (T := TX4) (N := 11) rfl (fun w h => List.mem_cons_of_mem _ (fW_M w h)) (j := 1) (by decide) (List.mem_cons_of_mem _ hlk) rfl rfl d k
theorem gf_M_isEdge (hC : gm_ok X E cc nL own (c0 :: gw_T) rm) (hlk : Cond.fieldLink own idx "ForestPackerModel" "isEdge" "[Z" ∈ gw_T) (d : decode cc pc = .ok (.getfield idx, 3)) (k : gm_G X E nL (pc + 3) lo (.ref (E.2.2 7) :: st) σ) : gm_G X E nL pc lo (.ref (E.2.2 5) :: st) σ := gi_get hC (gm_o4 E) (C := RX4) (T := TX4) (N := 11) rfl (fun w h => List.mem_cons_of_mem _ (fW_M w h)) (j := 2) (by decide) (List.mem_cons_of_mem _ hlk) rfl rfl d k
theorem gf_M_heldBits (hC : gm_ok X E cc nL own (c0 :: gw_T) rm) (hlk : Cond.fieldLink own idx "ForestPackerModel" "heldBits" "I" ∈ gw_T) (d : decode cc pc = .ok (.getfield idx, 3)) (k : gm_G X E nL (pc + 3) lo (.int (σ.1 5 3) :: st) σ) : gm_G X E nL pc lo (.ref (E.2.2 5) :: st) σ := gi_get hC (gm_o4 E) (C := RX4) (T := TX4) (N := 11) rfl (fun w h => List.mem_cons_of_mem _ (fW_M w h)) (j := 3) (by decide) (List.mem_cons_of_mem _ hlk) rfl rfl d k
theorem pf_M_heldBits (hC : gm_ok X E cc nL own (c0 :: gw_T) rm) {v : Int32} (hlk : Cond.fieldLink own idx "ForestPackerModel" "heldBits" "I" ∈ gw_T) (d : decode cc pc = .ok (.putfield idx, 3)) (k : gm_G X E nL (pc + 3) lo st (gm_sc σ 5 3 v)) : gm_G X E nL pc lo (.int v :: .ref (E.2.2 5) :: st) σ := gi_put hC tyX4 tyX4_ok nmX4 (gm_o4 E) (C := RX4) (T := TX4) (N := 11) (ty := .int) rfl (fun w h => List.mem_cons_of_mem _ (fW_M w h)) (j := 3) (by decide) (List.mem_cons_of_mem _ hlk) rfl rfl (by decide +kernel) rfl rfl (Nat.le_of_ble_eq_true rfl) rfl d k
theorem gf_M_forestOf (hC : gm_ok X E cc nL own (c0 :: gw_T) rm) (hlk : Cond.fieldLink own idx "ForestPackerModel" "forestOf" "[I" ∈ gw_T) (d : decode cc pc = .ok (.getfield idx, 3)) (k : gm_G X E nL (pc + 3) lo (.ref (E.2.2 8) :: st) σ) : gm_G X E nL pc lo (.ref (E.2.2 5) :: st) σ := gi_get hC (gm_o4 E) (C := RX4) (T := TX4) (N := 11) rfl (fun w h => List.mem_cons_of_mem _ (fW_M w h)) (j := 4) (by decide) (List.mem_cons_of_mem _ hlk) rfl rfl d k
theorem gf_M_isFixed (hC : gm_ok X E cc nL own (c0 :: gw_T) rm) (hlk : Cond.fieldLink own idx "ForestPackerModel" "isFixed" "[Z" ∈ gw_T) (d : decode cc pc = .ok (.getfield idx, 3)) (k : gm_G X E nL (pc + 3) lo (.ref (E.2.2 9) :: st) σ) : gm_G X E nL pc lo (.ref (E.2.2 5) :: st) σ := gi_get hC (gm_o4 E) (C := RX4) (T := TX4) (N := 11) rfl (fun w h => List.mem_cons_of_mem _ (fW_M w h)) (j := 5) (by decide) (List.mem_cons_of_mem _ hlk) rfl rfl d k
theorem gf_M_queue (hC : gm_ok X E cc nL own (c0 :: gw_T) rm) (hlk : Cond.fieldLink own idx "ForestPackerModel" "queue" "[I" ∈ gw_T) (d : decode cc pc = .ok (.getfield idx, 3)) (k : gm_G X E nL (pc + 3) lo (.ref (E.2.2 10) :: st) σ) : gm_G X E nL pc lo (.ref (E.2.2 5) :: st) σ := gi_get hC (gm_o4 E) (C := RX4) (T := TX4) (N := 11) rfl (fun w h => List.mem_cons_of_mem _ (fW_M w h)) (j := 6) (by decide) (List.mem_cons_of_mem _ hlk) rfl rfl d k
theorem gf_M_cameFrom (hC : gm_ok X E cc nL own (c0 :: gw_T) rm) (hlk : Cond.fieldLink own idx "ForestPackerModel" "cameFrom" "[I" ∈ gw_T) (d : decode cc pc = .ok (.getfield idx, 3)) (k : gm_G X E nL (pc + 3) lo (.ref (E.2.2 11) :: st) σ) : gm_G X E nL pc lo (.ref (E.2.2 5) :: st) σ := gi_get hC (gm_o4 E) (C := RX4) (T := TX4) (N := 11) rfl (fun w h => List.mem_cons_of_mem _ (fW_M w h)) (j := 7) (by decide) (List.mem_cons_of_mem _ hlk) rfl rfl d k
theorem gf_M_cameTo (hC : gm_ok X E cc nL own (c0 :: gw_T) rm) (hlk : Cond.fieldLink own idx "ForestPackerModel" "cameTo" "[I" ∈ gw_T) (d : decode cc pc = .ok (.getfield idx, 3)) (k : gm_G X E nL (pc + 3) lo (.ref (E.2.2 12) :: st) σ) : gm_G X E nL pc lo (.ref (E.2.2 5) :: st) σ := gi_get hC (gm_o4 E) (C := RX4) (T := TX4) (N := 11) rfl (fun w h => List.mem_cons_of_mem _ (fW_M w h)) (j := 8) (by decide) (List.mem_cons_of_mem _ hlk) rfl rfl d k
theorem gf_M_lifted (hC : gm_ok X E cc nL own (c0 :: gw_T) rm) (hlk : Cond.fieldLink own idx "ForestPackerModel" "lifted" "[I" ∈ gw_T) (d : decode cc pc = .ok (.getfield idx, 3)) (k : gm_G X E nL (pc + 3) lo (.ref (E.2.2 13) :: st) σ) : gm_G X E nL pc lo (.ref (E.2.2 5) :: st) σ := gi_get hC (gm_o4 E) (C := RX4) (T := TX4) (N := 11) rfl (fun w h => List.mem_cons_of_mem _ (fW_M w h)) (j := 9) (by decide) (List.mem_cons_of_mem _ hlk) rfl rfl d k
theorem gf_M_saved (hC : gm_ok X E cc nL own (c0 :: gw_T) rm) (hlk : Cond.fieldLink own idx "ForestPackerModel" "saved" "[I" ∈ gw_T) (d : decode cc pc = .ok (.getfield idx, 3)) (k : gm_G X E nL (pc + 3) lo (.ref (E.2.2 14) :: st) σ) : gm_G X E nL pc lo (.ref (E.2.2 5) :: st) σ := gi_get hC (gm_o4 E) (C := RX4) (T := TX4) (N := 11) rfl (fun w h => List.mem_cons_of_mem _ (fW_M w h)) (j := 10) (by decide) (List.mem_cons_of_mem _ hlk) rfl rfl d k
end GF5
end
section
/-! ===== Int32 by its bits: bt x i ===== -/
def bt (x : Int32) (i : Nat) : Bool := x.toBitVec.getLsbD i
theorem b_ext {x y : Int32} (h : ∀ i, i < 32 → bt x i = bt y i) : x = y := Int32.toBitVec_inj.mp (BitVec.eq_of_getLsbD_eq (fun i hi => h i hi))
theorem b_or (x y : Int32) (i : Nat) : bt (x ||| y) i = (bt x i || bt y i) := by unfold bt; rw [Int32.toBitVec_or, BitVec.getLsbD_or]
theorem b_and (x y : Int32) (i : Nat) : bt (x &&& y) i = (bt x i && bt y i) := by unfold bt; rw [Int32.toBitVec_and, BitVec.getLsbD_and]
theorem b_xor (x y : Int32) (i : Nat) : bt (x ^^^ y) i = (bt x i ^^ bt y i) := by unfold bt; rw [Int32.toBitVec_xor, BitVec.getLsbD_xor]
theorem b_big {x : Int32} {i : Nat} (h : 32 ≤ i) : bt x i = false := BitVec.getLsbD_of_ge _ _ h
theorem b_255 (i : Nat) : bt 255 i = decide (i < 8) := by
  rcases Nat.lt_or_ge i 32 with h | h
  · exact (by decide +kernel : ∀ i, i < 32 → bt 255 i = decide (i < 8)) i h
  · rw [b_big h, decide_eq_false (by omega)]
theorem b_65535 (i : Nat) : bt 65535 i = decide (i < 16) := by
  rcases Nat.lt_or_ge i 32 with h | h
  · exact (by decide +kernel : ∀ i, i < 32 → bt 65535 i = decide (i < 16)) i h
  · rw [b_big h, decide_eq_false (by omega)]
theorem b_m1 : ∀ i, i < 32 → bt (-1) i = true := by decide +kernel
theorem b_0 (i : Nat) : bt 0 i = false := BitVec.getLsbD_zero
theorem s_l : ∀ n, n < 32 → ((nI n &&& 31).toBitVec.smod 32).toNat = n := by decide +kernel
theorem s_u : ∀ n, n < 32 → (((nI n).toUInt32 &&& Int32.toUInt32 31).toBitVec % 32).toNat = n := by decide +kernel
theorem b_shl (n : Nat) (hn : n < 32) (x : Int32) {i : Nat} (hi : i < 32) : bt (x <<< (nI n &&& 31)) i = (decide (n ≤ i) && bt x (i - n)) := by
  unfold bt
  rw [Int32.toBitVec_shiftLeft]
  show (x.toBitVec <<< ((nI n &&& 31).toBitVec.smod 32).toNat).getLsbD i = _
  rw [s_l n hn, BitVec.getLsbD_shiftLeft]
  rcases Nat.lt_or_ge i n with h | h
  · simp [h, Nat.not_le.mpr h]
  · simp [hi, h, Nat.not_lt.mpr h]
theorem b_ushr (n : Nat) (hn : n < 32) (x : Int32) (i : Nat) : bt ((x.toUInt32 >>> ((nI n).toUInt32 &&& Int32.toUInt32 31)).toInt32) i = bt x (n + i) := by
  show (x.toUInt32 >>> ((nI n).toUInt32 &&& Int32.toUInt32 31)).toBitVec.getLsbD i = x.toUInt32.toBitVec.getLsbD (n + i)
  rw [UInt32.toBitVec_shiftRight]
  show (x.toUInt32.toBitVec >>> (((nI n).toUInt32 &&& Int32.toUInt32 31).toBitVec % 32).toNat).getLsbD i = _
  rw [s_u n hn, BitVec.getLsbD_ushiftRight]
theorem b_sshr (n : Nat) (hn : n < 32) (x : Int32) {i : Nat} (hi : i < 32) : bt (x >>> (nI n &&& 31)) i = if n + i < 32 then bt x (n + i) else bt x 31 := by
  unfold bt
  rw [Int32.toBitVec_shiftRight]
  show (x.toBitVec.sshiftRight ((nI n &&& 31).toBitVec.smod 32).toNat).getLsbD i = _
  rw [s_l n hn, BitVec.getLsbD_sshiftRight, BitVec.msb_eq_getLsbD_last]
  simp [hi]
theorem b_shl8 (x : Int32) {i : Nat} (hi : i < 32) : bt (x <<< ((8 : Int32) &&& 31)) i = (decide (8 ≤ i) && bt x (i - 8)) := b_shl 8 (by omega) x hi
theorem b_shl16 (x : Int32) {i : Nat} (hi : i < 32) : bt (x <<< ((16 : Int32) &&& 31)) i = (decide (16 ≤ i) && bt x (i - 16)) := b_shl 16 (by omega) x hi
theorem b_shl24 (x : Int32) {i : Nat} (hi : i < 32) : bt (x <<< ((24 : Int32) &&& 31)) i = (decide (24 ≤ i) && bt x (i - 24)) := b_shl 24 (by omega) x hi
theorem b_sshr8 (x : Int32) {i : Nat} (hi : i < 32) : bt (x >>> ((8 : Int32) &&& 31)) i = if 8 + i < 32 then bt x (8 + i) else bt x 31 := b_sshr 8 (by omega) x hi

theorem b_one : ∀ i, i < 32 → bt 1 i = decide (i = 0) := by decide +kernel
theorem b_pow {n i : Nat} (hn : n < 32) (hi : i < 32) : bt (1 <<< (nI n &&& 31)) i = decide (i = n) := by
  rw [b_shl n hn 1 hi]
  rcases Nat.lt_trichotomy i n with h | h | h
  · simp [Nat.not_le.mpr h, Nat.ne_of_lt h]
  · subst h; rw [Nat.sub_self, b_one 0 (by omega)]; simp
  · rw [b_one _ (by omega)]; simp [Nat.le_of_lt h, Nat.ne_of_gt h, Nat.sub_ne_zero_of_lt h]
theorem b_not (x : Int32) {i : Nat} (hi : i < 32) : bt (x ^^^ (-1)) i = !bt x i := by rw [b_xor, b_m1 i hi]; simp
theorem b_tst (x : Int32) {n : Nat} (hn : n < 32) : ((x >>> (nI n &&& 31)) &&& 1) = if bt x n then 1 else 0 := by
  apply b_ext
  intro i hi
  rw [b_and, b_sshr n hn x hi, b_one i hi]
  by_cases h : i = 0
  · subst h
    rw [if_pos (by omega : n + 0 < 32)]
    cases hb : bt x n <;> simp [hb, b_0, b_one]
  · cases hb : bt x n <;> simp [h, b_0, b_one i hi]
theorem b_tst1 (x : Int32) {n : Nat} (hn : n < 32) : ((x >>> (nI n &&& 31)) &&& 1) = 1 ↔ bt x n = true := by
  rw [b_tst x hn]; cases bt x n <;> decide
theorem b_tst0 (x : Int32) {n : Nat} (hn : n < 32) : ((x >>> (nI n &&& 31)) &&& 1) = 0 ↔ bt x n = false := by
  rw [b_tst x hn]; cases bt x n <;> decide
theorem b_zero {x : Int32} : x = 0 ↔ ∀ i, i < 32 → bt x i = false := ⟨fun h i _ => by rw [h, b_0], fun h => b_ext fun i hi => by rw [h i hi, b_0]⟩
/-- x holds the set S of numbers below 32 -/
def bm (x : Int32) (S : Nat → Bool) : Prop := ∀ i, i < 32 → bt x i = S i
theorem bm_0 : bm 0 (fun _ => false) := fun i _ => b_0 i
theorem bm_pow {n : Nat} (hn : n < 32) : bm (1 <<< (nI n &&& 31)) (fun i => decide (i = n)) := fun _ hi => b_pow hn hi
theorem bm_or {x y : Int32} {S T : Nat → Bool} (h : bm x S) (g : bm y T) : bm (x ||| y) (fun i => S i || T i) := fun i hi => by rw [b_or, h i hi, g i hi]
theorem bm_and {x y : Int32} {S T : Nat → Bool} (h : bm x S) (g : bm y T) : bm (x &&& y) (fun i => S i && T i) := fun i hi => by rw [b_and, h i hi, g i hi]
theorem bm_not {x : Int32} {S : Nat → Bool} (h : bm x S) : bm (x ^^^ (-1)) (fun i => !S i) := fun i hi => by rw [b_not x hi, h i hi]
theorem bm_eq {x : Int32} {S T : Nat → Bool} (h : bm x S) (e : ∀ i, i < 32 → S i = T i) : bm x T := fun i hi => (h i hi).trans (e i hi)
theorem bm_inj {x y : Int32} {S : Nat → Bool} (h : bm x S) (g : bm y S) : x = y := b_ext fun i hi => (h i hi).trans (g i hi).symm
theorem bm_tst {x : Int32} {S : Nat → Bool} (h : bm x S) {n : Nat} (hn : n < 32) : ((x >>> (nI n &&& 31)) &&& 1) = if S n then 1 else 0 := by rw [b_tst x hn, h n hn]
/-- an optional number as an int: none is -1 -/
def oI (r : Option Nat) : Int32 := match r with
  | none => -1
  | some n => nI n
theorem oI_neg {r : Option Nat} (h : ∀ n, r = some n → n < 2 ^ 31) : oI r < 0 ↔ r = none := by
  cases r with
  | none => exact ⟨fun _ => rfl, fun _ => by show (-1 : Int32) < 0; decide⟩
  | some n => exact ⟨fun q => absurd q (nI_pos (h n rfl)), fun q => by cases q⟩
theorem oI_inj {r t : Option Nat} (h : ∀ n, r = some n → n < 2 ^ 31) (g : ∀ n, t = some n → n < 2 ^ 31) (e : oI r = oI t) : r = t := by
  cases r with
  | none =>
    cases t with
    | none => rfl
    | some m =>
      have : oI (some m) < 0 := e ▸ (by show (-1 : Int32) < 0; decide)
      exact absurd this (nI_pos (g m rfl))
  | some n =>
    cases t with
    | none =>
      have : oI (some n) < 0 := e.symm ▸ (by show (-1 : Int32) < 0; decide)
      exact absurd this (nI_pos (h n rfl))
    | some m => rw [(nI_eq (h n rfl) (g m rfl)).mp e]
end
section
/-! GRAPHS, in pure words: sets of edges are predicates on edge numbers; an edge e joins U e and V e. No word of the machine stands here. -/
/-- how many numbers below n have P -/
noncomputable def gc_n (P : Nat → Prop) : Nat → Nat
  | 0 => 0
  | n + 1 => gc_n P n + @ite Nat (P n) (Classical.propDecidable _) 1 0
theorem gc_s1 {P : Nat → Prop} {n : Nat} (h : P n) : gc_n P (n + 1) = gc_n P n + 1 := by
  show gc_n P n + @ite Nat (P n) (Classical.propDecidable _) 1 0 = _
  rw [if_pos h]
theorem gc_s0 {P : Nat → Prop} {n : Nat} (h : ¬ P n) : gc_n P (n + 1) = gc_n P n := by
  show gc_n P n + @ite Nat (P n) (Classical.propDecidable _) 1 0 = _
  rw [if_neg h]; rfl
theorem gc_mono {P Q : Nat → Prop} : ∀ {n : Nat}, (∀ v, v < n → P v → Q v) → gc_n P n ≤ gc_n Q n
  | 0, _ => Nat.le_refl 0
  | n + 1, h => by
    have ih := gc_mono (P := P) (Q := Q) (n := n) (fun v hv => h v (by omega))
    by_cases hP : P n
    · rw [gc_s1 hP, gc_s1 (h n (by omega) hP)]; omega
    · rw [gc_s0 hP]
      by_cases hQ : Q n
      · rw [gc_s1 hQ]; omega
      · rw [gc_s0 hQ]; exact ih
theorem gc_congr {P Q : Nat → Prop} {n : Nat} (h : ∀ v, v < n → (P v ↔ Q v)) : gc_n P n = gc_n Q n :=
  Nat.le_antisymm (gc_mono fun v hv => (h v hv).mp) (gc_mono fun v hv => (h v hv).mpr)
theorem gc_le {P : Nat → Prop} : ∀ n, gc_n P n ≤ n
  | 0 => Nat.le_refl 0
  | n + 1 => by
    have ih := gc_le (P := P) n
    by_cases hP : P n
    · rw [gc_s1 hP]; omega
    · rw [gc_s0 hP]; omega
theorem gc_all {P : Nat → Prop} : ∀ n, (∀ v, v < n → P v) → gc_n P n = n
  | 0, _ => rfl
  | n + 1, h => by rw [gc_s1 (h n (by omega)), gc_all n (fun v hv => h v (by omega))]
theorem gc_none {P : Nat → Prop} : ∀ n, (∀ v, v < n → ¬ P v) → gc_n P n = 0
  | 0, _ => rfl
  | n + 1, h => by rw [gc_s0 (h n (by omega)), gc_none n (fun v hv => h v (by omega))]
/-- one less: a point is taken out -/
theorem gc_out {P Q : Nat → Prop} {w : Nat} (hw : P w) (hq : ¬ Q w) : ∀ {n : Nat}, w < n → (∀ v, v < n → v ≠ w → (P v ↔ Q v)) → gc_n P n = gc_n Q n + 1
  | 0, h, _ => absurd h (Nat.not_lt_zero _)
  | n + 1, h, hx => by
    by_cases hn : n = w
    · subst hn
      rw [gc_s1 hw, gc_s0 hq, gc_congr (fun v hv => hx v (by omega) (by omega))]
    · have ih := gc_out (P := P) (Q := Q) hw hq (n := n) (by omega) (fun v hv => hx v (by omega))
      by_cases hP : P n
      · rw [gc_s1 hP, gc_s1 ((hx n (by omega) hn).mp hP), ih]
      · rw [gc_s0 hP, gc_s0 (fun z => hP ((hx n (by omega) hn).mpr z)), ih]
/-- the least number with P -/
theorem gc_least {P : Nat → Prop} {x : Nat} (h : P x) : ∃ r, r ≤ x ∧ P r ∧ ∀ j, j < r → ¬ P j := by
  induction x using Nat.strongRecOn with
  | ind x ih =>
    by_cases hx : ∃ y, y < x ∧ P y
    · obtain ⟨y, hy, hp⟩ := hx
      obtain ⟨r, h1, h2, h3⟩ := ih y hy hp
      exact ⟨r, by omega, h2, h3⟩
    · exact ⟨x, Nat.le_refl x, h, fun j hj hp => hx ⟨j, hj, hp⟩⟩
/-! connected: in every equivalence that holds the ends of the edges of X together -/
def gq_eqv (R : Nat → Nat → Prop) : Prop := (∀ a, R a a) ∧ (∀ a b, R a b → R b a) ∧ ∀ a b c, R a b → R b c → R a c
def gq_con (U V : Nat → Nat) (X : Nat → Prop) (a b : Nat) : Prop := ∀ R : Nat → Nat → Prop, gq_eqv R → (∀ e, X e → R (U e) (V e)) → R a b
section GQ
variable {U V : Nat → Nat} {X Y : Nat → Prop} {a b c d : Nat}
theorem gq_rf : gq_con U V X a a := fun _ hR _ => hR.1 a
theorem gq_sy (h : gq_con U V X a b) : gq_con U V X b a := fun R hR hX => hR.2.1 _ _ (h R hR hX)
theorem gq_tr (h : gq_con U V X a b) (h2 : gq_con U V X b c) : gq_con U V X a c := fun R hR hX => hR.2.2 _ _ _ (h R hR hX) (h2 R hR hX)
theorem gq_ed {e : Nat} (h : X e) : gq_con U V X (U e) (V e) := fun _ _ hX => hX e h
theorem gq_is : gq_eqv (gq_con U V X) := ⟨fun _ => gq_rf, fun _ _ => gq_sy, fun _ _ _ => gq_tr⟩
/-- what X holds together, Y holds, if Y does so with each edge of X -/
theorem gq_in (h : ∀ e, X e → gq_con U V Y (U e) (V e)) (hc : gq_con U V X a b) : gq_con U V Y a b := hc _ gq_is h
theorem gq_mono (h : ∀ e, X e → Y e) (hc : gq_con U V X a b) : gq_con U V Y a b := gq_in (fun e he => gq_ed (h e he)) hc
/-- one edge more -/
theorem gq_add {w : Nat} : gq_con U V (fun e => X e ∨ e = w) a b ↔ gq_con U V X a b ∨ (gq_con U V X a (U w) ∧ gq_con U V X (V w) b) ∨ (gq_con U V X a (V w) ∧ gq_con U V X (U w) b) := by
  constructor
  · intro h
    refine h (fun a b => gq_con U V X a b ∨ (gq_con U V X a (U w) ∧ gq_con U V X (V w) b) ∨ (gq_con U V X a (V w) ∧ gq_con U V X (U w) b)) ⟨fun a => Or.inl gq_rf, ?_, ?_⟩ ?_
    · rintro a b (h | ⟨h1, h2⟩ | ⟨h1, h2⟩)
      · exact Or.inl (gq_sy h)
      · exact Or.inr (Or.inr ⟨gq_sy h2, gq_sy h1⟩)
      · exact Or.inr (Or.inl ⟨gq_sy h2, gq_sy h1⟩)
    · rintro a b c (h | ⟨h1, h2⟩ | ⟨h1, h2⟩) (g | ⟨g1, g2⟩ | ⟨g1, g2⟩)
      · exact Or.inl (gq_tr h g)
      · exact Or.inr (Or.inl ⟨gq_tr h g1, g2⟩)
      · exact Or.inr (Or.inr ⟨gq_tr h g1, g2⟩)
      · exact Or.inr (Or.inl ⟨h1, gq_tr h2 g⟩)
      · exact Or.inr (Or.inl ⟨h1, g2⟩)
      · exact Or.inl (gq_tr h1 g2)
      · exact Or.inr (Or.inr ⟨h1, gq_tr h2 g⟩)
      · exact Or.inl (gq_tr h1 g2)
      · exact Or.inr (Or.inr ⟨h1, g2⟩)
    · rintro e (he | rfl)
      · exact Or.inl (gq_ed he)
      · exact Or.inr (Or.inl ⟨gq_rf, gq_rf⟩)
  · have hm : ∀ {x y}, gq_con U V X x y → gq_con U V (fun e => X e ∨ e = w) x y := fun h => gq_mono (fun _ he => Or.inl he) h
    have hw : gq_con U V (fun e => X e ∨ e = w) (U w) (V w) := gq_ed (Or.inr rfl)
    rintro (h | ⟨h1, h2⟩ | ⟨h1, h2⟩)
    · exact hm h
    · exact gq_tr (hm h1) (gq_tr hw (hm h2))
    · exact gq_tr (hm h1) (gq_tr (gq_sy hw) (hm h2))
end GQ
/-! roots: the least vertex of each part; how many there are below n -/
def gr_root (U V : Nat → Nat) (X : Nat → Prop) (v : Nat) : Prop := ∀ u, u < v → ¬ gq_con U V X u v
noncomputable def gr_c (U V : Nat → Nat) (X : Nat → Prop) (n : Nat) : Nat := gc_n (gr_root U V X) n
section GR
variable {U V : Nat → Nat} {X Y : Nat → Prop} {n : Nat}
theorem gr_has (v : Nat) : ∃ r, r ≤ v ∧ gq_con U V X r v ∧ gr_root U V X r := by
  obtain ⟨r, h1, h2, h3⟩ := gc_least (P := fun r => gq_con U V X r v) (x := v) gq_rf
  exact ⟨r, h1, h2, fun u hu hc => h3 u hu (gq_tr hc h2)⟩
theorem gr_uniq {r t : Nat} (hr : gr_root U V X r) (ht : gr_root U V X t) (h : gq_con U V X r t) : r = t := by
  rcases Nat.lt_trichotomy r t with q | q | q
  · exact absurd h (ht r q)
  · exact q
  · exact absurd (gq_sy h) (hr t q)
theorem gr_mono (h : ∀ a b, gq_con U V X a b → gq_con U V Y a b) : gr_c U V Y n ≤ gr_c U V X n :=
  gc_mono fun _ _ hr u hu hc => hr u hu (h _ _ hc)
theorem gr_same (h : ∀ a b, gq_con U V X a b ↔ gq_con U V Y a b) : gr_c U V Y n = gr_c U V X n :=
  Nat.le_antisymm (gr_mono fun a b => (h a b).mp) (gr_mono fun a b => (h a b).mpr)
theorem gr_none (h : ∀ e, ¬ X e) : gr_c U V X n = n := by
  refine gc_all n fun v _ u hu hc => ?_
  have : u = v := hc (fun a b => a = b) ⟨fun _ => rfl, fun _ _ h => h.symm, fun _ _ _ h g => h.trans g⟩ (fun e he => absurd he (h e))
  omega
/-- an edge whose ends lie apart: one part less -/
theorem gr_join {w : Nat} (hU : U w < n) (hV : V w < n) (h : ¬ gq_con U V X (U w) (V w)) : gr_c U V X n = gr_c U V (fun e => X e ∨ e = w) n + 1 := by
  obtain ⟨r, r1, r2, r3⟩ := gr_has (U := U) (V := V) (X := X) (U w)
  obtain ⟨t, t1, t2, t3⟩ := gr_has (U := U) (V := V) (X := X) (V w)
  have hne : r ≠ t := fun e => by subst e; exact h (gq_tr (gq_sy r2) t2)
  have key : ∀ (p q x y : Nat), p < q → q < n → gr_root U V X p → gr_root U V X q → gq_con U V X p x → gq_con U V X q y → (∀ a b, gq_con U V (fun e => X e ∨ e = w) a b ↔ gq_con U V X a b ∨ (gq_con U V X a x ∧ gq_con U V X y b) ∨ (gq_con U V X a y ∧ gq_con U V X x b)) → gr_c U V X n = gr_c U V (fun e => X e ∨ e = w) n + 1 := by
    intro p q x y hpq hqn hp hq hpx hqy hadd
    refine gc_out (w := q) hq (fun z => z p hpq ((hadd p q).mpr (Or.inr (Or.inl ⟨hpx, gq_sy hqy⟩)))) hqn (fun v _ hvq => ⟨fun hv u hu hc => ?_, fun hv u hu hc => hv u hu ((hadd u v).mpr (Or.inl hc))⟩)
    rcases (hadd u v).mp hc with g | ⟨g1, g2⟩ | ⟨g1, g2⟩
    · exact hv u hu g
    · exact hvq (gr_uniq hv hq (gq_sy (gq_tr hqy g2)))
    · have hvp : v = p := gr_uniq hv hp (gq_sy (gq_tr hpx g2))
      have huq : gq_con U V X u q := gq_tr g1 (gq_sy hqy)
      exact hq u (by omega) huq
  rcases Nat.lt_or_gt_of_ne hne with q | q
  · exact key r t (U w) (V w) q (by omega) r3 t3 r2 t2 (fun a b => gq_add)
  · exact key t r (V w) (U w) q (by omega) t3 r3 t2 r2 (fun a b => gq_add.trans ⟨fun h => h.elim Or.inl (fun h => Or.inr h.symm), fun h => h.elim Or.inl (fun h => Or.inr h.symm)⟩)
theorem gr_join_le {w : Nat} (hU : U w < n) (hV : V w < n) : gr_c U V X n ≤ gr_c U V (fun e => X e ∨ e = w) n + 1 := by
  by_cases h : gq_con U V X (U w) (V w)
  · refine Nat.le_succ_of_le (Nat.le_of_eq (gr_same fun a b => ?_))
    rw [gq_add]
    refine ⟨fun z => ?_, Or.inl⟩
    rcases z with z | ⟨z1, z2⟩ | ⟨z1, z2⟩
    · exact z
    · exact gq_tr z1 (gq_tr h z2)
    · exact gq_tr z1 (gq_tr (gq_sy h) z2)
  · exact Nat.le_of_eq (gr_join hU hV h)
end GR
/-! forests -/
def gf_for (U V : Nat → Nat) (X : Nat → Prop) : Prop := ∀ e, X e → ¬ gq_con U V (fun x => X x ∧ x ≠ e) (U e) (V e)
section GF
variable {U V : Nat → Nat} {X Y I J : Nat → Prop} {n M : Nat}
theorem gf_sub (h : gf_for U V Y) (hs : ∀ e, X e → Y e) : gf_for U V X := fun e he hc => h e (hs e he) (gq_mono (fun x hx => ⟨hs x hx.1, hx.2⟩) hc)
theorem gf_step (m : Nat) : (fun x => X x ∧ x < m + 1) = (fun x => (X x ∧ x < m) ∨ (X x ∧ x = m)) := by
  funext x
  apply propext
  constructor
  · rintro ⟨h1, h2⟩
    rcases Nat.lt_or_ge x m with q | q
    · exact Or.inl ⟨h1, q⟩
    · exact Or.inr ⟨h1, by omega⟩
  · rintro (⟨h1, h2⟩ | ⟨h1, h2⟩)
    · exact ⟨h1, by omega⟩
    · exact ⟨h1, by omega⟩
theorem gf_cge (hU : ∀ e, X e → U e < n) (hV : ∀ e, X e → V e < n) : ∀ m, n ≤ gr_c U V (fun x => X x ∧ x < m) n + gc_n X m
  | 0 => by rw [gr_none (fun e h => absurd h.2 (Nat.not_lt_zero e))]; omega
  | m + 1 => by
    have ih := gf_cge hU hV m
    rw [gf_step]
    by_cases hm : X m
    · rw [gc_s1 hm]
      have h := gr_join_le (X := fun x => X x ∧ x < m) (hU m hm) (hV m hm)
      rw [show (fun e => (X e ∧ e < m) ∨ e = m) = (fun x => (X x ∧ x < m) ∨ (X x ∧ x = m)) from funext fun x => propext ⟨fun z => z.elim Or.inl (fun q => Or.inr ⟨q ▸ hm, q⟩), fun z => z.elim Or.inl (fun q => Or.inr q.2)⟩] at h
      omega
    · rw [gc_s0 hm]
      rw [show (fun x => (X x ∧ x < m) ∨ (X x ∧ x = m)) = (fun x => X x ∧ x < m) from funext fun x => propext ⟨fun z => z.elim id (fun q => absurd (q.2 ▸ q.1) hm), Or.inl⟩]
      exact ih
theorem gf_ceq (hf : gf_for U V X) (hU : ∀ e, X e → U e < n) (hV : ∀ e, X e → V e < n) : ∀ m, n = gr_c U V (fun x => X x ∧ x < m) n + gc_n X m
  | 0 => by rw [gr_none (fun e h => absurd h.2 (Nat.not_lt_zero e))]; rfl
  | m + 1 => by
    have ih := gf_ceq hf hU hV m
    rw [gf_step]
    by_cases hm : X m
    · rw [gc_s1 hm]
      have h := gr_join (X := fun x => X x ∧ x < m) (hU m hm) (hV m hm) (fun hc => hf m hm (gq_mono (fun x hx => ⟨hx.1, Nat.ne_of_lt hx.2⟩) hc))
      rw [show (fun e => (X e ∧ e < m) ∨ e = m) = (fun x => (X x ∧ x < m) ∨ (X x ∧ x = m)) from funext fun x => propext ⟨fun z => z.elim Or.inl (fun q => Or.inr ⟨q ▸ hm, q⟩), fun z => z.elim Or.inl (fun q => Or.inr q.2)⟩] at h
      omega
    · rw [gc_s0 hm]
      rw [show (fun x => (X x ∧ x < m) ∨ (X x ∧ x = m)) = (fun x => X x ∧ x < m) from funext fun x => propext ⟨fun z => z.elim id (fun q => absurd (q.2 ▸ q.1) hm), Or.inl⟩]
      exact ih
theorem gf_all (hM : ∀ e, X e → e < M) : (fun x => X x ∧ x < M) = X := funext fun x => propext ⟨fun h => h.1, fun h => ⟨h, hM x h⟩⟩
/-- RANK: a forest whose edges all lie within what I holds together has no more edges than I -/
theorem gf_rank (hJ : gf_for U V J) (hJM : ∀ e, J e → e < M) (hIM : ∀ e, I e → e < M) (hJU : ∀ e, J e → U e < n) (hJV : ∀ e, J e → V e < n) (hIU : ∀ e, I e → U e < n) (hIV : ∀ e, I e → V e < n) (hs : ∀ e, J e → gq_con U V I (U e) (V e)) : gc_n J M ≤ gc_n I M := by
  have h1 := gf_ceq hJ hJU hJV M
  have h2 := gf_cge hIU hIV M
  rw [gf_all hJM] at h1
  rw [gf_all hIM] at h2
  have h3 : gr_c U V I n ≤ gr_c U V J n := gr_mono fun a b hc => gq_in hs hc
  omega
end GF
end
section
/-! PACKINGS, in pure words -/
section GH
variable {U V : Nat → Nat} {X Y : Nat → Prop} {a b : Nat}
/-- edge w lies within what X holds together -/
abbrev gh_in (U V : Nat → Nat) (X : Nat → Prop) (w : Nat) : Prop := gq_con U V X (U w) (V w)
theorem gh_eq (h : ∀ e, X e ↔ Y e) : X = Y := funext fun e => propext (h e)
/-- a forest and an edge whose ends lie apart in it -/
theorem gh_add {w : Nat} (hf : gf_for U V X) (hw : ¬ gh_in U V X w) : gf_for U V (fun e => X e ∨ e = w) := by
  intro e he hc
  by_cases hew : e = w
  · subst hew
    refine hw (gq_mono (fun x hx => ?_) hc)
    rcases hx.1 with h | h
    · exact h
    · exact absurd h hx.2
  · have hX : X e := he.elim id (fun h => absurd h hew)
    have hc2 : gq_con U V (fun x => (X x ∧ x ≠ e) ∨ x = w) (U e) (V e) := gq_mono (fun x hx => hx.1.elim (fun h => Or.inl ⟨h, hx.2⟩) Or.inr) hc
    have up : ∀ {p q}, gq_con U V (fun x => X x ∧ x ≠ e) p q → gq_con U V X p q := fun h => gq_mono (fun _ hx => hx.1) h
    have hin : gq_con U V X (U e) (V e) := gq_ed hX
    rcases gq_add.mp hc2 with h | ⟨h1, h2⟩ | ⟨h1, h2⟩
    · exact hf e hX h
    · exact hw (gq_tr (gq_sy (up h1)) (gq_tr hin (gq_sy (up h2))))
    · exact hw (gq_tr (up h2) (gq_tr (gq_sy hin) (up h1)))
/-- in a forest a way is one alone: what holds without x and holds without y holds without both -/
theorem gh_uniq {x y : Nat} (hf : gf_for U V X) (hy : X y) (h1 : gq_con U V (fun e => X e ∧ e ≠ x) a b) (h2 : gq_con U V (fun e => X e ∧ e ≠ y) a b) : gq_con U V (fun e => (X e ∧ e ≠ x) ∧ e ≠ y) a b := by
  by_cases hxy : x = y
  · subst hxy
    exact gq_mono (fun e he => ⟨he, he.2⟩) h1
  · have h3 : gq_con U V (fun e => ((X e ∧ e ≠ x) ∧ e ≠ y) ∨ e = y) a b := gq_mono (fun e he => by
      by_cases h : e = y
      · exact Or.inr h
      · exact Or.inl ⟨he, h⟩) h1
    have up : ∀ {p q}, gq_con U V (fun e => (X e ∧ e ≠ x) ∧ e ≠ y) p q → gq_con U V (fun e => X e ∧ e ≠ y) p q := fun h => gq_mono (fun _ he => ⟨he.1.1, he.2⟩) h
    rcases gq_add.mp h3 with h | ⟨g1, g2⟩ | ⟨g1, g2⟩
    · exact h
    · exact absurd (gq_tr (gq_sy (up g1)) (gq_tr h2 (gq_sy (up g2)))) (hf y hy)
    · exact absurd (gq_tr (up g2) (gq_tr (gq_sy h2) (up g1))) (hf y hy)
/-- an edge more in a forest holds no more together of what lay together: without y it stays apart -/
theorem gh_keep {x y w : Nat} (hw : ¬ gh_in U V X w) (hin : gh_in U V X x) (h : ¬ gh_in U V (fun e => X e ∧ e ≠ y) x) : ¬ gh_in U V (fun e => (X e ∨ e = w) ∧ e ≠ y) x := by
  intro hc
  have hc2 : gq_con U V (fun e => (X e ∧ e ≠ y) ∨ e = w) (U x) (V x) := gq_mono (fun e he => he.1.elim (fun z => Or.inl ⟨z, he.2⟩) Or.inr) hc
  have up : ∀ {p q}, gq_con U V (fun e => X e ∧ e ≠ y) p q → gq_con U V X p q := fun h => gq_mono (fun _ he => he.1) h
  rcases gq_add.mp hc2 with g | ⟨g1, g2⟩ | ⟨g1, g2⟩
  · exact h g
  · exact hw (gq_tr (gq_sy (up g1)) (gq_tr hin (gq_sy (up g2))))
  · exact hw (gq_tr (up g2) (gq_tr (gq_sy hin) (up g1)))
end GH
/-! a packing: p e = some i, edge e is in forest i -/
def gp_F (p : Nat → Option Nat) (i : Nat) : Nat → Prop := fun e => p e = some i
def gp_ok (U V : Nat → Nat) (k : Nat) (p : Nat → Option Nat) : Prop := (∀ e i, p e = some i → i < k) ∧ ∀ i, i < k → gf_for U V (gp_F p i)
/-- S can be packed; with those of fx where p has them -/
def gp_fit (U V : Nat → Nat) (k : Nat) (S : Nat → Prop) : Prop := ∃ p, gp_ok U V k p ∧ ∀ e, S e ↔ p e ≠ none
def gp_fix (U V : Nat → Nat) (k : Nat) (S fx : Nat → Prop) (p : Nat → Option Nat) : Prop := ∃ p2, gp_ok U V k p2 ∧ (∀ e, S e ↔ p2 e ≠ none) ∧ ∀ e, fx e → p2 e = p e
/-- G holds all but the first of z :: r within; and so on with the forest that the first one leaves -/
def gp_pth (U V : Nat → Nat) (p : Nat → Option Nat) (G : Nat → Prop) : List Nat → Prop
  | [] => True
  | z :: r => ¬ gh_in U V G z ∧ (∀ y ∈ r, gh_in U V G y) ∧ (r ≠ [] → ∃ i, p z = some i ∧ gp_pth U V p (fun e => gp_F p i e ∧ e ≠ z) r)
def gp_mv (p : Nat → Option Nat) (z t : Nat) : Nat → Option Nat := va_up p z (some t)
section GP
variable {U V : Nat → Nat} {k : Nat} {p : Nat → Option Nat}
theorem gp_F_mv_t {z t : Nat} : gp_F (gp_mv p z t) t = (fun e => gp_F p t e ∨ e = z) := gh_eq fun e => by
  by_cases h : e = z
  · subst h; simp [gp_F, gp_mv, va_up_self]
  · simp [gp_F, gp_mv, va_up_ne _ _ h, h]
theorem gp_F_mv_o {z t i : Nat} (hi : i ≠ t) : gp_F (gp_mv p z t) i = (fun e => gp_F p i e ∧ e ≠ z) := gh_eq fun e => by
  by_cases h : e = z
  · subst h; simp [gp_F, gp_mv, va_up_self, Ne.symm hi]
  · simp [gp_F, gp_mv, va_up_ne _ _ h, h]
/-- one move: the packing stays one -/
theorem gp_mv_ok {z t : Nat} (h : gp_ok U V k p) (ht : t < k) (hz : ¬ gh_in U V (gp_F p t) z) : gp_ok U V k (gp_mv p z t) := by
  refine ⟨fun e i he => ?_, fun i hi => ?_⟩
  · by_cases hez : e = z
    · subst hez
      simp only [gp_mv, va_up_self, Option.some.injEq] at he
      omega
    · simp only [gp_mv, va_up_ne _ _ hez] at he
      exact h.1 e i he
  · by_cases hit : i = t
    · subst hit
      rw [gp_F_mv_t]
      exact gh_add (h.2 i hi) hz
    · rw [gp_F_mv_o hit]
      exact gf_sub (h.2 i hi) (fun e he => he.1)
/-- what a move leaves of the rest of the way -/
theorem gp_pth_mv {z t i : Nat} (h : gp_ok U V k p) (hz : p z = some i) (ht : t < k) (hzt : ¬ gh_in U V (gp_F p t) z) : ∀ (r : List Nat) (G : Nat → Prop), z ∉ r → (∀ y ∈ r, gh_in U V (gp_F p t) y) → (∀ y ∈ r.tail, gh_in U V (fun e => gp_F p i e ∧ e ≠ z) y) → gp_pth U V p G r → gp_pth U V (gp_mv p z t) G r
  | [], G, _, _, _, _ => trivial
  | x :: r, G, hn, h1, h2, hp => by
    obtain ⟨g1, g2, g3⟩ := hp
    refine ⟨g1, g2, fun hr => ?_⟩
    obtain ⟨j, hj, hp2⟩ := g3 hr
    have hxz : x ≠ z := fun e => hn (e ▸ List.mem_cons_self)
    have hnr : z ∉ r := fun hm => hn (List.mem_cons_of_mem _ hm)
    have hjk : j < k := h.1 x j hj
    have hti : t ≠ i := fun e => by subst e; exact hzt (gq_ed (show gp_F p t z from hz))
    refine ⟨j, by rw [gp_mv, va_up_ne _ _ hxz]; exact hj, ?_⟩
    have ih := gp_pth_mv h hz ht hzt r (fun e => gp_F p j e ∧ e ≠ x) hnr (fun y hy => h1 y (List.mem_cons_of_mem _ hy)) (fun y hy => h2 y (List.mem_of_mem_tail hy)) hp2
    -- the head's own set: what changed in forest j
    cases r with
    | nil => exact trivial
    | cons y r =>
      obtain ⟨q1, q2, q3⟩ := ih
      have hy : gh_in U V (gp_F p t) y := h1 y (List.mem_cons_of_mem _ List.mem_cons_self)
      by_cases hjt : j = t
      · subst hjt
        rw [gp_F_mv_t]
        refine ⟨gh_keep hzt hy q1, fun v hv => gq_mono (fun e he => ⟨Or.inl he.1, he.2⟩) (q2 v hv), q3⟩
      · rw [gp_F_mv_o hjt]
        by_cases hji : j = i
        · subst hji
          refine ⟨fun hc => q1 (gq_mono (fun e he => ⟨he.1.1, he.2⟩) hc), fun v hv => ?_, q3⟩
          exact gh_uniq (h.2 j hjk) hj (h2 v (List.mem_cons_of_mem _ hv)) (q2 v hv)
        · have hsame : (fun e => (gp_F p j e ∧ e ≠ z) ∧ e ≠ x) = (fun e => gp_F p j e ∧ e ≠ x) := gh_eq fun e => ⟨fun q => ⟨q.1.1, q.2⟩, fun q => ⟨⟨q.1, fun ez => by
            subst ez
            have : some j = some i := (show p e = some j from q.1).symm.trans hz
            exact hji (Option.some.inj this)⟩, q.2⟩⟩
          rw [hsame]
          exact ⟨q1, q2, q3⟩
/-- ONE STEP of the row of moves: the last edge goes to the forest t, the rest of the way goes on towards the one that it leaves -/
theorem gp_step {z t : Nat} {r : List Nat} (h : gp_ok U V k p) (ht : t < k) (hn : z ∉ r) (hr : r ≠ []) (hp : gp_pth U V p (gp_F p t) (z :: r)) : ∃ i, p z = some i ∧ i < k ∧ gp_ok U V k (gp_mv p z t) ∧ gp_pth U V (gp_mv p z t) (gp_F (gp_mv p z t) i) r := by
  obtain ⟨h1, h2, h3⟩ := hp
  obtain ⟨i, hi, hp2⟩ := h3 hr
  have hti : i ≠ t := fun e => by subst e; exact h1 (gq_ed (show gp_F p i z from hi))
  refine ⟨i, hi, h.1 z i hi, gp_mv_ok h ht h1, ?_⟩
  rw [gp_F_mv_o hti]
  refine gp_pth_mv h hi ht h1 r _ hn h2 (fun y hy => ?_) hp2
  cases r with
  | nil => exact absurd rfl hr
  | cons x r => exact hp2.2.1 y hy
end GP
end
section
/-! THE GRAPH: its methods -/
/-- the bit of e, as hasEdge asks for it -/
def gE_has (p e : Int32) : Prop := ¬ e < 0 ∧ ¬ (24 : Int32) ≤ e ∧ (p >>> (e &&& 31)) &&& 1 = 1
theorem gE_has_nI {p : Int32} {j : Nat} (hj : j < 24) : gE_has p (nI j) ↔ bt p j = true := by
  constructor
  · exact fun h => (b_tst1 p (by omega)).mp h.2.2
  · intro h
    refine ⟨nI_pos (by omega), fun q => ?_, (b_tst1 p (by omega)).mpr h⟩
    have := (nI_leI (a := 24) (b := j) (by omega) (by omega)).mp q
    omega
theorem gE_has_j {p e : Int32} (h : gE_has p e) : ∃ j, j < 24 ∧ e = nI j := by
  obtain ⟨j, h1, h2⟩ := nI_of h.1
  subst h2
  exact ⟨j, by have := h.2.1; rw [show (24 : Int32) = nI 24 from rfl, nI_leI (by omega) h1] at this; omega, rfl⟩
set_option maxHeartbeats 4000000 in
set_option maxRecDepth 100000 in
theorem c_X0_hasVertex (l : Launch) (E : gm_E) (σ : gm_S) (v : Int32) : gm_MI l E yX0_hasVertex (.code yX0_hasVertex cX0_hasVertex 2 (some .boolean) :: gw_T) { frames := 0, cells := 0, slots := 0, locals := 0 } [.ref (E.2.2 1), .int v] σ (fun r σ2 => (r = 1 ∧ (¬ v < 0 ∧ ¬ σ.1 1 3 ≤ v) ∨ r = 0 ∧ ¬ (¬ v < 0 ∧ ¬ σ.1 1 3 ≤ v)) ∧ σ2 = σ) := by
  refine gm_enterI RX0 (by decide +kernel) rfl rfl (Nat.le_of_ble_eq_true rfl) (gm_c1_ok rfl) ?_
  intro X hC hR
  show gm_G X E 2 0 [some (.ref (E.2.2 1)), some (.int v)] [] σ
  refine gi_ildn hC dX0_hasVertex_0 rfl ?_
  refine gi_if_lt hC 16 dX0_hasVertex_1 (by decide) (fun h1 => ?_) (fun h1 => ?_)
  · refine gi_const hC (v := 0) dX0_hasVertex_16 (by decide) ?_
    exact hR _ _ _ _ (by decide +kernel) ⟨Or.inr ⟨rfl, fun h => h.1 h1⟩, rfl⟩ dX0_hasVertex_17
  ·
    refine gi_ildn hC dX0_hasVertex_4 rfl ?_
    refine gi_aldn hC dX0_hasVertex_5 rfl ?_
    refine gf_G_vertices hC gw_53 dX0_hasVertex_6 ?_
    refine gi_icmp_ge hC 16 dX0_hasVertex_9 (by decide) (fun h2 => ?_) (fun h2 => ?_)
    · refine gi_const hC (v := 0) dX0_hasVertex_16 (by decide) ?_
      exact hR _ _ _ _ (by decide +kernel) ⟨Or.inr ⟨rfl, fun h => h.2 h2⟩, rfl⟩ dX0_hasVertex_17
    ·
      refine gi_const hC (v := 1) dX0_hasVertex_12 (by decide) ?_
      refine gi_goto hC 17 dX0_hasVertex_13 (by decide) ?_
      exact hR _ _ _ _ (by decide +kernel) ⟨Or.inl ⟨rfl, h1, h2⟩, rfl⟩ dX0_hasVertex_17
set_option maxHeartbeats 4000000 in
set_option maxRecDepth 100000 in
theorem c_X0_hasEdge (l : Launch) (E : gm_E) (σ : gm_S) (e : Int32) : gm_MI l E yX0_hasEdge (.code yX0_hasEdge cX0_hasEdge 2 (some .boolean) :: gw_T) { frames := 0, cells := 0, slots := 0, locals := 0 } [.ref (E.2.2 1), .int e] σ (fun r σ2 => (r = 1 ∧ gE_has (σ.1 1 2) e ∨ r = 0 ∧ ¬ gE_has (σ.1 1 2) e) ∧ σ2 = σ) := by
  refine gm_enterI RX0 (by decide +kernel) rfl rfl (Nat.le_of_ble_eq_true rfl) (gm_c1_ok rfl) ?_
  intro X hC hR
  show gm_G X E 2 0 [some (.ref (E.2.2 1)), some (.int e)] [] σ
  refine gi_ildn hC dX0_hasEdge_0 rfl ?_
  refine gi_if_lt hC 26 dX0_hasEdge_1 (by decide) (fun h1 => ?_) (fun h1 => ?_)
  · refine gi_const hC (v := 0) dX0_hasEdge_26 (by decide) ?_
    exact hR _ _ _ _ (by decide +kernel) ⟨Or.inr ⟨rfl, fun h => h.1 h1⟩, rfl⟩ dX0_hasEdge_27
  ·
    refine gi_ildn hC dX0_hasEdge_4 rfl ?_
    refine gi_bipush hC (v := 24) dX0_hasEdge_5 (by decide) ?_
    refine gi_icmp_ge hC 26 dX0_hasEdge_7 (by decide) (fun h2 => ?_) (fun h2 => ?_)
    · refine gi_const hC (v := 0) dX0_hasEdge_26 (by decide) ?_
      exact hR _ _ _ _ (by decide +kernel) ⟨Or.inr ⟨rfl, fun h => h.2.1 h2⟩, rfl⟩ dX0_hasEdge_27
    ·
      refine gi_aldn hC dX0_hasEdge_10 rfl ?_
      refine gf_G_present hC gw_51 dX0_hasEdge_11 ?_
      refine gi_ildn hC dX0_hasEdge_14 rfl ?_
      refine gi_ishr hC dX0_hasEdge_15 ?_
      refine gi_const hC (v := 1) dX0_hasEdge_16 (by decide) ?_
      refine gi_iand hC dX0_hasEdge_17 ?_
      refine gi_const hC (v := 1) dX0_hasEdge_18 (by decide) ?_
      refine gi_icmp_ne hC 26 dX0_hasEdge_19 (by decide) (fun h3 => ?_) (fun h3 => ?_)
      · refine gi_const hC (v := 0) dX0_hasEdge_26 (by decide) ?_
        exact hR _ _ _ _ (by decide +kernel) ⟨Or.inr ⟨rfl, fun h => h3 h.2.2⟩, rfl⟩ dX0_hasEdge_27
      ·
        refine gi_const hC (v := 1) dX0_hasEdge_22 (by decide) ?_
        refine gi_goto hC 27 dX0_hasEdge_23 (by decide) ?_
        exact hR _ _ _ _ (by decide +kernel) ⟨Or.inl ⟨rfl, h1, h2, h3⟩, rfl⟩ dX0_hasEdge_27
set_option maxHeartbeats 4000000 in
set_option maxRecDepth 100000 in
theorem c_X0_leastFree (l : Launch) (E : gm_E) (σ : gm_S) : gm_MI l E yX0_leastFree (.code yX0_leastFree cX0_leastFree 2 (some .int) :: gw_T) { frames := 1, cells := 0, slots := 0, locals := 21 } [.ref (E.2.2 1)] σ (fun r σ2 => σ2 = σ ∧ ((∃ j, j < 24 ∧ r = nI j ∧ bt (σ.1 1 2) j = false ∧ ∀ i, i < j → bt (σ.1 1 2) i = true) ∨ (r = -1 ∧ ∀ i, i < 24 → bt (σ.1 1 2) i = true))) := by
  refine gm_enterI RX0 (by decide +kernel) rfl rfl (Nat.le_of_ble_eq_true rfl) (gm_c1_ok rfl) ?_
  intro X hC hR
  show gm_G X E 2 0 [some (.ref (E.2.2 1)), none] [] σ
  have L : ∀ n i, i + n = 24 → (∀ j, j < i → bt (σ.1 1 2) j = true) → gm_G X E 2 2 [some (.ref (E.2.2 1)), some (.int (nI i))] [] σ := by
    intro n
    induction n with
    | zero =>
      intro i hi hb
      have hi : i = 24 := by omega
      subst hi
      refine gi_ildn hC dX0_leastFree_2 rfl ?_
      refine gi_bipush hC (v := 24) dX0_leastFree_3 (by decide) ?_
      refine gi_icmp_ge hC 24 dX0_leastFree_5 (by decide) (fun h1 => ?_) (fun h1 => ?_)
      ·
        refine gi_const hC (v := -1) dX0_leastFree_24 (by decide) ?_
        exact hR _ _ _ _ rfl ⟨rfl, Or.inr ⟨rfl, hb⟩⟩ dX0_leastFree_25
      · exact absurd (Int32.le_refl _) h1
    | succ n ih =>
      intro i hi hb
      refine gi_ildn hC dX0_leastFree_2 rfl ?_
      refine gi_bipush hC (v := 24) dX0_leastFree_3 (by decide) ?_
      refine gi_icmp_ge hC 24 dX0_leastFree_5 (by decide) (fun h1 => ?_) (fun h1 => ?_)
      · exact absurd h1 (nI_ge (a := i) (b := 24) (by omega) (by omega))
      ·
        refine gi_aldn hC dX0_leastFree_8 rfl ?_
        refine gi_ildn hC dX0_leastFree_9 rfl ?_
        refine gk_VI (n := 1) hC (fun l => c_X0_hasEdge l E σ (nI i)) (gm_o0 E) rfl (gw_V gw_166 gw_167 gw_168 gw_24 gw_169) rfl ⟨rfl, rfl⟩ rfl (by decide +kernel) ⟨by decide, by decide⟩ (Nat.le_of_ble_eq_true rfl) dX0_leastFree_10 (fun r σ2 hq => ?_)
        obtain ⟨hq, rfl⟩ := hq
        refine gi_if_ne hC 18 dX0_leastFree_13 (by decide) (fun h2 => ?_) (fun h2 => ?_)
        ·
          have hbi : bt (σ2.1 1 2) i = true := by
            rcases hq with ⟨-, g⟩ | ⟨g, -⟩
            · exact (gE_has_nI (by omega)).mp g
            · exact absurd g h2
          refine gi_iinc_1 hC dX0_leastFree_18 (nI_1 i) (by decide) ?_
          refine gi_goto hC 2 dX0_leastFree_21 (by decide) ?_
          exact ih (i + 1) (by omega) (fun j hj => by
            rcases Nat.lt_or_ge j i with q | q
            · exact hb j q
            · rw [show j = i by omega]; exact hbi)
        ·
          have hbi : bt (σ2.1 1 2) i = false := by
            rcases hq with ⟨g, -⟩ | ⟨-, g⟩
            · rw [g] at h2; exact absurd h2 (by decide)
            · cases hbb : bt (σ2.1 1 2) i
              · rfl
              · exact absurd ((gE_has_nI (by omega)).mpr hbb) g
          refine gi_ildn hC dX0_leastFree_16 rfl ?_
          exact hR _ _ _ _ rfl ⟨rfl, Or.inl ⟨i, by omega, rfl, hbi, hb⟩⟩ dX0_leastFree_17
  refine gi_const hC (v := 0) dX0_leastFree_0 (by decide) ?_
  refine gi_istn_1 hC dX0_leastFree_1 (by decide) ?_
  exact L 24 0 rfl (fun j hj => absurd hj (Nat.not_lt_zero j))
end
section
/-! A ROOTED FOREST: pure words, and its methods -/
def fr_rep (σ : gm_S) (x : Nat) (par eup : Nat → Option Nat) : Prop := ∀ j, j < 10 → σ.2 (x + 1) j = oI (par j) ∧ (∀ m, par j = some m → m < 10) ∧ bm (σ.2 (x + 2) j) (fun i => decide (eup j = some i)) ∧ ∀ e, eup j = some e → e < 24
def wm_up (par : Nat → Option Nat) : Nat → Option Nat → (Nat → Bool) → (Nat → Bool)
  | 0, _, S => S
  | _ + 1, none, S => S
  | n + 1, some v, S => wm_up par n (par v) (fun i => S i || decide (i = v))
def wm_lo (par eup : Nat → Option Nat) (A : Nat → Bool) : Nat → Option Nat → (Nat → Bool) → Option Nat × (Nat → Bool)
  | 0, m, S => (m, S)
  | _ + 1, none, S => (none, S)
  | n + 1, some v, S => if A v then (some v, S) else wm_lo par eup A n (par v) (fun i => S i || decide (eup v = some i))
def wm_en (par eup : Nat → Option Nat) (t : Nat) : Nat → Option Nat → (Nat → Bool) → (Nat → Bool)
  | 0, _, S => S
  | _ + 1, none, S => S
  | n + 1, some v, S => if v = t then S else wm_en par eup t n (par v) (fun i => S i || decide (eup v = some i))
def wm (par eup : Nat → Option Nat) (a b : Nat) : Option (Nat → Bool) := match wm_lo par eup (wm_up par 10 (some a) (fun _ => false)) 10 (some b) (fun _ => false) with
  | (none, _) => none
  | (some t, S) => some (wm_en par eup t 10 (some a) S)
/-- what the way's answer is, as an int -/
def wm_is (r : Int32) (w : Option (Nat → Bool)) : Prop := match w with
  | none => r = -1
  | some S => bm r S
def lk (n : Nat) (q : (Nat → Option Nat) × (Nat → Option Nat)) (c np ne : Option Nat) : (Nat → Option Nat) × (Nat → Option Nat) := match n, c with
  | 0, _ => q
  | _ + 1, none => q
  | n + 1, some v => lk n (va_up q.1 v np, va_up q.2 v ne) (q.1 v) (some v) (q.2 v)
/-- what stays: all fields, all rows but those of R -/
def gm_kp (σ σ' : gm_S) (R : Nat → Prop) : Prop := σ'.1 = σ.1 ∧ ∀ y, ¬ R y → σ'.2 y = σ.2 y
theorem gm_kp_rf {σ : gm_S} {R : Nat → Prop} : gm_kp σ σ R := ⟨rfl, fun _ _ => rfl⟩
theorem gm_kp_tr {σ σ2 σ3 : gm_S} {R : Nat → Prop} (h : gm_kp σ σ2 R) (g : gm_kp σ2 σ3 R) : gm_kp σ σ3 R := ⟨g.1.trans h.1, fun y hy => (g.2 y hy).trans (h.2 y hy)⟩
theorem gm_kp_ar {σ : gm_S} {R : Nat → Prop} {x j : Nat} {v : Int32} (h : R x) : gm_kp σ (gm_ar σ x j v) R := ⟨rfl, fun y hy => va_up_ne _ _ (fun e => hy (e ▸ h))⟩
theorem oI_in {r : Option Nat} {n : Nat} (h : ∀ m, r = some m → m < n) (hn : n ≤ 2 ^ 31) : ∀ m, r = some m → m < 2 ^ 31 := fun m hm => Nat.lt_of_lt_of_le (h m hm) hn
theorem fr_bm0 {e : Option Nat} {x : Int32} (h : bm x (fun i => decide (e = some i))) (he : ∀ i, e = some i → i < 24) : x = 0 ↔ e = none := by
  constructor
  · intro h0
    cases e with
    | none => rfl
    | some i =>
      have hi := he i rfl
      have := h i (by omega)
      rw [h0, b_0] at this
      simp at this
  · rintro rfl
    exact b_zero.mpr fun i hi => by rw [h i hi]; simp
theorem fr_bmi {e f : Option Nat} {x y : Int32} (h : bm x (fun i => decide (e = some i))) (g : bm y (fun i => decide (f = some i))) (he : ∀ i, e = some i → i < 24) (hf : ∀ i, f = some i → i < 24) : x = y ↔ e = f := by
  constructor
  · intro hxy
    subst hxy
    cases e with
    | none =>
      cases f with
      | none => rfl
      | some j => have hj := hf j rfl; have := (h j (by omega)).symm.trans (g j (by omega)); simp at this
    | some i =>
      have hi := he i rfl
      have := (h i (by omega)).symm.trans (g i (by omega))
      simp at this
      exact this.symm
  · rintro rfl
    exact bm_inj h g
set_option maxHeartbeats 4000000 in
set_option maxRecDepth 100000 in
theorem c_X2_way (l : Launch) (E : gm_E) {kk ii : Nat} (hk : kk < 7) (hi : ii < kk) (σ : gm_S) (par eup : Nat → Option Nat) (hp : fr_rep σ (gm_P kk + 5 + 3 * ii) par eup) (a b : Nat) (ha : a < 10) (hb : b < 10) : gm_MI l E yX2_way (.code yX2_way cX2_way 8 (some .int) :: gw_T) { frames := 0, cells := 0, slots := 0, locals := 0 } [.ref (E.2.2 (gm_P kk + 5 + 3 * ii)), .int (nI a), .int (nI b)] σ (fun r σ2 => wm_is r (wm par eup a b) ∧ σ2 = σ) := by
  refine gm_enterI RX2 (by decide +kernel) rfl rfl (Nat.le_of_ble_eq_true rfl) (gm_c1_ok rfl) ?_
  intro X hC hR
  show gm_G X E 8 0 [some (.ref (E.2.2 (gm_P kk + 5 + 3 * ii))), some (.int (nI a)), some (.int (nI b)), none, none, none, none, none] [] σ
  have L3 : ∀ n i (t : Nat) (v : Option Nat) (ed : Int32) (S : Nat → Bool) (w3 : Option Value), i + n = 10 → t < 10 → (∀ m, v = some m → m < 10) → bm ed S → wm par eup a b = some (wm_en par eup t n v S) → gm_G X E 8 112 [some (.ref (E.2.2 (gm_P kk + 5 + 3 * ii))), some (.int (nI a)), some (.int (nI b)), w3, some (.int (oI v)), some (.int ed), some (.int (nI t)), some (.int (nI i))] [] σ := by
    intro n
    induction n with
    | zero =>
      intro i t v ed S w3 hi10 ht hv hed hw
      have hi10 : i = 10 := by omega
      subst hi10
      refine gi_ild hC dX2_way_112 rfl ?_
      refine gi_bipush hC (v := 10) dX2_way_114 (by decide) ?_
      refine gi_icmp_ge hC 158 dX2_way_116 (by decide) (fun h1 => ?_) (fun h1 => ?_)
      ·
        refine gi_ild hC dX2_way_158 rfl ?_
        exact hR _ _ _ _ rfl ⟨by rw [hw]; exact hed, rfl⟩ dX2_way_160
      · exact absurd (Int32.le_refl _) h1
    | succ n ih =>
      intro i t v ed S w3 hi10 ht hv hed hw
      refine gi_ild hC dX2_way_112 rfl ?_
      refine gi_bipush hC (v := 10) dX2_way_114 (by decide) ?_
      refine gi_icmp_ge hC 158 dX2_way_116 (by decide) (fun h1 => ?_) (fun h1 => ?_)
      · exact absurd h1 (nI_ge (a := i) (b := 10) (by omega) (by omega))
      ·
        refine gi_ild hC dX2_way_119 rfl ?_
        refine gi_if_lt hC 158 dX2_way_121 (by decide) (fun h2 => ?_) (fun h2 => ?_)
        ·
          have hvn := (oI_neg (oI_in hv (by decide))).mp h2
          subst hvn
          refine gi_ild hC dX2_way_158 rfl ?_
          exact hR _ _ _ _ rfl ⟨by rw [hw]; exact hed, rfl⟩ dX2_way_160
        ·
          obtain ⟨m, rfl⟩ : ∃ m, v = some m := by
            cases v with
            | none => exact absurd (by show (-1 : Int32) < 0; decide) h2
            | some m => exact ⟨m, rfl⟩
          have hm := hv m rfl
          obtain ⟨p1, p2, p3, p4⟩ := hp m hm
          refine gi_ild hC dX2_way_124 rfl ?_
          refine gi_ild hC dX2_way_126 rfl ?_
          refine gi_icmp_eq hC 158 dX2_way_128 (by decide) (fun h3 => ?_) (fun h3 => ?_)
          ·
            have hmt : m = t := (nI_eq (by omega) (by omega)).mp h3
            have hw : wm par eup a b = some S := by rw [hw, wm_en, if_pos hmt]
            refine gi_ild hC dX2_way_158 rfl ?_
            exact hR _ _ _ _ rfl ⟨by rw [hw]; exact hed, rfl⟩ dX2_way_160
          ·
            have hmt : m ≠ t := fun q => h3 (by rw [q]; rfl)
            refine gi_ild hC dX2_way_131 rfl ?_
            refine gi_aldn hC dX2_way_133 rfl ?_
            refine gf_F_edgeUp hC hk hi gw_83 dX2_way_134 ?_
            refine gi_ild hC dX2_way_137 rfl ?_
            refine gi_iald hC (gm_iU E hk hi 2 (by decide) (by decide)) (j := m) hm rfl (by decide) dX2_way_139 ?_
            refine gi_ior hC dX2_way_140 ?_
            refine gi_ist_5 hC dX2_way_141 (by decide) ?_
            refine gi_aldn hC dX2_way_143 rfl ?_
            refine gf_F_parent hC hk hi gw_82 dX2_way_144 ?_
            refine gi_ild hC dX2_way_147 rfl ?_
            refine gi_iald hC (gm_iU E hk hi 1 (by decide) (by decide)) (j := m) hm rfl (by decide) dX2_way_149 ?_
            refine gi_ist_4 hC dX2_way_150 (by decide) ?_
            refine gi_iinc_7 hC dX2_way_152 (nI_1 i) (by decide) ?_
            refine gi_goto hC 112 dX2_way_155 (by decide) ?_
            rw [p1]
            exact ih (i + 1) t (par m) _ _ _ (by omega) ht p2 (bm_or hed p3) (by rw [hw, wm_en, if_neg hmt])
  have L2 : ∀ n i (v : Option Nat) (ab ed v4 : Int32) (A S : Nat → Bool), i + n = 10 → (∀ m, v = some m → m < 10) → bm ab A → bm ed S → wm par eup a b = (match wm_lo par eup A n v S with | (none, _) => none | (some t, S2) => some (wm_en par eup t 10 (some a) S2)) → gm_G X E 8 51 [some (.ref (E.2.2 (gm_P kk + 5 + 3 * ii))), some (.int (nI a)), some (.int (nI b)), some (.int ab), some (.int v4), some (.int ed), some (.int (oI v)), some (.int (nI i))] [] σ := by
    intro n
    induction n with
    | zero =>
      intro i v ab ed v4 A S hi10 hv hab hed hw
      have hi10 : i = 10 := by omega
      subst hi10
      rw [wm_lo] at hw
      refine gi_ild hC dX2_way_51 rfl ?_
      refine gi_bipush hC (v := 10) dX2_way_53 (by decide) ?_
      refine gi_icmp_ge hC 99 dX2_way_55 (by decide) (fun h1 => ?_) (fun h1 => ?_)
      ·
        refine gi_ild hC dX2_way_99 rfl ?_
        refine gi_if_ge hC 106 dX2_way_101 (by decide) (fun h9 => ?_) (fun h9 => ?_)
        ·
          obtain ⟨t, rfl⟩ : ∃ t, v = some t := by
            cases v with
            | none => exact absurd h9 (by show ¬ (0 : Int32) ≤ -1; decide)
            | some t => exact ⟨t, rfl⟩
          refine gi_ildn hC dX2_way_106 rfl ?_
          refine gi_ist_4 hC dX2_way_107 (by decide) ?_
          refine gi_const hC (v := 0) dX2_way_109 (by decide) ?_
          refine gi_ist_7 hC dX2_way_110 (by decide) ?_
          exact L3 10 0 t (some a) ed S _ rfl (hv t rfl) (fun m hm => by cases hm; exact ha) hed hw
        ·
          have hvn : v = none := by
            cases v with
            | none => rfl
            | some t => exact absurd (nI_pos' (Nat.lt_of_lt_of_le (hv t rfl) (by decide))) h9
          subst hvn
          refine gi_const hC (v := -1) dX2_way_104 (by decide) ?_
          exact hR _ _ _ _ rfl ⟨by rw [hw]; rfl, rfl⟩ dX2_way_105
      · exact absurd (Int32.le_refl _) h1
    | succ n ih =>
      intro i v ab ed v4 A S hi10 hv hab hed hw
      refine gi_ild hC dX2_way_51 rfl ?_
      refine gi_bipush hC (v := 10) dX2_way_53 (by decide) ?_
      refine gi_icmp_ge hC 99 dX2_way_55 (by decide) (fun h1 => ?_) (fun h1 => ?_)
      · exact absurd h1 (nI_ge (a := i) (b := 10) (by omega) (by omega))
      ·
        refine gi_ild hC dX2_way_58 rfl ?_
        refine gi_if_lt hC 99 dX2_way_60 (by decide) (fun h2 => ?_) (fun h2 => ?_)
        ·
          have hvn := (oI_neg (oI_in hv (by decide))).mp h2
          subst hvn
          rw [wm_lo] at hw
          obtain ⟨v, hvv⟩ : ∃ v : Option Nat, v = none := ⟨_, rfl⟩
          rw [← hvv] at hw hv h2 ⊢
          refine gi_ild hC dX2_way_99 rfl ?_
          refine gi_if_ge hC 106 dX2_way_101 (by decide) (fun h9 => ?_) (fun h9 => ?_)
          ·
            obtain ⟨t, rfl⟩ : ∃ t, v = some t := by
              cases v with
              | none => exact absurd h9 (by show ¬ (0 : Int32) ≤ -1; decide)
              | some t => exact ⟨t, rfl⟩
            refine gi_ildn hC dX2_way_106 rfl ?_
            refine gi_ist_4 hC dX2_way_107 (by decide) ?_
            refine gi_const hC (v := 0) dX2_way_109 (by decide) ?_
            refine gi_ist_7 hC dX2_way_110 (by decide) ?_
            exact L3 10 0 t (some a) ed S _ rfl (hv t rfl) (fun m hm => by cases hm; exact ha) hed hw
          ·
            have hvn : v = none := by
              cases v with
              | none => rfl
              | some t => exact absurd (nI_pos' (Nat.lt_of_lt_of_le (hv t rfl) (by decide))) h9
            subst hvn
            refine gi_const hC (v := -1) dX2_way_104 (by decide) ?_
            exact hR _ _ _ _ rfl ⟨by rw [hw]; rfl, rfl⟩ dX2_way_105
        ·
          obtain ⟨m, rfl⟩ : ∃ m, v = some m := by
            cases v with
            | none => exact absurd (by show (-1 : Int32) < 0; decide) h2
            | some m => exact ⟨m, rfl⟩
          have hm := hv m rfl
          obtain ⟨p1, p2, p3, p4⟩ := hp m hm
          refine gi_ildn hC dX2_way_63 rfl ?_
          refine gi_ild hC dX2_way_64 rfl ?_
          refine gi_ishr hC dX2_way_66 ?_
          refine gi_const hC (v := 1) dX2_way_67 (by decide) ?_
          refine gi_iand hC dX2_way_68 ?_
          refine gi_if_ne hC 99 dX2_way_69 (by decide) (fun h3 => ?_) (fun h3 => ?_)
          ·
            have hAm : A m = true := by
              rw [show ((ab >>> (oI (some m) &&& 31)) &&& 1) = if A m then 1 else 0 from bm_tst hab (by omega)] at h3
              cases hA : A m
              · rw [hA] at h3; exact absurd rfl h3
              · rfl
            rw [wm_lo, if_pos hAm] at hw
            obtain ⟨v, hvv⟩ : ∃ v : Option Nat, v = some m := ⟨_, rfl⟩
            rw [← hvv] at hw hv h2 ⊢
            refine gi_ild hC dX2_way_99 rfl ?_
            refine gi_if_ge hC 106 dX2_way_101 (by decide) (fun h9 => ?_) (fun h9 => ?_)
            ·
              obtain ⟨t, rfl⟩ : ∃ t, v = some t := by
                cases v with
                | none => exact absurd h9 (by show ¬ (0 : Int32) ≤ -1; decide)
                | some t => exact ⟨t, rfl⟩
              refine gi_ildn hC dX2_way_106 rfl ?_
              refine gi_ist_4 hC dX2_way_107 (by decide) ?_
              refine gi_const hC (v := 0) dX2_way_109 (by decide) ?_
              refine gi_ist_7 hC dX2_way_110 (by decide) ?_
              exact L3 10 0 t (some a) ed S _ rfl (hv t rfl) (fun m hm => by cases hm; exact ha) hed hw
            ·
              have hvn : v = none := by
                cases v with
                | none => rfl
                | some t => exact absurd (nI_pos' (Nat.lt_of_lt_of_le (hv t rfl) (by decide))) h9
              subst hvn
              refine gi_const hC (v := -1) dX2_way_104 (by decide) ?_
              exact hR _ _ _ _ rfl ⟨by rw [hw]; rfl, rfl⟩ dX2_way_105
          ·
            have hAm : A m = false := by
              rw [show ((ab >>> (oI (some m) &&& 31)) &&& 1) = if A m then 1 else 0 from bm_tst hab (by omega)] at h3
              cases hA : A m
              · rfl
              · rw [hA] at h3; exact absurd h3 (by decide)
            rw [wm_lo, hAm] at hw
            refine gi_ild hC dX2_way_72 rfl ?_
            refine gi_aldn hC dX2_way_74 rfl ?_
            refine gf_F_edgeUp hC hk hi gw_83 dX2_way_75 ?_
            refine gi_ild hC dX2_way_78 rfl ?_
            refine gi_iald hC (gm_iU E hk hi 2 (by decide) (by decide)) (j := m) hm rfl (by decide) dX2_way_80 ?_
            refine gi_ior hC dX2_way_81 ?_
            refine gi_ist_5 hC dX2_way_82 (by decide) ?_
            refine gi_aldn hC dX2_way_84 rfl ?_
            refine gf_F_parent hC hk hi gw_82 dX2_way_85 ?_
            refine gi_ild hC dX2_way_88 rfl ?_
            refine gi_iald hC (gm_iU E hk hi 1 (by decide) (by decide)) (j := m) hm rfl (by decide) dX2_way_90 ?_
            refine gi_ist_6 hC dX2_way_91 (by decide) ?_
            refine gi_iinc_7 hC dX2_way_93 (nI_1 i) (by decide) ?_
            refine gi_goto hC 51 dX2_way_96 (by decide) ?_
            rw [p1]
            exact ih (i + 1) (par m) ab _ _ A _ (by omega) p2 hab (bm_or hed p3) hw
  have L1 : ∀ n i (v : Option Nat) (ab : Int32) (A : Nat → Bool) (w6 w7 : Option Value), i + n = 10 → (∀ m, v = some m → m < 10) → bm ab A → wm_up par 10 (some a) (fun _ => false) = wm_up par n v A → gm_G X E 8 8 [some (.ref (E.2.2 (gm_P kk + 5 + 3 * ii))), some (.int (nI a)), some (.int (nI b)), some (.int ab), some (.int (oI v)), some (.int (nI i)), w6, w7] [] σ := by
    intro n
    induction n with
    | zero =>
      intro i v ab A w6 w7 hi10 hv hab hw
      have hi10 : i = 10 := by omega
      subst hi10
      rw [wm_up] at hw
      refine gi_ild hC dX2_way_8 rfl ?_
      refine gi_bipush hC (v := 10) dX2_way_10 (by decide) ?_
      refine gi_icmp_ge hC 42 dX2_way_12 (by decide) (fun h1 => ?_) (fun h1 => ?_)
      ·
        refine gi_const hC (v := 0) dX2_way_42 (by decide) ?_
        refine gi_ist_5 hC dX2_way_43 (by decide) ?_
        refine gi_ildn hC dX2_way_45 rfl ?_
        refine gi_ist_6 hC dX2_way_46 (by decide) ?_
        refine gi_const hC (v := 0) dX2_way_48 (by decide) ?_
        refine gi_ist_7 hC dX2_way_49 (by decide) ?_
        exact L2 10 0 (some b) ab 0 _ A (fun _ => false) rfl (fun m hm => by cases hm; exact hb) hab bm_0 (by rw [wm, hw])
      · exact absurd (Int32.le_refl _) h1
    | succ n ih =>
      intro i v ab A w6 w7 hi10 hv hab hw
      refine gi_ild hC dX2_way_8 rfl ?_
      refine gi_bipush hC (v := 10) dX2_way_10 (by decide) ?_
      refine gi_icmp_ge hC 42 dX2_way_12 (by decide) (fun h1 => ?_) (fun h1 => ?_)
      · exact absurd h1 (nI_ge (a := i) (b := 10) (by omega) (by omega))
      ·
        refine gi_ild hC dX2_way_15 rfl ?_
        refine gi_if_lt hC 42 dX2_way_17 (by decide) (fun h2 => ?_) (fun h2 => ?_)
        ·
          have hvn := (oI_neg (oI_in hv (by decide))).mp h2
          subst hvn
          rw [wm_up] at hw
          refine gi_const hC (v := 0) dX2_way_42 (by decide) ?_
          refine gi_ist_5 hC dX2_way_43 (by decide) ?_
          refine gi_ildn hC dX2_way_45 rfl ?_
          refine gi_ist_6 hC dX2_way_46 (by decide) ?_
          refine gi_const hC (v := 0) dX2_way_48 (by decide) ?_
          refine gi_ist_7 hC dX2_way_49 (by decide) ?_
          exact L2 10 0 (some b) ab 0 _ A (fun _ => false) rfl (fun m hm => by cases hm; exact hb) hab bm_0 (by rw [wm, hw])
        ·
          obtain ⟨m, rfl⟩ : ∃ m, v = some m := by
            cases v with
            | none => exact absurd (by show (-1 : Int32) < 0; decide) h2
            | some m => exact ⟨m, rfl⟩
          have hm := hv m rfl
          obtain ⟨p1, p2, p3, p4⟩ := hp m hm
          rw [wm_up] at hw
          refine gi_ildn hC dX2_way_20 rfl ?_
          refine gi_const hC (v := 1) dX2_way_21 (by decide) ?_
          refine gi_ild hC dX2_way_22 rfl ?_
          refine gi_ishl hC dX2_way_24 ?_
          refine gi_ior hC dX2_way_25 ?_
          refine gi_istn_3 hC dX2_way_26 (by decide) ?_
          refine gi_aldn hC dX2_way_27 rfl ?_
          refine gf_F_parent hC hk hi gw_82 dX2_way_28 ?_
          refine gi_ild hC dX2_way_31 rfl ?_
          refine gi_iald hC (gm_iU E hk hi 1 (by decide) (by decide)) (j := m) hm rfl (by decide) dX2_way_33 ?_
          refine gi_ist_4 hC dX2_way_34 (by decide) ?_
          refine gi_iinc_5 hC dX2_way_36 (nI_1 i) (by decide) ?_
          refine gi_goto hC 8 dX2_way_39 (by decide) ?_
          rw [p1]
          exact ih (i + 1) (par m) _ _ _ _ (by omega) p2 (bm_or hab (bm_pow (by omega))) hw
  refine gi_const hC (v := 0) dX2_way_0 (by decide) ?_
  refine gi_istn_3 hC dX2_way_1 (by decide) ?_
  refine gi_ildn hC dX2_way_2 rfl ?_
  refine gi_ist_4 hC dX2_way_3 (by decide) ?_
  refine gi_const hC (v := 0) dX2_way_5 (by decide) ?_
  refine gi_ist_5 hC dX2_way_6 (by decide) ?_
  exact L1 10 0 (some a) 0 (fun _ => false) _ _ rfl (fun m hm => by cases hm; exact ha) bm_0 rfl
set_option maxHeartbeats 4000000 in
set_option maxRecDepth 100000 in
theorem c_X2_unlink (l : Launch) (E : gm_E) {kk ii : Nat} (hk : kk < 7) (hi : ii < kk) (σ : gm_S) (par eup : Nat → Option Nat) (hp : fr_rep σ (gm_P kk + 5 + 3 * ii) par eup) (e a b : Nat) (x : Int32) (he : e < 24) (hx : bm x (fun i => decide (some e = some i))) (ha : a < 10) (hb : b < 10) : gm_MV l E yX2_unlink (.code yX2_unlink cX2_unlink 5 none :: gw_T) { frames := 0, cells := 0, slots := 0, locals := 0 } [.ref (E.2.2 (gm_P kk + 5 + 3 * ii)), .int x, .int (nI a), .int (nI b)] σ (fun σ2 => gm_kp σ σ2 (fun y => y = gm_P kk + 5 + 3 * ii + 1 ∨ y = gm_P kk + 5 + 3 * ii + 2) ∧ fr_rep σ2 (gm_P kk + 5 + 3 * ii) (va_up par (if eup a = some e then a else b) none) (va_up eup (if eup a = some e then a else b) none)) := by
  refine gm_enterV RX2 (by decide +kernel) rfl rfl (Nat.le_of_ble_eq_true rfl) (gm_c1_ok rfl) ?_
  intro X hC hR
  show gm_G X E 5 0 [some (.ref (E.2.2 (gm_P kk + 5 + 3 * ii))), some (.int x), some (.int (nI a)), some (.int (nI b)), none] [] σ
  have K : ∀ c : Nat, c < 10 → c = (if eup a = some e then a else b) → ∀ w4 : Option Value, gm_G X E 5 15 [some (.ref (E.2.2 (gm_P kk + 5 + 3 * ii))), some (.int x), some (.int (nI a)), some (.int (nI b)), w4] [.int (nI c)] σ := by
    intro c hc hce w4
    refine gi_ist_4 hC dX2_unlink_15 (by decide) ?_
    refine gi_aldn hC dX2_unlink_17 rfl ?_
    refine gf_F_parent hC hk hi gw_82 dX2_unlink_18 ?_
    refine gi_ild hC dX2_unlink_21 rfl ?_
    refine gi_const hC (v := -1) dX2_unlink_23 (by decide) ?_
    refine gi_iast hC (gm_iU E hk hi 1 (by decide) (by decide)) (j := c) hc rfl (by decide) dX2_unlink_24 ?_
    refine gi_aldn hC dX2_unlink_25 rfl ?_
    refine gf_F_edgeUp hC hk hi gw_83 dX2_unlink_26 ?_
    refine gi_ild hC dX2_unlink_29 rfl ?_
    refine gi_const hC (v := 0) dX2_unlink_31 (by decide) ?_
    refine gi_iast hC (gm_iU E hk hi 2 (by decide) (by decide)) (j := c) hc rfl (by decide) dX2_unlink_32 ?_
    refine hR _ _ _ ⟨gm_kp_tr (gm_kp_ar (Or.inl rfl)) (gm_kp_ar (Or.inr rfl)), ?_⟩ dX2_unlink_33
    rw [← hce]
    intro j hj
    obtain ⟨p1, p2, p3, p4⟩ := hp j hj
    have e1 : (gm_ar (gm_ar σ (gm_P kk + 5 + 3 * ii + 1) c (-1)) (gm_P kk + 5 + 3 * ii + 2) c 0).2 (gm_P kk + 5 + 3 * ii + 1) j = upd (σ.2 (gm_P kk + 5 + 3 * ii + 1)) c (-1) j := by
      simp only [gm_ar]
      rw [va_up_ne _ _ (by omega), va_up_self]
    have e2 : (gm_ar (gm_ar σ (gm_P kk + 5 + 3 * ii + 1) c (-1)) (gm_P kk + 5 + 3 * ii + 2) c 0).2 (gm_P kk + 5 + 3 * ii + 2) j = upd (σ.2 (gm_P kk + 5 + 3 * ii + 2)) c 0 j := by
      simp only [gm_ar]
      rw [va_up_self, va_up_ne _ _ (by omega)]
    rw [e1, e2]
    by_cases hjc : j = c
    · subst hjc
      rw [pk_us, pk_us, va_up_self, va_up_self]
      exact ⟨rfl, fun m hm => (by cases hm), fun i _ => (by rw [b_0]; simp), fun m hm => (by cases hm)⟩
    · rw [pk_un hjc, pk_un hjc, va_up_ne _ _ hjc, va_up_ne _ _ hjc]
      exact ⟨p1, p2, p3, p4⟩
  obtain ⟨p1, p2, p3, p4⟩ := hp a ha
  refine gi_aldn hC dX2_unlink_0 rfl ?_
  refine gf_F_edgeUp hC hk hi gw_83 dX2_unlink_1 ?_
  refine gi_ildn hC dX2_unlink_4 rfl ?_
  refine gi_iald hC (gm_iU E hk hi 2 (by decide) (by decide)) (j := a) ha rfl (by decide) dX2_unlink_5 ?_
  refine gi_ildn hC dX2_unlink_6 rfl ?_
  refine gi_icmp_ne hC 14 dX2_unlink_7 (by decide) (fun h1 => ?_) (fun h1 => ?_)
  ·
    refine gi_ildn hC dX2_unlink_14 rfl ?_
    exact K b hb (by rw [if_neg]; exact fun q => h1 ((fr_bmi p3 hx p4 (fun i hi => by cases hi; exact he)).mpr q)) _
  ·
    refine gi_ildn hC dX2_unlink_10 rfl ?_
    refine gi_goto hC 15 dX2_unlink_11 (by decide) ?_
    exact K a ha (by rw [if_pos ((fr_bmi p3 hx p4 (fun i hi => by cases hi; exact he)).mp h1)]) _
set_option maxHeartbeats 4000000 in
set_option maxRecDepth 100000 in
theorem c_X2_link (l : Launch) (E : gm_E) {kk ii : Nat} (hk : kk < 7) (hi : ii < kk) (σ : gm_S) (par eup : Nat → Option Nat) (hp : fr_rep σ (gm_P kk + 5 + 3 * ii) par eup) (e a b : Nat) (x : Int32) (he : e < 24) (hx : bm x (fun i => decide (some e = some i))) (ha : a < 10) (hb : b < 10) : gm_MV l E yX2_link (.code yX2_link cX2_link 10 none :: gw_T) { frames := 0, cells := 0, slots := 0, locals := 0 } [.ref (E.2.2 (gm_P kk + 5 + 3 * ii)), .int x, .int (nI a), .int (nI b)] σ (fun σ2 => gm_kp σ σ2 (fun y => y = gm_P kk + 5 + 3 * ii + 1 ∨ y = gm_P kk + 5 + 3 * ii + 2) ∧ fr_rep σ2 (gm_P kk + 5 + 3 * ii) (lk 10 (par, eup) (some b) (some a) (some e)).1 (lk 10 (par, eup) (some b) (some a) (some e)).2) := by
  refine gm_enterV RX2 (by decide +kernel) rfl rfl (Nat.le_of_ble_eq_true rfl) (gm_c1_ok rfl) ?_
  intro X hC hR
  show gm_G X E 10 0 [some (.ref (E.2.2 (gm_P kk + 5 + 3 * ii))), some (.int x), some (.int (nI a)), some (.int (nI b)), none, none, none, none, none, none] [] σ
  have L : ∀ n i (σ2 : gm_S) (q : (Nat → Option Nat) × (Nat → Option Nat)) (c np ne : Option Nat) (y : Int32) (w8 w9 : Option Value), i + n = 10 → gm_kp σ σ2 (fun y => y = gm_P kk + 5 + 3 * ii + 1 ∨ y = gm_P kk + 5 + 3 * ii + 2) → fr_rep σ2 (gm_P kk + 5 + 3 * ii) q.1 q.2 → (∀ m, c = some m → m < 10) → (∀ m, np = some m → m < 10) → (∀ m, ne = some m → m < 24) → bm y (fun i => decide (ne = some i)) → lk 10 (par, eup) (some b) (some a) (some e) = lk n q c np ne → gm_G X E 10 12 [some (.ref (E.2.2 (gm_P kk + 5 + 3 * ii))), some (.int x), some (.int (nI a)), some (.int (nI b)), some (.int (oI c)), some (.int (oI np)), some (.int y), some (.int (nI i)), w8, w9] [] σ2 := by
    intro n
    induction n with
    | zero =>
      intro i σ2 q c np ne y w8 w9 hi10 hkp hq hc hnp hne hy hw
      have hi10 : i = 10 := by omega
      subst hi10
      rw [lk] at hw
      refine gi_ild hC dX2_link_12 rfl ?_
      refine gi_bipush hC (v := 10) dX2_link_14 (by decide) ?_
      refine gi_icmp_ge hC 78 dX2_link_16 (by decide) (fun h1 => ?_) (fun h1 => ?_)
      · exact hR _ _ _ ⟨hkp, by rw [hw]; exact hq⟩ dX2_link_78
      · exact absurd (Int32.le_refl _) h1
    | succ n ih =>
      intro i σ2 q c np ne y w8 w9 hi10 hkp hq hc hnp hne hy hw
      refine gi_ild hC dX2_link_12 rfl ?_
      refine gi_bipush hC (v := 10) dX2_link_14 (by decide) ?_
      refine gi_icmp_ge hC 78 dX2_link_16 (by decide) (fun h1 => ?_) (fun h1 => ?_)
      · exact absurd h1 (nI_ge (a := i) (b := 10) (by omega) (by omega))
      ·
        refine gi_ild hC dX2_link_19 rfl ?_
        refine gi_if_lt hC 78 dX2_link_21 (by decide) (fun h2 => ?_) (fun h2 => ?_)
        ·
          have hcn := (oI_neg (oI_in hc (by decide))).mp h2
          subst hcn
          rw [lk] at hw
          exact hR _ _ _ ⟨hkp, by rw [hw]; exact hq⟩ dX2_link_78
        ·
          obtain ⟨m, rfl⟩ : ∃ m, c = some m := by
            cases c with
            | none => exact absurd (by show (-1 : Int32) < 0; decide) h2
            | some m => exact ⟨m, rfl⟩
          have hm := hc m rfl
          obtain ⟨p1, p2, p3, p4⟩ := hq m hm
          rw [lk] at hw
          refine gi_aldn hC dX2_link_24 rfl ?_
          refine gf_F_parent hC hk hi gw_82 dX2_link_25 ?_
          refine gi_ild hC dX2_link_28 rfl ?_
          refine gi_iald hC (gm_iU E hk hi 1 (by decide) (by decide)) (j := m) hm rfl (by decide) dX2_link_30 ?_
          refine gi_ist_8 hC dX2_link_31 (by decide) ?_
          refine gi_aldn hC dX2_link_33 rfl ?_
          refine gf_F_edgeUp hC hk hi gw_83 dX2_link_34 ?_
          refine gi_ild hC dX2_link_37 rfl ?_
          refine gi_iald hC (gm_iU E hk hi 2 (by decide) (by decide)) (j := m) hm rfl (by decide) dX2_link_39 ?_
          refine gi_ist_9 hC dX2_link_40 (by decide) ?_
          refine gi_aldn hC dX2_link_42 rfl ?_
          refine gf_F_parent hC hk hi gw_82 dX2_link_43 ?_
          refine gi_ild hC dX2_link_46 rfl ?_
          refine gi_ild hC dX2_link_48 rfl ?_
          refine gi_iast hC (gm_iU E hk hi 1 (by decide) (by decide)) (j := m) hm rfl (by decide) dX2_link_50 ?_
          refine gi_aldn hC dX2_link_51 rfl ?_
          refine gf_F_edgeUp hC hk hi gw_83 dX2_link_52 ?_
          refine gi_ild hC dX2_link_55 rfl ?_
          refine gi_ild hC dX2_link_57 rfl ?_
          refine gi_iast hC (gm_iU E hk hi 2 (by decide) (by decide)) (j := m) hm rfl (by decide) dX2_link_59 ?_
          refine gi_ild hC dX2_link_60 rfl ?_
          refine gi_ist_5 hC dX2_link_62 (by decide) ?_
          refine gi_ild hC dX2_link_64 rfl ?_
          refine gi_ist_6 hC dX2_link_66 (by decide) ?_
          refine gi_ild hC dX2_link_68 rfl ?_
          refine gi_ist_4 hC dX2_link_70 (by decide) ?_
          refine gi_iinc_7 hC dX2_link_72 (nI_1 i) (by decide) ?_
          refine gi_goto hC 12 dX2_link_75 (by decide) ?_
          rw [p1]
          refine ih (i + 1) _ (va_up q.1 m np, va_up q.2 m ne) (q.1 m) (some m) (q.2 m) _ _ _ (by omega) (gm_kp_tr hkp (gm_kp_tr (gm_kp_ar (Or.inl rfl)) (gm_kp_ar (Or.inr rfl)))) ?_ p2 hc p4 p3 hw
          intro j hj
          obtain ⟨q1, q2, q3, q4⟩ := hq j hj
          have e1 : (gm_ar (gm_ar σ2 (gm_P kk + 5 + 3 * ii + 1) m (oI np)) (gm_P kk + 5 + 3 * ii + 2) m y).2 (gm_P kk + 5 + 3 * ii + 1) j = upd (σ2.2 (gm_P kk + 5 + 3 * ii + 1)) m (oI np) j := by
            simp only [gm_ar]
            rw [va_up_ne _ _ (by omega), va_up_self]
          have e2 : (gm_ar (gm_ar σ2 (gm_P kk + 5 + 3 * ii + 1) m (oI np)) (gm_P kk + 5 + 3 * ii + 2) m y).2 (gm_P kk + 5 + 3 * ii + 2) j = upd (σ2.2 (gm_P kk + 5 + 3 * ii + 2)) m y j := by
            simp only [gm_ar]
            rw [va_up_self, va_up_ne _ _ (by omega)]
          rw [e1, e2]
          show _ = oI (va_up q.1 m np j) ∧ (∀ m2, va_up q.1 m np j = some m2 → m2 < 10) ∧ bm _ (fun i => decide (va_up q.2 m ne j = some i)) ∧ ∀ e2, va_up q.2 m ne j = some e2 → e2 < 24
          by_cases hjm : j = m
          · subst hjm
            rw [pk_us, pk_us, va_up_self, va_up_self]
            exact ⟨rfl, hnp, hy, hne⟩
          · rw [pk_un hjm, pk_un hjm, va_up_ne _ _ hjm, va_up_ne _ _ hjm]
            exact ⟨q1, q2, q3, q4⟩
  refine gi_ildn hC dX2_link_0 rfl ?_
  refine gi_ist_4 hC dX2_link_1 (by decide) ?_
  refine gi_ildn hC dX2_link_3 rfl ?_
  refine gi_ist_5 hC dX2_link_4 (by decide) ?_
  refine gi_ildn hC dX2_link_6 rfl ?_
  refine gi_ist_6 hC dX2_link_7 (by decide) ?_
  refine gi_const hC (v := 0) dX2_link_9 (by decide) ?_
  refine gi_ist_7 hC dX2_link_10 (by decide) ?_
  exact L 10 0 σ (par, eup) (some b) (some a) (some e) x _ _ rfl gm_kp_rf hp (fun m hm => by cases hm; exact hb) (fun m hm => by cases hm; exact ha) (fun m hm => by cases hm; exact he) hx rfl
end
section
/-! A PACKING: pure words -/
abbrev pq : Type := (Nat → Option Nat) × (Nat → Nat → Option Nat) × (Nat → Nat → Option Nat)
def pk_rep (σ : gm_S) (k : Nat) (q : pq) : Prop := (∀ e, e < 24 → σ.2 (gm_P k + 1) e = oI (q.1 e) ∧ ∀ i, q.1 e = some i → i < k) ∧ ∀ i, i < k → fr_rep σ (gm_P k + 5 + 3 * i) (q.2.1 i) (q.2.2 i)
/-- the ends of the edges, as the graph's rows have them -/
def gL (σ : gm_S) (U V : Nat → Nat) : Prop := ∀ e, e < 24 → σ.2 2 e = nI (U e) ∧ σ.2 3 e = nI (V e) ∧ U e < 10 ∧ V e < 10
def pq_put (U V : Nat → Nat) (q : pq) (e : Nat) (t : Option Nat) : pq := match t with
  | none => q
  | some f => (va_up q.1 e (some f), va_up q.2.1 f (lk 10 (q.2.1 f, q.2.2 f) (some (V e)) (some (U e)) (some e)).1, va_up q.2.2 f (lk 10 (q.2.1 f, q.2.2 f) (some (V e)) (some (U e)) (some e)).2)
def pq_ch (U V : Nat → Nat) (q : pq) (e f : Nat) : Nat := if q.2.2 f (U e) = some e then U e else V e
def pq_rem (U V : Nat → Nat) (q : pq) (e : Nat) : pq := match q.1 e with
  | none => q
  | some f => (va_up q.1 e none, va_up q.2.1 f (va_up (q.2.1 f) (pq_ch U V q e f) none), va_up q.2.2 f (va_up (q.2.2 f) (pq_ch U V q e f) none))
/-- the rows of a packing that its moves write: place, and all rows of its forests -/
def pk_R (k : Nat) (y : Nat) : Prop := y = gm_P k + 1 ∨ (gm_P k + 5 ≤ y ∧ y < gm_P k + 30)
theorem fr_cong {σ σ2 : gm_S} {x : Nat} {par eup : Nat → Option Nat} (h1 : σ2.2 (x + 1) = σ.2 (x + 1)) (h2 : σ2.2 (x + 2) = σ.2 (x + 2)) (h : fr_rep σ x par eup) : fr_rep σ2 x par eup := by
  intro j hj
  rw [h1, h2]
  exact h j hj
theorem gL_cong {σ σ2 : gm_S} {U V : Nat → Nat} (h1 : σ2.2 2 = σ.2 2) (h2 : σ2.2 3 = σ.2 3) (h : gL σ U V) : gL σ2 U V := by
  intro e he
  rw [h1, h2]
  exact h e he
theorem gm_kp_mono {σ σ2 : gm_S} {R T : Nat → Prop} (h : gm_kp σ σ2 R) (hs : ∀ y, R y → T y) : gm_kp σ σ2 T := ⟨h.1, fun y hy => h.2 y (fun z => hy (hs y z))⟩
theorem pk_R_lo {k y : Nat} (h : y < 20) : ¬ pk_R k y := fun q => by unfold pk_R gm_P at q; omega
theorem gL_kp {σ σ2 : gm_S} {U V : Nat → Nat} {k : Nat} (h : gm_kp σ σ2 (pk_R k)) (g : gL σ U V) : gL σ2 U V := gL_cong (h.2 2 (pk_R_lo (by decide))) (h.2 3 (pk_R_lo (by decide))) g
/-! the search: reached, queue, followers -/
abbrev sq : Type := (Nat → Bool) × List Nat × (Nat → Option Nat)
def sr_rep (σ : gm_S) (k : Nat) (s : sq) : Prop := bm (σ.1 (gm_P k) 6) s.1 ∧ σ.1 (gm_P k) 8 = nI s.2.1.length ∧ s.2.1.length ≤ 24 ∧ (∀ i e, s.2.1[i]? = some e → e < 24 ∧ σ.2 (gm_P k + 2) i = nI e) ∧ ∀ e, e < 24 → σ.2 (gm_P k + 3) e = oI (s.2.2 e) ∧ ∀ j, s.2.2 e = some j → j < 24
def rc_lp (S : Nat → Bool) (frm : Option Nat) : Nat → Nat → List Nat → (Nat → Option Nat) → List Nat × (Nat → Option Nat)
  | 0, _, q, f => (q, f)
  | n + 1, e, q, f => if S e = true ∧ q.length < 24 then rc_lp S frm n (e + 1) (q ++ [e]) (va_up f e frm) else rc_lp S frm n (e + 1) q f
def rc (S : Nat → Bool) (frm : Option Nat) (s : sq) : sq := (fun i => s.1 i || S i, rc_lp S frm 24 0 s.2.1 s.2.2)
theorem rc_lp_none (S : Nat → Bool) (frm : Option Nat) : ∀ n e q f, (∀ j, e ≤ j → j < e + n → S j = false) → rc_lp S frm n e q f = (q, f)
  | 0, _, _, _, _ => rfl
  | n + 1, e, q, f, h => by
    rw [rc_lp, if_neg (by rw [h e (Nat.le_refl e) (by omega)]; exact fun z => by cases z.1)]
    exact rc_lp_none S frm n (e + 1) q f (fun j h1 h2 => h j (by omega) (by omega))
def rf_lp (wy : Nat → Option (Nat → Bool)) (fx : Nat → Bool) (frm : Option Nat) : Nat → Nat → sq → Option Nat × sq
  | 0, _, s => (none, s)
  | n + 1, f, s => match wy f with
    | none => (some f, s)
    | some S => rf_lp wy fx frm n (f + 1) (rc (fun i => (S i && !fx i) && !s.1 i) frm s)
def wys (q : pq) (a b : Nat) : Nat → Option (Nat → Bool) := fun f => wm (q.2.1 f) (q.2.2 f) a b
def fl (k : Nat) (U V : Nat → Nat) (q : pq) (fx : Nat → Bool) : Nat → Nat → sq → Option (Option Nat × Nat) × sq
  | 0, _, s => (none, s)
  | n + 1, h, s => match s.2.1[h]? with
    | none => (none, s)
    | some e => match rf_lp (wys q (U e) (V e)) fx (some e) k 0 s with
      | (some f, s2) => (some (some e, f), s2)
      | (none, s2) => fl k U V q fx n (h + 1) s2
def fnd (k : Nat) (U V : Nat → Nat) (q : pq) (fx : Nat → Bool) (a b : Nat) (fol : Nat → Option Nat) : Option (Option Nat × Nat) × sq := match rf_lp (wys q a b) fx none k 0 (fun _ => false, [], fol) with
  | (some f, s) => (some (none, f), s)
  | (none, s) => fl k U V q fx 24 0 s
def tk (U V : Nat → Nat) (fol : Nat → Option Nat) : Nat → pq → Option Nat → Option Nat → pq × Option Nat
  | 0, q, _, t => (q, t)
  | _ + 1, q, none, t => (q, t)
  | n + 1, q, some m, t => tk U V fol n (pq_put U V (pq_rem U V q m) m t) (fol m) (q.1 m)
def tkin (U V : Nat → Nat) (fol : Nat → Option Nat) (q : pq) (lm : Option Nat) (t e : Nat) : pq := pq_put U V (tk U V fol 24 q lm (some t)).1 e (tk U V fol 24 q lm (some t)).2
/-- what a search may write -/
def sr_F (k : Nat) (x j : Nat) : Prop := x = gm_P k ∧ (j = 6 ∨ j = 8 ∨ j = 10 ∨ j = 11)
def sr_R (k : Nat) (y : Nat) : Prop := y = gm_P k + 2 ∨ y = gm_P k + 3
def gm_fr (σ σ2 : gm_S) (F : Nat → Nat → Prop) (R : Nat → Prop) : Prop := (∀ x j, ¬ F x j → σ2.1 x j = σ.1 x j) ∧ ∀ y, ¬ R y → σ2.2 y = σ.2 y
theorem gm_fr_rf {σ : gm_S} {F : Nat → Nat → Prop} {R : Nat → Prop} : gm_fr σ σ F R := ⟨fun _ _ _ => rfl, fun _ _ => rfl⟩
theorem gm_fr_tr {σ σ2 σ3 : gm_S} {F : Nat → Nat → Prop} {R : Nat → Prop} (h : gm_fr σ σ2 F R) (g : gm_fr σ2 σ3 F R) : gm_fr σ σ3 F R := ⟨fun x j hx => (g.1 x j hx).trans (h.1 x j hx), fun y hy => (g.2 y hy).trans (h.2 y hy)⟩
theorem gm_fr_ar {σ : gm_S} {F : Nat → Nat → Prop} {R : Nat → Prop} {x j : Nat} {v : Int32} (h : R x) : gm_fr σ (gm_ar σ x j v) F R := ⟨fun _ _ _ => rfl, fun y hy => va_up_ne _ _ (fun e => hy (e ▸ h))⟩
theorem gm_sc_1 (σ : gm_S) (x j : Nat) (v : Int32) : (gm_sc σ x j v).1 x j = v := by simp [gm_sc, va_up, upd]
theorem gm_sc_n (σ : gm_S) {x j y i : Nat} (v : Int32) (h : ¬ (y = x ∧ i = j)) : (gm_sc σ x j v).1 y i = σ.1 y i := by
  by_cases hy : y = x
  · subst hy
    have hi : i ≠ j := fun e => h ⟨rfl, e⟩
    simp [gm_sc, va_up, upd, hi]
  · simp [gm_sc, va_up, hy]
theorem gm_sc_2 (σ : gm_S) (x j : Nat) (v : Int32) : (gm_sc σ x j v).2 = σ.2 := rfl
theorem gm_ar_1 (σ : gm_S) (x j : Nat) (v : Int32) : (gm_ar σ x j v).1 = σ.1 := rfl
theorem gm_ar_2 (σ : gm_S) (x j : Nat) (v : Int32) : (gm_ar σ x j v).2 x j = v := by simp [gm_ar, va_up, upd]
theorem gm_ar_n (σ : gm_S) {x j y i : Nat} (v : Int32) (h : ¬ (y = x ∧ i = j)) : (gm_ar σ x j v).2 y i = σ.2 y i := by
  by_cases hy : y = x
  · subst hy
    have hi : i ≠ j := fun e => h ⟨rfl, e⟩
    simp [gm_ar, va_up, upd, hi]
  · simp [gm_ar, va_up, hy]
theorem gm_ar_r (σ : gm_S) {x j y : Nat} (v : Int32) (h : y ≠ x) : (gm_ar σ x j v).2 y = σ.2 y := by simp [gm_ar, va_up, h]
theorem gm_fr_sc {σ : gm_S} {F : Nat → Nat → Prop} {R : Nat → Prop} {x j : Nat} {v : Int32} (h : F x j) : gm_fr σ (gm_sc σ x j v) F R := ⟨fun y i hy => gm_sc_n σ v (fun e => hy (by rw [e.1, e.2]; exact h)), fun _ _ => rfl⟩
theorem gm_fr_mono {σ σ2 : gm_S} {F F2 : Nat → Nat → Prop} {R R2 : Nat → Prop} (h : gm_fr σ σ2 F R) (hF : ∀ x j, F x j → F2 x j) (hR : ∀ y, R y → R2 y) : gm_fr σ σ2 F2 R2 := ⟨fun x j hx => h.1 x j (fun z => hx (hF x j z)), fun y hy => h.2 y (fun z => hy (hR y z))⟩
theorem gm_fr_kp {σ σ2 : gm_S} {F : Nat → Nat → Prop} {R : Nat → Prop} (h : gm_kp σ σ2 R) : gm_fr σ σ2 F R := ⟨fun x j _ => by rw [h.1], h.2⟩
theorem pk_fr {σ σ2 : gm_S} {k : Nat} {q : pq} (hk : k < 7) (h : ∀ y, pk_R k y → σ2.2 y = σ.2 y) (g : pk_rep σ k q) : pk_rep σ2 k q := ⟨fun e he => by rw [h _ (Or.inl rfl)]; exact g.1 e he, fun i hi => fr_cong (h _ (Or.inr ⟨by omega, by omega⟩)) (h _ (Or.inr ⟨by omega, by omega⟩)) (g.2 i hi)⟩
theorem pk_sr {σ σ2 : gm_S} {k : Nat} {q : pq} (hk : k < 7) (h : gm_fr σ σ2 (sr_F k) (sr_R k)) (g : pk_rep σ k q) : pk_rep σ2 k q := pk_fr hk (fun y hy => h.2 y (by rintro (z | z) <;> rcases hy with w | w <;> omega)) g
theorem sr_R_lo {k y : Nat} (h : y < 20) : ¬ sr_R k y := fun q => by unfold sr_R gm_P at q; omega
theorem gL_sr {σ σ2 : gm_S} {U V : Nat → Nat} {k : Nat} (h : gm_fr σ σ2 (sr_F k) (sr_R k)) (g : gL σ U V) : gL σ2 U V := gL_cong (h.2 2 (sr_R_lo (by decide))) (h.2 3 (sr_R_lo (by decide))) g
/-- the way's edges are below 24 -/
theorem wm_lt {par eup : Nat → Option Nat} {a b : Nat} (ha : a < 10) (hb : b < 10) (hp : ∀ j, j < 10 → (∀ m, par j = some m → m < 10) ∧ ∀ e, eup j = some e → e < 24) {S : Nat → Bool} (h : wm par eup a b = some S) : ∀ i, S i = true → i < 24 := by
  have h2 : ∀ (A : Nat → Bool) n v S0, (∀ m, v = some m → m < 10) → (∀ i, S0 i = true → i < 24) → ∀ i, (wm_lo par eup A n v S0).2 i = true → i < 24 := by
    intro A n
    induction n with
    | zero => intro v S0 _ h0; rw [wm_lo]; exact h0
    | succ n ih =>
      intro v S0 hv h0
      cases v with
      | none => rw [wm_lo]; exact h0
      | some m =>
        rw [wm_lo]
        split
        · exact h0
        · refine ih (par m) _ (hp m (hv m rfl)).1 (fun i hi => ?_)
          simp only [Bool.or_eq_true, decide_eq_true_eq] at hi
          rcases hi with hi | hi
          · exact h0 i hi
          · exact (hp m (hv m rfl)).2 i hi
  have h3 : ∀ t n v S0, (∀ m, v = some m → m < 10) → (∀ i, S0 i = true → i < 24) → ∀ i, wm_en par eup t n v S0 i = true → i < 24 := by
    intro t n
    induction n with
    | zero => intro v S0 _ h0; rw [wm_en]; exact h0
    | succ n ih =>
      intro v S0 hv h0
      cases v with
      | none => rw [wm_en]; exact h0
      | some m =>
        rw [wm_en]
        split
        · exact h0
        · refine ih (par m) _ (hp m (hv m rfl)).1 (fun i hi => ?_)
          simp only [Bool.or_eq_true, decide_eq_true_eq] at hi
          rcases hi with hi | hi
          · exact h0 i hi
          · exact (hp m (hv m rfl)).2 i hi
  unfold wm at h
  have g2 := h2 (wm_up par 10 (some a) (fun _ => false)) 10 (some b) (fun _ => false) (fun m hm => by cases hm; exact hb) (fun i hi => by cases hi)
  generalize wm_lo par eup (wm_up par 10 (some a) (fun _ => false)) 10 (some b) (fun _ => false) = z at h g2
  obtain ⟨t, S1⟩ := z
  cases t with
  | none => cases h
  | some t =>
    cases h
    exact h3 t 10 (some a) S1 (fun m hm => by cases hm; exact ha) g2
theorem wm_ne {r : Int32} {S : Nat → Bool} (h : bm r S) (hS : ∀ i, S i = true → i < 24) : r ≠ -1 := by
  intro e
  have := h 31 (by omega)
  rw [e, b_m1 31 (by omega)] at this
  have := hS 31 this.symm
  omega
set_option maxHeartbeats 4000000 in
set_option maxRecDepth 100000 in
theorem c_J7_fill_53178 (l : Launch) (E : gm_E) (x n : Nat) (ho : gm_isI E x n) (hn : n ≤ 100) (σ : gm_S) (v : Int32) : gm_MV l E yJ7_fill_53178 (.code yJ7_fill_53178 cJ7_fill_53178 4 none :: gw_T) { frames := 0, cells := 0, slots := 0, locals := 0 } [.ref (E.2.2 x), .int v] σ (fun σ2 => gm_kp σ σ2 (fun y => y = x) ∧ ∀ j, j < n → σ2.2 x j = v) := by
  refine gm_enterV RJ7 (by decide +kernel) rfl rfl (Nat.le_of_ble_eq_true rfl) (gm_c1_ok rfl) ?_
  intro X hC hR
  show gm_G X E 4 0 [some (.ref (E.2.2 x)), some (.int v), none, none] [] σ
  have L : ∀ m i (σ2 : gm_S), i + m = n → gm_kp σ σ2 (fun y => y = x) → (∀ j, j < i → σ2.2 x j = v) → gm_G X E 4 5 [some (.ref (E.2.2 x)), some (.int v), some (.int (nI i)), some (.int (nI n))] [] σ2 := by
    intro m
    induction m with
    | zero =>
      intro i σ2 hi hkp hv
      have hi : i = n := by omega
      subst hi
      refine gi_ildn hC dJ7_fill_53178_5 rfl ?_
      refine gi_ildn hC dJ7_fill_53178_6 rfl ?_
      refine gi_icmp_ge hC 20 dJ7_fill_53178_7 (by decide) (fun h1 => ?_) (fun h1 => ?_)
      · exact hR _ _ _ ⟨hkp, hv⟩ dJ7_fill_53178_20
      · exact absurd (Int32.le_refl _) h1
    | succ m ih =>
      intro i σ2 hi hkp hv
      refine gi_ildn hC dJ7_fill_53178_5 rfl ?_
      refine gi_ildn hC dJ7_fill_53178_6 rfl ?_
      refine gi_icmp_ge hC 20 dJ7_fill_53178_7 (by decide) (fun h1 => ?_) (fun h1 => ?_)
      · exact absurd h1 (nI_ge (a := i) (b := n) (by omega) (by omega))
      ·
        refine gi_aldn hC dJ7_fill_53178_10 rfl ?_
        refine gi_ildn hC dJ7_fill_53178_11 rfl ?_
        refine gi_ildn hC dJ7_fill_53178_12 rfl ?_
        refine gi_iast hC ho (j := i) (by omega) rfl (by first | decide | omega) dJ7_fill_53178_13 ?_
        refine gi_iinc_2 hC dJ7_fill_53178_14 (nI_1 i) (by decide) ?_
        refine gi_goto hC 5 dJ7_fill_53178_17 (by decide) ?_
        refine ih (i + 1) _ (by omega) (gm_kp_tr hkp (gm_kp_ar rfl)) (fun j hj => ?_)
        by_cases hji : j = i
        · subst hji; exact gm_ar_2 _ _ _ _
        · rw [gm_ar_n _ _ (fun z => hji z.2)]; exact hv j (by omega)
  refine gi_const hC (v := 0) dJ7_fill_53178_0 (by decide) ?_
  refine gi_istn_2 hC dJ7_fill_53178_1 (by decide) ?_
  refine gi_aldn hC dJ7_fill_53178_2 rfl ?_
  refine gi_alenI hC ho dJ7_fill_53178_3 ?_
  refine gi_istn_3 hC dJ7_fill_53178_4 (by decide) ?_
  exact L n 0 σ (by omega) gm_kp_rf (fun j hj => absurd hj (Nat.not_lt_zero j))
set_option maxHeartbeats 4000000 in
set_option maxRecDepth 100000 in
theorem c_X2_clear (l : Launch) (E : gm_E) {kk ii : Nat} (hk : kk < 7) (hi : ii < kk) (σ : gm_S) : gm_MV l E yX2_clear (.code yX2_clear cX2_clear 1 none :: gw_T) { frames := 1, cells := 0, slots := 0, locals := 23 } [.ref (E.2.2 (gm_P kk + 5 + 3 * ii))] σ (fun σ2 => gm_kp σ σ2 (fun y => y = gm_P kk + 5 + 3 * ii + 1 ∨ y = gm_P kk + 5 + 3 * ii + 2) ∧ fr_rep σ2 (gm_P kk + 5 + 3 * ii) (fun _ => none) (fun _ => none)) := by
  refine gm_enterV RX2 (by decide +kernel) rfl rfl (Nat.le_of_ble_eq_true rfl) (gm_c1_ok rfl) ?_
  intro X hC hR
  show gm_G X E 1 0 [some (.ref (E.2.2 (gm_P kk + 5 + 3 * ii)))] [] σ
  refine gi_aldn hC dX2_clear_0 rfl ?_
  refine gf_F_parent hC hk hi gw_82 dX2_clear_1 ?_
  refine gi_const hC (v := -1) dX2_clear_4 (by decide) ?_
  refine gk_SV (n := 2) hC (fun l => c_J7_fill_53178 l E (gm_P kk + 5 + 3 * ii + 1) 10 (gm_iU E hk hi 1 (by decide) (by decide)) (by decide) σ (-1)) (gw_S gw_198 gw_199 gw_30 gw_200) rfl ⟨rfl, rfl⟩ rfl (by decide +kernel) ⟨by decide, by decide⟩ (Nat.le_of_ble_eq_true rfl) dX2_clear_5 (fun σ1 h1 => ?_)
  refine gi_aldn hC dX2_clear_8 rfl ?_
  refine gf_F_edgeUp hC hk hi gw_83 dX2_clear_9 ?_
  refine gi_const hC (v := 0) dX2_clear_12 (by decide) ?_
  refine gk_SV (n := 2) hC (fun l => c_J7_fill_53178 l E (gm_P kk + 5 + 3 * ii + 2) 10 (gm_iU E hk hi 2 (by decide) (by decide)) (by decide) σ1 0) (gw_S gw_198 gw_199 gw_30 gw_200) rfl ⟨rfl, rfl⟩ rfl (by decide +kernel) ⟨by decide, by decide⟩ (Nat.le_of_ble_eq_true rfl) dX2_clear_13 (fun σ2 h2 => ?_)
  refine hR _ _ _ ⟨gm_kp_tr (gm_kp_mono h1.1 (fun _ h => Or.inl h)) (gm_kp_mono h2.1 (fun _ h => Or.inr h)), fun j hj => ⟨?_, fun m hm => (by cases hm), ?_, fun e he => (by cases he)⟩⟩ dX2_clear_16
  · rw [h2.1.2 _ (by omega), h1.2 j hj]; rfl
  · rw [h2.2 j hj]; exact fun i _ => by rw [b_0]; simp
set_option maxHeartbeats 4000000 in
set_option maxRecDepth 100000 in
theorem c_X1_leastOf (l : Launch) (E : gm_E) (σ : gm_S) (x : Int32) : gm_MI l E yX1_leastOf (.code yX1_leastOf cX1_leastOf 2 (some .int) :: gw_T) { frames := 0, cells := 0, slots := 0, locals := 0 } [.int x] σ (fun r σ2 => σ2 = σ ∧ ((∃ j, j < 24 ∧ r = nI j ∧ bt x j = true ∧ ∀ i, i < j → bt x i = false) ∨ (r = -1 ∧ ∀ i, i < 24 → bt x i = false))) := by
  refine gm_enterI RX1 (by decide +kernel) rfl rfl (Nat.le_of_ble_eq_true rfl) (gm_c1_ok rfl) ?_
  intro X hC hR
  show gm_G X E 2 0 [some (.int x), none] [] σ
  have L : ∀ n i, i + n = 24 → (∀ j, j < i → bt x j = false) → gm_G X E 2 2 [some (.int x), some (.int (nI i))] [] σ := by
    intro n
    induction n with
    | zero =>
      intro i hi hb
      have hi : i = 24 := by omega
      subst hi
      refine gi_ildn hC dX1_leastOf_2 rfl ?_
      refine gi_bipush hC (v := 24) dX1_leastOf_3 (by decide) ?_
      refine gi_icmp_ge hC 25 dX1_leastOf_5 (by decide) (fun h1 => ?_) (fun h1 => ?_)
      ·
        refine gi_const hC (v := -1) dX1_leastOf_25 (by decide) ?_
        exact hR _ _ _ _ rfl ⟨rfl, Or.inr ⟨rfl, hb⟩⟩ dX1_leastOf_26
      · exact absurd (Int32.le_refl _) h1
    | succ n ih =>
      intro i hi hb
      refine gi_ildn hC dX1_leastOf_2 rfl ?_
      refine gi_bipush hC (v := 24) dX1_leastOf_3 (by decide) ?_
      refine gi_icmp_ge hC 25 dX1_leastOf_5 (by decide) (fun h1 => ?_) (fun h1 => ?_)
      · exact absurd h1 (nI_ge (a := i) (b := 24) (by omega) (by omega))
      ·
        refine gi_ildn hC dX1_leastOf_8 rfl ?_
        refine gi_ildn hC dX1_leastOf_9 rfl ?_
        refine gi_ishr hC dX1_leastOf_10 ?_
        refine gi_const hC (v := 1) dX1_leastOf_11 (by decide) ?_
        refine gi_iand hC dX1_leastOf_12 ?_
        refine gi_const hC (v := 1) dX1_leastOf_13 (by decide) ?_
        refine gi_icmp_ne hC 19 dX1_leastOf_14 (by decide) (fun h2 => ?_) (fun h2 => ?_)
        ·
          have hbi : bt x i = false := by
            cases hbb : bt x i
            · rfl
            · exact absurd ((b_tst1 x (by omega)).mpr hbb) h2
          refine gi_iinc_1 hC dX1_leastOf_19 (nI_1 i) (by decide) ?_
          refine gi_goto hC 2 dX1_leastOf_22 (by decide) ?_
          exact ih (i + 1) (by omega) (fun j hj => by
            rcases Nat.lt_or_ge j i with q | q
            · exact hb j q
            · rw [show j = i by omega]; exact hbi)
        ·
          refine gi_ildn hC dX1_leastOf_17 rfl ?_
          exact hR _ _ _ _ rfl ⟨rfl, Or.inl ⟨i, by omega, rfl, (b_tst1 x (by omega)).mp h2, hb⟩⟩ dX1_leastOf_18
  refine gi_const hC (v := 0) dX1_leastOf_0 (by decide) ?_
  refine gi_istn_1 hC dX1_leastOf_1 (by decide) ?_
  exact L 24 0 rfl (fun j hj => absurd hj (Nat.not_lt_zero j))
end
section
/-! A PACKING: its methods -/
theorem bm_one {e : Nat} (he : e < 32) : bm (1 <<< (nI e &&& 31)) (fun i => decide (some e = some i)) := bm_eq (bm_pow he) (fun i _ => by
  by_cases h : i = e
  · subst h; simp
  · simp [h, Ne.symm h])
theorem pk_rep_put {σ σ1 : gm_S} {k : Nat} {U V : Nat → Nat} {q : pq} {e f : Nat} (hk : k < 7) (he : e < 24) (hf : f < k) (hp : pk_rep σ k q) (h1 : gm_kp σ σ1 (fun y => y = gm_P k + 5 + 3 * f + 1 ∨ y = gm_P k + 5 + 3 * f + 2)) (h2 : fr_rep σ1 (gm_P k + 5 + 3 * f) (lk 10 (q.2.1 f, q.2.2 f) (some (V e)) (some (U e)) (some e)).1 (lk 10 (q.2.1 f, q.2.2 f) (some (V e)) (some (U e)) (some e)).2) : gm_kp σ (gm_ar σ1 (gm_P k + 1) e (nI f)) (pk_R k) ∧ pk_rep (gm_ar σ1 (gm_P k + 1) e (nI f)) k (pq_put U V q e (some f)) := by
  refine ⟨gm_kp_tr (gm_kp_mono h1 (fun y hy => Or.inr (by rcases hy with r | r <;> omega))) (gm_kp_ar (Or.inl rfl)), fun d hd => ?_, fun i hi => ?_⟩
  · show _ = oI (va_up q.1 e (some f) d) ∧ ∀ i, va_up q.1 e (some f) d = some i → i < k
    by_cases hde : d = e
    · subst hde
      rw [gm_ar_2, va_up_self]
      exact ⟨rfl, fun i hi => by cases hi; exact hf⟩
    · rw [gm_ar_n _ _ (fun z => hde z.2), va_up_ne _ _ hde, h1.2 _ (by omega)]
      exact hp.1 d hd
  · show fr_rep _ _ (va_up q.2.1 f _ i) (va_up q.2.2 f _ i)
    by_cases hif : i = f
    · subst hif
      rw [va_up_self, va_up_self]
      exact fr_cong (gm_ar_r _ _ (by omega)) (gm_ar_r _ _ (by omega)) h2
    · rw [va_up_ne _ _ hif, va_up_ne _ _ hif]
      exact fr_cong ((gm_ar_r _ _ (by omega)).trans (h1.2 _ (by omega))) ((gm_ar_r _ _ (by omega)).trans (h1.2 _ (by omega))) (hp.2 i hi)
theorem pk_rep_rem {σ σ1 : gm_S} {k : Nat} {U V : Nat → Nat} {q : pq} {e f : Nat} (hk : k < 7) (he : e < 24) (hf : f < k) (hq : q.1 e = some f) (hp : pk_rep σ k q) (h1 : gm_kp σ σ1 (fun y => y = gm_P k + 5 + 3 * f + 1 ∨ y = gm_P k + 5 + 3 * f + 2)) (h2 : fr_rep σ1 (gm_P k + 5 + 3 * f) (va_up (q.2.1 f) (pq_ch U V q e f) none) (va_up (q.2.2 f) (pq_ch U V q e f) none)) : gm_kp σ (gm_ar σ1 (gm_P k + 1) e (-1)) (pk_R k) ∧ pk_rep (gm_ar σ1 (gm_P k + 1) e (-1)) k (pq_rem U V q e) := by
  have hr : pq_rem U V q e = (va_up q.1 e none, va_up q.2.1 f (va_up (q.2.1 f) (pq_ch U V q e f) none), va_up q.2.2 f (va_up (q.2.2 f) (pq_ch U V q e f) none)) := by simp only [pq_rem, hq]
  rw [hr]
  refine ⟨gm_kp_tr (gm_kp_mono h1 (fun y hy => Or.inr (by rcases hy with r | r <;> omega))) (gm_kp_ar (Or.inl rfl)), fun d hd => ?_, fun i hi => ?_⟩
  · show _ = oI (va_up q.1 e none d) ∧ ∀ i, va_up q.1 e none d = some i → i < k
    by_cases hde : d = e
    · subst hde
      rw [gm_ar_2, va_up_self]
      exact ⟨rfl, fun i hi => by cases hi⟩
    · rw [gm_ar_n _ _ (fun z => hde z.2), va_up_ne _ _ hde, h1.2 _ (by omega)]
      exact hp.1 d hd
  · show fr_rep _ _ (va_up q.2.1 f _ i) (va_up q.2.2 f _ i)
    by_cases hif : i = f
    · subst hif
      rw [va_up_self, va_up_self]
      exact fr_cong (gm_ar_r _ _ (by omega)) (gm_ar_r _ _ (by omega)) h2
    · rw [va_up_ne _ _ hif, va_up_ne _ _ hif]
      exact fr_cong ((gm_ar_r _ _ (by omega)).trans (h1.2 _ (by omega))) ((gm_ar_r _ _ (by omega)).trans (h1.2 _ (by omega))) (hp.2 i hi)
set_option maxHeartbeats 4000000 in
set_option maxRecDepth 100000 in
theorem c_X1_put (l : Launch) (E : gm_E) {kk : Nat} (hk : kk < 7) (σ : gm_S) (U V : Nat → Nat) (hg : gL σ U V) (q : pq) (hp : pk_rep σ kk q) (e : Nat) (he : e < 24) (t : Option Nat) (ht : ∀ f, t = some f → f < kk) : gm_MV l E yX1_put (.code yX1_put cX1_put 4 none :: gw_T) { frames := 1, cells := 0, slots := 0, locals := 29 } [.ref (E.2.2 (gm_P kk)), .ref (E.2.2 1), .int (nI e), .int (oI t)] σ (fun σ2 => gm_kp σ σ2 (pk_R kk) ∧ pk_rep σ2 kk (pq_put U V q e t)) := by
  refine gm_enterV RX1 (by decide +kernel) rfl rfl (Nat.le_of_ble_eq_true rfl) (gm_c1_ok rfl) ?_
  intro X hC hR
  show gm_G X E 4 0 [some (.ref (E.2.2 (gm_P kk))), some (.ref (E.2.2 1)), some (.int (nI e)), some (.int (oI t))] [] σ
  obtain ⟨g1, g2, g3, g4⟩ := hg e he
  refine gi_ildn hC dX1_put_0 rfl ?_
  refine gi_if_lt hC 44 dX1_put_1 (by decide) (fun h1 => ?_) (fun h1 => ?_)
  ·
    have htn := (oI_neg (oI_in ht (by omega))).mp h1
    subst htn
    exact hR _ _ _ ⟨gm_kp_rf, hp⟩ dX1_put_44
  ·
    obtain ⟨f, rfl⟩ : ∃ f, t = some f := by
      cases t with
      | none => exact absurd (by show (-1 : Int32) < 0; decide) h1
      | some f => exact ⟨f, rfl⟩
    have hi := ht f rfl
    refine gi_ildn hC dX1_put_4 rfl ?_
    refine gi_aldn hC dX1_put_5 rfl ?_
    refine gf_P_forests hC hk gw_95 dX1_put_6 ?_
    refine gi_alenF hC hk dX1_put_9 ?_
    refine gi_icmp_ge hC 44 dX1_put_10 (by decide) (fun h2 => ?_) (fun h2 => ?_)
    · exact absurd h2 (nI_ge (a := f) (b := kk) hi (by omega))
    ·
      refine gi_aldn hC dX1_put_13 rfl ?_
      refine gf_P_forests hC hk gw_95 dX1_put_14 ?_
      refine gi_ildn hC dX1_put_17 rfl ?_
      refine gi_aaldF hC hk hi rfl dX1_put_18 ?_
      refine gi_const hC (v := 1) dX1_put_19 (by decide) ?_
      refine gi_ildn hC dX1_put_20 rfl ?_
      refine gi_ishl hC dX1_put_21 ?_
      refine gi_aldn hC dX1_put_22 rfl ?_
      refine gf_G_lesser hC gw_46 dX1_put_23 ?_
      refine gi_ildn hC dX1_put_26 rfl ?_
      refine gi_iald hC (gm_i2 E) he rfl (by first | decide | omega) dX1_put_27 ?_
      refine gi_aldn hC dX1_put_28 rfl ?_
      refine gf_G_greater hC gw_49 dX1_put_29 ?_
      refine gi_ildn hC dX1_put_32 rfl ?_
      refine gi_iald hC (gm_i3 E) he rfl (by first | decide | omega) dX1_put_33 ?_
      rw [g1, g2]
      refine gk_VV (n := 3) hC (fun l => c_X2_link l E hk hi σ (q.2.1 f) (q.2.2 f) (hp.2 f hi) e (U e) (V e) _ he (bm_one (by omega)) g3 g4) (gm_o2 E hk hi) rfl (gw_V gw_235 gw_236 gw_237 gw_27 gw_238) rfl ⟨rfl, rfl⟩ rfl (by decide +kernel) ⟨by decide, by decide⟩ (Nat.le_of_ble_eq_true rfl) dX1_put_34 (fun σ1 h9 => ?_)
      refine gi_aldn hC dX1_put_37 rfl ?_
      refine gf_P_place hC hk gw_89 dX1_put_38 ?_
      refine gi_ildn hC dX1_put_41 rfl ?_
      refine gi_ildn hC dX1_put_42 rfl ?_
      refine gi_iast hC (gm_iR E hk 1 (by decide) (by decide)) he rfl (by first | decide | omega) dX1_put_43 ?_
      exact hR _ _ _ (pk_rep_put hk he hi hp h9.1 h9.2) dX1_put_44
set_option maxHeartbeats 4000000 in
set_option maxRecDepth 100000 in
theorem c_X1_remove (l : Launch) (E : gm_E) {kk : Nat} (hk : kk < 7) (σ : gm_S) (U V : Nat → Nat) (hg : gL σ U V) (q : pq) (hp : pk_rep σ kk q) (e : Nat) (he : e < 24) : gm_MV l E yX1_remove (.code yX1_remove cX1_remove 4 none :: gw_T) { frames := 1, cells := 0, slots := 0, locals := 24 } [.ref (E.2.2 (gm_P kk)), .ref (E.2.2 1), .int (nI e)] σ (fun σ2 => gm_kp σ σ2 (pk_R kk) ∧ pk_rep σ2 kk (pq_rem U V q e)) := by
  refine gm_enterV RX1 (by decide +kernel) rfl rfl (Nat.le_of_ble_eq_true rfl) (gm_c1_ok rfl) ?_
  intro X hC hR
  show gm_G X E 4 0 [some (.ref (E.2.2 (gm_P kk))), some (.ref (E.2.2 1)), some (.int (nI e)), none] [] σ
  obtain ⟨g1, g2, g3, g4⟩ := hg e he
  obtain ⟨p1, p2⟩ := hp.1 e he
  refine gi_aldn hC dX1_remove_0 rfl ?_
  refine gf_P_place hC hk gw_89 dX1_remove_1 ?_
  refine gi_ildn hC dX1_remove_4 rfl ?_
  refine gi_iald hC (gm_iR E hk 1 (by decide) (by decide)) he rfl (by first | decide | omega) dX1_remove_5 ?_
  rw [p1]
  refine gi_istn_3 hC dX1_remove_6 (by decide) ?_
  refine gi_ildn hC dX1_remove_7 rfl ?_
  refine gi_if_lt hC 51 dX1_remove_8 (by decide) (fun h1 => ?_) (fun h1 => ?_)
  ·
    have htn := (oI_neg (oI_in p2 (by omega))).mp h1
    exact hR _ _ _ ⟨gm_kp_rf, by simp only [pq_rem, htn]; exact hp⟩ dX1_remove_51
  ·
    obtain ⟨f, hf⟩ : ∃ f, q.1 e = some f := by
      cases hq : q.1 e with
      | none => rw [hq] at h1; exact absurd (by show (-1 : Int32) < 0; decide) h1
      | some f => exact ⟨f, rfl⟩
    have hi := p2 f hf
    rw [hf]
    refine gi_ildn hC dX1_remove_11 rfl ?_
    refine gi_aldn hC dX1_remove_12 rfl ?_
    refine gf_P_forests hC hk gw_95 dX1_remove_13 ?_
    refine gi_alenF hC hk dX1_remove_16 ?_
    refine gi_icmp_ge hC 51 dX1_remove_17 (by decide) (fun h2 => ?_) (fun h2 => ?_)
    · exact absurd h2 (nI_ge (a := f) (b := kk) hi (by omega))
    ·
      refine gi_aldn hC dX1_remove_20 rfl ?_
      refine gf_P_forests hC hk gw_95 dX1_remove_21 ?_
      refine gi_ildn hC dX1_remove_24 rfl ?_
      refine gi_aaldF hC hk hi rfl dX1_remove_25 ?_
      refine gi_const hC (v := 1) dX1_remove_26 (by decide) ?_
      refine gi_ildn hC dX1_remove_27 rfl ?_
      refine gi_ishl hC dX1_remove_28 ?_
      refine gi_aldn hC dX1_remove_29 rfl ?_
      refine gf_G_lesser hC gw_46 dX1_remove_30 ?_
      refine gi_ildn hC dX1_remove_33 rfl ?_
      refine gi_iald hC (gm_i2 E) he rfl (by first | decide | omega) dX1_remove_34 ?_
      refine gi_aldn hC dX1_remove_35 rfl ?_
      refine gf_G_greater hC gw_49 dX1_remove_36 ?_
      refine gi_ildn hC dX1_remove_39 rfl ?_
      refine gi_iald hC (gm_i3 E) he rfl (by first | decide | omega) dX1_remove_40 ?_
      rw [g1, g2]
      refine gk_VV (n := 3) hC (fun l => c_X2_unlink l E hk hi σ (q.2.1 f) (q.2.2 f) (hp.2 f hi) e (U e) (V e) _ he (bm_one (by omega)) g3 g4) (gm_o2 E hk hi) rfl (gw_V gw_227 gw_228 gw_229 gw_27 gw_230) rfl ⟨rfl, rfl⟩ rfl (by decide +kernel) ⟨by decide, by decide⟩ (Nat.le_of_ble_eq_true rfl) dX1_remove_41 (fun σ1 h9 => ?_)
      refine gi_aldn hC dX1_remove_44 rfl ?_
      refine gf_P_place hC hk gw_89 dX1_remove_45 ?_
      refine gi_ildn hC dX1_remove_48 rfl ?_
      refine gi_const hC (v := -1) dX1_remove_49 (by decide) ?_
      refine gi_iast hC (gm_iR E hk 1 (by decide) (by decide)) he rfl (by first | decide | omega) dX1_remove_50 ?_
      exact hR _ _ _ (pk_rep_rem hk he hi hf hp h9.1 h9.2) dX1_remove_51
set_option maxHeartbeats 4000000 in
set_option maxRecDepth 100000 in
theorem c_X1_reach (l : Launch) (E : gm_E) {kk : Nat} (hk : kk < 7) (σ : gm_S) (s : sq) (hs : sr_rep σ kk s) (x : Int32) (S : Nat → Bool) (hx : bm x S) (frm : Option Nat) (hf : ∀ j, frm = some j → j < 24) : gm_MV l E yX1_reach (.code yX1_reach cX1_reach 5 none :: gw_T) { frames := 0, cells := 0, slots := 0, locals := 0 } [.ref (E.2.2 (gm_P kk)), .int x, .int (oI frm)] σ (fun σ2 => gm_fr σ σ2 (sr_F kk) (sr_R kk) ∧ sr_rep σ2 kk (rc S frm s)) := by
  refine gm_enterV RX1 (by decide +kernel) rfl rfl (Nat.le_of_ble_eq_true rfl) (gm_c1_ok rfl) ?_
  intro X hC hR
  show gm_G X E 5 0 [some (.ref (E.2.2 (gm_P kk))), some (.int x), some (.int (oI frm)), none, none] [] σ
  obtain ⟨Z, hZ⟩ : ∃ Z, Z = rc_lp S frm 24 0 s.2.1 s.2.2 := ⟨_, rfl⟩
  have L : ∀ n i (σ2 : gm_S) (y : Int32) (qq : List Nat) (ff : Nat → Option Nat), i + n = 24 → gm_fr σ σ2 (sr_F kk) (sr_R kk) → sr_rep σ2 kk (fun i => s.1 i || S i, qq, ff) → (∀ j, i ≤ j → j < 32 → bt y j = S j) → Z = rc_lp S frm n i qq ff → gm_G X E 5 15 [some (.ref (E.2.2 (gm_P kk))), some (.int x), some (.int (oI frm)), some (.int y), some (.int (nI i))] [] σ2 := by
    intro n
    induction n with
    | zero =>
      intro i σ2 y qq ff hi hfr hsr hy hw
      have hi : i = 24 := by omega
      subst hi
      rw [rc_lp] at hw
      refine gi_ild hC dX1_reach_15 rfl ?_
      refine gi_bipush hC (v := 24) dX1_reach_17 (by decide) ?_
      refine gi_icmp_ge hC 89 dX1_reach_19 (by decide) (fun h1 => ?_) (fun h1 => ?_)
      · exact hR _ _ _ ⟨hfr, by rw [rc, ← hZ, hw]; exact hsr⟩ dX1_reach_89
      · exact absurd (Int32.le_refl _) h1
    | succ n ih =>
      intro i σ2 y qq ff hi hfr hsr hy hw
      refine gi_ild hC dX1_reach_15 rfl ?_
      refine gi_bipush hC (v := 24) dX1_reach_17 (by decide) ?_
      refine gi_icmp_ge hC 89 dX1_reach_19 (by decide) (fun h1 => ?_) (fun h1 => ?_)
      · exact absurd h1 (nI_ge (a := i) (b := 24) (by omega) (by omega))
      ·
        refine gi_ildn hC dX1_reach_22 rfl ?_
        refine gi_if_eq hC 89 dX1_reach_23 (by decide) (fun h2 => ?_) (fun h2 => ?_)
        ·
          have h0 : ∀ j, i ≤ j → j < i + (n + 1) → S j = false := fun j a1 a2 => by
            rw [← hy j a1 (by omega), h2, b_0]
          rw [rc_lp_none S frm _ _ _ _ h0] at hw
          exact hR _ _ _ ⟨hfr, by rw [rc, ← hZ, hw]; exact hsr⟩ dX1_reach_89
        ·
          have NX : ∀ (σ3 : gm_S) (y3 : Int32) (qq3 : List Nat) (ff3 : Nat → Option Nat), gm_fr σ σ3 (sr_F kk) (sr_R kk) → sr_rep σ3 kk (fun i => s.1 i || S i, qq3, ff3) → (∀ j, i + 1 ≤ j → j < 32 → bt y3 j = S j) → Z = rc_lp S frm n (i + 1) qq3 ff3 → gm_G X E 5 83 [some (.ref (E.2.2 (gm_P kk))), some (.int x), some (.int (oI frm)), some (.int y3), some (.int (nI i))] [] σ3 := by
            intro σ3 y3 qq3 ff3 a1 a2 a3 a4
            refine gi_iinc_4 hC dX1_reach_83 (nI_1 i) (by decide) ?_
            refine gi_goto hC 15 dX1_reach_86 (by decide) ?_
            exact ih (i + 1) σ3 y3 qq3 ff3 (by omega) a1 a2 a3 a4
          rw [rc_lp] at hw
          refine gi_ildn hC dX1_reach_26 rfl ?_
          refine gi_ild hC dX1_reach_27 rfl ?_
          refine gi_ishr hC dX1_reach_29 ?_
          refine gi_const hC (v := 1) dX1_reach_30 (by decide) ?_
          refine gi_iand hC dX1_reach_31 ?_
          refine gi_const hC (v := 1) dX1_reach_32 (by decide) ?_
          refine gi_icmp_ne hC 83 dX1_reach_33 (by decide) (fun h3 => ?_) (fun h3 => ?_)
          ·
            have hSi : S i = false := by
              rw [← hy i (Nat.le_refl i) (by omega)]
              cases hbb : bt y i
              · rfl
              · exact absurd ((b_tst1 y (by omega)).mpr hbb) h3
            rw [if_neg (by rw [hSi]; exact fun z => by cases z.1)] at hw
            exact NX σ2 y qq ff hfr hsr (fun j b1 b2 => hy j (by omega) b2) hw
          ·
            have hSi : S i = true := by
              rw [← hy i (Nat.le_refl i) (by omega)]
              exact (b_tst1 y (by omega)).mp h3
            obtain ⟨s1, s2, s3, s4, s5⟩ := id hsr
            try dsimp only at s1 s2 s3 s4 s5
            refine gi_aldn hC dX1_reach_36 rfl ?_
            refine gf_P_queued hC hk gw_100 dX1_reach_37 ?_
            rw [s2]
            refine gi_bipush hC (v := 24) dX1_reach_40 (by decide) ?_
            refine gi_icmp_ge hC 83 dX1_reach_42 (by decide) (fun h4 => ?_) (fun h4 => ?_)
            ·
              have hq24 : ¬ qq.length < 24 := fun z => absurd h4 (nI_ge (a := qq.length) (b := 24) z (by omega))
              rw [if_neg (fun z => hq24 z.2)] at hw
              exact NX σ2 y qq ff hfr hsr (fun j b1 b2 => hy j (by omega) b2) hw
            ·
              have hq24 : qq.length < 24 := by
                rcases Nat.lt_or_ge qq.length 24 with z | z
                · exact z
                · exact absurd (nI_le (a := 24) (b := qq.length) z (by omega)) h4
              rw [if_pos ⟨hSi, hq24⟩] at hw
              refine gi_aldn hC dX1_reach_45 rfl ?_
              refine gf_P_follower hC hk gw_101 dX1_reach_46 ?_
              refine gi_ild hC dX1_reach_49 rfl ?_
              refine gi_ildn hC dX1_reach_51 rfl ?_
              refine gi_iast hC (gm_iR E hk 3 (by decide) (by decide)) (j := i) (by omega) rfl (by first | decide | omega) dX1_reach_52 ?_
              refine gi_aldn hC dX1_reach_53 rfl ?_
              refine gf_P_queue hC hk gw_99 dX1_reach_54 ?_
              refine gi_aldn hC dX1_reach_57 rfl ?_
              refine gf_P_queued hC hk gw_100 dX1_reach_58 ?_
              refine gi_ild hC dX1_reach_61 rfl ?_
              rw [show (gm_ar σ2 (gm_P kk + 3) i (oI frm)).1 = σ2.1 from rfl, s2]
              refine gi_iast hC (gm_iR E hk 2 (by decide) (by decide)) (j := qq.length) hq24 rfl (by first | decide | omega) dX1_reach_63 ?_
              refine gi_aldn hC dX1_reach_64 rfl ?_
              refine gi_dup hC dX1_reach_65 rfl ?_
              refine gf_P_queued hC hk gw_100 dX1_reach_66 ?_
              refine gi_const hC (v := 1) dX1_reach_69 (by decide) ?_
              refine gi_iadd hC dX1_reach_70 ?_
              rw [show (gm_ar (gm_ar σ2 (gm_P kk + 3) i (oI frm)) (gm_P kk + 2) qq.length (nI i)).1 = σ2.1 from rfl, s2, nI_1]
              refine pf_P_queued hC hk gw_100 dX1_reach_71 ?_
              refine gi_ildn hC dX1_reach_74 rfl ?_
              refine gi_const hC (v := 1) dX1_reach_75 (by decide) ?_
              refine gi_ild hC dX1_reach_76 rfl ?_
              refine gi_ishl hC dX1_reach_78 ?_
              refine gi_const hC (v := -1) dX1_reach_79 (by decide) ?_
              refine gi_ixor hC dX1_reach_80 ?_
              refine gi_iand hC dX1_reach_81 ?_
              refine gi_istn_3 hC dX1_reach_82 (by decide) ?_
              refine NX _ _ (qq ++ [i]) (va_up ff i frm) (gm_fr_tr hfr (gm_fr_tr (gm_fr_tr (gm_fr_ar (Or.inr rfl)) (gm_fr_ar (Or.inl rfl))) (gm_fr_sc ⟨rfl, Or.inr (Or.inl rfl)⟩))) ⟨?_, ?_, ?_, ?_, ?_⟩ (fun j b1 b2 => ?_) hw
              · rw [gm_sc_n _ _ (by omega)]; exact s1
              · rw [gm_sc_1]; simp
              · simp; omega
              · intro j e2 hj
                show e2 < 24 ∧ (gm_ar (gm_ar σ2 (gm_P kk + 3) i (oI frm)) (gm_P kk + 2) qq.length (nI i)).2 (gm_P kk + 2) j = nI e2
                by_cases hjl : j = qq.length
                · subst hjl
                  have : i = e2 := by simpa using hj
                  subst this
                  exact ⟨by omega, gm_ar_2 _ _ _ _⟩
                · have hj2 : qq[j]? = some e2 := by
                    have hlt := (List.getElem?_eq_some_iff.mp hj).1
                    simp at hlt
                    rwa [List.getElem?_append_left (by omega)] at hj
                  obtain ⟨c1, c2⟩ := s4 j e2 hj2
                  refine ⟨c1, ?_⟩
                  rw [gm_ar_n _ _ (fun z => hjl z.2), gm_ar_n _ _ (by omega)]
                  exact c2
              · intro e2 he2
                show (gm_ar (gm_ar σ2 (gm_P kk + 3) i (oI frm)) (gm_P kk + 2) qq.length (nI i)).2 (gm_P kk + 3) e2 = oI (va_up ff i frm e2) ∧ ∀ j, va_up ff i frm e2 = some j → j < 24
                rw [gm_ar_n _ _ (by omega)]
                by_cases hei : e2 = i
                · subst hei
                  rw [gm_ar_2, va_up_self]
                  exact ⟨rfl, hf⟩
                · rw [gm_ar_n _ _ (fun z => hei z.2), va_up_ne _ _ hei]
                  exact s5 e2 he2
              · rw [b_and, b_not _ b2, b_pow (by omega) b2, hy j (by omega) b2]
                simp [show j ≠ i by omega]
  obtain ⟨s1, s2, s3, s4, s5⟩ := id hs
  refine gi_aldn hC dX1_reach_0 rfl ?_
  refine gi_dup hC dX1_reach_1 rfl ?_
  refine gf_P_reached hC hk gw_98 dX1_reach_2 ?_
  refine gi_ildn hC dX1_reach_5 rfl ?_
  refine gi_ior hC dX1_reach_6 ?_
  refine pf_P_reached hC hk gw_98 dX1_reach_7 ?_
  refine gi_ildn hC dX1_reach_10 rfl ?_
  refine gi_istn_3 hC dX1_reach_11 (by decide) ?_
  refine gi_const hC (v := 0) dX1_reach_12 (by decide) ?_
  refine gi_ist_4 hC dX1_reach_13 (by decide) ?_
  refine L 24 0 _ x s.2.1 s.2.2 rfl (gm_fr_sc ⟨rfl, Or.inl rfl⟩) ⟨?_, ?_, s3, s4, s5⟩ (fun j _ b2 => hx j b2) hZ
  · rw [gm_sc_1]; exact bm_or s1 hx
  · rw [gm_sc_n _ _ (by omega)]; exact s2
end
section
/-! THE SEARCH: reachFrom, findRoom, takeIn, reason -/
def rf_is (r : Int32) (σ2 : gm_S) (k : Nat) (frm : Option Nat) (z : Option Nat × sq) : Prop := sr_rep σ2 k z.2 ∧ match z.1 with
  | some f => r = 1 ∧ f < k ∧ σ2.1 (gm_P k) 10 = oI frm ∧ σ2.1 (gm_P k) 11 = nI f
  | none => r = 0
def fn_is (r : Int32) (σ2 : gm_S) (k : Nat) (z : Option (Option Nat × Nat) × sq) : Prop := sr_rep σ2 k z.2 ∧ match z.1 with
  | some (lm, f) => r = 1 ∧ f < k ∧ σ2.1 (gm_P k) 10 = oI lm ∧ (∀ j, lm = some j → j < 24) ∧ σ2.1 (gm_P k) 11 = nI f
  | none => r = 0
/-- the followers' row, whatever it holds -/
def fo_rep (σ : gm_S) (k : Nat) (fol : Nat → Option Nat) : Prop := ∀ e, e < 24 → σ.2 (gm_P k + 3) e = oI (fol e) ∧ ∀ j, fol e = some j → j < 24
theorem rf_lp_lt (wy : Nat → Option (Nat → Bool)) (fx : Nat → Bool) (frm : Option Nat) : ∀ n f s, ∀ t, (rf_lp wy fx frm n f s).1 = some t → f ≤ t ∧ t < f + n
  | 0, f, s, t, h => by rw [rf_lp] at h; cases h
  | n + 1, f, s, t, h => by
    rw [rf_lp] at h
    split at h
    · cases h; exact ⟨Nat.le_refl _, by omega⟩
    · have := rf_lp_lt wy fx frm n (f + 1) _ t h
      omega
set_option maxHeartbeats 4000000 in
set_option maxRecDepth 100000 in
theorem c_X1_reachFrom (l : Launch) (E : gm_E) {kk : Nat} (hk : kk < 7) (σ : gm_S) (q : pq) (hp : pk_rep σ kk q) (s : sq) (hs : sr_rep σ kk s) (fx : Nat → Bool) (hfx : bm (σ.1 (gm_P kk) 5) fx) (frm : Option Nat) (hf : ∀ j, frm = some j → j < 24) (a b : Nat) (ha : a < 10) (hb : b < 10) : gm_MI l E yX1_reachFrom (.code yX1_reachFrom cX1_reachFrom 6 (some .boolean) :: gw_T) { frames := 1, cells := 0, slots := 0, locals := 27 } [.ref (E.2.2 (gm_P kk)), .int (oI frm), .int (nI a), .int (nI b)] σ (fun r σ2 => gm_fr σ σ2 (sr_F kk) (sr_R kk) ∧ rf_is r σ2 kk frm (rf_lp (wys q a b) fx frm kk 0 s)) := by
  refine gm_enterI RX1 (by decide +kernel) rfl rfl (Nat.le_of_ble_eq_true rfl) (gm_c1_ok rfl) ?_
  intro X hC hR
  show gm_G X E 6 0 [some (.ref (E.2.2 (gm_P kk))), some (.int (oI frm)), some (.int (nI a)), some (.int (nI b)), none, none] [] σ
  obtain ⟨Z, hZ⟩ : ∃ Z, Z = rf_lp (wys q a b) fx frm kk 0 s := ⟨_, rfl⟩
  rw [← hZ] at hR
  have L : ∀ n i (σ2 : gm_S) (s2 : sq) (w5 : Option Value), i + n = kk → gm_fr σ σ2 (sr_F kk) (sr_R kk) → sr_rep σ2 kk s2 → Z = rf_lp (wys q a b) fx frm n i s2 → gm_G X E 6 3 [some (.ref (E.2.2 (gm_P kk))), some (.int (oI frm)), some (.int (nI a)), some (.int (nI b)), some (.int (nI i)), w5] [] σ2 := by
    intro n
    induction n with
    | zero =>
      intro i σ2 s2 w5 hi0 hfr hsr hw
      have hi0 : i = kk := by omega
      subst hi0
      rw [rf_lp] at hw
      refine gi_ild hC dX1_reachFrom_3 rfl ?_
      refine gi_aldn hC dX1_reachFrom_5 rfl ?_
      refine gf_P_forests hC hk gw_95 dX1_reachFrom_6 ?_
      refine gi_alenF hC hk dX1_reachFrom_9 ?_
      refine gi_icmp_ge hC 73 dX1_reachFrom_10 (by decide) (fun h1 => ?_) (fun h1 => ?_)
      ·
        refine gi_const hC (v := 0) dX1_reachFrom_73 (by decide) ?_
        exact hR _ _ _ _ (by decide +kernel) ⟨hfr, by rw [hw]; exact ⟨hsr, rfl⟩⟩ dX1_reachFrom_74
      · exact absurd (Int32.le_refl _) h1
    | succ n ih =>
      intro i σ2 s2 w5 hi0 hfr hsr hw
      have hi : i < kk := by omega
      have hp2 := pk_sr hk hfr hp
      have hfx2 : bm (σ2.1 (gm_P kk) 5) fx := by rw [hfr.1 _ 5 (fun z => by rcases z.2 with z | z | z | z <;> cases z)]; exact hfx
      refine gi_ild hC dX1_reachFrom_3 rfl ?_
      refine gi_aldn hC dX1_reachFrom_5 rfl ?_
      refine gf_P_forests hC hk gw_95 dX1_reachFrom_6 ?_
      refine gi_alenF hC hk dX1_reachFrom_9 ?_
      refine gi_icmp_ge hC 73 dX1_reachFrom_10 (by decide) (fun h1 => ?_) (fun h1 => ?_)
      · exact absurd h1 (nI_ge (a := i) (b := kk) hi (by omega))
      ·
        refine gi_aldn hC dX1_reachFrom_13 rfl ?_
        refine gf_P_forests hC hk gw_95 dX1_reachFrom_14 ?_
        refine gi_ild hC dX1_reachFrom_17 rfl ?_
        refine gi_aaldF hC hk hi rfl dX1_reachFrom_19 ?_
        refine gi_ildn hC dX1_reachFrom_20 rfl ?_
        refine gi_ildn hC dX1_reachFrom_21 rfl ?_
        refine gk_VI (n := 2) hC (fun l => c_X2_way l E hk hi σ2 (q.2.1 i) (q.2.2 i) (hp2.2 i hi) a b ha hb) (gm_o2 E hk hi) rfl (gw_V gw_211 gw_212 gw_213 gw_27 gw_214) rfl ⟨rfl, rfl⟩ rfl (by decide +kernel) ⟨by decide, by decide⟩ (Nat.le_of_ble_eq_true rfl) dX1_reachFrom_22 (fun r σ3 hq => ?_)
        obtain ⟨hq, rfl⟩ := hq
        rw [rf_lp] at hw
        cases hwy : wys q a b i with
        | none =>
          rw [hwy] at hw
          try dsimp only at hw
          rw [show wm (q.2.1 i) (q.2.2 i) a b = none from hwy] at hq
          have hq : r = -1 := hq
          subst hq
          refine gi_ist_5 hC dX1_reachFrom_25 (by decide) ?_
          refine gi_ild hC dX1_reachFrom_27 rfl ?_
          refine gi_const hC (v := -1) dX1_reachFrom_29 (by decide) ?_
          refine gi_icmp_ne hC 46 dX1_reachFrom_30 (by decide) (fun h2 => ?_) (fun h2 => ?_)
          · exact absurd rfl h2
          ·
            refine gi_aldn hC dX1_reachFrom_33 rfl ?_
            refine gi_ildn hC dX1_reachFrom_34 rfl ?_
            refine pf_P_lastMoved hC hk gw_102 dX1_reachFrom_35 ?_
            refine gi_aldn hC dX1_reachFrom_38 rfl ?_
            refine gi_ild hC dX1_reachFrom_39 rfl ?_
            refine pf_P_room hC hk gw_103 dX1_reachFrom_41 ?_
            refine gi_const hC (v := 1) dX1_reachFrom_44 (by decide) ?_
            refine hR _ _ _ _ (by decide +kernel) ⟨gm_fr_tr hfr (gm_fr_tr (gm_fr_sc ⟨rfl, Or.inr (Or.inr (Or.inl rfl))⟩) (gm_fr_sc ⟨rfl, Or.inr (Or.inr (Or.inr rfl))⟩)), ?_⟩ dX1_reachFrom_45
            rw [hw]
            obtain ⟨s1, s2', s3, s4, s5⟩ := hsr
            refine ⟨⟨?_, ?_, s3, s4, s5⟩, rfl, hi, ?_, gm_sc_1 _ _ _ _⟩
            · rw [gm_sc_n _ _ (by omega), gm_sc_n _ _ (by omega)]; exact s1
            · rw [gm_sc_n _ _ (by omega), gm_sc_n _ _ (by omega)]; exact s2'
            · rw [gm_sc_n _ _ (by omega), gm_sc_1]
        | some S =>
          rw [hwy] at hw
          try dsimp only at hw
          rw [show wm (q.2.1 i) (q.2.2 i) a b = some S from hwy] at hq
          have hq : bm r S := hq
          have hr1 : r ≠ -1 := wm_ne hq (wm_lt ha hb (fun j hj => ⟨((hp2.2 i hi) j hj).2.1, ((hp2.2 i hi) j hj).2.2.2⟩) hwy)
          refine gi_ist_5 hC dX1_reachFrom_25 (by decide) ?_
          refine gi_ild hC dX1_reachFrom_27 rfl ?_
          refine gi_const hC (v := -1) dX1_reachFrom_29 (by decide) ?_
          refine gi_icmp_ne hC 46 dX1_reachFrom_30 (by decide) (fun h2 => ?_) (fun h2 => ?_)
          ·
            refine gi_aldn hC dX1_reachFrom_46 rfl ?_
            refine gi_ild hC dX1_reachFrom_47 rfl ?_
            refine gi_aldn hC dX1_reachFrom_49 rfl ?_
            refine gf_P_fixed hC hk gw_97 dX1_reachFrom_50 ?_
            refine gi_const hC (v := -1) dX1_reachFrom_53 (by decide) ?_
            refine gi_ixor hC dX1_reachFrom_54 ?_
            refine gi_iand hC dX1_reachFrom_55 ?_
            refine gi_aldn hC dX1_reachFrom_56 rfl ?_
            refine gf_P_reached hC hk gw_98 dX1_reachFrom_57 ?_
            refine gi_const hC (v := -1) dX1_reachFrom_60 (by decide) ?_
            refine gi_ixor hC dX1_reachFrom_61 ?_
            refine gi_iand hC dX1_reachFrom_62 ?_
            refine gi_ildn hC dX1_reachFrom_63 rfl ?_
            refine gk_VV (n := 2) hC (fun l => c_X1_reach l E hk σ3 s2 hsr _ (fun i => (S i && !fx i) && !s2.1 i) (bm_and (bm_and hq (bm_not hfx2)) (bm_not hsr.1)) frm hf) (gm_o1 E hk) rfl (gw_V gw_215 gw_217 gw_3 gw_25 gw_218) rfl ⟨rfl, rfl⟩ rfl (by decide +kernel) ⟨by decide, by decide⟩ (Nat.le_of_ble_eq_true rfl) dX1_reachFrom_64 (fun σ4 h9 => ?_)
            refine gi_iinc_4 hC dX1_reachFrom_67 (nI_1 i) (by decide) ?_
            refine gi_goto hC 3 dX1_reachFrom_70 (by decide) ?_
            exact ih (i + 1) σ4 _ _ (by omega) (gm_fr_tr hfr h9.1) h9.2 hw
          · exact absurd h2 hr1
  refine gi_const hC (v := 0) dX1_reachFrom_0 (by decide) ?_
  refine gi_ist_4 hC dX1_reachFrom_1 (by decide) ?_
  exact L kk 0 σ s _ (by omega) gm_fr_rf hs hZ
set_option maxHeartbeats 4000000 in
set_option maxRecDepth 100000 in
theorem c_X1_findRoom (l : Launch) (E : gm_E) {kk : Nat} (hk : kk < 7) (σ : gm_S) (U V : Nat → Nat) (hg : gL σ U V) (q : pq) (hp : pk_rep σ kk q) (fx : Nat → Bool) (hfx : bm (σ.1 (gm_P kk) 5) fx) (fol : Nat → Option Nat) (hfo : fo_rep σ kk fol) (a b : Nat) (ha : a < 10) (hb : b < 10) : gm_MI l E yX1_findRoom (.code yX1_findRoom cX1_findRoom 6 (some .boolean) :: gw_T) { frames := 2, cells := 0, slots := 0, locals := 52 } [.ref (E.2.2 (gm_P kk)), .ref (E.2.2 1), .int (nI a), .int (nI b)] σ (fun r σ2 => gm_fr σ σ2 (sr_F kk) (sr_R kk) ∧ fn_is r σ2 kk (fnd kk U V q fx a b fol)) := by
  refine gm_enterI RX1 (by decide +kernel) rfl rfl (Nat.le_of_ble_eq_true rfl) (gm_c1_ok rfl) ?_
  intro X hC hR
  show gm_G X E 6 0 [some (.ref (E.2.2 (gm_P kk))), some (.ref (E.2.2 1)), some (.int (nI a)), some (.int (nI b)), none, none] [] σ
  obtain ⟨Z, hZ⟩ : ∃ Z, Z = fnd kk U V q fx a b fol := ⟨_, rfl⟩
  rw [← hZ] at hR
  have L : ∀ n i (σ2 : gm_S) (s2 : sq) (w5 : Option Value), i + n = 24 → gm_fr σ σ2 (sr_F kk) (sr_R kk) → sr_rep σ2 kk s2 → Z = fl kk U V q fx n i s2 → gm_G X E 6 25 [some (.ref (E.2.2 (gm_P kk))), some (.ref (E.2.2 1)), some (.int (nI a)), some (.int (nI b)), some (.int (nI i)), w5] [] σ2 := by
    intro n
    induction n with
    | zero =>
      intro i σ2 s2 w5 hi0 hfr hsr hw
      have hi0 : i = 24 := by omega
      subst hi0
      rw [fl] at hw
      obtain ⟨s1, s2l, s3, s4, s5⟩ := id hsr
      refine gi_ild hC dX1_findRoom_25 rfl ?_
      refine gi_aldn hC dX1_findRoom_27 rfl ?_
      refine gf_P_queued hC hk gw_100 dX1_findRoom_28 ?_
      rw [s2l]
      refine gi_icmp_ge hC 81 dX1_findRoom_31 (by decide) (fun h1 => ?_) (fun h1 => ?_)
      ·
        refine gi_const hC (v := 0) dX1_findRoom_81 (by decide) ?_
        exact hR _ _ _ _ (by decide +kernel) ⟨hfr, by rw [hw]; exact ⟨hsr, rfl⟩⟩ dX1_findRoom_82
      · exact absurd (nI_le (a := s2.2.1.length) (b := 24) s3 (by omega)) h1
    | succ n ih =>
      intro i σ2 s2 w5 hi0 hfr hsr hw
      have hp2 := pk_sr hk hfr hp
      have hg2 := gL_sr hfr hg
      have hfx2 : bm (σ2.1 (gm_P kk) 5) fx := by rw [hfr.1 _ 5 (fun z => by rcases z.2 with z | z | z | z <;> cases z)]; exact hfx
      obtain ⟨s1, s2l, s3, s4, s5⟩ := id hsr
      rw [fl] at hw
      refine gi_ild hC dX1_findRoom_25 rfl ?_
      refine gi_aldn hC dX1_findRoom_27 rfl ?_
      refine gf_P_queued hC hk gw_100 dX1_findRoom_28 ?_
      rw [s2l]
      refine gi_icmp_ge hC 81 dX1_findRoom_31 (by decide) (fun h1 => ?_) (fun h1 => ?_)
      ·
        have hlen : s2.2.1.length ≤ i := by
          rcases Nat.lt_or_ge i s2.2.1.length with z | z
          · exact absurd h1 (nI_ge (a := i) (b := s2.2.1.length) z (by omega))
          · exact z
        rw [List.getElem?_eq_none hlen] at hw
        try dsimp only at hw
        refine gi_const hC (v := 0) dX1_findRoom_81 (by decide) ?_
        exact hR _ _ _ _ (by decide +kernel) ⟨hfr, by rw [hw]; exact ⟨hsr, rfl⟩⟩ dX1_findRoom_82
      ·
        have hlen : i < s2.2.1.length := by
          rcases Nat.lt_or_ge i s2.2.1.length with z | z
          · exact z
          · exact absurd (nI_le (a := s2.2.1.length) (b := i) z (by omega)) h1
        obtain ⟨e, he⟩ : ∃ e, s2.2.1[i]? = some e := ⟨_, List.getElem?_eq_getElem hlen⟩
        obtain ⟨he24, hqe⟩ := s4 i e he
        obtain ⟨g1, g2, g3, g4⟩ := hg2 e he24
        rw [he] at hw
        try dsimp only at hw
        refine gi_ild hC dX1_findRoom_34 rfl ?_
        refine gi_bipush hC (v := 24) dX1_findRoom_36 (by decide) ?_
        refine gi_icmp_ge hC 81 dX1_findRoom_38 (by decide) (fun h2 => ?_) (fun h2 => ?_)
        · exact absurd h2 (nI_ge (a := i) (b := 24) (by omega) (by omega))
        ·
          refine gi_aldn hC dX1_findRoom_41 rfl ?_
          refine gf_P_queue hC hk gw_99 dX1_findRoom_42 ?_
          refine gi_ild hC dX1_findRoom_45 rfl ?_
          refine gi_iald hC (gm_iR E hk 2 (by decide) (by decide)) (j := i) (by omega) rfl (by first | decide | omega) dX1_findRoom_47 ?_
          rw [hqe]
          refine gi_ist_5 hC dX1_findRoom_48 (by decide) ?_
          refine gi_aldn hC dX1_findRoom_50 rfl ?_
          refine gi_ild hC dX1_findRoom_51 rfl ?_
          refine gi_aldn hC dX1_findRoom_53 rfl ?_
          refine gf_G_lesser hC gw_46 dX1_findRoom_54 ?_
          refine gi_ild hC dX1_findRoom_57 rfl ?_
          refine gi_iald hC (gm_i2 E) he24 rfl (by first | decide | omega) dX1_findRoom_59 ?_
          refine gi_aldn hC dX1_findRoom_60 rfl ?_
          refine gf_G_greater hC gw_49 dX1_findRoom_61 ?_
          refine gi_ild hC dX1_findRoom_64 rfl ?_
          refine gi_iald hC (gm_i3 E) he24 rfl (by first | decide | omega) dX1_findRoom_66 ?_
          rw [g1, g2]
          refine gk_VI (n := 3) hC (fun l => c_X1_reachFrom l E hk σ2 q hp2 s2 hsr fx hfx2 (some e) (fun j hj => by cases hj; exact he24) (U e) (V e) g3 g4) (gm_o1 E hk) rfl (gw_V gw_207 gw_209 gw_2 gw_25 gw_210) rfl ⟨rfl, rfl⟩ rfl (by decide +kernel) ⟨by decide, by decide⟩ (Nat.le_of_ble_eq_true rfl) dX1_findRoom_67 (fun r σ3 h9 => ?_)
          obtain ⟨h91, h92⟩ := h9
          have hlt := rf_lp_lt (wys q (U e) (V e)) fx (some e) kk 0 s2
          generalize rf_lp (wys q (U e) (V e)) fx (some e) kk 0 s2 = z at hw h92 hlt
          obtain ⟨z1, z2⟩ := z
          cases z1 with
          | some f =>
            try dsimp only at hw
            obtain ⟨h93, rfl, h94, h95, h96⟩ := h92
            refine gi_if_eq hC 75 dX1_findRoom_70 (by decide) (fun h3 => ?_) (fun h3 => ?_)
            · exact absurd h3 (by decide)
            ·
              refine gi_const hC (v := 1) dX1_findRoom_73 (by decide) ?_
              exact hR _ _ _ _ (by decide +kernel) ⟨gm_fr_tr hfr h91, by rw [hw]; exact ⟨h93, rfl, h94, h95, fun j hj => by cases hj; exact he24, h96⟩⟩ dX1_findRoom_74
          | none =>
            try dsimp only at hw
            obtain ⟨h93, h94⟩ := h92
            have h94 : r = 0 := h94
            subst h94
            refine gi_if_eq hC 75 dX1_findRoom_70 (by decide) (fun h3 => ?_) (fun h3 => ?_)
            ·
              refine gi_iinc_4 hC dX1_findRoom_75 (nI_1 i) (by decide) ?_
              refine gi_goto hC 25 dX1_findRoom_78 (by decide) ?_
              exact ih (i + 1) σ3 _ _ (by omega) (gm_fr_tr hfr h91) h93 hw
            · exact absurd rfl h3
  refine gi_aldn hC dX1_findRoom_0 rfl ?_
  refine gi_const hC (v := 0) dX1_findRoom_1 (by decide) ?_
  refine pf_P_reached hC hk gw_98 dX1_findRoom_2 ?_
  refine gi_aldn hC dX1_findRoom_5 rfl ?_
  refine gi_const hC (v := 0) dX1_findRoom_6 (by decide) ?_
  refine pf_P_queued hC hk gw_100 dX1_findRoom_7 ?_
  refine gi_aldn hC dX1_findRoom_10 rfl ?_
  refine gi_const hC (v := -1) dX1_findRoom_11 (by decide) ?_
  refine gi_ildn hC dX1_findRoom_12 rfl ?_
  refine gi_ildn hC dX1_findRoom_13 rfl ?_
  have hfr0 : gm_fr σ (gm_sc (gm_sc σ (gm_P kk) 6 0) (gm_P kk) 8 0) (sr_F kk) (sr_R kk) := gm_fr_tr (gm_fr_sc ⟨rfl, Or.inl rfl⟩) (gm_fr_sc ⟨rfl, Or.inr (Or.inl rfl)⟩)
  have hsr0 : sr_rep (gm_sc (gm_sc σ (gm_P kk) 6 0) (gm_P kk) 8 0) kk (fun _ => false, [], fol) := by
    refine ⟨?_, gm_sc_1 _ _ _ _, Nat.zero_le _, fun i e h => (by simp at h), hfo⟩
    rw [gm_sc_n _ _ (by omega), gm_sc_1]
    exact bm_0
  have hfx2 : bm ((gm_sc (gm_sc σ (gm_P kk) 6 0) (gm_P kk) 8 0).1 (gm_P kk) 5) fx := by
    rw [gm_sc_n _ _ (by omega), gm_sc_n _ _ (by omega)]
    exact hfx
  generalize gm_sc (gm_sc σ (gm_P kk) 6 0) (gm_P kk) 8 0 = σ1 at hfr0 hsr0 hfx2 ⊢
  refine gk_VI (n := 3) hC (fun l => c_X1_reachFrom l E hk σ1 q (pk_sr hk hfr0 hp) (fun _ => false, [], fol) hsr0 fx hfx2 none (fun j hj => by cases hj) a b ha hb) (gm_o1 E hk) rfl (gw_V gw_207 gw_209 gw_2 gw_25 gw_210) rfl ⟨rfl, rfl⟩ rfl (by decide +kernel) ⟨by decide, by decide⟩ (Nat.le_of_ble_eq_true rfl) dX1_findRoom_14 (fun r σ3 h9 => ?_)
  obtain ⟨h91, h92⟩ := h9
  rw [fnd] at hZ
  generalize rf_lp (wys q a b) fx none kk 0 (fun _ => false, [], fol) = z at hZ h92
  obtain ⟨z1, z2⟩ := z
  cases z1 with
  | some f =>
    try dsimp only at hZ
    obtain ⟨h93, rfl, h94, h95, h96⟩ := h92
    refine gi_if_eq hC 22 dX1_findRoom_17 (by decide) (fun h3 => ?_) (fun h3 => ?_)
    · exact absurd h3 (by decide)
    ·
      refine gi_const hC (v := 1) dX1_findRoom_20 (by decide) ?_
      exact hR _ _ _ _ (by decide +kernel) ⟨gm_fr_tr hfr0 h91, by rw [hZ]; exact ⟨h93, rfl, h94, h95, fun j hj => (by cases hj), h96⟩⟩ dX1_findRoom_21
  | none =>
    try dsimp only at hZ
    obtain ⟨h93, h94⟩ := h92
    have h94 : r = 0 := h94
    subst h94
    refine gi_if_eq hC 22 dX1_findRoom_17 (by decide) (fun h3 => ?_) (fun h3 => ?_)
    ·
      refine gi_const hC (v := 0) dX1_findRoom_22 (by decide) ?_
      refine gi_ist_4 hC dX1_findRoom_23 (by decide) ?_
      exact L 24 0 σ3 _ _ rfl (gm_fr_tr hfr0 h91) h93 hZ
    · exact absurd rfl h3
set_option maxHeartbeats 4000000 in
set_option maxRecDepth 100000 in
theorem c_X1_takeIn (l : Launch) (E : gm_E) {kk : Nat} (hk : kk < 7) (σ : gm_S) (U V : Nat → Nat) (hg : gL σ U V) (q : pq) (hp : pk_rep σ kk q) (fol : Nat → Option Nat) (hfo : fo_rep σ kk fol) (lm : Option Nat) (hlm : ∀ j, lm = some j → j < 24) (hlm2 : σ.1 (gm_P kk) 10 = oI lm) (t : Nat) (ht : t < kk) (ht2 : σ.1 (gm_P kk) 11 = nI t) (e : Nat) (he : e < 24) : gm_MV l E yX1_takeIn (.code yX1_takeIn cX1_takeIn 7 none :: gw_T) { frames := 2, cells := 0, slots := 0, locals := 52 } [.ref (E.2.2 (gm_P kk)), .ref (E.2.2 1), .int (nI e)] σ (fun σ2 => gm_kp σ σ2 (pk_R kk) ∧ pk_rep σ2 kk (tkin U V fol q lm t e)) := by
  refine gm_enterV RX1 (by decide +kernel) rfl rfl (Nat.le_of_ble_eq_true rfl) (gm_c1_ok rfl) ?_
  intro X hC hR
  show gm_G X E 7 0 [some (.ref (E.2.2 (gm_P kk))), some (.ref (E.2.2 1)), some (.int (nI e)), none, none, none, none] [] σ
  obtain ⟨Z, hZ⟩ : ∃ Z, Z = tk U V fol 24 q lm (some t) := ⟨_, rfl⟩
  rw [tkin, ← hZ] at hR
  have L : ∀ n i (σ2 : gm_S) (q2 : pq) (m t2 : Option Nat) (w6 : Option Value), i + n = 24 → gm_kp σ σ2 (pk_R kk) → pk_rep σ2 kk q2 → (∀ j, m = some j → j < 24) → (∀ f, t2 = some f → f < kk) → Z = tk U V fol n q2 m t2 → gm_G X E 7 14 [some (.ref (E.2.2 (gm_P kk))), some (.ref (E.2.2 1)), some (.int (nI e)), some (.int (oI t2)), some (.int (oI m)), some (.int (nI i)), w6] [] σ2 := by
    intro n
    induction n with
    | zero =>
      intro i σ2 q2 m t2 w6 hi0 hkp hp2 hm ht2 hw
      have hi0 : i = 24 := by omega
      subst hi0
      rw [tk] at hw
      refine gi_ild hC dX1_takeIn_14 rfl ?_
      refine gi_bipush hC (v := 24) dX1_takeIn_16 (by decide) ?_
      refine gi_icmp_ge hC 68 dX1_takeIn_18 (by decide) (fun h1 => ?_) (fun h1 => ?_)
      ·
        refine gi_aldn hC dX1_takeIn_68 rfl ?_
        refine gi_aldn hC dX1_takeIn_69 rfl ?_
        refine gi_ildn hC dX1_takeIn_70 rfl ?_
        refine gi_ildn hC dX1_takeIn_71 rfl ?_
        refine gk_VV (n := 3) hC (fun l => c_X1_put l E hk σ2 U V (gL_kp hkp hg) q2 hp2 e he t2 ht2) (gm_o1 E hk) rfl (gw_V gw_231 gw_233 gw_6 gw_25 gw_234) rfl ⟨rfl, rfl⟩ rfl (by decide +kernel) ⟨by decide, by decide⟩ (Nat.le_of_ble_eq_true rfl) dX1_takeIn_72 (fun σ3 h9 => ?_)
        exact hR _ _ _ ⟨gm_kp_tr hkp h9.1, by rw [hw]; exact h9.2⟩ dX1_takeIn_75
      · exact absurd (Int32.le_refl _) h1
    | succ n ih =>
      intro i σ2 q2 m t2 w6 hi0 hkp hp2 hm ht2 hw
      refine gi_ild hC dX1_takeIn_14 rfl ?_
      refine gi_bipush hC (v := 24) dX1_takeIn_16 (by decide) ?_
      refine gi_icmp_ge hC 68 dX1_takeIn_18 (by decide) (fun h1 => ?_) (fun h1 => ?_)
      · exact absurd h1 (nI_ge (a := i) (b := 24) (by omega) (by omega))
      ·
        refine gi_ild hC dX1_takeIn_21 rfl ?_
        refine gi_if_lt hC 68 dX1_takeIn_23 (by decide) (fun h2 => ?_) (fun h2 => ?_)
        ·
          have hmn := (oI_neg (oI_in hm (by decide))).mp h2
          subst hmn
          rw [tk] at hw
          refine gi_aldn hC dX1_takeIn_68 rfl ?_
          refine gi_aldn hC dX1_takeIn_69 rfl ?_
          refine gi_ildn hC dX1_takeIn_70 rfl ?_
          refine gi_ildn hC dX1_takeIn_71 rfl ?_
          refine gk_VV (n := 3) hC (fun l => c_X1_put l E hk σ2 U V (gL_kp hkp hg) q2 hp2 e he t2 ht2) (gm_o1 E hk) rfl (gw_V gw_231 gw_233 gw_6 gw_25 gw_234) rfl ⟨rfl, rfl⟩ rfl (by decide +kernel) ⟨by decide, by decide⟩ (Nat.le_of_ble_eq_true rfl) dX1_takeIn_72 (fun σ3 h9 => ?_)
          exact hR _ _ _ ⟨gm_kp_tr hkp h9.1, by rw [hw]; exact h9.2⟩ dX1_takeIn_75
        ·
          obtain ⟨c, rfl⟩ : ∃ c, m = some c := by
            cases m with
            | none => exact absurd (by show (-1 : Int32) < 0; decide) h2
            | some c => exact ⟨c, rfl⟩
          have hc := hm c rfl
          rw [tk] at hw
          obtain ⟨p1, p2⟩ := hp2.1 c hc
          refine gi_aldn hC dX1_takeIn_26 rfl ?_
          refine gf_P_place hC hk gw_89 dX1_takeIn_27 ?_
          refine gi_ild hC dX1_takeIn_30 rfl ?_
          refine gi_iald hC (gm_iR E hk 1 (by decide) (by decide)) (j := c) hc rfl (by first | decide | omega) dX1_takeIn_32 ?_
          rw [p1]
          refine gi_ist_6 hC dX1_takeIn_33 (by decide) ?_
          refine gi_aldn hC dX1_takeIn_35 rfl ?_
          refine gi_aldn hC dX1_takeIn_36 rfl ?_
          refine gi_ild hC dX1_takeIn_37 rfl ?_
          refine gk_VV (n := 2) hC (fun l => c_X1_remove l E hk σ2 U V (gL_kp hkp hg) q2 hp2 c hc) (gm_o1 E hk) rfl (gw_V gw_223 gw_225 gw_5 gw_25 gw_226) rfl ⟨rfl, rfl⟩ rfl (by decide +kernel) ⟨by decide, by decide⟩ (Nat.le_of_ble_eq_true rfl) dX1_takeIn_39 (fun σ3 h3 => ?_)
          refine gi_aldn hC dX1_takeIn_42 rfl ?_
          refine gi_aldn hC dX1_takeIn_43 rfl ?_
          refine gi_ild hC dX1_takeIn_44 rfl ?_
          refine gi_ildn hC dX1_takeIn_46 rfl ?_
          refine gk_VV (n := 3) hC (fun l => c_X1_put l E hk σ3 U V (gL_kp (gm_kp_tr hkp h3.1) hg) _ h3.2 c hc t2 ht2) (gm_o1 E hk) rfl (gw_V gw_231 gw_233 gw_6 gw_25 gw_234) rfl ⟨rfl, rfl⟩ rfl (by decide +kernel) ⟨by decide, by decide⟩ (Nat.le_of_ble_eq_true rfl) dX1_takeIn_47 (fun σ4 h4 => ?_)
          have hkp4 := gm_kp_tr hkp (gm_kp_tr h3.1 h4.1)
          obtain ⟨f1, f2⟩ := hfo c hc
          rw [← hkp4.2 (gm_P kk + 3) (fun z => by unfold pk_R at z; omega)] at f1
          refine gi_ild hC dX1_takeIn_50 rfl ?_
          refine gi_istn_3 hC dX1_takeIn_52 (by decide) ?_
          refine gi_aldn hC dX1_takeIn_53 rfl ?_
          refine gf_P_follower hC hk gw_101 dX1_takeIn_54 ?_
          refine gi_ild hC dX1_takeIn_57 rfl ?_
          refine gi_iald hC (gm_iR E hk 3 (by decide) (by decide)) (j := c) hc rfl (by first | decide | omega) dX1_takeIn_59 ?_
          rw [f1]
          refine gi_ist_4 hC dX1_takeIn_60 (by decide) ?_
          refine gi_iinc_5 hC dX1_takeIn_62 (nI_1 i) (by decide) ?_
          refine gi_goto hC 14 dX1_takeIn_65 (by decide) ?_
          exact ih (i + 1) σ4 _ (fol c) (q2.1 c) _ (by omega) hkp4 h4.2 f2 p2 hw
  refine gi_aldn hC dX1_takeIn_0 rfl ?_
  refine gf_P_room hC hk gw_103 dX1_takeIn_1 ?_
  rw [ht2]
  refine gi_istn_3 hC dX1_takeIn_4 (by decide) ?_
  refine gi_aldn hC dX1_takeIn_5 rfl ?_
  refine gf_P_lastMoved hC hk gw_102 dX1_takeIn_6 ?_
  rw [hlm2]
  refine gi_ist_4 hC dX1_takeIn_9 (by decide) ?_
  refine gi_const hC (v := 0) dX1_takeIn_11 (by decide) ?_
  refine gi_ist_5 hC dX1_takeIn_12 (by decide) ?_
  exact L 24 0 σ q lm (some t) _ rfl gm_kp_rf hp hlm (fun f hf => by cases hf; exact ht) hZ
set_option maxHeartbeats 4000000 in
set_option maxRecDepth 100000 in
theorem c_X1_reason (l : Launch) (E : gm_E) {kk : Nat} (hk : kk < 7) (σ : gm_S) (U V : Nat → Nat) (hg : gL σ U V) (q : pq) (hp : pk_rep σ kk q) (fx : Nat → Bool) (hfx : bm (σ.1 (gm_P kk) 5) fx) (fol : Nat → Option Nat) (hfo : fo_rep σ kk fol) (e : Nat) (he : e < 24) : gm_MI l E yX1_reason (.code yX1_reason cX1_reason 3 (some .int) :: gw_T) { frames := 3, cells := 0, slots := 0, locals := 77 } [.ref (E.2.2 (gm_P kk)), .ref (E.2.2 1), .int (nI e)] σ (fun r σ2 => gm_fr σ σ2 (sr_F kk) (sr_R kk) ∧ sr_rep σ2 kk (fnd kk U V q fx (U e) (V e) fol).2 ∧ bm r (fun i => (fnd kk U V q fx (U e) (V e) fol).2.1 i || decide (i = e))) := by
  refine gm_enterI RX1 (by decide +kernel) rfl rfl (Nat.le_of_ble_eq_true rfl) (gm_c1_ok rfl) ?_
  intro X hC hR
  show gm_G X E 3 0 [some (.ref (E.2.2 (gm_P kk))), some (.ref (E.2.2 1)), some (.int (nI e))] [] σ
  obtain ⟨g1, g2, g3, g4⟩ := hg e he
  refine gi_aldn hC dX1_reason_0 rfl ?_
  refine gi_aldn hC dX1_reason_1 rfl ?_
  refine gi_aldn hC dX1_reason_2 rfl ?_
  refine gf_G_lesser hC gw_46 dX1_reason_3 ?_
  refine gi_ildn hC dX1_reason_6 rfl ?_
  refine gi_iald hC (gm_i2 E) he rfl (by first | decide | omega) dX1_reason_7 ?_
  refine gi_aldn hC dX1_reason_8 rfl ?_
  refine gf_G_greater hC gw_49 dX1_reason_9 ?_
  refine gi_ildn hC dX1_reason_12 rfl ?_
  refine gi_iald hC (gm_i3 E) he rfl (by first | decide | omega) dX1_reason_13 ?_
  rw [g1, g2]
  refine gk_VI (n := 3) hC (fun l => c_X1_findRoom l E hk σ U V hg q hp fx hfx fol hfo (U e) (V e) g3 g4) (gm_o1 E hk) rfl (gw_V gw_203 gw_204 gw_205 gw_25 gw_206) rfl ⟨rfl, rfl⟩ rfl (by decide +kernel) ⟨by decide, by decide⟩ (Nat.le_of_ble_eq_true rfl) dX1_reason_14 (fun r σ2 h9 => ?_)
  refine gi_pop hC dX1_reason_17 rfl ?_
  refine gi_aldn hC dX1_reason_18 rfl ?_
  refine gf_P_reached hC hk gw_98 dX1_reason_19 ?_
  refine gi_const hC (v := 1) dX1_reason_22 (by decide) ?_
  refine gi_ildn hC dX1_reason_23 rfl ?_
  refine gi_ishl hC dX1_reason_24 ?_
  refine gi_ior hC dX1_reason_25 ?_
  exact hR _ _ _ _ rfl ⟨h9.1, h9.2.1, bm_or h9.2.1.1 (bm_pow (by omega))⟩ dX1_reason_26
end
section
/-! MOVES: movesTo, settle, pack, isFirstOfClass -/
abbrev pfo : Type := pq × (Nat → Option Nat)
def lsb (S : Nat → Bool) : Nat → Nat → Option Nat
  | 0, _ => none
  | n + 1, e => if S e = true then some e else lsb S n (e + 1)
theorem lsb_some {S : Nat → Bool} {j : Nat} (hS : S j = true) (hl : ∀ i, i < j → S i = false) : ∀ n e, e ≤ j → j < e + n → lsb S n e = some j
  | 0, e, h1, h2 => by omega
  | n + 1, e, h1, h2 => by
    rw [lsb]
    by_cases he : e = j
    · subst he; rw [if_pos hS]
    · rw [if_neg (by rw [hl e (by omega)]; exact Bool.false_ne_true)]
      exact lsb_some hS hl n (e + 1) (by omega) (by omega)
theorem lsb_none {S : Nat → Bool} : ∀ n e, (∀ i, e ≤ i → i < e + n → S i = false) → lsb S n e = none
  | 0, _, _ => rfl
  | n + 1, e, h => by
    rw [lsb, if_neg (by rw [h e (Nat.le_refl e) (by omega)]; exact Bool.false_ne_true)]
    exact lsb_none n (e + 1) (fun i h1 h2 => h i (by omega) (by omega))
def mv1 (U V : Nat → Nat) (q : pq) (e f o : Nat) : pq := pq_put U V (pq_rem U V (pq_rem U V q o) e) e (some f)
def mvt (k : Nat) (U V : Nat → Nat) (fx : Nat → Bool) (z : pfo) (e f : Nat) : Bool × pfo := match wys z.1 (U e) (V e) f with
  | none => (true, (pq_put U V (pq_rem U V z.1 e) e (some f), z.2))
  | some S => match lsb (fun i => S i && !fx i) 24 0 with
    | none => (false, z)
    | some o => match fnd k U V (mv1 U V z.1 e f o) fx (U o) (V o) z.2 with
      | (some (lm, t), s) => (true, (tkin U V s.2.2 (mv1 U V z.1 e f o) lm t o, s.2.2))
      | (none, s) => (false, (pq_put U V (pq_put U V (pq_rem U V (mv1 U V z.1 e f o) e) e (z.1.1 e)) o (some f), s.2.2))
def st_in (k : Nat) (U V : Nat → Nat) (fx : Nat → Bool) (e : Nat) : Nat → Nat → pfo → pfo
  | 0, _, z => z
  | n + 1, f, z => match mvt k U V fx z e f with
    | (true, z2) => z2
    | (false, z2) => st_in k U V fx e n (f + 1) z2
def st_t (r : Option Nat) : Nat := match r with
  | none => 0
  | some t => t
def st_out (k : Nat) (U V : Nat → Nat) : Nat → Nat → (Nat → Bool) → pfo → pfo
  | 0, _, _, z => z
  | n + 1, e, fx, z => st_out k U V n (e + 1) (fun i => fx i || decide (i = e)) (st_in k U V (fun i => fx i || decide (i = e)) e (st_t (z.1.1 e)) 0 z)
def pk_lp (k : Nat) (U V : Nat → Nat) (ps : Nat → Bool) : Nat → Nat → pq × Nat × (Nat → Option Nat) → pq × Nat × (Nat → Option Nat)
  | 0, _, z => z
  | n + 1, e, z => if ps e = true then match fnd k U V z.1 (fun _ => false) (U e) (V e) z.2.2 with
      | (some (lm, t), s) => pk_lp k U V ps n (e + 1) (tkin U V s.2.2 z.1 lm t e, z.2.1 + 1, s.2.2)
      | (none, s) => pk_lp k U V ps n (e + 1) (z.1, z.2.1, s.2.2)
    else pk_lp k U V ps n (e + 1) z
def pq0 : pq := (fun _ => none, fun _ _ => none, fun _ _ => none)
def ifc (k : Nat) (U V : Nat → Nat) (q : pq) (fx : Nat → Bool) (v : Nat) : Nat → Nat → (Nat → Option Nat) → Bool × (Nat → Option Nat)
  | 0, _, fo => (true, fo)
  | n + 1, u, fo => match fnd k U V q fx u v fo with
    | (some _, s) => ifc k U V q fx v n (u + 1) s.2.2
    | (none, s) => (false, s.2.2)
def st_F (k x j : Nat) : Prop := x = gm_P k ∧ (j = 4 ∨ j = 5 ∨ j = 6 ∨ j = 8 ∨ j = 10 ∨ j = 11)
def mv_R (k y : Nat) : Prop := gm_P k < y ∧ y < gm_P k + 30
theorem mv_kp {σ σ2 : gm_S} {k : Nat} {F : Nat → Nat → Prop} (h : gm_kp σ σ2 (pk_R k)) : gm_fr σ σ2 F (mv_R k) := gm_fr_mono (gm_fr_kp (F := F) h) (fun _ _ z => z) (fun y hy => by unfold pk_R at hy; unfold mv_R; omega)
theorem mv_sr {σ σ2 : gm_S} {k : Nat} (h : gm_fr σ σ2 (sr_F k) (sr_R k)) : gm_fr σ σ2 (sr_F k) (mv_R k) := gm_fr_mono h (fun _ _ z => z) (fun y hy => by unfold sr_R at hy; unfold mv_R; omega)
theorem fo_kp {σ σ2 : gm_S} {k : Nat} {fol : Nat → Option Nat} (h : gm_kp σ σ2 (pk_R k)) (g : fo_rep σ k fol) : fo_rep σ2 k fol := fun e he => by rw [h.2 _ (fun z => by unfold pk_R at z; omega)]; exact g e he
theorem gL_mv {σ σ2 : gm_S} {U V : Nat → Nat} {k : Nat} {F : Nat → Nat → Prop} (h : gm_fr σ σ2 F (mv_R k)) (g : gL σ U V) : gL σ2 U V := gL_cong (h.2 2 (fun q => by unfold mv_R gm_P at q; omega)) (h.2 3 (fun q => by unfold mv_R gm_P at q; omega)) g
theorem fx_sr {σ σ2 : gm_S} {k : Nat} {R : Nat → Prop} {fx : Nat → Bool} (h : gm_fr σ σ2 (sr_F k) R) (g : bm (σ.1 (gm_P k) 5) fx) : bm (σ2.1 (gm_P k) 5) fx := by rw [h.1 _ 5 (fun z => by rcases z.2 with z | z | z | z <;> cases z)]; exact g
set_option maxHeartbeats 4000000 in
set_option maxRecDepth 100000 in
theorem c_X1_movesTo (l : Launch) (E : gm_E) {kk : Nat} (hk : kk < 7) (σ : gm_S) (U V : Nat → Nat) (hg : gL σ U V) (q : pq) (hp : pk_rep σ kk q) (fx : Nat → Bool) (hfx : bm (σ.1 (gm_P kk) 5) fx) (fol : Nat → Option Nat) (hfo : fo_rep σ kk fol) (e : Nat) (he : e < 24) (f : Nat) (hi : f < kk) : gm_MI l E yX1_movesTo (.code yX1_movesTo cX1_movesTo 7 (some .boolean) :: gw_T) { frames := 3, cells := 0, slots := 0, locals := 78 } [.ref (E.2.2 (gm_P kk)), .ref (E.2.2 1), .int (nI e), .int (nI f)] σ (fun r σ2 => gm_fr σ σ2 (sr_F kk) (mv_R kk) ∧ pk_rep σ2 kk (mvt kk U V fx (q, fol) e f).2.1 ∧ fo_rep σ2 kk (mvt kk U V fx (q, fol) e f).2.2 ∧ r = if (mvt kk U V fx (q, fol) e f).1 = true then 1 else 0) := by
  refine gm_enterI RX1 (by decide +kernel) rfl rfl (Nat.le_of_ble_eq_true rfl) (gm_c1_ok rfl) ?_
  intro X hC hR
  show gm_G X E 7 0 [some (.ref (E.2.2 (gm_P kk))), some (.ref (E.2.2 1)), some (.int (nI e)), some (.int (nI f)), none, none, none] [] σ
  obtain ⟨Z, hZ⟩ : ∃ Z, Z = mvt kk U V fx (q, fol) e f := ⟨_, rfl⟩
  rw [← hZ] at hR
  obtain ⟨g1, g2, g3, g4⟩ := hg e he
  unfold mvt at hZ
  try dsimp only at hZ
  refine gi_aldn hC dX1_movesTo_0 rfl ?_
  refine gf_P_forests hC hk gw_95 dX1_movesTo_1 ?_
  refine gi_ildn hC dX1_movesTo_4 rfl ?_
  refine gi_aaldF hC hk hi rfl dX1_movesTo_5 ?_
  refine gi_aldn hC dX1_movesTo_6 rfl ?_
  refine gf_G_lesser hC gw_46 dX1_movesTo_7 ?_
  refine gi_ildn hC dX1_movesTo_10 rfl ?_
  refine gi_iald hC (gm_i2 E) he rfl (by first | decide | omega) dX1_movesTo_11 ?_
  refine gi_aldn hC dX1_movesTo_12 rfl ?_
  refine gf_G_greater hC gw_49 dX1_movesTo_13 ?_
  refine gi_ildn hC dX1_movesTo_16 rfl ?_
  refine gi_iald hC (gm_i3 E) he rfl (by first | decide | omega) dX1_movesTo_17 ?_
  rw [g1, g2]
  refine gk_VI (n := 2) hC (fun l => c_X2_way l E hk hi σ (q.2.1 f) (q.2.2 f) (hp.2 f hi) (U e) (V e) g3 g4) (gm_o2 E hk hi) rfl (gw_V gw_211 gw_212 gw_213 gw_27 gw_214) rfl ⟨rfl, rfl⟩ rfl (by decide +kernel) ⟨by decide, by decide⟩ (Nat.le_of_ble_eq_true rfl) dX1_movesTo_18 (fun r σ3 hq => ?_)
  obtain ⟨hq, rfl⟩ := hq
  cases hwy : wys q (U e) (V e) f with
  | none =>
    rw [hwy] at hZ
    try dsimp only at hZ
    rw [show wm (q.2.1 f) (q.2.2 f) (U e) (V e) = none from hwy] at hq
    have hq : r = -1 := hq
    subst hq
    refine gi_ist_4 hC dX1_movesTo_21 (by decide) ?_
    refine gi_ild hC dX1_movesTo_23 rfl ?_
    refine gi_const hC (v := -1) dX1_movesTo_25 (by decide) ?_
    refine gi_icmp_ne hC 44 dX1_movesTo_26 (by decide) (fun h2 => ?_) (fun h2 => ?_)
    · exact absurd rfl h2
    ·
      refine gi_aldn hC dX1_movesTo_29 rfl ?_
      refine gi_aldn hC dX1_movesTo_30 rfl ?_
      refine gi_ildn hC dX1_movesTo_31 rfl ?_
      refine gk_VV (n := 2) hC (fun l => c_X1_remove l E hk σ3 U V hg q hp e he) (gm_o1 E hk) rfl (gw_V gw_223 gw_225 gw_5 gw_25 gw_226) rfl ⟨rfl, rfl⟩ rfl (by decide +kernel) ⟨by decide, by decide⟩ (Nat.le_of_ble_eq_true rfl) dX1_movesTo_32 (fun σ4 h4 => ?_)
      refine gi_aldn hC dX1_movesTo_35 rfl ?_
      refine gi_aldn hC dX1_movesTo_36 rfl ?_
      refine gi_ildn hC dX1_movesTo_37 rfl ?_
      refine gi_ildn hC dX1_movesTo_38 rfl ?_
      refine gk_VV (n := 3) hC (fun l => c_X1_put l E hk σ4 U V (gL_kp h4.1 hg) _ h4.2 e he (some f) (fun f2 hf2 => by cases hf2; exact hi)) (gm_o1 E hk) rfl (gw_V gw_231 gw_233 gw_6 gw_25 gw_234) rfl ⟨rfl, rfl⟩ rfl (by decide +kernel) ⟨by decide, by decide⟩ (Nat.le_of_ble_eq_true rfl) dX1_movesTo_39 (fun σ5 h5 => ?_)
      refine gi_const hC (v := 1) dX1_movesTo_42 (by decide) ?_
      exact hR _ _ _ _ (by decide +kernel) (by rw [hZ]; exact ⟨mv_kp (gm_kp_tr h4.1 h5.1), h5.2, fo_kp (gm_kp_tr h4.1 h5.1) hfo, rfl⟩) dX1_movesTo_43
  | some S =>
    rw [hwy] at hZ
    try dsimp only at hZ
    rw [show wm (q.2.1 f) (q.2.2 f) (U e) (V e) = some S from hwy] at hq
    have hq : bm r S := hq
    have hr1 : r ≠ -1 := wm_ne hq (wm_lt g3 g4 (fun j hj => ⟨((hp.2 f hi) j hj).2.1, ((hp.2 f hi) j hj).2.2.2⟩) hwy)
    refine gi_ist_4 hC dX1_movesTo_21 (by decide) ?_
    refine gi_ild hC dX1_movesTo_23 rfl ?_
    refine gi_const hC (v := -1) dX1_movesTo_25 (by decide) ?_
    refine gi_icmp_ne hC 44 dX1_movesTo_26 (by decide) (fun h2 => ?_) (fun h2 => ?_)
    ·
      refine gi_ild hC dX1_movesTo_44 rfl ?_
      refine gi_aldn hC dX1_movesTo_46 rfl ?_
      refine gf_P_fixed hC hk gw_97 dX1_movesTo_47 ?_
      refine gi_const hC (v := -1) dX1_movesTo_50 (by decide) ?_
      refine gi_ixor hC dX1_movesTo_51 ?_
      refine gi_iand hC dX1_movesTo_52 ?_
      refine gk_SI (n := 1) hC (fun l => c_X1_leastOf l E σ3 _) (gw_S gw_255 gw_256 gw_25 gw_257) rfl ⟨rfl, rfl⟩ rfl (by decide +kernel) ⟨by decide, by decide⟩ (Nat.le_of_ble_eq_true rfl) dX1_movesTo_53 (fun r2 σ4 hl => ?_)
      obtain ⟨rfl, hl⟩ := hl
      have hb2 := bm_and hq (bm_not hfx)
      rcases hl with ⟨o, ho, rfl, ho1, ho2⟩ | ⟨rfl, hl⟩
      ·
        have hls : lsb (fun i => S i && !fx i) 24 0 = some o := lsb_some ((hb2 o (by omega)).symm.trans ho1) (fun i hi2 => (hb2 i (by omega)).symm.trans (ho2 i hi2)) 24 0 (Nat.zero_le _) (by omega)
        rw [hls] at hZ
        try dsimp only at hZ
        obtain ⟨o1, o2, o3, o4⟩ := hg o ho
        obtain ⟨p1, p2⟩ := hp.1 e he
        refine gi_ist_5 hC dX1_movesTo_56 (by decide) ?_
        refine gi_ild hC dX1_movesTo_58 rfl ?_
        refine gi_const hC (v := -1) dX1_movesTo_60 (by decide) ?_
        refine gi_icmp_ne hC 66 dX1_movesTo_61 (by decide) (fun h3 => ?_) (fun h3 => ?_)
        ·
          refine gi_aldn hC dX1_movesTo_66 rfl ?_
          refine gf_P_place hC hk gw_89 dX1_movesTo_67 ?_
          refine gi_ildn hC dX1_movesTo_70 rfl ?_
          refine gi_iald hC (gm_iR E hk 1 (by decide) (by decide)) he rfl (by first | decide | omega) dX1_movesTo_71 ?_
          rw [p1]
          refine gi_ist_6 hC dX1_movesTo_72 (by decide) ?_
          refine gi_aldn hC dX1_movesTo_74 rfl ?_
          refine gi_aldn hC dX1_movesTo_75 rfl ?_
          refine gi_ild hC dX1_movesTo_76 rfl ?_
          refine gk_VV (n := 2) hC (fun l => c_X1_remove l E hk σ4 U V hg q hp o ho) (gm_o1 E hk) rfl (gw_V gw_223 gw_225 gw_5 gw_25 gw_226) rfl ⟨rfl, rfl⟩ rfl (by decide +kernel) ⟨by decide, by decide⟩ (Nat.le_of_ble_eq_true rfl) dX1_movesTo_78 (fun σ5 h5 => ?_)
          refine gi_aldn hC dX1_movesTo_81 rfl ?_
          refine gi_aldn hC dX1_movesTo_82 rfl ?_
          refine gi_ildn hC dX1_movesTo_83 rfl ?_
          refine gk_VV (n := 2) hC (fun l => c_X1_remove l E hk σ5 U V (gL_kp h5.1 hg) _ h5.2 e he) (gm_o1 E hk) rfl (gw_V gw_223 gw_225 gw_5 gw_25 gw_226) rfl ⟨rfl, rfl⟩ rfl (by decide +kernel) ⟨by decide, by decide⟩ (Nat.le_of_ble_eq_true rfl) dX1_movesTo_84 (fun σ6 h6 => ?_)
          have k6 := gm_kp_tr h5.1 h6.1
          refine gi_aldn hC dX1_movesTo_87 rfl ?_
          refine gi_aldn hC dX1_movesTo_88 rfl ?_
          refine gi_ildn hC dX1_movesTo_89 rfl ?_
          refine gi_ildn hC dX1_movesTo_90 rfl ?_
          refine gk_VV (n := 3) hC (fun l => c_X1_put l E hk σ6 U V (gL_kp k6 hg) _ h6.2 e he (some f) (fun f2 hf2 => by cases hf2; exact hi)) (gm_o1 E hk) rfl (gw_V gw_231 gw_233 gw_6 gw_25 gw_234) rfl ⟨rfl, rfl⟩ rfl (by decide +kernel) ⟨by decide, by decide⟩ (Nat.le_of_ble_eq_true rfl) dX1_movesTo_91 (fun σ7 h7 => ?_)
          have k7 := gm_kp_tr k6 h7.1
          have hg7 := gL_kp k7 hg
          obtain ⟨o1, o2, o3, o4⟩ := hg7 o ho
          refine gi_aldn hC dX1_movesTo_94 rfl ?_
          refine gi_aldn hC dX1_movesTo_95 rfl ?_
          refine gi_aldn hC dX1_movesTo_96 rfl ?_
          refine gf_G_lesser hC gw_46 dX1_movesTo_97 ?_
          refine gi_ild hC dX1_movesTo_100 rfl ?_
          refine gi_iald hC (gm_i2 E) ho rfl (by first | decide | omega) dX1_movesTo_102 ?_
          refine gi_aldn hC dX1_movesTo_103 rfl ?_
          refine gf_G_greater hC gw_49 dX1_movesTo_104 ?_
          refine gi_ild hC dX1_movesTo_107 rfl ?_
          refine gi_iald hC (gm_i3 E) ho rfl (by first | decide | omega) dX1_movesTo_109 ?_
          rw [o1, o2]
          refine gk_VI (n := 3) hC (fun l => c_X1_findRoom l E hk σ7 U V hg7 _ h7.2 fx (by rw [k7.1]; exact hfx) fol (fo_kp k7 hfo) (U o) (V o) o3 o4) (gm_o1 E hk) rfl (gw_V gw_203 gw_204 gw_205 gw_25 gw_206) rfl ⟨rfl, rfl⟩ rfl (by decide +kernel) ⟨by decide, by decide⟩ (Nat.le_of_ble_eq_true rfl) dX1_movesTo_110 (fun r3 σ8 h8 => ?_)
          obtain ⟨h81, h82⟩ := h8
          have hmv : mv1 U V q e f o = pq_put U V (pq_rem U V (pq_rem U V q o) e) e (some f) := rfl
          rw [← hmv] at h82 h7
          have hp8 := pk_sr hk h81 h7.2
          have hg8 := gL_sr h81 hg7
          generalize fnd kk U V (mv1 U V q e f o) fx (U o) (V o) fol = z at hZ h82
          obtain ⟨z1, z2⟩ := z
          cases z1 with
          | some w =>
            obtain ⟨lm, t⟩ := w
            try dsimp only at hZ
            obtain ⟨h83, rfl, h84, h85, h86, h87⟩ := h82
            refine gi_if_eq hC 125 dX1_movesTo_113 (by decide) (fun h9 => ?_) (fun h9 => ?_)
            · exact absurd h9 (by decide)
            ·
              refine gi_aldn hC dX1_movesTo_116 rfl ?_
              refine gi_aldn hC dX1_movesTo_117 rfl ?_
              refine gi_ild hC dX1_movesTo_118 rfl ?_
              refine gk_VV (n := 2) hC (fun l => c_X1_takeIn l E hk σ8 U V hg8 _ hp8 z2.2.2 h83.2.2.2.2 lm h86 h85 t h84 h87 o ho) (gm_o1 E hk) rfl (gw_V gw_219 gw_221 gw_4 gw_25 gw_222) rfl ⟨rfl, rfl⟩ rfl (by decide +kernel) ⟨by decide, by decide⟩ (Nat.le_of_ble_eq_true rfl) dX1_movesTo_120 (fun σ9 h9 => ?_)
              refine gi_const hC (v := 1) dX1_movesTo_123 (by decide) ?_
              exact hR _ _ _ _ (by decide +kernel) (by rw [hZ]; exact ⟨gm_fr_tr (mv_kp k7) (gm_fr_tr (mv_sr h81) (mv_kp h9.1)), h9.2, fo_kp h9.1 h83.2.2.2.2, rfl⟩) dX1_movesTo_124
          | none =>
            try dsimp only at hZ
            obtain ⟨h83, h84⟩ := h82
            have h84 : r3 = 0 := h84
            subst h84
            refine gi_if_eq hC 125 dX1_movesTo_113 (by decide) (fun h9 => ?_) (fun h9 => ?_)
            ·
              refine gi_aldn hC dX1_movesTo_125 rfl ?_
              refine gi_aldn hC dX1_movesTo_126 rfl ?_
              refine gi_ildn hC dX1_movesTo_127 rfl ?_
              refine gk_VV (n := 2) hC (fun l => c_X1_remove l E hk σ8 U V hg8 _ hp8 e he) (gm_o1 E hk) rfl (gw_V gw_223 gw_225 gw_5 gw_25 gw_226) rfl ⟨rfl, rfl⟩ rfl (by decide +kernel) ⟨by decide, by decide⟩ (Nat.le_of_ble_eq_true rfl) dX1_movesTo_128 (fun σ9 h9 => ?_)
              refine gi_aldn hC dX1_movesTo_131 rfl ?_
              refine gi_aldn hC dX1_movesTo_132 rfl ?_
              refine gi_ildn hC dX1_movesTo_133 rfl ?_
              refine gi_ild hC dX1_movesTo_134 rfl ?_
              refine gk_VV (n := 3) hC (fun l => c_X1_put l E hk σ9 U V (gL_kp h9.1 hg8) _ h9.2 e he (q.1 e) p2) (gm_o1 E hk) rfl (gw_V gw_231 gw_233 gw_6 gw_25 gw_234) rfl ⟨rfl, rfl⟩ rfl (by decide +kernel) ⟨by decide, by decide⟩ (Nat.le_of_ble_eq_true rfl) dX1_movesTo_136 (fun σ10 h10 => ?_)
              have k10 := gm_kp_tr h9.1 h10.1
              refine gi_aldn hC dX1_movesTo_139 rfl ?_
              refine gi_aldn hC dX1_movesTo_140 rfl ?_
              refine gi_ild hC dX1_movesTo_141 rfl ?_
              refine gi_ildn hC dX1_movesTo_143 rfl ?_
              refine gk_VV (n := 3) hC (fun l => c_X1_put l E hk σ10 U V (gL_kp k10 hg8) _ h10.2 o ho (some f) (fun f2 hf2 => by cases hf2; exact hi)) (gm_o1 E hk) rfl (gw_V gw_231 gw_233 gw_6 gw_25 gw_234) rfl ⟨rfl, rfl⟩ rfl (by decide +kernel) ⟨by decide, by decide⟩ (Nat.le_of_ble_eq_true rfl) dX1_movesTo_144 (fun σ11 h11 => ?_)
              have k11 := gm_kp_tr k10 h11.1
              refine gi_const hC (v := 0) dX1_movesTo_147 (by decide) ?_
              exact hR _ _ _ _ (by decide +kernel) (by rw [hZ]; exact ⟨gm_fr_tr (mv_kp k7) (gm_fr_tr (mv_sr h81) (mv_kp k11)), h11.2, fo_kp k11 h83.2.2.2.2, rfl⟩) dX1_movesTo_148
            · exact absurd rfl h9
        · exact absurd h3 (fun z => absurd (z ▸ (show (-1 : Int32) < 0 by decide)) (nI_pos (n := o) (by omega)))
      ·
        have hls : lsb (fun i => S i && !fx i) 24 0 = none := lsb_none 24 0 (fun i _ hi2 => (hb2 i (by omega)).symm.trans (hl i (by omega)))
        rw [hls] at hZ
        try dsimp only at hZ
        refine gi_ist_5 hC dX1_movesTo_56 (by decide) ?_
        refine gi_ild hC dX1_movesTo_58 rfl ?_
        refine gi_const hC (v := -1) dX1_movesTo_60 (by decide) ?_
        refine gi_icmp_ne hC 66 dX1_movesTo_61 (by decide) (fun h3 => ?_) (fun h3 => ?_)
        · exact absurd rfl h3
        ·
          refine gi_const hC (v := 0) dX1_movesTo_64 (by decide) ?_
          exact hR _ _ _ _ (by decide +kernel) (by rw [hZ]; exact ⟨gm_fr_rf, hp, hfo, rfl⟩) dX1_movesTo_65
    · exact absurd h2 hr1
set_option maxHeartbeats 4000000 in
set_option maxRecDepth 100000 in
theorem c_X1_isFirstOfClass (l : Launch) (E : gm_E) {kk : Nat} (hk : kk < 7) (σ : gm_S) (U V : Nat → Nat) (hg : gL σ U V) (q : pq) (hp : pk_rep σ kk q) (fx : Nat → Bool) (hfx : bm (σ.1 (gm_P kk) 5) fx) (fol : Nat → Option Nat) (hfo : fo_rep σ kk fol) (v : Nat) (hv : v < 10) : gm_MI l E yX1_isFirstOfClass (.code yX1_isFirstOfClass cX1_isFirstOfClass 4 (some .boolean) :: gw_T) { frames := 3, cells := 0, slots := 0, locals := 77 } [.ref (E.2.2 (gm_P kk)), .ref (E.2.2 1), .int (nI v)] σ (fun r σ2 => gm_fr σ σ2 (sr_F kk) (sr_R kk) ∧ fo_rep σ2 kk (ifc kk U V q fx v v 0 fol).2 ∧ r = if (ifc kk U V q fx v v 0 fol).1 = true then 1 else 0) := by
  refine gm_enterI RX1 (by decide +kernel) rfl rfl (Nat.le_of_ble_eq_true rfl) (gm_c1_ok rfl) ?_
  intro X hC hR
  show gm_G X E 4 0 [some (.ref (E.2.2 (gm_P kk))), some (.ref (E.2.2 1)), some (.int (nI v)), none] [] σ
  obtain ⟨Z, hZ⟩ : ∃ Z, Z = ifc kk U V q fx v v 0 fol := ⟨_, rfl⟩
  rw [← hZ] at hR
  have L : ∀ n i (σ2 : gm_S) (fo : Nat → Option Nat), i + n = v → gm_fr σ σ2 (sr_F kk) (sr_R kk) → fo_rep σ2 kk fo → Z = ifc kk U V q fx v n i fo → gm_G X E 4 2 [some (.ref (E.2.2 (gm_P kk))), some (.ref (E.2.2 1)), some (.int (nI v)), some (.int (nI i))] [] σ2 := by
    intro n
    induction n with
    | zero =>
      intro i σ2 fo hi0 hfr hf2 hw
      have hi0 : i = v := by omega
      subst hi0
      rw [ifc] at hw
      refine gi_ildn hC dX1_isFirstOfClass_2 rfl ?_
      refine gi_ildn hC dX1_isFirstOfClass_3 rfl ?_
      refine gi_icmp_ge hC 25 dX1_isFirstOfClass_4 (by decide) (fun h1 => ?_) (fun h1 => ?_)
      ·
        refine gi_const hC (v := 1) dX1_isFirstOfClass_25 (by decide) ?_
        exact hR _ _ _ _ (by decide +kernel) (by rw [hw]; exact ⟨hfr, hf2, rfl⟩) dX1_isFirstOfClass_26
      · exact absurd (Int32.le_refl _) h1
    | succ n ih =>
      intro i σ2 fo hi0 hfr hf2 hw
      refine gi_ildn hC dX1_isFirstOfClass_2 rfl ?_
      refine gi_ildn hC dX1_isFirstOfClass_3 rfl ?_
      refine gi_icmp_ge hC 25 dX1_isFirstOfClass_4 (by decide) (fun h1 => ?_) (fun h1 => ?_)
      · exact absurd h1 (nI_ge (a := i) (b := v) (by omega) (by omega))
      ·
        refine gi_aldn hC dX1_isFirstOfClass_7 rfl ?_
        refine gi_aldn hC dX1_isFirstOfClass_8 rfl ?_
        refine gi_ildn hC dX1_isFirstOfClass_9 rfl ?_
        refine gi_ildn hC dX1_isFirstOfClass_10 rfl ?_
        refine gk_VI (n := 3) hC (fun l => c_X1_findRoom l E hk σ2 U V (gL_sr hfr hg) q (pk_sr hk hfr hp) fx (fx_sr hfr hfx) fo hf2 i v (by omega) hv) (gm_o1 E hk) rfl (gw_V gw_203 gw_204 gw_205 gw_25 gw_206) rfl ⟨rfl, rfl⟩ rfl (by decide +kernel) ⟨by decide, by decide⟩ (Nat.le_of_ble_eq_true rfl) dX1_isFirstOfClass_11 (fun r σ3 h9 => ?_)
        obtain ⟨h91, h92⟩ := h9
        rw [ifc] at hw
        generalize fnd kk U V q fx i v fo = z at hw h92
        obtain ⟨z1, z2⟩ := z
        cases z1 with
        | some w =>
          try dsimp only at hw
          obtain ⟨lm, t⟩ := w
          obtain ⟨h93, rfl, -⟩ := h92
          refine gi_if_ne hC 19 dX1_isFirstOfClass_14 (by decide) (fun h3 => ?_) (fun h3 => ?_)
          ·
            refine gi_iinc_3 hC dX1_isFirstOfClass_19 (nI_1 i) (by decide) ?_
            refine gi_goto hC 2 dX1_isFirstOfClass_22 (by decide) ?_
            exact ih (i + 1) σ3 _ (by omega) (gm_fr_tr hfr h91) h93.2.2.2.2 hw
          · exact absurd h3 (by decide)
        | none =>
          try dsimp only at hw
          obtain ⟨h93, h94⟩ := h92
          have h94 : r = 0 := h94
          subst h94
          refine gi_if_ne hC 19 dX1_isFirstOfClass_14 (by decide) (fun h3 => ?_) (fun h3 => ?_)
          · exact absurd rfl h3
          ·
            refine gi_const hC (v := 0) dX1_isFirstOfClass_17 (by decide) ?_
            exact hR _ _ _ _ (by decide +kernel) (by rw [hw]; exact ⟨gm_fr_tr hfr h91, h93.2.2.2.2, rfl⟩) dX1_isFirstOfClass_18
  refine gi_const hC (v := 0) dX1_isFirstOfClass_0 (by decide) ?_
  refine gi_istn_3 hC dX1_isFirstOfClass_1 (by decide) ?_
  exact L v 0 σ fol (by omega) gm_fr_rf hfo hZ
set_option maxHeartbeats 4000000 in
set_option maxRecDepth 100000 in
theorem c_X1_settle (l : Launch) (E : gm_E) {kk : Nat} (hk : kk < 7) (σ : gm_S) (U V : Nat → Nat) (hg : gL σ U V) (q : pq) (hp : pk_rep σ kk q) (hfx : σ.1 (gm_P kk) 5 = 0) (hst : σ.1 (gm_P kk) 4 = 0 ∨ σ.1 (gm_P kk) 4 = 1) (fol : Nat → Option Nat) (hfo : fo_rep σ kk fol) : gm_MV l E yX1_settle (.code yX1_settle cX1_settle 5 none :: gw_T) { frames := 4, cells := 0, slots := 0, locals := 104 } [.ref (E.2.2 (gm_P kk)), .ref (E.2.2 1)] σ (fun σ2 => gm_fr σ σ2 (st_F kk) (mv_R kk) ∧ pk_rep σ2 kk (if σ.1 (gm_P kk) 4 = 1 then (q, fol) else st_out kk U V 24 0 (fun _ => false) (q, fol)).1 ∧ fo_rep σ2 kk (if σ.1 (gm_P kk) 4 = 1 then (q, fol) else st_out kk U V 24 0 (fun _ => false) (q, fol)).2 ∧ σ2.1 (gm_P kk) 5 = 0 ∧ σ2.1 (gm_P kk) 4 = 1) := by
  refine gm_enterV RX1 (by decide +kernel) rfl rfl (Nat.le_of_ble_eq_true rfl) (gm_c1_ok rfl) ?_
  intro X hC hR
  show gm_G X E 5 0 [some (.ref (E.2.2 (gm_P kk))), some (.ref (E.2.2 1)), none, none, none] [] σ
  obtain ⟨Z, hZ⟩ : ∃ Z, Z = st_out kk U V 24 0 (fun _ => false) (q, fol) := ⟨_, rfl⟩
  rw [← hZ] at hR
  have LI : ∀ n i e fx (z : pfo) (σ2 : gm_S) (t : Option Nat), e < 24 → i + n = st_t t → (∀ f, t = some f → f < kk) → gm_fr σ σ2 (st_F kk) (mv_R kk) → bm (σ2.1 (gm_P kk) 5) fx → pk_rep σ2 kk z.1 → fo_rep σ2 kk z.2 → (∀ (σ3 : gm_S) (z3 : pfo) (w3 w4 : Option Value), gm_fr σ σ3 (st_F kk) (mv_R kk) → bm (σ3.1 (gm_P kk) 5) fx → pk_rep σ3 kk z3.1 → fo_rep σ3 kk z3.2 → st_in kk U V fx e n i z = z3 → gm_G X E 5 74 [some (.ref (E.2.2 (gm_P kk))), some (.ref (E.2.2 1)), some (.int (nI e)), w3, w4] [] σ3) → gm_G X E 5 38 [some (.ref (E.2.2 (gm_P kk))), some (.ref (E.2.2 1)), some (.int (nI e)), some (.int (oI t)), some (.int (nI i))] [] σ2 := by
    intro n
    induction n with
    | zero =>
      intro i e fx z σ2 t he hi0 ht hfr hfx2 hp2 hf2 KK
      refine gi_ild hC dX1_settle_38 rfl ?_
      refine gi_ildn hC dX1_settle_40 rfl ?_
      refine gi_icmp_ge hC 74 dX1_settle_41 (by decide) (fun h1 => ?_) (fun h1 => ?_)
      · exact KK σ2 z _ _ hfr hfx2 hp2 hf2 rfl
      ·
        refine absurd ?_ h1
        cases t with
        | none => exact (by rw [show i = 0 from hi0]; decide)
        | some t => rw [show i = t from hi0]; exact Int32.le_refl _
    | succ n ih =>
      intro i e fx z σ2 t he hi0 ht hfr hfx2 hp2 hf2 KK
      obtain ⟨t, rfl⟩ : ∃ t2, t = some t2 := by
        cases t with
        | none => exact absurd hi0 (by show ¬ i + (n + 1) = 0; omega)
        | some t => exact ⟨t, rfl⟩
      have hi0 : i + (n + 1) = t := hi0
      have htk := ht t rfl
      have hi : i < kk := by omega
      refine gi_ild hC dX1_settle_38 rfl ?_
      refine gi_ildn hC dX1_settle_40 rfl ?_
      refine gi_icmp_ge hC 74 dX1_settle_41 (by decide) (fun h1 => ?_) (fun h1 => ?_)
      · exact absurd h1 (nI_ge (a := i) (b := t) (by omega) (by omega))
      ·
        refine gi_ild hC dX1_settle_44 rfl ?_
        refine gi_aldn hC dX1_settle_46 rfl ?_
        refine gf_P_forests hC hk gw_95 dX1_settle_47 ?_
        refine gi_alenF hC hk dX1_settle_50 ?_
        refine gi_icmp_ge hC 74 dX1_settle_51 (by decide) (fun h2 => ?_) (fun h2 => ?_)
        · exact absurd h2 (nI_ge (a := i) (b := kk) hi (by omega))
        ·
          refine gi_aldn hC dX1_settle_54 rfl ?_
          refine gi_aldn hC dX1_settle_55 rfl ?_
          refine gi_ildn hC dX1_settle_56 rfl ?_
          refine gi_ild hC dX1_settle_57 rfl ?_
          refine gk_VI (n := 3) hC (fun l => c_X1_movesTo l E hk σ2 U V (gL_mv hfr hg) z.1 hp2 fx hfx2 z.2 hf2 e he i hi) (gm_o1 E hk) rfl (gw_V gw_251 gw_253 gw_7 gw_25 gw_254) rfl ⟨rfl, rfl⟩ rfl (by decide +kernel) ⟨by decide, by decide⟩ (Nat.le_of_ble_eq_true rfl) dX1_settle_59 (fun r σ3 h9 => ?_)
          obtain ⟨h91, h92, h93, h94⟩ := h9
          have hfr3 := gm_fr_tr hfr (gm_fr_mono h91 (fun x j hx => ⟨hx.1, by rcases hx.2 with z | z | z | z <;> omega⟩) (fun _ z => z))
          have hfx3 := fx_sr h91 hfx2
          rw [show ((z.1, z.2) : pfo) = z from rfl] at h92 h93 h94
          cases hm : (mvt kk U V fx z e i).1 with
          | true =>
            rw [hm, if_pos rfl] at h94
            subst h94
            refine gi_if_eq hC 68 dX1_settle_62 (by decide) (fun h3 => ?_) (fun h3 => ?_)
            · exact absurd h3 (by decide)
            ·
              refine gi_goto hC 74 dX1_settle_65 (by decide) ?_
              refine KK σ3 _ _ _ hfr3 hfx3 h92 h93 ?_
              rw [st_in]
              rw [show mvt kk U V fx z e i = (true, (mvt kk U V fx z e i).2) from Prod.ext hm rfl]
          | false =>
            rw [hm, if_neg Bool.false_ne_true] at h94
            subst h94
            refine gi_if_eq hC 68 dX1_settle_62 (by decide) (fun h3 => ?_) (fun h3 => ?_)
            ·
              refine gi_iinc_4 hC dX1_settle_68 (nI_1 i) (by decide) ?_
              refine gi_goto hC 38 dX1_settle_71 (by decide) ?_
              refine ih (i + 1) e fx (mvt kk U V fx z e i).2 σ3 (some t) he (show i + 1 + n = t by omega) ht hfr3 hfx3 h92 h93 (fun σ4 z4 w3 w4 b1 b2 b3 b4 b5 => KK σ4 z4 w3 w4 b1 b2 b3 b4 ?_)
              rw [st_in]
              rw [show mvt kk U V fx z e i = (false, (mvt kk U V fx z e i).2) from Prod.ext hm rfl]
              exact b5
            · exact absurd rfl h3
  have LO : ∀ n i fx (z : pfo) (σ2 : gm_S) (w3 w4 : Option Value), i + n = 24 → gm_fr σ σ2 (st_F kk) (mv_R kk) → bm (σ2.1 (gm_P kk) 5) fx → pk_rep σ2 kk z.1 → fo_rep σ2 kk z.2 → σ.1 (gm_P kk) 4 ≠ 1 → Z = st_out kk U V n i fx z → gm_G X E 5 10 [some (.ref (E.2.2 (gm_P kk))), some (.ref (E.2.2 1)), some (.int (nI i)), w3, w4] [] σ2 := by
    intro n
    induction n with
    | zero =>
      intro i fx z σ2 w3 w4 hi0 hfr hfx2 hp2 hf2 hs4 hw
      have hi0 : i = 24 := by omega
      subst hi0
      rw [st_out] at hw
      subst hw
      refine gi_ildn hC dX1_settle_10 rfl ?_
      refine gi_bipush hC (v := 24) dX1_settle_11 (by decide) ?_
      refine gi_icmp_ge hC 80 dX1_settle_13 (by decide) (fun h1 => ?_) (fun h1 => ?_)
      ·
        refine gi_aldn hC dX1_settle_80 rfl ?_
        refine gi_const hC (v := 0) dX1_settle_81 (by decide) ?_
        refine pf_P_fixed hC hk gw_97 dX1_settle_82 ?_
        refine gi_aldn hC dX1_settle_85 rfl ?_
        refine gi_const hC (v := 1) dX1_settle_86 (by decide) ?_
        refine pf_P_isSettled hC hk (by decide) gw_96 dX1_settle_87 ?_
        refine hR _ _ _ ?_ dX1_settle_90
        rw [if_neg hs4]
        exact ⟨gm_fr_tr hfr (gm_fr_tr (gm_fr_sc ⟨rfl, by omega⟩) (gm_fr_sc ⟨rfl, by omega⟩)), pk_fr hk (fun _ _ => rfl) hp2, hf2, by rw [gm_sc_n _ _ (by omega), gm_sc_1], gm_sc_1 _ _ _ _⟩
      · exact absurd (Int32.le_refl _) h1
    | succ n ih =>
      intro i fx z σ2 w3 w4 hi0 hfr hfx2 hp2 hf2 hs4 hw
      rw [st_out] at hw
      refine gi_ildn hC dX1_settle_10 rfl ?_
      refine gi_bipush hC (v := 24) dX1_settle_11 (by decide) ?_
      refine gi_icmp_ge hC 80 dX1_settle_13 (by decide) (fun h1 => ?_) (fun h1 => ?_)
      · exact absurd h1 (nI_ge (a := i) (b := 24) (by omega) (by omega))
      ·
        refine gi_aldn hC dX1_settle_16 rfl ?_
        refine gi_dup hC dX1_settle_17 rfl ?_
        refine gf_P_fixed hC hk gw_97 dX1_settle_18 ?_
        refine gi_const hC (v := 1) dX1_settle_21 (by decide) ?_
        refine gi_ildn hC dX1_settle_22 rfl ?_
        refine gi_ishl hC dX1_settle_23 ?_
        refine gi_ior hC dX1_settle_24 ?_
        refine pf_P_fixed hC hk gw_97 dX1_settle_25 ?_
        have hfr3 : gm_fr σ (gm_sc σ2 (gm_P kk) 5 (σ2.1 (gm_P kk) 5 ||| 1 <<< (nI i &&& 31))) (st_F kk) (mv_R kk) := gm_fr_tr hfr (gm_fr_sc ⟨rfl, by omega⟩)
        have hfx3 : bm ((gm_sc σ2 (gm_P kk) 5 (σ2.1 (gm_P kk) 5 ||| 1 <<< (nI i &&& 31))).1 (gm_P kk) 5) (fun j => fx j || decide (j = i)) := by rw [gm_sc_1]; exact bm_or hfx2 (bm_pow (by omega))
        have hp3 : pk_rep (gm_sc σ2 (gm_P kk) 5 (σ2.1 (gm_P kk) 5 ||| 1 <<< (nI i &&& 31))) kk z.1 := pk_fr hk (fun _ _ => rfl) hp2
        have hf3 : fo_rep (gm_sc σ2 (gm_P kk) 5 (σ2.1 (gm_P kk) 5 ||| 1 <<< (nI i &&& 31))) kk z.2 := hf2
        generalize gm_sc σ2 (gm_P kk) 5 (σ2.1 (gm_P kk) 5 ||| 1 <<< (nI i &&& 31)) = σ3 at hfr3 hfx3 hp3 hf3 ⊢
        obtain ⟨p1, p2⟩ := hp3.1 i (by omega)
        refine gi_aldn hC dX1_settle_28 rfl ?_
        refine gf_P_place hC hk gw_89 dX1_settle_29 ?_
        refine gi_ildn hC dX1_settle_32 rfl ?_
        refine gi_iald hC (gm_iR E hk 1 (by decide) (by decide)) (j := i) (by omega) rfl (by first | decide | omega) dX1_settle_33 ?_
        rw [p1]
        refine gi_istn_3 hC dX1_settle_34 (by decide) ?_
        refine gi_const hC (v := 0) dX1_settle_35 (by decide) ?_
        refine gi_ist_4 hC dX1_settle_36 (by decide) ?_
        refine LI (st_t (z.1.1 i)) 0 i _ z σ3 (z.1.1 i) (by omega) (Nat.zero_add _) p2 hfr3 hfx3 hp3 hf3 (fun σ4 z4 w5 w6 b1 b2 b3 b4 b5 => ?_)
        refine gi_iinc_2 hC dX1_settle_74 (nI_1 i) (by decide) ?_
        refine gi_goto hC 10 dX1_settle_77 (by decide) ?_
        exact ih (i + 1) _ z4 σ4 _ _ (by omega) b1 b2 b3 b4 hs4 (by rw [hw, b5])
  refine gi_aldn hC dX1_settle_0 rfl ?_
  refine gf_P_isSettled hC hk gw_96 dX1_settle_1 ?_
  refine gi_if_eq hC 8 dX1_settle_4 (by decide) (fun h1 => ?_) (fun h1 => ?_)
  ·
    refine gi_const hC (v := 0) dX1_settle_8 (by decide) ?_
    refine gi_istn_2 hC dX1_settle_9 (by decide) ?_
    exact LO 24 0 (fun _ => false) (q, fol) σ _ _ rfl gm_fr_rf (by rw [hfx]; exact bm_0) hp hfo (by rw [h1]; decide) hZ
  · have h41 : σ.1 (gm_P kk) 4 = 1 := hst.elim (fun z => absurd z h1) id
    exact hR _ _ _ (by rw [if_pos h41]; exact ⟨gm_fr_rf, hp, hfo, hfx, h41⟩) dX1_settle_7
end
section
/-! pack; the graph's counts -/
def blk_F (k x j : Nat) : Prop := x = gm_P k
theorem fr_blk {σ σ2 : gm_S} {k : Nat} {F : Nat → Nat → Prop} (hF : ∀ x j, F x j → x = gm_P k) (h : gm_fr σ σ2 F (mv_R k)) : gm_fr σ σ2 (blk_F k) (mv_R k) := gm_fr_mono h hF (fun _ z => z)
theorem gL_blk {σ σ2 : gm_S} {U V : Nat → Nat} {k : Nat} {F : Nat → Nat → Prop} (h : gm_fr σ σ2 F (mv_R k)) (g : gL σ U V) : gL σ2 U V := gL_mv h g
def vs_lp (U V : Nat → Nat) (S : Nat → Bool) : Nat → Nat → (Nat → Bool) → (Nat → Bool)
  | 0, _, T => T
  | n + 1, e, T => if S e = true then vs_lp U V S n (e + 1) (fun i => T i || (decide (i = U e) || decide (i = V e))) else vs_lp U V S n (e + 1) T
def am_lp (U V : Nat → Nat) (ps S : Nat → Bool) : Nat → Nat → Nat → Nat
  | 0, _, c => c
  | n + 1, e, c => if ps e = true ∧ S (U e) = true ∧ S (V e) = true then am_lp U V ps S n (e + 1) (c + 1) else am_lp U V ps S n (e + 1) c
theorem vs_lp_no (U V : Nat → Nat) {S : Nat → Bool} : ∀ n e T, (∀ i, e ≤ i → i < e + n → S i = false) → vs_lp U V S n e T = T
  | 0, _, _, _ => rfl
  | n + 1, e, T, h => by
    rw [vs_lp, if_neg (by rw [h e (Nat.le_refl e) (by omega)]; exact Bool.false_ne_true)]
    exact vs_lp_no U V n (e + 1) T (fun i h1 h2 => h i (by omega) (by omega))
theorem vs_lp_one (U V : Nat → Nat) (d : Nat) : ∀ n e T, e ≤ d → d < e + n → vs_lp U V (fun i => decide (i = d)) n e T = (fun i => T i || (decide (i = U d) || decide (i = V d)))
  | 0, e, T, h1, h2 => by omega
  | n + 1, e, T, h1, h2 => by
    rw [vs_lp]
    by_cases h : e = d
    · subst h
      rw [if_pos (by simp), vs_lp_no U V n (e + 1) _ (fun i a _ => by simp; omega)]
    · rw [if_neg (by simp [h])]
      exact vs_lp_one U V d n (e + 1) T (by omega) (by omega)
theorem am_lp_le (U V : Nat → Nat) (ps S : Nat → Bool) : ∀ n e c, am_lp U V ps S n e c ≤ c + n
  | 0, _, c => Nat.le_refl c
  | n + 1, e, c => by
    rw [am_lp]
    split
    · have := am_lp_le U V ps S n (e + 1) (c + 1); omega
    · have := am_lp_le U V ps S n (e + 1) c; omega
/-- Integer.bitCount's own formula -/
def jus (x y : Int32) : Int32 := (x.toUInt32 >>> (y.toUInt32 &&& Int32.toUInt32 31)).toInt32
def jb1 (x : Int32) : Int32 := x - ((jus x 1) &&& 1431655765)
def jb2 (x : Int32) : Int32 := (x &&& 858993459) + ((jus x 2) &&& 858993459)
def jb3 (x : Int32) : Int32 := (x + jus x 4) &&& 252645135
def jb4 (x : Int32) : Int32 := x + jus x 8
def jb5 (x : Int32) : Int32 := x + jus x 16
def jbc (x : Int32) : Int32 := jb5 (jb4 (jb3 (jb2 (jb1 x)))) &&& 63
set_option maxHeartbeats 4000000 in
set_option maxRecDepth 100000 in
theorem c_X1_pack (l : Launch) (E : gm_E) {kk : Nat} (hk : kk < 7) (σ : gm_S) (U V : Nat → Nat) (hg : gL σ U V) (ps : Nat → Bool) (hb : bm (σ.1 1 2) ps) (hfx : σ.1 (gm_P kk) 5 = 0) (fol : Nat → Option Nat) (hfo : fo_rep σ kk fol) : gm_MV l E yX1_pack (.code yX1_pack cX1_pack 3 none :: gw_T) { frames := 3, cells := 0, slots := 0, locals := 78 } [.ref (E.2.2 (gm_P kk)), .ref (E.2.2 1)] σ (fun σ2 => gm_fr σ σ2 (blk_F kk) (mv_R kk) ∧ pk_rep σ2 kk (pk_lp kk U V ps 24 0 (pq0, 0, fol)).1 ∧ fo_rep σ2 kk (pk_lp kk U V ps 24 0 (pq0, 0, fol)).2.2 ∧ σ2.1 (gm_P kk) 1 = nI (pk_lp kk U V ps 24 0 (pq0, 0, fol)).2.1 ∧ σ2.1 (gm_P kk) 2 = 1 ∧ σ2.1 (gm_P kk) 4 = 0 ∧ σ2.1 (gm_P kk) 5 = 0) := by
  refine gm_enterV RX1 (by decide +kernel) rfl rfl (Nat.le_of_ble_eq_true rfl) (gm_c1_ok rfl) ?_
  intro X hC hR
  show gm_G X E 3 0 [some (.ref (E.2.2 (gm_P kk))), some (.ref (E.2.2 1)), none] [] σ
  obtain ⟨Z, hZ⟩ : ∃ Z, Z = pk_lp kk U V ps 24 0 (pq0, 0, fol) := ⟨_, rfl⟩
  rw [← hZ] at hR
  have LP : ∀ n i (z : pq × Nat × (Nat → Option Nat)) (σ2 : gm_S), i + n = 24 → gm_fr σ σ2 (blk_F kk) (mv_R kk) → pk_rep σ2 kk z.1 → fo_rep σ2 kk z.2.2 → σ2.1 (gm_P kk) 1 = nI z.2.1 → σ2.1 (gm_P kk) 5 = 0 → Z = pk_lp kk U V ps n i z → gm_G X E 3 41 [some (.ref (E.2.2 (gm_P kk))), some (.ref (E.2.2 1)), some (.int (nI i))] [] σ2 := by
    intro n
    induction n with
    | zero =>
      intro i z σ2 hi0 hfr hp2 hf2 hsz hfx2 hw
      have hi0 : i = 24 := by omega
      subst hi0
      rw [pk_lp] at hw
      subst hw
      refine gi_ildn hC dX1_pack_41 rfl ?_
      refine gi_bipush hC (v := 24) dX1_pack_42 (by decide) ?_
      refine gi_icmp_ge hC 97 dX1_pack_44 (by decide) (fun h1 => ?_) (fun h1 => ?_)
      ·
        refine gi_aldn hC dX1_pack_97 rfl ?_
        refine gi_const hC (v := 1) dX1_pack_98 (by decide) ?_
        refine pf_P_isPacked hC hk (by decide) gw_93 dX1_pack_99 ?_
        refine gi_aldn hC dX1_pack_102 rfl ?_
        refine gi_const hC (v := 0) dX1_pack_103 (by decide) ?_
        refine pf_P_isSettled hC hk (by decide) gw_96 dX1_pack_104 ?_
        refine hR _ _ _ ⟨gm_fr_tr hfr (gm_fr_tr (gm_fr_sc rfl) (gm_fr_sc rfl)), pk_fr hk (fun _ _ => rfl) hp2, hf2, ?_, ?_, gm_sc_1 _ _ _ _, ?_⟩ dX1_pack_107
        · rw [gm_sc_n _ _ (by omega), gm_sc_n _ _ (by omega)]; exact hsz
        · rw [gm_sc_n _ _ (by omega), gm_sc_1]
        · rw [gm_sc_n _ _ (by omega), gm_sc_n _ _ (by omega)]; exact hfx2
      · exact absurd (Int32.le_refl _) h1
    | succ n ih =>
      intro i z σ2 hi0 hfr hp2 hf2 hsz hfx2 hw
      have hb2 : bm (σ2.1 1 2) ps := by rw [hfr.1 1 2 (fun z => by unfold blk_F gm_P at z; omega)]; exact hb
      have hg2 := gL_mv hfr hg
      obtain ⟨g1, g2, g3, g4⟩ := hg2 i (by omega)
      rw [pk_lp] at hw
      have NX : ∀ (σ3 : gm_S) (z3 : pq × Nat × (Nat → Option Nat)), gm_fr σ σ3 (blk_F kk) (mv_R kk) → pk_rep σ3 kk z3.1 → fo_rep σ3 kk z3.2.2 → σ3.1 (gm_P kk) 1 = nI z3.2.1 → σ3.1 (gm_P kk) 5 = 0 → Z = pk_lp kk U V ps n (i + 1) z3 → gm_G X E 3 91 [some (.ref (E.2.2 (gm_P kk))), some (.ref (E.2.2 1)), some (.int (nI i))] [] σ3 := by
        intro σ3 z3 a1 a2 a3 a4 a5 a6
        refine gi_iinc_2 hC dX1_pack_91 (nI_1 i) (by decide) ?_
        refine gi_goto hC 41 dX1_pack_94 (by decide) ?_
        exact ih (i + 1) z3 σ3 (by omega) a1 a2 a3 a4 a5 a6
      refine gi_ildn hC dX1_pack_41 rfl ?_
      refine gi_bipush hC (v := 24) dX1_pack_42 (by decide) ?_
      refine gi_icmp_ge hC 97 dX1_pack_44 (by decide) (fun h1 => ?_) (fun h1 => ?_)
      · exact absurd h1 (nI_ge (a := i) (b := 24) (by omega) (by omega))
      ·
        refine gi_aldn hC dX1_pack_47 rfl ?_
        refine gi_ildn hC dX1_pack_48 rfl ?_
        refine gk_VI (n := 1) hC (fun l => c_X0_hasEdge l E σ2 (nI i)) (gm_o0 E) rfl (gw_V gw_202 gw_167 gw_168 gw_24 gw_169) rfl ⟨rfl, rfl⟩ rfl (by decide +kernel) ⟨by decide, by decide⟩ (Nat.le_of_ble_eq_true rfl) dX1_pack_49 (fun r σ3 hq => ?_)
        obtain ⟨hq, rfl⟩ := hq
        rw [gE_has_nI (by omega), hb2 i (by omega)] at hq
        refine gi_if_eq hC 91 dX1_pack_52 (by decide) (fun h2 => ?_) (fun h2 => ?_)
        ·
          have hpi : ¬ ps i = true := by
            rcases hq with ⟨a1, -⟩ | ⟨-, a1⟩
            · rw [a1] at h2; exact absurd h2 (by decide)
            · exact a1
          rw [if_neg hpi] at hw
          exact NX σ3 z hfr hp2 hf2 hsz hfx2 hw
        ·
          have hpi : ps i = true := by
            rcases hq with ⟨-, a1⟩ | ⟨a1, -⟩
            · exact a1
            · exact absurd a1 h2
          rw [if_pos hpi] at hw
          refine gi_aldn hC dX1_pack_55 rfl ?_
          refine gi_aldn hC dX1_pack_56 rfl ?_
          refine gi_aldn hC dX1_pack_57 rfl ?_
          refine gf_G_lesser hC gw_46 dX1_pack_58 ?_
          refine gi_ildn hC dX1_pack_61 rfl ?_
          refine gi_iald hC (gm_i2 E) (j := i) (by omega) rfl (by first | decide | omega) dX1_pack_62 ?_
          refine gi_aldn hC dX1_pack_63 rfl ?_
          refine gf_G_greater hC gw_49 dX1_pack_64 ?_
          refine gi_ildn hC dX1_pack_67 rfl ?_
          refine gi_iald hC (gm_i3 E) (j := i) (by omega) rfl (by first | decide | omega) dX1_pack_68 ?_
          rw [g1, g2]
          refine gk_VI (n := 3) hC (fun l => c_X1_findRoom l E hk σ3 U V hg2 z.1 hp2 (fun _ => false) (by rw [hfx2]; exact bm_0) z.2.2 hf2 (U i) (V i) g3 g4) (gm_o1 E hk) rfl (gw_V gw_203 gw_204 gw_205 gw_25 gw_206) rfl ⟨rfl, rfl⟩ rfl (by decide +kernel) ⟨by decide, by decide⟩ (Nat.le_of_ble_eq_true rfl) dX1_pack_69 (fun r σ4 h9 => ?_)
          obtain ⟨h91, h92⟩ := h9
          have hfr4 := gm_fr_tr hfr (fr_blk (fun _ _ h => h.1) (mv_sr h91))
          have hp4 := pk_sr hk h91 hp2
          have hsz4 : σ4.1 (gm_P kk) 1 = nI z.2.1 := by rw [h91.1 _ 1 (fun z => by rcases z.2 with z | z | z | z <;> cases z)]; exact hsz
          have hfx4 : σ4.1 (gm_P kk) 5 = 0 := by rw [h91.1 _ 5 (fun z => by rcases z.2 with z | z | z | z <;> cases z)]; exact hfx2
          generalize fnd kk U V z.1 (fun _ => false) (U i) (V i) z.2.2 = w at hw h92
          obtain ⟨w1, w2⟩ := w
          cases w1 with
          | some w =>
            obtain ⟨lm, t⟩ := w
            try dsimp only at hw
            obtain ⟨h93, rfl, h94, h95, h96, h97⟩ := h92
            refine gi_if_eq hC 91 dX1_pack_72 (by decide) (fun h3 => ?_) (fun h3 => ?_)
            · exact absurd h3 (by decide)
            ·
              refine gi_aldn hC dX1_pack_75 rfl ?_
              refine gi_aldn hC dX1_pack_76 rfl ?_
              refine gi_ildn hC dX1_pack_77 rfl ?_
              refine gk_VV (n := 2) hC (fun l => c_X1_takeIn l E hk σ4 U V (gL_sr h91 hg2) z.1 hp4 w2.2.2 h93.2.2.2.2 lm h96 h95 t h94 h97 i (by omega)) (gm_o1 E hk) rfl (gw_V gw_219 gw_221 gw_4 gw_25 gw_222) rfl ⟨rfl, rfl⟩ rfl (by decide +kernel) ⟨by decide, by decide⟩ (Nat.le_of_ble_eq_true rfl) dX1_pack_78 (fun σ5 h5 => ?_)
              refine gi_aldn hC dX1_pack_81 rfl ?_
              refine gi_dup hC dX1_pack_82 rfl ?_
              refine gf_P_size hC hk gw_91 dX1_pack_83 ?_
              rw [show σ5.1 = σ4.1 from h5.1.1, hsz4]
              refine gi_const hC (v := 1) dX1_pack_86 (by decide) ?_
              refine gi_iadd hC dX1_pack_87 ?_
              rw [nI_1]
              refine pf_P_size hC hk gw_91 dX1_pack_88 ?_
              refine NX _ (_, z.2.1 + 1, w2.2.2) (gm_fr_tr hfr4 (gm_fr_tr (mv_kp h5.1) (gm_fr_sc rfl))) (pk_fr hk (fun _ _ => rfl) h5.2) (fo_kp (σ2 := σ5) h5.1 h93.2.2.2.2) (gm_sc_1 _ _ _ _) ?_ hw
              rw [gm_sc_n _ _ (by omega), h5.1.1]; exact hfx4
          | none =>
            try dsimp only at hw
            obtain ⟨h93, h94⟩ := h92
            have h94 : r = 0 := h94
            subst h94
            refine gi_if_eq hC 91 dX1_pack_72 (by decide) (fun h3 => ?_) (fun h3 => ?_)
            · exact NX σ4 (z.1, z.2.1, w2.2.2) hfr4 hp4 h93.2.2.2.2 hsz4 hfx4 hw
            · exact absurd rfl h3
  have LC : ∀ n i (σ2 : gm_S), i + n = kk → gm_kp σ σ2 (pk_R kk) → (∀ j, j < i → fr_rep σ2 (gm_P kk + 5 + 3 * j) (fun _ => none) (fun _ => none)) → gm_G X E 3 2 [some (.ref (E.2.2 (gm_P kk))), some (.ref (E.2.2 1)), some (.int (nI i))] [] σ2 := by
    intro n
    induction n with
    | zero =>
      intro i σ2 hi0 hkp hfr2
      have hi0 : i = kk := by omega
      subst hi0
      refine gi_ildn hC dX1_pack_2 rfl ?_
      refine gi_aldn hC dX1_pack_3 rfl ?_
      refine gf_P_forests hC hk gw_95 dX1_pack_4 ?_
      refine gi_alenF hC hk dX1_pack_7 ?_
      refine gi_icmp_ge hC 26 dX1_pack_8 (by decide) (fun h1 => ?_) (fun h1 => ?_)
      ·
        refine gi_aldn hC dX1_pack_26 rfl ?_
        refine gf_P_place hC hk gw_89 dX1_pack_27 ?_
        refine gi_const hC (v := -1) dX1_pack_30 (by decide) ?_
        refine gk_SV (n := 2) hC (fun l => c_J7_fill_53178 l E (gm_P i + 1) 24 (gm_iR E hk 1 (by decide) (by decide)) (by decide) σ2 (-1)) (gw_S gw_201 gw_199 gw_30 gw_200) rfl ⟨rfl, rfl⟩ rfl (by decide +kernel) ⟨by decide, by decide⟩ (Nat.le_of_ble_eq_true rfl) dX1_pack_31 (fun σ3 h3 => ?_)
        refine gi_aldn hC dX1_pack_34 rfl ?_
        refine gi_const hC (v := 0) dX1_pack_35 (by decide) ?_
        refine pf_P_size hC hk gw_91 dX1_pack_36 ?_
        refine gi_const hC (v := 0) dX1_pack_39 (by decide) ?_
        refine gi_istn_2 hC dX1_pack_40 (by decide) ?_
        have hkp3 := gm_kp_tr hkp (gm_kp_mono h3.1 (fun _ z => Or.inl z))
        refine LP 24 0 (pq0, 0, fol) _ rfl (gm_fr_tr (mv_kp hkp3) (gm_fr_sc rfl)) ⟨fun e he => ?_, fun j hj => ?_⟩ (fo_kp (σ2 := σ3) hkp3 hfo) (gm_sc_1 _ _ _ _) ?_ hZ
        · show (gm_sc σ3 (gm_P i) 1 0).2 (gm_P i + 1) e = oI none ∧ ∀ i2, (none : Option Nat) = some i2 → i2 < i
          exact ⟨h3.2 e he, fun _ h => by cases h⟩
        · exact fr_cong (σ := σ2) (h3.1.2 _ (by omega)) (h3.1.2 _ (by omega)) (hfr2 j hj)
        · rw [gm_sc_n _ _ (by omega), hkp3.1]; exact hfx
      · exact absurd (Int32.le_refl _) h1
    | succ n ih =>
      intro i σ2 hi0 hkp hfr2
      have hi : i < kk := by omega
      refine gi_ildn hC dX1_pack_2 rfl ?_
      refine gi_aldn hC dX1_pack_3 rfl ?_
      refine gf_P_forests hC hk gw_95 dX1_pack_4 ?_
      refine gi_alenF hC hk dX1_pack_7 ?_
      refine gi_icmp_ge hC 26 dX1_pack_8 (by decide) (fun h1 => ?_) (fun h1 => ?_)
      · exact absurd h1 (nI_ge (a := i) (b := kk) hi (by omega))
      ·
        refine gi_aldn hC dX1_pack_11 rfl ?_
        refine gf_P_forests hC hk gw_95 dX1_pack_12 ?_
        refine gi_ildn hC dX1_pack_15 rfl ?_
        refine gi_aaldF hC hk hi rfl dX1_pack_16 ?_
        refine gk_VV (n := 0) hC (fun l => c_X2_clear l E hk hi σ2) (gm_o2 E hk hi) rfl (gw_V gw_194 gw_195 gw_196 gw_27 gw_197) rfl ⟨rfl, rfl⟩ rfl (by decide +kernel) ⟨by decide, by decide⟩ (Nat.le_of_ble_eq_true rfl) dX1_pack_17 (fun σ3 h3 => ?_)
        refine gi_iinc_2 hC dX1_pack_20 (nI_1 i) (by decide) ?_
        refine gi_goto hC 2 dX1_pack_23 (by decide) ?_
        refine ih (i + 1) σ3 (by omega) (gm_kp_tr hkp (gm_kp_mono h3.1 (fun y hy => Or.inr (by rcases hy with r | r <;> omega)))) (fun j hj => ?_)
        by_cases hji : j = i
        · subst hji; exact h3.2
        · exact fr_cong (h3.1.2 _ (by omega)) (h3.1.2 _ (by omega)) (hfr2 j (by omega))
  refine gi_const hC (v := 0) dX1_pack_0 (by decide) ?_
  refine gi_istn_2 hC dX1_pack_1 (by decide) ?_
  exact LC kk 0 σ (by omega) gm_kp_rf (fun j hj => absurd hj (Nat.not_lt_zero j))
set_option maxHeartbeats 4000000 in
set_option maxRecDepth 100000 in
theorem c_X0_verticesOf (l : Launch) (E : gm_E) (σ : gm_S) (U V : Nat → Nat) (hg : gL σ U V) (x : Int32) (S : Nat → Bool) (hx : bm x S) : gm_MI l E yX0_verticesOf (.code yX0_verticesOf cX0_verticesOf 4 (some .int) :: gw_T) { frames := 0, cells := 0, slots := 0, locals := 0 } [.ref (E.2.2 1), .int x] σ (fun r σ2 => σ2 = σ ∧ bm r (vs_lp U V S 24 0 (fun _ => false))) := by
  refine gm_enterI RX0 (by decide +kernel) rfl rfl (Nat.le_of_ble_eq_true rfl) (gm_c1_ok rfl) ?_
  intro X hC hR
  show gm_G X E 4 0 [some (.ref (E.2.2 1)), some (.int x), none, none] [] σ
  obtain ⟨Z, hZ⟩ : ∃ Z, Z = vs_lp U V S 24 0 (fun _ => false) := ⟨_, rfl⟩
  rw [← hZ] at hR
  have L : ∀ n i (y : Int32) (T : Nat → Bool), i + n = 24 → bm y T → Z = vs_lp U V S n i T → gm_G X E 4 4 [some (.ref (E.2.2 1)), some (.int x), some (.int y), some (.int (nI i))] [] σ := by
    intro n
    induction n with
    | zero =>
      intro i y T hi0 hy hw
      have hi0 : i = 24 := by omega
      subst hi0
      rw [vs_lp] at hw
      subst hw
      refine gi_ildn hC dX0_verticesOf_4 rfl ?_
      refine gi_bipush hC (v := 24) dX0_verticesOf_5 (by decide) ?_
      refine gi_icmp_ge hC 45 dX0_verticesOf_7 (by decide) (fun h1 => ?_) (fun h1 => ?_)
      ·
        refine gi_ildn hC dX0_verticesOf_45 rfl ?_
        exact hR _ _ _ _ rfl ⟨rfl, hy⟩ dX0_verticesOf_46
      · exact absurd (Int32.le_refl _) h1
    | succ n ih =>
      intro i y T hi0 hy hw
      obtain ⟨g1, g2, g3, g4⟩ := hg i (by omega)
      rw [vs_lp] at hw
      refine gi_ildn hC dX0_verticesOf_4 rfl ?_
      refine gi_bipush hC (v := 24) dX0_verticesOf_5 (by decide) ?_
      refine gi_icmp_ge hC 45 dX0_verticesOf_7 (by decide) (fun h1 => ?_) (fun h1 => ?_)
      · exact absurd h1 (nI_ge (a := i) (b := 24) (by omega) (by omega))
      ·
        refine gi_ildn hC dX0_verticesOf_10 rfl ?_
        refine gi_ildn hC dX0_verticesOf_11 rfl ?_
        refine gi_ishr hC dX0_verticesOf_12 ?_
        refine gi_const hC (v := 1) dX0_verticesOf_13 (by decide) ?_
        refine gi_iand hC dX0_verticesOf_14 ?_
        refine gi_const hC (v := 1) dX0_verticesOf_15 (by decide) ?_
        refine gi_icmp_ne hC 39 dX0_verticesOf_16 (by decide) (fun h2 => ?_) (fun h2 => ?_)
        ·
          have hSi : ¬ S i = true := by
            rw [← hx i (by omega)]
            exact fun hbb => h2 ((b_tst1 x (by omega)).mpr hbb)
          rw [if_neg hSi] at hw
          refine gi_iinc_3 hC dX0_verticesOf_39 (nI_1 i) (by decide) ?_
          refine gi_goto hC 4 dX0_verticesOf_42 (by decide) ?_
          exact ih (i + 1) y T (by omega) hy hw
        ·
          have hSi : S i = true := by
            rw [← hx i (by omega)]
            exact (b_tst1 x (by omega)).mp h2
          rw [if_pos hSi] at hw
          refine gi_ildn hC dX0_verticesOf_19 rfl ?_
          refine gi_const hC (v := 1) dX0_verticesOf_20 (by decide) ?_
          refine gi_aldn hC dX0_verticesOf_21 rfl ?_
          refine gf_G_lesser hC gw_45 dX0_verticesOf_22 ?_
          refine gi_ildn hC dX0_verticesOf_25 rfl ?_
          refine gi_iald hC (gm_i2 E) (j := i) (by omega) rfl (by first | decide | omega) dX0_verticesOf_26 ?_
          rw [g1]
          refine gi_ishl hC dX0_verticesOf_27 ?_
          refine gi_const hC (v := 1) dX0_verticesOf_28 (by decide) ?_
          refine gi_aldn hC dX0_verticesOf_29 rfl ?_
          refine gf_G_greater hC gw_48 dX0_verticesOf_30 ?_
          refine gi_ildn hC dX0_verticesOf_33 rfl ?_
          refine gi_iald hC (gm_i3 E) (j := i) (by omega) rfl (by first | decide | omega) dX0_verticesOf_34 ?_
          rw [g2]
          refine gi_ishl hC dX0_verticesOf_35 ?_
          refine gi_ior hC dX0_verticesOf_36 ?_
          refine gi_ior hC dX0_verticesOf_37 ?_
          refine gi_istn_2 hC dX0_verticesOf_38 (by decide) ?_
          refine gi_iinc_3 hC dX0_verticesOf_39 (nI_1 i) (by decide) ?_
          refine gi_goto hC 4 dX0_verticesOf_42 (by decide) ?_
          exact ih (i + 1) _ _ (by omega) (bm_or hy (bm_or (bm_pow (by omega)) (bm_pow (by omega)))) hw
  refine gi_const hC (v := 0) dX0_verticesOf_0 (by decide) ?_
  refine gi_istn_2 hC dX0_verticesOf_1 (by decide) ?_
  refine gi_const hC (v := 0) dX0_verticesOf_2 (by decide) ?_
  refine gi_istn_3 hC dX0_verticesOf_3 (by decide) ?_
  exact L 24 0 0 (fun _ => false) rfl bm_0 hZ
set_option maxHeartbeats 4000000 in
set_option maxRecDepth 100000 in
theorem c_X0_edgesAmong (l : Launch) (E : gm_E) (σ : gm_S) (U V : Nat → Nat) (hg : gL σ U V) (ps : Nat → Bool) (hb : bm (σ.1 1 2) ps) (x : Int32) : gm_MI l E yX0_edgesAmong (.code yX0_edgesAmong cX0_edgesAmong 4 (some .int) :: gw_T) { frames := 1, cells := 0, slots := 0, locals := 23 } [.ref (E.2.2 1), .int x] σ (fun r σ2 => σ2 = σ ∧ r = nI (am_lp U V ps (bt x) 24 0 0)) := by
  refine gm_enterI RX0 (by decide +kernel) rfl rfl (Nat.le_of_ble_eq_true rfl) (gm_c1_ok rfl) ?_
  intro X hC hR
  show gm_G X E 4 0 [some (.ref (E.2.2 1)), some (.int x), none, none] [] σ
  obtain ⟨Z, hZ⟩ : ∃ Z, Z = am_lp U V ps (bt x) 24 0 0 := ⟨_, rfl⟩
  rw [← hZ] at hR
  have L : ∀ n i c, i + n = 24 → Z = am_lp U V ps (bt x) n i c → gm_G X E 4 4 [some (.ref (E.2.2 1)), some (.int x), some (.int (nI c)), some (.int (nI i))] [] σ := by
    intro n
    induction n with
    | zero =>
      intro i c hi0 hw
      have hi0 : i = 24 := by omega
      subst hi0
      rw [am_lp] at hw
      subst hw
      refine gi_ildn hC dX0_edgesAmong_4 rfl ?_
      refine gi_bipush hC (v := 24) dX0_edgesAmong_5 (by decide) ?_
      refine gi_icmp_ge hC 41 dX0_edgesAmong_7 (by decide) (fun h1 => ?_) (fun h1 => ?_)
      ·
        refine gi_ildn hC dX0_edgesAmong_41 rfl ?_
        exact hR _ _ _ _ rfl ⟨rfl, rfl⟩ dX0_edgesAmong_42
      · exact absurd (Int32.le_refl _) h1
    | succ n ih =>
      intro i c hi0 hw
      obtain ⟨g1, g2, g3, g4⟩ := hg i (by omega)
      rw [am_lp] at hw
      have NX : ∀ c2, Z = am_lp U V ps (bt x) n (i + 1) c2 → gm_G X E 4 35 [some (.ref (E.2.2 1)), some (.int x), some (.int (nI c2)), some (.int (nI i))] [] σ := by
        intro c2 h2
        refine gi_iinc_3 hC dX0_edgesAmong_35 (nI_1 i) (by decide) ?_
        refine gi_goto hC 4 dX0_edgesAmong_38 (by decide) ?_
        exact ih (i + 1) c2 (by omega) h2
      refine gi_ildn hC dX0_edgesAmong_4 rfl ?_
      refine gi_bipush hC (v := 24) dX0_edgesAmong_5 (by decide) ?_
      refine gi_icmp_ge hC 41 dX0_edgesAmong_7 (by decide) (fun h1 => ?_) (fun h1 => ?_)
      · exact absurd h1 (nI_ge (a := i) (b := 24) (by omega) (by omega))
      ·
        refine gi_aldn hC dX0_edgesAmong_10 rfl ?_
        refine gi_ildn hC dX0_edgesAmong_11 rfl ?_
        refine gk_VI (n := 1) hC (fun l => c_X0_hasEdge l E σ (nI i)) (gm_o0 E) rfl (gw_V gw_166 gw_167 gw_168 gw_24 gw_169) rfl ⟨rfl, rfl⟩ rfl (by decide +kernel) ⟨by decide, by decide⟩ (Nat.le_of_ble_eq_true rfl) dX0_edgesAmong_12 (fun r σ3 hq => ?_)
        obtain ⟨hq, rfl⟩ := hq
        rw [gE_has_nI (by omega), hb i (by omega)] at hq
        refine gi_if_eq hC 35 dX0_edgesAmong_15 (by decide) (fun h2 => ?_) (fun h2 => ?_)
        ·
          have hpi : ¬ ps i = true := by
            rcases hq with ⟨a1, -⟩ | ⟨-, a1⟩
            · rw [a1] at h2; exact absurd h2 (by decide)
            · exact a1
          rw [if_neg (fun z => hpi z.1)] at hw
          exact NX c hw
        ·
          have hpi : ps i = true := by
            rcases hq with ⟨-, a1⟩ | ⟨a1, -⟩
            · exact a1
            · exact absurd a1 h2
          refine gi_aldn hC dX0_edgesAmong_18 rfl ?_
          refine gi_const hC (v := 1) dX0_edgesAmong_19 (by decide) ?_
          refine gi_ildn hC dX0_edgesAmong_20 rfl ?_
          refine gi_ishl hC dX0_edgesAmong_21 ?_
          refine gk_VI (n := 1) hC (fun l => c_X0_verticesOf l E σ3 U V hg _ _ (bm_pow (n := i) (by omega))) (gm_o0 E) rfl (gw_V gw_309 gw_294 gw_295 gw_24 gw_296) rfl ⟨rfl, rfl⟩ rfl (by decide +kernel) ⟨by decide, by decide⟩ (Nat.le_of_ble_eq_true rfl) dX0_edgesAmong_22 (fun r2 σ4 h9 => ?_)
          obtain ⟨rfl, h9⟩ := h9
          rw [vs_lp_one U V i 24 0 _ (Nat.zero_le i) (by omega)] at h9
          have hz := bm_and h9 (bm_not (x := x) (S := bt x) (fun _ _ => rfl))
          refine gi_ildn hC dX0_edgesAmong_25 rfl ?_
          refine gi_const hC (v := -1) dX0_edgesAmong_26 (by decide) ?_
          refine gi_ixor hC dX0_edgesAmong_27 ?_
          refine gi_iand hC dX0_edgesAmong_28 ?_
          refine gi_if_ne hC 35 dX0_edgesAmong_29 (by decide) (fun h3 => ?_) (fun h3 => ?_)
          ·
            rw [if_neg] at hw
            · exact NX c hw
            · rintro ⟨-, a1, a2⟩
              refine h3 (b_zero.mpr fun j hj => ?_)
              rw [hz j hj]
              by_cases b1 : j = U i
              · subst b1; simp [a1]
              · by_cases b2 : j = V i
                · subst b2; simp [a2]
                · simp [b1, b2]
          ·
            have ha1 : bt x (U i) = true := by
              have := b_zero.mp h3 (U i) (by omega)
              rw [hz _ (by omega)] at this
              simpa using this
            have ha2 : bt x (V i) = true := by
              have := b_zero.mp h3 (V i) (by omega)
              rw [hz _ (by omega)] at this
              simpa using this
            rw [if_pos ⟨hpi, ha1, ha2⟩] at hw
            refine gi_iinc_2 hC dX0_edgesAmong_32 (nI_1 c) (by decide) ?_
            exact NX (c + 1) hw
  refine gi_const hC (v := 0) dX0_edgesAmong_0 (by decide) ?_
  refine gi_istn_2 hC dX0_edgesAmong_1 (by decide) ?_
  refine gi_const hC (v := 0) dX0_edgesAmong_2 (by decide) ?_
  refine gi_istn_3 hC dX0_edgesAmong_3 (by decide) ?_
  exact L 24 0 0 rfl hZ
set_option maxHeartbeats 4000000 in
set_option maxRecDepth 100000 in
theorem c_J6_bitCount_0f7a4 (l : Launch) (E : gm_E) (σ : gm_S) (x : Int32) : gm_MI l E yJ6_bitCount_0f7a4 (.code yJ6_bitCount_0f7a4 cJ6_bitCount_0f7a4 1 (some .int) :: gw_T) { frames := 0, cells := 0, slots := 0, locals := 0 } [.int x] σ (fun r σ2 => r = jbc x ∧ σ2 = σ) := by
  refine gm_enterI RJ6 (by decide +kernel) rfl rfl (Nat.le_of_ble_eq_true rfl) (gm_c1_ok rfl) ?_
  intro X hC hR
  show gm_G X E 1 0 [some (.int x)] [] σ
  refine gi_ildn hC dJ6_bitCount_0f7a4_0 rfl ?_
  refine gi_ildn hC dJ6_bitCount_0f7a4_1 rfl ?_
  refine gi_const hC (v := 1) dJ6_bitCount_0f7a4_2 (by decide) ?_
  refine gi_iushr hC dJ6_bitCount_0f7a4_3 ?_
  refine gi_ldcw hC dJ6_bitCount_0f7a4_4 (List.mem_cons_of_mem _ gw_147) ?_
  refine gi_iand hC dJ6_bitCount_0f7a4_7 ?_
  refine gi_isub hC dJ6_bitCount_0f7a4_8 ?_
  refine gi_istn_0 hC dJ6_bitCount_0f7a4_9 (by decide) ?_
  refine gi_ildn hC dJ6_bitCount_0f7a4_10 rfl ?_
  refine gi_ldcw hC dJ6_bitCount_0f7a4_11 (List.mem_cons_of_mem _ gw_148) ?_
  refine gi_iand hC dJ6_bitCount_0f7a4_14 ?_
  refine gi_ildn hC dJ6_bitCount_0f7a4_15 rfl ?_
  refine gi_const hC (v := 2) dJ6_bitCount_0f7a4_16 (by decide) ?_
  refine gi_iushr hC dJ6_bitCount_0f7a4_17 ?_
  refine gi_ldcw hC dJ6_bitCount_0f7a4_18 (List.mem_cons_of_mem _ gw_148) ?_
  refine gi_iand hC dJ6_bitCount_0f7a4_21 ?_
  refine gi_iadd hC dJ6_bitCount_0f7a4_22 ?_
  refine gi_istn_0 hC dJ6_bitCount_0f7a4_23 (by decide) ?_
  refine gi_ildn hC dJ6_bitCount_0f7a4_24 rfl ?_
  refine gi_ildn hC dJ6_bitCount_0f7a4_25 rfl ?_
  refine gi_const hC (v := 4) dJ6_bitCount_0f7a4_26 (by decide) ?_
  refine gi_iushr hC dJ6_bitCount_0f7a4_27 ?_
  refine gi_iadd hC dJ6_bitCount_0f7a4_28 ?_
  refine gi_ldcw hC dJ6_bitCount_0f7a4_29 (List.mem_cons_of_mem _ gw_149) ?_
  refine gi_iand hC dJ6_bitCount_0f7a4_32 ?_
  refine gi_istn_0 hC dJ6_bitCount_0f7a4_33 (by decide) ?_
  refine gi_ildn hC dJ6_bitCount_0f7a4_34 rfl ?_
  refine gi_ildn hC dJ6_bitCount_0f7a4_35 rfl ?_
  refine gi_bipush hC (v := 8) dJ6_bitCount_0f7a4_36 (by decide) ?_
  refine gi_iushr hC dJ6_bitCount_0f7a4_38 ?_
  refine gi_iadd hC dJ6_bitCount_0f7a4_39 ?_
  refine gi_istn_0 hC dJ6_bitCount_0f7a4_40 (by decide) ?_
  refine gi_ildn hC dJ6_bitCount_0f7a4_41 rfl ?_
  refine gi_ildn hC dJ6_bitCount_0f7a4_42 rfl ?_
  refine gi_bipush hC (v := 16) dJ6_bitCount_0f7a4_43 (by decide) ?_
  refine gi_iushr hC dJ6_bitCount_0f7a4_45 ?_
  refine gi_iadd hC dJ6_bitCount_0f7a4_46 ?_
  refine gi_istn_0 hC dJ6_bitCount_0f7a4_47 (by decide) ?_
  refine gi_ildn hC dJ6_bitCount_0f7a4_48 rfl ?_
  refine gi_bipush hC (v := 63) dJ6_bitCount_0f7a4_49 (by decide) ?_
  refine gi_iand hC dJ6_bitCount_0f7a4_51 ?_
  exact hR _ _ _ _ rfl ⟨rfl, rfl⟩ dJ6_bitCount_0f7a4_52
set_option maxHeartbeats 4000000 in
set_option maxRecDepth 100000 in
theorem c_X0_edgeCount (l : Launch) (E : gm_E) (σ : gm_S) : gm_MI l E yX0_edgeCount (.code yX0_edgeCount cX0_edgeCount 1 (some .int) :: gw_T) { frames := 1, cells := 0, slots := 0, locals := 20 } [.ref (E.2.2 1)] σ (fun r σ2 => r = jbc (σ.1 1 2) ∧ σ2 = σ) := by
  refine gm_enterI RX0 (by decide +kernel) rfl rfl (Nat.le_of_ble_eq_true rfl) (gm_c1_ok rfl) ?_
  intro X hC hR
  show gm_G X E 1 0 [some (.ref (E.2.2 1))] [] σ
  refine gi_aldn hC dX0_edgeCount_0 rfl ?_
  refine gf_G_present hC gw_51 dX0_edgeCount_1 ?_
  refine gk_SI (n := 1) hC (fun l => c_J6_bitCount_0f7a4 l E σ _) (gw_S gw_144 gw_145 gw_29 gw_146) rfl ⟨rfl, rfl⟩ rfl (by decide +kernel) ⟨by decide, by decide⟩ (Nat.le_of_ble_eq_true rfl) dX0_edgeCount_4 (fun r σ2 h => ?_)
  exact hR _ _ _ _ rfl h dX0_edgeCount_7
end
section
/-! THE PACKER: invariant, frames -/
section GSW
variable {X : gm_X} {E : gm_E} {cc : ByteArray} {nL pc : Nat} {own : String} {Ts : List Cond} {rm : Room} {lo : List (Option Value)} {st : List Value} {σ : gm_S}
theorem gi_tsOut (hC : gm_ok X E cc nL own Ts rm) {dflt l0 hi : Int} {offs : Array Int} {len : Nat} {x : Int32} (tgt : Nat) (d : decode cc pc = .ok (.tableswitch dflt l0 hi offs, len)) (h : x.toInt < l0 ∨ hi < x.toInt) (ht : (pc : Int) + dflt = (tgt : Int)) (k : gm_G X E nL tgt lo st σ) : gm_G X E nL pc lo (.int x :: st) σ := by
  obtain ⟨p, l, e, R, s, m, args, below, meth, c, cells, slots, Q, A⟩ := X
  intro H locs ls hP hD hS hl
  exact lv_tableOut hC.1 hC.2.1 d h ht (k H locs ls hP hD hS hl)
theorem gi_tsIn (hC : gm_ok X E cc nL own Ts rm) {dflt hi off : Int} {offs : Array Int} {len j : Nat} (tgt : Nat) (d : decode cc pc = .ok (.tableswitch dflt 0 hi offs, len)) (hj : j < 2 ^ 31) (h2 : ¬ hi < (j : Int)) (ho : offs[j]? = some off) (ht : (pc : Int) + off = (tgt : Int)) (k : gm_G X E nL tgt lo st σ) : gm_G X E nL pc lo (.int (nI j) :: st) σ := by
  obtain ⟨p, l, e, R, s, m, args, below, meth, c, cells, slots, Q, A⟩ := X
  intro H locs ls hP hD hS hl
  have hz := nI_toInt hj
  exact lv_tableIn hC.1 hC.2.1 d (by rw [hz]; omega) (by rw [hz]; exact h2) (by rw [hz]; simpa using ho) ht (k H locs ls hP hD hS hl)
end GSW
def gG (σ : gm_S) (n : Nat) (ps : Nat → Bool) (U V : Nat → Nat) : Prop := 1 ≤ n ∧ n ≤ 10 ∧ σ.1 1 3 = nI n ∧ bm (σ.1 1 2) ps ∧ (∀ e, 24 ≤ e → ps e = false) ∧ gL σ U V ∧ ∀ e, ps e = true → U e < V e ∧ V e < n
/-- what a packing's state comes from: packed anew, and settled since or not -/
def pkd (k : Nat) (U V : Nat → Nat) (ps : Nat → Bool) (q : pq) (sz : Nat) (b : Prop) : Prop := (¬ b ∧ ∃ fo fo2, pk_lp k U V ps 24 0 (pq0, 0, fo) = (q, sz, fo2)) ∨ (b ∧ ∃ q0 fo fo2 fo3 fo4, pk_lp k U V ps 24 0 (pq0, 0, fo) = (q0, sz, fo2) ∧ st_out k U V 24 0 (fun _ => false) (q0, fo3) = (q, fo4))
def kP (σ : gm_S) (U V : Nat → Nat) (ps : Nat → Bool) (k : Nat) (q : pq) (sz : Nat) (fol : Nat → Option Nat) : Prop := σ.1 (gm_P k) 5 = 0 ∧ fo_rep σ k fol ∧ (σ.1 (gm_P k) 4 = 0 ∨ σ.1 (gm_P k) 4 = 1) ∧ σ.1 (gm_P k) 2 = 1 ∧ pk_rep σ k q ∧ σ.1 (gm_P k) 1 = nI sz ∧ pkd k U V ps q sz (σ.1 (gm_P k) 4 = 1)
def kJ (σ : gm_S) (k : Nat) : Prop := σ.1 (gm_P k) 5 = 0 ∧ (∃ fol, fo_rep σ k fol) ∧ (σ.1 (gm_P k) 4 = 0 ∨ σ.1 (gm_P k) 4 = 1)
def kI (σ : gm_S) (U V : Nat → Nat) (ps : Nat → Bool) (k : Nat) : Prop := (kJ σ k ∧ σ.1 (gm_P k) 2 = 0) ∨ ∃ q sz fol, kP σ U V ps k q sz fol
def kInv (σ : gm_S) (n : Nat) (ps : Nat → Bool) (U V : Nat → Nat) : Prop := gG σ n ps U V ∧ ∀ k, k < 7 → kI σ U V ps k
/-- the class writes nothing of the reference -/
def kFR (σ σ2 : gm_S) : Prop := gm_fr σ σ2 (fun x _ => x ≠ 5) (fun y => ¬ (6 ≤ y ∧ y ≤ 14))
theorem kFR_rf {σ : gm_S} : kFR σ σ := gm_fr_rf
theorem kFR_tr {σ σ2 σ3 : gm_S} (h : kFR σ σ2) (g : kFR σ2 σ3) : kFR σ σ3 := gm_fr_tr h g
theorem kFR_blk {σ σ2 : gm_S} {k : Nat} {F : Nat → Nat → Prop} (hF : ∀ x j, F x j → x = gm_P k) (h : gm_fr σ σ2 F (mv_R k)) : kFR σ σ2 := gm_fr_mono h (fun x j hx => by have := hF x j hx; unfold gm_P at this; omega) (fun y hy => by unfold mv_R gm_P at hy; omega)
theorem gG_blk {σ σ2 : gm_S} {k n : Nat} {ps : Nat → Bool} {U V : Nat → Nat} {F : Nat → Nat → Prop} (hF : ∀ x j, F x j → x = gm_P k) (h : gm_fr σ σ2 F (mv_R k)) (g : gG σ n ps U V) : gG σ2 n ps U V := by
  obtain ⟨h1, h2, h3, h4, h5, h6, h7⟩ := g
  have hn : ∀ j, ¬ F 1 j := fun j hx => by have := hF 1 j hx; unfold gm_P at this; omega
  exact ⟨h1, h2, by rw [h.1 1 3 (hn 3)]; exact h3, by rw [h.1 1 2 (hn 2)]; exact h4, h5, gL_mv h h6, h7⟩
theorem kI_oth {σ σ2 : gm_S} {k k2 : Nat} {ps : Nat → Bool} {U V : Nat → Nat} {F : Nat → Nat → Prop} (hF : ∀ x j, F x j → x = gm_P k) (h : gm_fr σ σ2 F (mv_R k)) (hk2 : k2 < 7) (hne : k2 ≠ k) (g : kI σ U V ps k2) : kI σ2 U V ps k2 := by
  have hf : ∀ j, σ2.1 (gm_P k2) j = σ.1 (gm_P k2) j := fun j => h.1 _ _ (fun hx => by have := hF _ j hx; unfold gm_P at this; omega)
  have hr : ∀ r, r < 30 → σ2.2 (gm_P k2 + r) = σ.2 (gm_P k2 + r) := fun r hr => h.2 _ (fun hy => by unfold mv_R gm_P at hy; omega)
  have hfo : ∀ fol, fo_rep σ k2 fol → fo_rep σ2 k2 fol := fun fol z e he => by rw [hr 3 (by omega)]; exact z e he
  rcases g with ⟨⟨g1, ⟨fol, g2⟩, g3⟩, g4⟩ | ⟨q, sz, fol, g1, g2, g3, g4, g5, g6, g7⟩
  · exact Or.inl ⟨⟨by rw [hf]; exact g1, ⟨fol, hfo fol g2⟩, by rw [hf]; exact g3⟩, by rw [hf]; exact g4⟩
  · refine Or.inr ⟨q, sz, fol, by rw [hf]; exact g1, hfo fol g2, by rw [hf]; exact g3, by rw [hf]; exact g4, pk_fr hk2 (fun y hy => ?_) g5, by rw [hf]; exact g6, by rw [hf]; exact g7⟩
    obtain ⟨r, rfl, hr2⟩ : ∃ r, y = gm_P k2 + r ∧ r < 30 := ⟨y - gm_P k2, by unfold pk_R at hy; omega, by unfold pk_R at hy; omega⟩
    exact hr r hr2
theorem kInv_up {σ σ2 : gm_S} {k n : Nat} {ps : Nat → Bool} {U V : Nat → Nat} {F : Nat → Nat → Prop} (hF : ∀ x j, F x j → x = gm_P k) (h : gm_fr σ σ2 F (mv_R k)) (g : kInv σ n ps U V) (hk : kI σ2 U V ps k) : kInv σ2 n ps U V := ⟨gG_blk hF h g.1, fun k2 hk2 => by
  by_cases e : k2 = k
  · subst e; exact hk
  · exact kI_oth hF h hk2 e (g.2 k2 hk2)⟩
theorem kP_sr {σ σ2 : gm_S} {k sz : Nat} {ps : Nat → Bool} {U V : Nat → Nat} {q : pq} {fol fol2 : Nat → Option Nat} (hk : k < 7) (h : gm_fr σ σ2 (sr_F k) (sr_R k)) (g : kP σ U V ps k q sz fol) (hf : fo_rep σ2 k fol2) : kP σ2 U V ps k q sz fol2 := by
  have e : ∀ j, ¬ (j = 6 ∨ j = 8 ∨ j = 10 ∨ j = 11) → σ2.1 (gm_P k) j = σ.1 (gm_P k) j := fun j hj => h.1 _ _ (fun z => hj z.2)
  obtain ⟨g1, g2, g3, g4, g5, g6, g7⟩ := g
  exact ⟨by rw [e 5 (by decide)]; exact g1, hf, by rw [e 4 (by decide)]; exact g3, by rw [e 2 (by decide)]; exact g4, pk_sr hk h g5, by rw [e 1 (by decide)]; exact g6, by rw [e 4 (by decide)]; exact g7⟩
theorem sr_blk {k : Nat} : ∀ x j, sr_F k x j → x = gm_P k := fun _ _ h => h.1
theorem st_blk {k : Nat} : ∀ x j, st_F k x j → x = gm_P k := fun _ _ h => h.1
theorem bl_blk {k : Nat} : ∀ x j, blk_F k x j → x = gm_P k := fun _ _ h => h
theorem nI_k6 {k : Int32} : (¬ k < 0 ∧ ¬ (6 : Int32) < k) ↔ ∃ j, j < 7 ∧ k = nI j := by
  constructor
  · rintro ⟨h1, h2⟩
    obtain ⟨j, hj, rfl⟩ := nI_of h1
    rw [show (6 : Int32) = nI 6 from rfl, nI_ltI (by omega) hj] at h2
    exact ⟨j, by omega, rfl⟩
  · rintro ⟨j, hj, rfl⟩
    exact ⟨nI_pos (by omega), by rw [show (6 : Int32) = nI 6 from rfl, nI_ltI (by omega) (by omega)]; omega⟩
theorem nI_vx {v : Int32} {n : Nat} (hn : n ≤ 10) : (¬ v < 0 ∧ ¬ nI n ≤ v) ↔ ∃ j, j < n ∧ v = nI j := by
  constructor
  · rintro ⟨h1, h2⟩
    obtain ⟨j, hj, rfl⟩ := nI_of h1
    rw [nI_leI (by omega) hj] at h2
    exact ⟨j, by omega, rfl⟩
  · rintro ⟨j, hj, rfl⟩
    exact ⟨nI_pos (by omega), by rw [nI_leI (by omega) (by omega)]; omega⟩
theorem gE_ex {p e : Int32} {ps : Nat → Bool} (hb : bm p ps) : gE_has p e ↔ ∃ j, j < 24 ∧ e = nI j ∧ ps j = true := by
  constructor
  · intro h
    obtain ⟨j, hj, rfl⟩ := gE_has_j h
    exact ⟨j, hj, rfl, by rw [← hb j (by omega)]; exact (gE_has_nI hj).mp h⟩
  · rintro ⟨j, hj, rfl, h⟩
    exact (gE_has_nI hj).mpr (by rw [hb j (by omega)]; exact h)
theorem gwc_min : Cond.code Lib.Math.min.name Lib.Math.min.code 2 (some .int) ∈ gw_T := gw_of 172 (by decide +kernel) (by decide +kernel)
theorem gws_min : Cond.static Lib.Math.min.name ∈ gw_T := gw_of 171 (by decide +kernel) (by decide +kernel)
theorem gwl_min_X3 : Cond.methodLink RX3 50 Lib.Math.min.name ∈ gw_T := gw_of 170 (by decide +kernel) (by decide +kernel)
theorem gk_min {X : gm_X} {E : gm_E} {cc : ByteArray} {nL pc idx : Nat} {own : String} {c0 : Cond} {rm : Room} {lo : List (Option Value)} {st : List Value} {σ : gm_S} (hC : gm_ok X E cc nL own (c0 :: gw_T) rm) {x y : Int32} (hlk : Cond.methodLink own idx Lib.Math.min.name ∈ gw_T) (hf : 1 ≤ rm.frames) (hlo : (st.map fun v => v.category).sum + 13 ≤ rm.locals) (d : decode cc pc = .ok (.invokestatic idx, 3)) (k : gm_G X E nL (pc + 3) lo (.int (if y < x then y else x) :: st) σ) : gm_G X E nL pc lo (.int y :: .int x :: st) σ := by
  obtain ⟨p, l, e, R, s, m, args, below, meth, c, cells, slots, Q, A⟩ := X
  intro H locs ls hP hD hS hl
  obtain ⟨hx, hb, hml, hown, hts, hK, hRm, hnm, hA, hlk2, hcs, hss⟩ := hC
  subst hRm
  exact va_mmin hx hb (hml.trans hl.1.symm) hown (hts _ (List.mem_cons_of_mem _ hlk)) (hts _ (List.mem_cons_of_mem _ gws_min)) (hts _ (List.mem_cons_of_mem _ gw_26)) (hts _ (List.mem_cons_of_mem _ gwc_min)) hf hlo hcs hss d (k H locs ls hP hD hS hl)
theorem gwc_max : Cond.code Lib.Math.max.name Lib.Math.max.code 2 (some .int) ∈ gw_T := gw_of 74 (by decide +kernel) (by decide +kernel)
theorem gws_max : Cond.static Lib.Math.max.name ∈ gw_T := gw_of 73 (by decide +kernel) (by decide +kernel)
theorem gwl_max_X1 : Cond.methodLink RX1 47 Lib.Math.max.name ∈ gw_T := gw_of 72 (by decide +kernel) (by decide +kernel)
theorem gwl_max_X3 : Cond.methodLink RX3 59 Lib.Math.max.name ∈ gw_T := gw_of 173 (by decide +kernel) (by decide +kernel)
theorem gk_max {X : gm_X} {E : gm_E} {cc : ByteArray} {nL pc idx : Nat} {own : String} {c0 : Cond} {rm : Room} {lo : List (Option Value)} {st : List Value} {σ : gm_S} (hC : gm_ok X E cc nL own (c0 :: gw_T) rm) {x y : Int32} (hlk : Cond.methodLink own idx Lib.Math.max.name ∈ gw_T) (hf : 1 ≤ rm.frames) (hlo : (st.map fun v => v.category).sum + 13 ≤ rm.locals) (d : decode cc pc = .ok (.invokestatic idx, 3)) (k : gm_G X E nL (pc + 3) lo (.int (if x < y then y else x) :: st) σ) : gm_G X E nL pc lo (.int y :: .int x :: st) σ := by
  obtain ⟨p, l, e, R, s, m, args, below, meth, c, cells, slots, Q, A⟩ := X
  intro H locs ls hP hD hS hl
  obtain ⟨hx, hb, hml, hown, hts, hK, hRm, hnm, hA, hlk2, hcs, hss⟩ := hC
  subst hRm
  exact va_mmax hx hb (hml.trans hl.1.symm) hown (hts _ (List.mem_cons_of_mem _ hlk)) (hts _ (List.mem_cons_of_mem _ gws_max)) (hts _ (List.mem_cons_of_mem _ gw_26)) (hts _ (List.mem_cons_of_mem _ gwc_max)) hf hlo hcs hss d (k H locs ls hP hD hS hl)
set_option maxHeartbeats 4000000 in
set_option maxRecDepth 100000 in
theorem c_X3_isForestCount (l : Launch) (E : gm_E) (σ : gm_S) (k : Int32) : gm_MI l E yX3_isForestCount (.code yX3_isForestCount cX3_isForestCount 1 (some .boolean) :: gw_T) { frames := 0, cells := 0, slots := 0, locals := 0 } [.int k] σ (fun r σ2 => (r = 1 ∧ (∃ j, j < 7 ∧ k = nI j) ∨ r = 0 ∧ ¬ ∃ j, j < 7 ∧ k = nI j) ∧ σ2 = σ) := by
  refine gm_enterI RX3 (by decide +kernel) rfl rfl (Nat.le_of_ble_eq_true rfl) (gm_c1_ok rfl) ?_
  intro X hC hR
  show gm_G X E 1 0 [some (.int k)] [] σ
  rw [← nI_k6] at hR
  refine gi_ildn hC dX3_isForestCount_0 rfl ?_
  refine gi_if_lt hC 14 dX3_isForestCount_1 (by decide) (fun h1 => ?_) (fun h1 => ?_)
  ·
    refine gi_const hC (v := 0) dX3_isForestCount_14 (by decide) ?_
    exact hR _ _ _ _ (by decide +kernel) ⟨Or.inr ⟨rfl, fun z => z.1 h1⟩, rfl⟩ dX3_isForestCount_15
  ·
    refine gi_ildn hC dX3_isForestCount_4 rfl ?_
    refine gi_bipush hC (v := 6) dX3_isForestCount_5 (by decide) ?_
    refine gi_icmp_gt hC 14 dX3_isForestCount_7 (by decide) (fun h2 => ?_) (fun h2 => ?_)
    ·
      refine gi_const hC (v := 0) dX3_isForestCount_14 (by decide) ?_
      exact hR _ _ _ _ (by decide +kernel) ⟨Or.inr ⟨rfl, fun z => z.2 h2⟩, rfl⟩ dX3_isForestCount_15
    ·
      refine gi_const hC (v := 1) dX3_isForestCount_10 (by decide) ?_
      refine gi_goto hC 15 dX3_isForestCount_11 (by decide) ?_
      exact hR _ _ _ _ (by decide +kernel) ⟨Or.inl ⟨rfl, h1, h2⟩, rfl⟩ dX3_isForestCount_15
set_option maxHeartbeats 4000000 in
set_option maxRecDepth 100000 in
theorem c_X3_forgetPackings (l : Launch) (E : gm_E) (σ : gm_S) : gm_MV l E yX3_forgetPackings (.code yX3_forgetPackings cX3_forgetPackings 2 none :: gw_T) { frames := 0, cells := 0, slots := 0, locals := 0 } [.ref (E.2.2 0)] σ (fun σ2 => gm_fr σ σ2 (fun x j => (∃ k, k < 7 ∧ x = gm_P k) ∧ j = 2) (fun _ => False) ∧ ∀ k, k < 7 → σ2.1 (gm_P k) 2 = 0) := by
  refine gm_enterV RX3 (by decide +kernel) rfl rfl (Nat.le_of_ble_eq_true rfl) (gm_c1_ok rfl) ?_
  intro X hC hR
  show gm_G X E 2 0 [some (.ref (E.2.2 0)), none] [] σ
  have L : ∀ n i (σ2 : gm_S), i + n = 7 → gm_fr σ σ2 (fun x j => (∃ k, k < 7 ∧ x = gm_P k) ∧ j = 2) (fun _ => False) → (∀ k, k < i → σ2.1 (gm_P k) 2 = 0) → gm_G X E 2 2 [some (.ref (E.2.2 0)), some (.int (nI i))] [] σ2 := by
    intro n
    induction n with
    | zero =>
      intro i σ2 hi0 hfr hz
      have hi0 : i = 7 := by omega
      subst hi0
      refine gi_ildn hC dX3_forgetPackings_2 rfl ?_
      refine gi_bipush hC (v := 6) dX3_forgetPackings_3 (by decide) ?_
      refine gi_icmp_gt hC 24 dX3_forgetPackings_5 (by decide) (fun h1 => ?_) (fun h1 => ?_)
      · exact hR _ _ _ ⟨hfr, hz⟩ dX3_forgetPackings_24
      · exact absurd (by decide) h1
    | succ n ih =>
      intro i σ2 hi0 hfr hz
      have hk : i < 7 := by omega
      refine gi_ildn hC dX3_forgetPackings_2 rfl ?_
      refine gi_bipush hC (v := 6) dX3_forgetPackings_3 (by decide) ?_
      refine gi_icmp_gt hC 24 dX3_forgetPackings_5 (by decide) (fun h1 => ?_) (fun h1 => ?_)
      · exact absurd h1 (nI_nlt (a := 6) (b := i) (by omega) (by omega))
      ·
        refine gi_aldn hC dX3_forgetPackings_8 rfl ?_
        refine gf_K_packings hC gw_130 dX3_forgetPackings_9 ?_
        refine gi_ildn hC dX3_forgetPackings_12 rfl ?_
        refine gi_aaldP hC hk rfl dX3_forgetPackings_13 ?_
        refine gi_const hC (v := 0) dX3_forgetPackings_14 (by decide) ?_
        refine pf_P_isPacked hC hk (Or.inl rfl) gw_94 dX3_forgetPackings_15 ?_
        refine gi_iinc_1 hC dX3_forgetPackings_18 (nI_1 i) (by decide) ?_
        refine gi_goto hC 2 dX3_forgetPackings_21 (by decide) ?_
        refine ih (i + 1) _ (by omega) (gm_fr_tr hfr (gm_fr_sc ⟨⟨i, hk, rfl⟩, rfl⟩)) (fun k hk2 => ?_)
        by_cases e : k = i
        · subst e; exact gm_sc_1 _ _ _ _
        · rw [gm_sc_n _ _ (fun z => e (by have := z.1; unfold gm_P at this; omega))]; exact hz k (by omega)
  refine gi_const hC (v := 0) dX3_forgetPackings_0 (by decide) ?_
  refine gi_istn_1 hC dX3_forgetPackings_1 (by decide) ?_
  exact L 7 0 σ rfl gm_fr_rf (fun k hk => absurd hk (Nat.not_lt_zero k))
set_option maxHeartbeats 4000000 in
set_option maxRecDepth 100000 in
theorem c_X3_packed (l : Launch) (E : gm_E) (σ : gm_S) (n : Nat) (ps : Nat → Bool) (U V : Nat → Nat) (hI : kInv σ n ps U V) (kk : Nat) (hk : kk < 7) : gm_MR l E yX3_packed (.code yX3_packed cX3_packed 3 (some (.object "ForestPacker$Packing")) :: gw_T) { frames := 4, cells := 0, slots := 0, locals := 100 } [.ref (E.2.2 0), .int (nI kk)] σ (gm_P kk) (fun σ2 => gm_fr σ σ2 (blk_F kk) (mv_R kk) ∧ ∃ q sz fol, kP σ2 U V ps kk q sz fol) := by
  refine gm_enterR RX3 (by decide +kernel) rfl (Or.inl ⟨_, rfl⟩) rfl (Nat.le_of_ble_eq_true rfl) (gm_c1_ok rfl) ?_
  intro X hC hR
  show gm_G X E 3 0 [some (.ref (E.2.2 0)), some (.int (nI kk)), none] [] σ
  obtain ⟨⟨g1, g2, g3, g4, g5, g6, g7⟩, hI2⟩ := hI
  refine gi_aldn hC dX3_packed_0 rfl ?_
  refine gf_K_packings hC gw_130 dX3_packed_1 ?_
  refine gi_ildn hC dX3_packed_4 rfl ?_
  refine gi_aaldP hC hk rfl dX3_packed_5 ?_
  refine gi_astn_2 hC dX3_packed_6 (by decide) ?_
  refine gi_aldn hC dX3_packed_7 rfl ?_
  refine gf_P_isPacked hC hk gw_94 dX3_packed_8 ?_
  rcases hI2 kk hk with ⟨⟨j1, ⟨fol, j2⟩, j3⟩, j4⟩ | ⟨q, sz, fol, hP⟩
  ·
    rw [j4]
    refine gi_if_ne hC 22 dX3_packed_11 (by decide) (fun h1 => ?_) (fun h1 => ?_)
    · exact absurd rfl h1
    ·
      refine gi_aldn hC dX3_packed_14 rfl ?_
      refine gi_aldn hC dX3_packed_15 rfl ?_
      refine gf_K_graph hC gw_129 dX3_packed_16 ?_
      refine gk_VV (n := 1) hC (fun l => c_X1_pack l E hk σ U V g6 ps g4 j1 fol j2) (gm_o1 E hk) rfl (gw_V gw_190 gw_191 gw_192 gw_25 gw_193) rfl ⟨rfl, rfl⟩ rfl (by decide +kernel) ⟨by decide, by decide⟩ (Nat.le_of_ble_eq_true rfl) dX3_packed_19 (fun σ2 h9 => ?_)
      obtain ⟨a1, a2, a3, a4, a5, a6, a7⟩ := h9
      refine gi_aldn hC dX3_packed_22 rfl ?_
      refine hR _ _ _ ⟨a1, (pk_lp kk U V ps 24 0 (pq0, 0, fol)).1, (pk_lp kk U V ps 24 0 (pq0, 0, fol)).2.1, (pk_lp kk U V ps 24 0 (pq0, 0, fol)).2.2, a7, a3, Or.inl a6, a5, a2, a4, ?_⟩ dX3_packed_23
      rw [a6]
      exact Or.inl ⟨by decide, fol, _, rfl⟩
  ·
    rw [hP.2.2.2.1]
    refine gi_if_ne hC 22 dX3_packed_11 (by decide) (fun h1 => ?_) (fun h1 => ?_)
    ·
      refine gi_aldn hC dX3_packed_22 rfl ?_
      exact hR _ _ _ ⟨gm_fr_rf, q, sz, fol, hP⟩ dX3_packed_23
    · exact absurd h1 (by decide)
end
section
/-! THE PACKER: begin, join, cut -/
theorem nI_b10 {a : Int32} : (¬ a < 1 ∧ a ≤ 10) ↔ ∃ m, 1 ≤ m ∧ m ≤ 10 ∧ a = nI m := by
  constructor
  · rintro ⟨h1, h2⟩
    have h0 : ¬ a < 0 := fun h => h1 (by
      rw [Int32.lt_iff_toInt_lt] at h ⊢
      have e0 : (0 : Int32).toInt = 0 := by decide
      have e1 : (1 : Int32).toInt = 1 := by decide
      omega)
    obtain ⟨j, hj, rfl⟩ := nI_of h0
    rw [show (1 : Int32) = nI 1 from rfl, nI_ltI hj (by omega)] at h1
    rw [show (10 : Int32) = nI 10 from rfl, nI_leI hj (by omega)] at h2
    exact ⟨j, by omega, h2, rfl⟩
  · rintro ⟨m, h1, h2, rfl⟩
    rw [show (1 : Int32) = nI 1 from rfl, nI_ltI (by omega) (by omega), show (10 : Int32) = nI 10 from rfl, nI_leI (by omega) (by omega)]
    omega
theorem kJ_of {σ : gm_S} {U V : Nat → Nat} {ps : Nat → Bool} {k : Nat} (h : kI σ U V ps k) : kJ σ k := by
  rcases h with h | ⟨q, sz, fol, g1, g2, g3, -⟩
  · exact h.1
  · exact ⟨g1, ⟨fol, g2⟩, g3⟩
theorem kJ_fr {σ σ2 : gm_S} {k : Nat} (h5 : σ2.1 (gm_P k) 5 = σ.1 (gm_P k) 5) (h4 : σ2.1 (gm_P k) 4 = σ.1 (gm_P k) 4) (h3 : σ2.2 (gm_P k + 3) = σ.2 (gm_P k + 3)) (h : kJ σ k) : kJ σ2 k := by
  obtain ⟨a1, ⟨fol, a2⟩, a3⟩ := h
  exact ⟨by rw [h5]; exact a1, ⟨fol, fun e he => by rw [h3]; exact a2 e he⟩, by rw [h4]; exact a3⟩
theorem fg_inv {σ σ2 : gm_S} {n : Nat} {ps : Nat → Bool} {U V : Nat → Nat} (hJ : ∀ k, k < 7 → kJ σ k) (hG : gG σ n ps U V) (h : gm_fr σ σ2 (fun x j => (∃ k, k < 7 ∧ x = gm_P k) ∧ j = 2) (fun _ => False)) (h0 : ∀ k, k < 7 → σ2.1 (gm_P k) 2 = 0) : kInv σ2 n ps U V ∧ kFR σ σ2 := by
  have hr : ∀ y, σ2.2 y = σ.2 y := fun y => h.2 y (fun z => z)
  obtain ⟨g1, g2, g3, g4, g5, g6, g7⟩ := hG
  refine ⟨⟨⟨g1, g2, ?_, ?_, g5, gL_cong (hr 2) (hr 3) g6, g7⟩, fun k hk => Or.inl ⟨kJ_fr (h.1 _ _ (fun z => by cases z.2)) (h.1 _ _ (fun z => by cases z.2)) (hr _) (hJ k hk), h0 k hk⟩⟩, gm_fr_mono h (fun x j hx => ?_) (fun _ z => absurd z id)⟩
  · rw [h.1 1 3 (fun z => by cases z.2)]; exact g3
  · rw [h.1 1 2 (fun z => by obtain ⟨⟨k, hk, e⟩, -⟩ := z; unfold gm_P at e; omega)]; exact g4
  · obtain ⟨⟨k, hk, e⟩, -⟩ := hx; unfold gm_P at e; omega
theorem nI_mn (a b : Nat) (ha : a < 2 ^ 31) (hb : b < 2 ^ 31) : (if nI b < nI a then nI b else nI a) = nI (min a b) := by
  by_cases h : b < a
  · rw [if_pos ((nI_ltI hb ha).mpr h), Nat.min_eq_right (by omega)]
  · rw [if_neg (fun z => h ((nI_ltI hb ha).mp z)), Nat.min_eq_left (by omega)]
theorem nI_mx (a b : Nat) (ha : a < 2 ^ 31) (hb : b < 2 ^ 31) : (if nI a < nI b then nI b else nI a) = nI (max a b) := by
  by_cases h : a < b
  · rw [if_pos ((nI_ltI ha hb).mpr h), Nat.max_eq_right (by omega)]
  · rw [if_neg (fun z => h ((nI_ltI ha hb).mp z)), Nat.max_eq_left (by omega)]
set_option maxHeartbeats 4000000 in
set_option maxRecDepth 100000 in
theorem c_X3_begin (l : Launch) (E : gm_E) (σ : gm_S) (n : Nat) (ps : Nat → Bool) (U V : Nat → Nat) (hI : kInv σ n ps U V) (a : Int32) : gm_MI l E yX3_begin (.code yX3_begin cX3_begin 3 (some .int) :: gw_T) { frames := 2, cells := 0, slots := 0, locals := 40 } [.ref (E.2.2 0), .int a] σ (fun r σ2 => kFR σ σ2 ∧ ((r = -2 ∧ (¬ ∃ m, 1 ≤ m ∧ m ≤ 10 ∧ a = nI m) ∧ kInv σ2 n ps U V) ∨ ∃ m, 1 ≤ m ∧ m ≤ 10 ∧ a = nI m ∧ r = jbc (σ.1 1 2) ∧ kInv σ2 m (fun _ => false) U V)) := by
  refine gm_enterI RX3 (by decide +kernel) rfl rfl (Nat.le_of_ble_eq_true rfl) (gm_c1_ok rfl) ?_
  intro X hC hR
  show gm_G X E 3 0 [some (.ref (E.2.2 0)), some (.int a), none] [] σ
  refine gi_ildn hC dX3_begin_0 rfl ?_
  refine gi_const hC (v := 1) dX3_begin_1 (by decide) ?_
  refine gi_icmp_lt hC 11 dX3_begin_2 (by decide) (fun h1 => ?_) (fun h1 => ?_)
  ·
    refine gi_bipush hC (v := -2) dX3_begin_11 (by decide) ?_
    exact hR _ _ _ _ rfl ⟨kFR_rf, Or.inl ⟨rfl, fun z => (nI_b10.mpr z).1 h1, hI⟩⟩ dX3_begin_13
  ·
    refine gi_ildn hC dX3_begin_5 rfl ?_
    refine gi_bipush hC (v := 10) dX3_begin_6 (by decide) ?_
    refine gi_icmp_le hC 14 dX3_begin_8 (by decide) (fun h2 => ?_) (fun h2 => ?_)
    ·
      obtain ⟨m, m1, m2, rfl⟩ := nI_b10.mp ⟨h1, h2⟩
      obtain ⟨⟨g1, g2, g3, g4, g5, g6, g7⟩, hI2⟩ := id hI
      refine gi_aldn hC dX3_begin_14 rfl ?_
      refine gf_K_graph hC gw_129 dX3_begin_15 ?_
      refine gk_VI (n := 0) hC (fun l => c_X0_edgeCount l E σ) (gm_o0 E) rfl (gw_V gw_140 gw_141 gw_142 gw_24 gw_143) rfl ⟨rfl, rfl⟩ rfl (by decide +kernel) ⟨by decide, by decide⟩ (Nat.le_of_ble_eq_true rfl) dX3_begin_18 (fun r σ1 h3 => ?_)
      obtain ⟨rfl, rfl⟩ := h3
      refine gi_istn_2 hC dX3_begin_21 (by decide) ?_
      refine gi_aldn hC dX3_begin_22 rfl ?_
      refine gf_K_graph hC gw_129 dX3_begin_23 ?_
      refine gi_ildn hC dX3_begin_26 rfl ?_
      refine pf_G_vertices hC gw_54 dX3_begin_27 ?_
      refine gi_aldn hC dX3_begin_30 rfl ?_
      refine gf_K_graph hC gw_129 dX3_begin_31 ?_
      refine gi_const hC (v := 0) dX3_begin_34 (by decide) ?_
      refine pf_G_present hC gw_52 dX3_begin_35 ?_
      refine gi_aldn hC dX3_begin_38 rfl ?_
      refine gk_VV (n := 0) hC (fun l => c_X3_forgetPackings l E _) (gm_o3 E) rfl (gw_V gw_150 gw_152 gw_0 gw_23 gw_153) rfl ⟨rfl, rfl⟩ rfl (by decide +kernel) ⟨by decide, by decide⟩ (Nat.le_of_ble_eq_true rfl) dX3_begin_39 (fun σ2 h4 => ?_)
      refine gi_ildn hC dX3_begin_42 rfl ?_
      have hJ : ∀ k, k < 7 → kJ (gm_sc (gm_sc σ1 1 3 (nI m)) 1 2 0) k := fun k hk => kJ_fr (σ := σ1) (by rw [gm_sc_n _ _ (by omega), gm_sc_n _ _ (by omega)]) (by rw [gm_sc_n _ _ (by omega), gm_sc_n _ _ (by omega)]) rfl (kJ_of (hI2 k hk))
      have hG : gG (gm_sc (gm_sc σ1 1 3 (nI m)) 1 2 0) m (fun _ => false) U V := ⟨m1, m2, by rw [gm_sc_n _ _ (by omega), gm_sc_1], by rw [gm_sc_1]; exact bm_0, fun _ _ => rfl, g6, fun e he => by cases he⟩
      obtain ⟨b1, b2⟩ := fg_inv hJ hG h4.1 h4.2
      exact hR _ _ _ _ rfl ⟨kFR_tr (gm_fr_tr (gm_fr_sc (by decide)) (gm_fr_sc (by decide))) b2, Or.inr ⟨m, m1, m2, rfl, rfl, b1⟩⟩ dX3_begin_43
    ·
      refine gi_bipush hC (v := -2) dX3_begin_11 (by decide) ?_
      exact hR _ _ _ _ rfl ⟨kFR_rf, Or.inl ⟨rfl, fun z => h2 (nI_b10.mpr z).2, hI⟩⟩ dX3_begin_13
set_option maxHeartbeats 4000000 in
set_option maxRecDepth 100000 in
theorem c_X3_join (l : Launch) (E : gm_E) (σ : gm_S) (n : Nat) (ps : Nat → Bool) (U V : Nat → Nat) (hI : kInv σ n ps U V) (a b : Int32) : gm_MI l E yX3_join (.code yX3_join cX3_join 4 (some .int) :: gw_T) { frames := 2, cells := 0, slots := 0, locals := 42 } [.ref (E.2.2 0), .int a, .int b] σ (fun r σ2 => kFR σ σ2 ∧ ((r = -2 ∧ (¬ ∃ i j, i < n ∧ j < n ∧ i ≠ j ∧ a = nI i ∧ b = nI j) ∧ kInv σ2 n ps U V) ∨ ∃ i j, i < n ∧ j < n ∧ i ≠ j ∧ a = nI i ∧ b = nI j ∧ ((r = -3 ∧ (∀ e, e < 24 → ps e = true) ∧ kInv σ2 n ps U V) ∨ ∃ e, e < 24 ∧ r = nI e ∧ ps e = false ∧ (∀ d, d < e → ps d = true) ∧ kInv σ2 n (fun d => ps d || decide (d = e)) (va_up U e (min i j)) (va_up V e (max i j))))) := by
  refine gm_enterI RX3 (by decide +kernel) rfl rfl (Nat.le_of_ble_eq_true rfl) (gm_c1_ok rfl) ?_
  intro X hC hR
  show gm_G X E 4 0 [some (.ref (E.2.2 0)), some (.int a), some (.int b), none] [] σ
  obtain ⟨⟨g1, g2, g3, g4, g5, g6, g7⟩, hI2⟩ := id hI
  refine gi_aldn hC dX3_join_0 rfl ?_
  refine gf_K_graph hC gw_129 dX3_join_1 ?_
  refine gi_ildn hC dX3_join_4 rfl ?_
  refine gk_VI (n := 1) hC (fun l => c_X0_hasVertex l E σ a) (gm_o0 E) rfl (gw_V gw_158 gw_159 gw_160 gw_24 gw_161) rfl ⟨rfl, rfl⟩ rfl (by decide +kernel) ⟨by decide, by decide⟩ (Nat.le_of_ble_eq_true rfl) dX3_join_5 (fun r σ1 h1 => ?_)
  obtain ⟨h1, rfl⟩ := h1
  rw [g3, nI_vx g2] at h1
  refine gi_if_eq hC 27 dX3_join_8 (by decide) (fun h2 => ?_) (fun h2 => ?_)
  ·
    have hn : ¬ ∃ j, j < n ∧ a = nI j := by
      rcases h1 with ⟨z, -⟩ | ⟨-, z⟩
      · rw [z] at h2; exact absurd h2 (by decide)
      · exact z
    refine gi_bipush hC (v := -2) dX3_join_27 (by decide) ?_
    exact hR _ _ _ _ rfl ⟨kFR_rf, Or.inl ⟨rfl, fun ⟨i, j, c1, c2, c3, c4, c5⟩ => hn ⟨i, c1, c4⟩, hI⟩⟩ dX3_join_29
  ·
    obtain ⟨i, hi, rfl⟩ : ∃ j, j < n ∧ a = nI j := by
      rcases h1 with ⟨-, z⟩ | ⟨z, -⟩
      · exact z
      · exact absurd z h2
    refine gi_aldn hC dX3_join_11 rfl ?_
    refine gf_K_graph hC gw_129 dX3_join_12 ?_
    refine gi_ildn hC dX3_join_15 rfl ?_
    refine gk_VI (n := 1) hC (fun l => c_X0_hasVertex l E σ1 b) (gm_o0 E) rfl (gw_V gw_158 gw_159 gw_160 gw_24 gw_161) rfl ⟨rfl, rfl⟩ rfl (by decide +kernel) ⟨by decide, by decide⟩ (Nat.le_of_ble_eq_true rfl) dX3_join_16 (fun r2 σ2 h3 => ?_)
    obtain ⟨h3, rfl⟩ := h3
    rw [g3, nI_vx g2] at h3
    refine gi_if_eq hC 27 dX3_join_19 (by decide) (fun h4 => ?_) (fun h4 => ?_)
    ·
      have hn : ¬ ∃ j, j < n ∧ b = nI j := by
        rcases h3 with ⟨z, -⟩ | ⟨-, z⟩
        · rw [z] at h4; exact absurd h4 (by decide)
        · exact z
      refine gi_bipush hC (v := -2) dX3_join_27 (by decide) ?_
      exact hR _ _ _ _ rfl ⟨kFR_rf, Or.inl ⟨rfl, fun ⟨i, j, c1, c2, c3, c4, c5⟩ => hn ⟨j, c2, c5⟩, hI⟩⟩ dX3_join_29
    ·
      obtain ⟨j, hj, rfl⟩ : ∃ j, j < n ∧ b = nI j := by
        rcases h3 with ⟨-, z⟩ | ⟨z, -⟩
        · exact z
        · exact absurd z h4
      refine gi_ildn hC dX3_join_22 rfl ?_
      refine gi_ildn hC dX3_join_23 rfl ?_
      refine gi_icmp_ne hC 30 dX3_join_24 (by decide) (fun h5 => ?_) (fun h5 => ?_)
      ·
        have hij : i ≠ j := fun e => h5 (by rw [e])
        refine gi_aldn hC dX3_join_30 rfl ?_
        refine gf_K_graph hC gw_129 dX3_join_31 ?_
        refine gk_VI (n := 0) hC (fun l => c_X0_leastFree l E σ2) (gm_o0 E) rfl (gw_V gw_162 gw_163 gw_164 gw_24 gw_165) rfl ⟨rfl, rfl⟩ rfl (by decide +kernel) ⟨by decide, by decide⟩ (Nat.le_of_ble_eq_true rfl) dX3_join_34 (fun r3 σ3 h6 => ?_)
        obtain ⟨rfl, h6⟩ := h6
        rcases h6 with ⟨e, he, rfl, e1, e2⟩ | ⟨rfl, h6⟩
        ·
          refine gi_istn_3 hC dX3_join_37 (by decide) ?_
          refine gi_ildn hC dX3_join_38 rfl ?_
          refine gi_const hC (v := -1) dX3_join_39 (by decide) ?_
          refine gi_icmp_ne hC 46 dX3_join_40 (by decide) (fun h7 => ?_) (fun h7 => ?_)
          ·
            refine gi_aldn hC dX3_join_46 rfl ?_
            refine gf_K_graph hC gw_129 dX3_join_47 ?_
            refine gf_G_lesser hC gw_47 dX3_join_50 ?_
            refine gi_ildn hC dX3_join_53 rfl ?_
            refine gi_ildn hC dX3_join_54 rfl ?_
            refine gi_ildn hC dX3_join_55 rfl ?_
            refine gk_min hC gwl_min_X3 (by decide) (Nat.le_of_ble_eq_true rfl) dX3_join_56 ?_
            rw [nI_mn i j (by omega) (by omega)]
            refine gi_iast hC (gm_i2 E) he rfl (by first | decide | omega) dX3_join_59 ?_
            refine gi_aldn hC dX3_join_60 rfl ?_
            refine gf_K_graph hC gw_129 dX3_join_61 ?_
            refine gf_G_greater hC gw_50 dX3_join_64 ?_
            refine gi_ildn hC dX3_join_67 rfl ?_
            refine gi_ildn hC dX3_join_68 rfl ?_
            refine gi_ildn hC dX3_join_69 rfl ?_
            refine gk_max hC gwl_max_X3 (by decide) (Nat.le_of_ble_eq_true rfl) dX3_join_70 ?_
            rw [nI_mx i j (by omega) (by omega)]
            refine gi_iast hC (gm_i3 E) he rfl (by first | decide | omega) dX3_join_73 ?_
            refine gi_aldn hC dX3_join_74 rfl ?_
            refine gf_K_graph hC gw_129 dX3_join_75 ?_
            refine gi_dup hC dX3_join_78 rfl ?_
            refine gf_G_present hC gw_52 dX3_join_79 ?_
            refine gi_const hC (v := 1) dX3_join_82 (by decide) ?_
            refine gi_ildn hC dX3_join_83 rfl ?_
            refine gi_ishl hC dX3_join_84 ?_
            refine gi_ior hC dX3_join_85 ?_
            refine pf_G_present hC gw_52 dX3_join_86 ?_
            refine gi_aldn hC dX3_join_89 rfl ?_
            have hpe : ps e = false := by rw [← g4 e (by omega)]; exact e1
            have hpd : ∀ d, d < e → ps d = true := fun d hd => by rw [← g4 d (by omega)]; exact e2 d hd
            obtain ⟨σ4, hσ4⟩ : ∃ z, z = gm_ar (gm_ar σ3 2 e (nI (min i j))) 3 e (nI (max i j)) := ⟨_, rfl⟩
            rw [← hσ4]
            have f1 : σ4.1 = σ3.1 := by rw [hσ4]; rfl
            have f2 : ∀ y, y ≠ 2 → y ≠ 3 → σ4.2 y = σ3.2 y := fun y y2 y3 => by rw [hσ4, gm_ar_r _ _ y3, gm_ar_r _ _ y2]
            have f3 : gL σ4 (va_up U e (min i j)) (va_up V e (max i j)) := by
              intro d hd
              obtain ⟨c1, c2, c3, c4⟩ := g6 d hd
              by_cases hde : d = e
              · subst hde
                rw [va_up_self, va_up_self, hσ4, gm_ar_n _ _ (by omega), gm_ar_2, gm_ar_2]
                exact ⟨rfl, rfl, by omega, by omega⟩
              · rw [va_up_ne _ _ hde, va_up_ne _ _ hde, hσ4, gm_ar_n _ _ (by omega), gm_ar_n _ _ (fun z => hde z.2), gm_ar_n _ _ (fun z => hde z.2), gm_ar_n _ _ (by omega)]
                exact ⟨c1, c2, c3, c4⟩
            refine gk_VV (n := 0) hC (fun l => c_X3_forgetPackings l E _) (gm_o3 E) rfl (gw_V gw_150 gw_152 gw_0 gw_23 gw_153) rfl ⟨rfl, rfl⟩ rfl (by decide +kernel) ⟨by decide, by decide⟩ (Nat.le_of_ble_eq_true rfl) dX3_join_90 (fun σ5 h8 => ?_)
            refine gi_ildn hC dX3_join_93 rfl ?_
            have hJ : ∀ k, k < 7 → kJ (gm_sc σ4 1 2 (σ4.1 1 2 ||| 1 <<< (nI e &&& 31))) k := fun k hk => kJ_fr (σ := σ3) (by rw [gm_sc_n _ _ (by omega), f1]) (by rw [gm_sc_n _ _ (by omega), f1]) (f2 (gm_P k + 3) (by show 20 + 30 * k + 3 ≠ 2; omega) (by show 20 + 30 * k + 3 ≠ 3; omega)) (kJ_of (hI2 k hk))
            have hG : gG (gm_sc σ4 1 2 (σ4.1 1 2 ||| 1 <<< (nI e &&& 31))) n (fun d => ps d || decide (d = e)) (va_up U e (min i j)) (va_up V e (max i j)) := by
              refine ⟨g1, g2, by rw [gm_sc_n _ _ (by omega), f1]; exact g3, by rw [gm_sc_1, f1]; exact bm_or g4 (bm_pow (by omega)), fun d hd => ?_, f3, fun d hd => ?_⟩
              · show (ps d || decide (d = e)) = false
                rw [g5 d hd]; simp; omega
              · by_cases hde : d = e
                · subst hde
                  rw [va_up_self, va_up_self]
                  omega
                · rw [va_up_ne _ _ hde, va_up_ne _ _ hde]
                  exact g7 d (by simpa [hde] using hd)
            obtain ⟨b1, b2⟩ := fg_inv hJ hG h8.1 h8.2
            have b3 : kFR σ3 (gm_sc σ4 1 2 (σ4.1 1 2 ||| 1 <<< (nI e &&& 31))) := by
              rw [hσ4]
              exact gm_fr_tr (gm_fr_tr (gm_fr_ar (by omega)) (gm_fr_ar (by omega))) (gm_fr_sc (by decide))
            exact hR _ _ _ _ rfl ⟨kFR_tr b3 b2, Or.inr ⟨i, j, hi, hj, hij, rfl, rfl, Or.inr ⟨e, he, rfl, hpe, hpd, b1⟩⟩⟩ dX3_join_94
          · exact absurd h7 (fun z => absurd (z ▸ (show (-1 : Int32) < 0 by decide)) (nI_pos (n := e) (by omega)))
        ·
          refine gi_istn_3 hC dX3_join_37 (by decide) ?_
          refine gi_ildn hC dX3_join_38 rfl ?_
          refine gi_const hC (v := -1) dX3_join_39 (by decide) ?_
          refine gi_icmp_ne hC 46 dX3_join_40 (by decide) (fun h7 => ?_) (fun h7 => ?_)
          · exact absurd rfl h7
          ·
            refine gi_bipush hC (v := -3) dX3_join_43 (by decide) ?_
            exact hR _ _ _ _ rfl ⟨kFR_rf, Or.inr ⟨i, j, hi, hj, hij, rfl, rfl, Or.inl ⟨rfl, fun d hd => (by rw [← g4 d (by omega)]; exact h6 d hd), hI⟩⟩⟩ dX3_join_45
      ·
        have hij : i = j := (nI_eq (by omega) (by omega)).mp h5
        refine gi_bipush hC (v := -2) dX3_join_27 (by decide) ?_
        exact hR _ _ _ _ rfl ⟨kFR_rf, Or.inl ⟨rfl, fun ⟨i2, j2, c1, c2, c3, c4, c5⟩ => c3 (by rw [← (nI_eq (by omega) (by omega)).mp c4, ← (nI_eq (by omega) (by omega)).mp c5, hij]), hI⟩⟩ dX3_join_29
set_option maxHeartbeats 4000000 in
set_option maxRecDepth 100000 in
theorem c_X3_cut (l : Launch) (E : gm_E) (σ : gm_S) (n : Nat) (ps : Nat → Bool) (U V : Nat → Nat) (hI : kInv σ n ps U V) (a : Int32) : gm_MI l E yX3_cut (.code yX3_cut cX3_cut 2 (some .int) :: gw_T) { frames := 1, cells := 0, slots := 0, locals := 21 } [.ref (E.2.2 0), .int a] σ (fun r σ2 => kFR σ σ2 ∧ ((r = -1 ∧ (¬ ∃ e, e < 24 ∧ a = nI e ∧ ps e = true) ∧ kInv σ2 n ps U V) ∨ ∃ e, e < 24 ∧ a = nI e ∧ ps e = true ∧ r = nI (U e * 10 + V e) ∧ kInv σ2 n (fun d => ps d && !decide (d = e)) U V)) := by
  refine gm_enterI RX3 (by decide +kernel) rfl rfl (Nat.le_of_ble_eq_true rfl) (gm_c1_ok rfl) ?_
  intro X hC hR
  show gm_G X E 2 0 [some (.ref (E.2.2 0)), some (.int a)] [] σ
  obtain ⟨⟨g1, g2, g3, g4, g5, g6, g7⟩, hI2⟩ := id hI
  refine gi_aldn hC dX3_cut_0 rfl ?_
  refine gf_K_graph hC gw_129 dX3_cut_1 ?_
  refine gi_ildn hC dX3_cut_4 rfl ?_
  refine gk_VI (n := 1) hC (fun l => c_X0_hasEdge l E σ a) (gm_o0 E) rfl (gw_V gw_178 gw_167 gw_168 gw_24 gw_169) rfl ⟨rfl, rfl⟩ rfl (by decide +kernel) ⟨by decide, by decide⟩ (Nat.le_of_ble_eq_true rfl) dX3_cut_5 (fun r σ1 h1 => ?_)
  obtain ⟨h1, rfl⟩ := h1
  rw [gE_ex g4] at h1
  refine gi_if_ne hC 13 dX3_cut_8 (by decide) (fun h2 => ?_) (fun h2 => ?_)
  ·
    obtain ⟨e, he, rfl, hpe⟩ : ∃ j, j < 24 ∧ a = nI j ∧ ps j = true := by
      rcases h1 with ⟨-, z⟩ | ⟨z, -⟩
      · exact z
      · exact absurd z h2
    obtain ⟨c1, c2, c3, c4⟩ := g6 e he
    refine gi_aldn hC dX3_cut_13 rfl ?_
    refine gf_K_graph hC gw_129 dX3_cut_14 ?_
    refine gi_dup hC dX3_cut_17 rfl ?_
    refine gf_G_present hC gw_52 dX3_cut_18 ?_
    refine gi_const hC (v := 1) dX3_cut_21 (by decide) ?_
    refine gi_ildn hC dX3_cut_22 rfl ?_
    refine gi_ishl hC dX3_cut_23 ?_
    refine gi_const hC (v := -1) dX3_cut_24 (by decide) ?_
    refine gi_ixor hC dX3_cut_25 ?_
    refine gi_iand hC dX3_cut_26 ?_
    refine pf_G_present hC gw_52 dX3_cut_27 ?_
    refine gi_aldn hC dX3_cut_30 rfl ?_
    refine gk_VV (n := 0) hC (fun l => c_X3_forgetPackings l E _) (gm_o3 E) rfl (gw_V gw_150 gw_152 gw_0 gw_23 gw_153) rfl ⟨rfl, rfl⟩ rfl (by decide +kernel) ⟨by decide, by decide⟩ (Nat.le_of_ble_eq_true rfl) dX3_cut_31 (fun σ5 h8 => ?_)
    have hr5 : ∀ y, σ5.2 y = σ1.2 y := fun y => h8.1.2 y (fun z => z)
    refine gi_aldn hC dX3_cut_34 rfl ?_
    refine gf_K_graph hC gw_129 dX3_cut_35 ?_
    refine gf_G_lesser hC gw_47 dX3_cut_38 ?_
    refine gi_ildn hC dX3_cut_41 rfl ?_
    refine gi_iald hC (gm_i2 E) he rfl (by first | decide | omega) dX3_cut_42 ?_
    rw [hr5, c1]
    refine gi_bipush hC (v := 10) dX3_cut_43 (by decide) ?_
    refine gi_imul hC dX3_cut_45 ?_
    refine gi_aldn hC dX3_cut_46 rfl ?_
    refine gf_K_graph hC gw_129 dX3_cut_47 ?_
    refine gf_G_greater hC gw_50 dX3_cut_50 ?_
    refine gi_ildn hC dX3_cut_53 rfl ?_
    refine gi_iald hC (gm_i3 E) he rfl (by first | decide | omega) dX3_cut_54 ?_
    rw [hr5, c2]
    refine gi_iadd hC dX3_cut_55 ?_
    rw [show nI (U e) * 10 + nI (V e) = nI (U e * 10 + V e) by rw [show (10 : Int32) = nI 10 from rfl, pk_mul, nI_add]]
    have hJ : ∀ k, k < 7 → kJ (gm_sc σ1 1 2 (σ1.1 1 2 &&& (1 <<< (nI e &&& 31) ^^^ -1))) k := fun k hk => kJ_fr (σ := σ1) (by rw [gm_sc_n _ _ (by omega)]) (by rw [gm_sc_n _ _ (by omega)]) rfl (kJ_of (hI2 k hk))
    have hG : gG (gm_sc σ1 1 2 (σ1.1 1 2 &&& (1 <<< (nI e &&& 31) ^^^ -1))) n (fun d => ps d && !decide (d = e)) U V := by
      refine ⟨g1, g2, by rw [gm_sc_n _ _ (by omega)]; exact g3, by rw [gm_sc_1]; exact bm_and g4 (bm_not (bm_pow (by omega))), fun d hd => (by show (ps d && !decide (d = e)) = false; rw [g5 d hd]; rfl), g6, fun d hd => g7 d (by simp at hd; exact hd.1)⟩
    obtain ⟨b1, b2⟩ := fg_inv hJ hG h8.1 h8.2
    exact hR _ _ _ _ rfl ⟨kFR_tr (gm_fr_sc (by decide)) b2, Or.inr ⟨e, he, rfl, hpe, rfl, b1⟩⟩ dX3_cut_56
  ·
    have hn : ¬ ∃ j, j < 24 ∧ a = nI j ∧ ps j = true := by
      rcases h1 with ⟨z, -⟩ | ⟨-, z⟩
      · rw [z] at h2; exact absurd h2 (by decide)
      · exact z
    refine gi_const hC (v := -1) dX3_cut_11 (by decide) ?_
    exact hR _ _ _ _ rfl ⟨kFR_rf, Or.inl ⟨rfl, hn, hI⟩⟩ dX3_cut_12
end
section
/-! THE PACKER: questions -/
theorem oI_m1 {r : Option Nat} (h : ∀ i, r = some i → i < 2 ^ 31) : oI r = -1 ↔ r = none := by
  constructor
  · intro e
    exact oI_inj (t := none) h (fun _ z => by cases z) e
  · rintro rfl; rfl
theorem kP_kI {σ : gm_S} {U V : Nat → Nat} {ps : Nat → Bool} {k sz : Nat} {q : pq} {fol : Nat → Option Nat} (h : kP σ U V ps k q sz fol) : kI σ U V ps k := Or.inr ⟨q, sz, fol, h⟩
theorem kfx {σ : gm_S} {U V : Nat → Nat} {ps : Nat → Bool} {k sz : Nat} {q : pq} {fol : Nat → Option Nat} (h : kP σ U V ps k q sz fol) : bm (σ.1 (gm_P k) 5) (fun _ => false) := by rw [h.1]; exact bm_0
def rsn (k : Nat) (U V : Nat → Nat) (q : pq) (e : Nat) (fol : Nat → Option Nat) : Nat → Bool := fun i => (fnd k U V q (fun _ => false) (U e) (V e) fol).2.1 i || decide (i = e)
def cl_lp (k : Nat) (U V : Nat → Nat) (q : pq) : Nat → Nat → Nat → (Nat → Option Nat) → Nat × (Nat → Option Nat)
  | 0, _, c, fo => (c, fo)
  | m + 1, v, c, fo => match ifc k U V q (fun _ => false) v v 0 fo with
    | (true, fo2) => cl_lp k U V q m (v + 1) (c + 1) fo2
    | (false, fo2) => cl_lp k U V q m (v + 1) c fo2
def cr_lp (k : Nat) (U V : Nat → Nat) (ps : Nat → Bool) (q : pq) : Nat → Nat → Nat → (Nat → Option Nat) → Nat × (Nat → Option Nat)
  | 0, _, c, fo => (c, fo)
  | m + 1, e, c, fo => if ps e = true then match fnd k U V q (fun _ => false) (U e) (V e) fo with
      | (some _, s) => cr_lp k U V ps q m (e + 1) (c + 1) s.2.2
      | (none, s) => cr_lp k U V ps q m (e + 1) c s.2.2
    else cr_lp k U V ps q m (e + 1) c fo
def arbP (U V : Nat → Nat) (ps : Nat → Bool) (p r : Int32) : Prop := (∃ kk, kk < 7 ∧ r = nI kk ∧ (∃ q sz b, pkd kk U V ps q sz b ∧ nI sz = jbc p) ∧ ∀ k2, k2 < kk → ∃ q sz b, pkd k2 U V ps q sz b ∧ nI sz ≠ jbc p) ∨ (r = -1 ∧ ∀ k2, k2 < 7 → ∃ q sz b, pkd k2 U V ps q sz b ∧ nI sz ≠ jbc p)
theorem kNF {σ σ2 : gm_S} {k : Nat} {F : Nat → Nat → Prop} (hF : ∀ x j, F x j → x = gm_P k) (h : gm_fr σ σ2 F (mv_R k)) (j : Nat) : σ2.1 1 j = σ.1 1 j := h.1 _ _ (fun hx => by have := hF 1 j hx; unfold gm_P at this; omega)
set_option maxHeartbeats 4000000 in
set_option maxRecDepth 100000 in
theorem c_X3_most (l : Launch) (E : gm_E) (σ : gm_S) (n : Nat) (ps : Nat → Bool) (U V : Nat → Nat) (hI : kInv σ n ps U V) (k : Int32) : gm_MI l E yX3_most (.code yX3_most cX3_most 2 (some .int) :: gw_T) { frames := 5, cells := 0, slots := 0, locals := 122 } [.ref (E.2.2 0), .int k] σ (fun r σ2 => kFR σ σ2 ∧ kInv σ2 n ps U V ∧ ((r = -2 ∧ ¬ ∃ j, j < 7 ∧ k = nI j) ∨ ∃ kk, kk < 7 ∧ k = nI kk ∧ ∃ q sz b, pkd kk U V ps q sz b ∧ r = nI sz)) := by
  refine gm_enterI RX3 (by decide +kernel) rfl rfl (Nat.le_of_ble_eq_true rfl) (gm_c1_ok rfl) ?_
  intro X hC hR
  show gm_G X E 2 0 [some (.ref (E.2.2 0)), some (.int k)] [] σ
  refine gi_ildn hC dX3_most_0 rfl ?_
  refine gk_SI (n := 1) hC (fun l => c_X3_isForestCount l E σ k) (gw_S gw_183 gw_184 gw_23 gw_185) rfl ⟨rfl, rfl⟩ rfl (by decide +kernel) ⟨by decide, by decide⟩ (Nat.le_of_ble_eq_true rfl) dX3_most_1 (fun r σ1 h1 => ?_)
  obtain ⟨h1, rfl⟩ := h1
  refine gi_if_eq hC 18 dX3_most_4 (by decide) (fun h2 => ?_) (fun h2 => ?_)
  ·
    have hn : ¬ ∃ j, j < 7 ∧ k = nI j := by
      rcases h1 with ⟨z, -⟩ | ⟨-, z⟩
      · rw [z] at h2; exact absurd h2 (by decide)
      · exact z
    refine gi_bipush hC (v := -2) dX3_most_18 (by decide) ?_
    exact hR _ _ _ _ rfl ⟨kFR_rf, hI, Or.inl ⟨rfl, hn⟩⟩ dX3_most_20
  ·
    obtain ⟨kk, hk, rfl⟩ : ∃ j, j < 7 ∧ k = nI j := by
      rcases h1 with ⟨-, z⟩ | ⟨z, -⟩
      · exact z
      · exact absurd z h2
    refine gi_aldn hC dX3_most_7 rfl ?_
    refine gi_ildn hC dX3_most_8 rfl ?_
    refine gk_VR (n := 1) hC (fun l => c_X3_packed l E σ1 n ps U V hI kk hk) (gm_o3 E) rfl (gw_V gw_186 gw_188 gw_1 gw_23 gw_189) rfl ⟨rfl, rfl⟩ rfl (by decide +kernel) ⟨by decide, by decide⟩ (Nat.le_of_ble_eq_true rfl) dX3_most_9 (fun σ2 h9 => ?_)
    obtain ⟨h9f, q, sz, fol, hP⟩ := h9
    have hI2 := kInv_up bl_blk h9f hI (kP_kI hP)
    have hfr := kFR_blk bl_blk h9f
    refine gf_P_size hC hk gw_92 dX3_most_12 ?_
    rw [hP.2.2.2.2.2.1]
    refine gi_goto hC 20 dX3_most_15 (by decide) ?_
    exact hR _ _ _ _ rfl ⟨hfr, hI2, Or.inr ⟨kk, hk, rfl, q, sz, _, hP.2.2.2.2.2.2, rfl⟩⟩ dX3_most_20
set_option maxHeartbeats 4000000 in
set_option maxRecDepth 100000 in
theorem c_X3_held (l : Launch) (E : gm_E) (σ : gm_S) (n : Nat) (ps : Nat → Bool) (U V : Nat → Nat) (hI : kInv σ n ps U V) (k a : Int32) : gm_MI l E yX3_held (.code yX3_held cX3_held 3 (some .int) :: gw_T) { frames := 5, cells := 0, slots := 0, locals := 122 } [.ref (E.2.2 0), .int k, .int a] σ (fun r σ2 => kFR σ σ2 ∧ kInv σ2 n ps U V ∧ ((r = -2 ∧ ¬ ∃ j, j < 7 ∧ k = nI j) ∨ ∃ kk, kk < 7 ∧ k = nI kk ∧ ((r = -1 ∧ ¬ ∃ e, e < 24 ∧ a = nI e ∧ ps e = true) ∨ ∃ e, e < 24 ∧ a = nI e ∧ ps e = true ∧ ∃ q sz b, pkd kk U V ps q sz b ∧ r = if q.1 e = none then 0 else 1))) := by
  refine gm_enterI RX3 (by decide +kernel) rfl rfl (Nat.le_of_ble_eq_true rfl) (gm_c1_ok rfl) ?_
  intro X hC hR
  show gm_G X E 3 0 [some (.ref (E.2.2 0)), some (.int k), some (.int a)] [] σ
  obtain ⟨g1, g2, g3, g4, g5, g6, g7⟩ := id hI.1
  refine gi_ildn hC dX3_held_0 rfl ?_
  refine gk_SI (n := 1) hC (fun l => c_X3_isForestCount l E σ k) (gw_S gw_183 gw_184 gw_23 gw_185) rfl ⟨rfl, rfl⟩ rfl (by decide +kernel) ⟨by decide, by decide⟩ (Nat.le_of_ble_eq_true rfl) dX3_held_1 (fun r σ1 h1 => ?_)
  obtain ⟨h1, rfl⟩ := h1
  refine gi_if_ne hC 10 dX3_held_4 (by decide) (fun h2 => ?_) (fun h2 => ?_)
  ·
    obtain ⟨kk, hk, rfl⟩ : ∃ j, j < 7 ∧ k = nI j := by
      rcases h1 with ⟨-, z⟩ | ⟨z, -⟩
      · exact z
      · exact absurd z h2
    refine gi_aldn hC dX3_held_10 rfl ?_
    refine gf_K_graph hC gw_129 dX3_held_11 ?_
    refine gi_ildn hC dX3_held_14 rfl ?_
    refine gk_VI (n := 1) hC (fun l => c_X0_hasEdge l E σ1 a) (gm_o0 E) rfl (gw_V gw_178 gw_167 gw_168 gw_24 gw_169) rfl ⟨rfl, rfl⟩ rfl (by decide +kernel) ⟨by decide, by decide⟩ (Nat.le_of_ble_eq_true rfl) dX3_held_15 (fun r3 σ3 h3 => ?_)
    obtain ⟨h3, rfl⟩ := h3
    rw [gE_ex g4] at h3
    refine gi_if_ne hC 23 dX3_held_18 (by decide) (fun h4 => ?_) (fun h4 => ?_)
    ·
      obtain ⟨e, he, rfl, hpe⟩ : ∃ j, j < 24 ∧ a = nI j ∧ ps j = true := by
        rcases h3 with ⟨-, z⟩ | ⟨z, -⟩
        · exact z
        · exact absurd z h4
      refine gi_aldn hC dX3_held_23 rfl ?_
      refine gi_ildn hC dX3_held_24 rfl ?_
      refine gk_VR (n := 1) hC (fun l => c_X3_packed l E σ3 n ps U V hI kk hk) (gm_o3 E) rfl (gw_V gw_186 gw_188 gw_1 gw_23 gw_189) rfl ⟨rfl, rfl⟩ rfl (by decide +kernel) ⟨by decide, by decide⟩ (Nat.le_of_ble_eq_true rfl) dX3_held_25 (fun σ2 h9 => ?_)
      obtain ⟨h9f, q, sz, fol, hP⟩ := h9
      have hI2 := kInv_up bl_blk h9f hI (kP_kI hP)
      have hfr := kFR_blk bl_blk h9f
      obtain ⟨p1, p2⟩ := hP.2.2.2.2.1.1 e he
      refine gf_P_place hC hk gw_90 dX3_held_28 ?_
      refine gi_ildn hC dX3_held_31 rfl ?_
      refine gi_iald hC (gm_iR E hk 1 (by decide) (by decide)) he rfl (by first | decide | omega) dX3_held_32 ?_
      rw [p1]
      refine gi_const hC (v := -1) dX3_held_33 (by decide) ?_
      refine gi_icmp_eq hC 41 dX3_held_34 (by decide) (fun h5 => ?_) (fun h5 => ?_)
      ·
        have hq := (oI_m1 (oI_in p2 (by omega))).mp h5
        refine gi_const hC (v := 0) dX3_held_41 (by decide) ?_
        exact hR _ _ _ _ rfl ⟨hfr, hI2, Or.inr ⟨kk, hk, rfl, Or.inr ⟨e, he, rfl, hpe, q, sz, _, hP.2.2.2.2.2.2, by rw [if_pos hq]⟩⟩⟩ dX3_held_42
      ·
        have hq : q.1 e ≠ none := fun z => h5 ((oI_m1 (oI_in p2 (by omega))).mpr z)
        refine gi_const hC (v := 1) dX3_held_37 (by decide) ?_
        refine gi_goto hC 42 dX3_held_38 (by decide) ?_
        exact hR _ _ _ _ rfl ⟨hfr, hI2, Or.inr ⟨kk, hk, rfl, Or.inr ⟨e, he, rfl, hpe, q, sz, _, hP.2.2.2.2.2.2, by rw [if_neg hq]⟩⟩⟩ dX3_held_42
    ·
      have hna : ¬ ∃ j, j < 24 ∧ a = nI j ∧ ps j = true := by
        rcases h3 with ⟨z, -⟩ | ⟨-, z⟩
        · rw [z] at h4; exact absurd h4 (by decide)
        · exact z
      refine gi_const hC (v := -1) dX3_held_21 (by decide) ?_
      exact hR _ _ _ _ rfl ⟨kFR_rf, hI, Or.inr ⟨kk, hk, rfl, Or.inl ⟨rfl, hna⟩⟩⟩ dX3_held_22
  ·
    have hn : ¬ ∃ j, j < 7 ∧ k = nI j := by
      rcases h1 with ⟨z, -⟩ | ⟨-, z⟩
      · rw [z] at h2; exact absurd h2 (by decide)
      · exact z
    refine gi_bipush hC (v := -2) dX3_held_7 (by decide) ?_
    exact hR _ _ _ _ rfl ⟨kFR_rf, hI, Or.inl ⟨rfl, hn⟩⟩ dX3_held_9
set_option maxHeartbeats 4000000 in
set_option maxRecDepth 100000 in
theorem c_X3_forest (l : Launch) (E : gm_E) (σ : gm_S) (n : Nat) (ps : Nat → Bool) (U V : Nat → Nat) (hI : kInv σ n ps U V) (k a : Int32) : gm_MI l E yX3_forest (.code yX3_forest cX3_forest 4 (some .int) :: gw_T) { frames := 5, cells := 0, slots := 0, locals := 128 } [.ref (E.2.2 0), .int k, .int a] σ (fun r σ2 => kFR σ σ2 ∧ kInv σ2 n ps U V ∧ ((r = -2 ∧ ¬ ∃ j, j < 7 ∧ k = nI j) ∨ ∃ kk, kk < 7 ∧ k = nI kk ∧ ((r = -1 ∧ ¬ ∃ e, e < 24 ∧ a = nI e ∧ ps e = true) ∨ ∃ e, e < 24 ∧ a = nI e ∧ ps e = true ∧ ∃ q sz, pkd kk U V ps q sz True ∧ r = oI (q.1 e)))) := by
  refine gm_enterI RX3 (by decide +kernel) rfl rfl (Nat.le_of_ble_eq_true rfl) (gm_c1_ok rfl) ?_
  intro X hC hR
  show gm_G X E 4 0 [some (.ref (E.2.2 0)), some (.int k), some (.int a), none] [] σ
  obtain ⟨g1, g2, g3, g4, g5, g6, g7⟩ := id hI.1
  refine gi_ildn hC dX3_forest_0 rfl ?_
  refine gk_SI (n := 1) hC (fun l => c_X3_isForestCount l E σ k) (gw_S gw_183 gw_184 gw_23 gw_185) rfl ⟨rfl, rfl⟩ rfl (by decide +kernel) ⟨by decide, by decide⟩ (Nat.le_of_ble_eq_true rfl) dX3_forest_1 (fun r σ1 h1 => ?_)
  obtain ⟨h1, rfl⟩ := h1
  refine gi_if_ne hC 10 dX3_forest_4 (by decide) (fun h2 => ?_) (fun h2 => ?_)
  ·
    obtain ⟨kk, hk, rfl⟩ : ∃ j, j < 7 ∧ k = nI j := by
      rcases h1 with ⟨-, z⟩ | ⟨z, -⟩
      · exact z
      · exact absurd z h2
    refine gi_aldn hC dX3_forest_10 rfl ?_
    refine gf_K_graph hC gw_129 dX3_forest_11 ?_
    refine gi_ildn hC dX3_forest_14 rfl ?_
    refine gk_VI (n := 1) hC (fun l => c_X0_hasEdge l E σ1 a) (gm_o0 E) rfl (gw_V gw_178 gw_167 gw_168 gw_24 gw_169) rfl ⟨rfl, rfl⟩ rfl (by decide +kernel) ⟨by decide, by decide⟩ (Nat.le_of_ble_eq_true rfl) dX3_forest_15 (fun r3 σ3 h3 => ?_)
    obtain ⟨h3, rfl⟩ := h3
    rw [gE_ex g4] at h3
    refine gi_if_ne hC 23 dX3_forest_18 (by decide) (fun h4 => ?_) (fun h4 => ?_)
    ·
      obtain ⟨e, he, rfl, hpe⟩ : ∃ j, j < 24 ∧ a = nI j ∧ ps j = true := by
        rcases h3 with ⟨-, z⟩ | ⟨z, -⟩
        · exact z
        · exact absurd z h4
      refine gi_aldn hC dX3_forest_23 rfl ?_
      refine gi_ildn hC dX3_forest_24 rfl ?_
      refine gk_VR (n := 1) hC (fun l => c_X3_packed l E σ3 n ps U V hI kk hk) (gm_o3 E) rfl (gw_V gw_186 gw_188 gw_1 gw_23 gw_189) rfl ⟨rfl, rfl⟩ rfl (by decide +kernel) ⟨by decide, by decide⟩ (Nat.le_of_ble_eq_true rfl) dX3_forest_25 (fun σ2 h9 => ?_)
      obtain ⟨h9f, q, sz, fol, hP⟩ := h9
      have hI2 := kInv_up bl_blk h9f hI (kP_kI hP)
      have hfr := kFR_blk bl_blk h9f
      obtain ⟨b1, b2, b3, b4, b5, b6, b7⟩ := id hP
      refine gi_astn_3 hC dX3_forest_28 (by decide) ?_
      refine gi_aldn hC dX3_forest_29 rfl ?_
      refine gi_aldn hC dX3_forest_30 rfl ?_
      refine gf_K_graph hC gw_129 dX3_forest_31 ?_
      refine gk_VV (n := 1) hC (fun l => c_X1_settle l E hk σ2 U V (gL_mv h9f g6) q b5 b1 b3 fol b2) (gm_o1 E hk) rfl (gw_V gw_247 gw_248 gw_249 gw_25 gw_250) rfl ⟨rfl, rfl⟩ rfl (by decide +kernel) ⟨by decide, by decide⟩ (Nat.le_of_ble_eq_true rfl) dX3_forest_34 (fun σ4 h5 => ?_)
      obtain ⟨d1, d2, d3, d4, d5⟩ := h5
      obtain ⟨q2, fol2, hz⟩ : ∃ q2 fol2, (if σ2.1 (gm_P kk) 4 = 1 then (q, fol) else st_out kk U V 24 0 (fun _ => false) (q, fol)) = (q2, fol2) := ⟨_, _, rfl⟩
      rw [hz] at d2 d3
      have hpk : pkd kk U V ps q2 sz True := by
        rcases b7 with ⟨c1, fo, fo2, c2⟩ | ⟨c1, c2⟩
        · rw [if_neg c1] at hz
          exact Or.inr ⟨trivial, q, fo, fo2, fol, fol2, c2, hz⟩
        · rw [if_pos c1] at hz
          cases hz
          exact Or.inr ⟨trivial, c2⟩
      have hP4 : kP σ4 U V ps kk q2 sz fol2 := by
        refine ⟨d4, d3, Or.inr d5, ?_, d2, ?_, ?_⟩
        · rw [d1.1 _ 2 (fun z => by rcases z.2 with z | z | z | z | z | z <;> cases z)]; exact b4
        · rw [d1.1 _ 1 (fun z => by rcases z.2 with z | z | z | z | z | z <;> cases z)]; exact b6
        · rw [d5]; simpa using hpk
      have hI4 := kInv_up st_blk d1 hI2 (kP_kI hP4)
      obtain ⟨p1, p2⟩ := d2.1 e he
      refine gi_aldn hC dX3_forest_37 rfl ?_
      refine gf_P_place hC hk gw_90 dX3_forest_38 ?_
      refine gi_ildn hC dX3_forest_41 rfl ?_
      refine gi_iald hC (gm_iR E hk 1 (by decide) (by decide)) he rfl (by first | decide | omega) dX3_forest_42 ?_
      rw [p1]
      exact hR _ _ _ _ rfl ⟨kFR_tr hfr (kFR_blk st_blk d1), hI4, Or.inr ⟨kk, hk, rfl, Or.inr ⟨e, he, rfl, hpe, q2, sz, hpk, rfl⟩⟩⟩ dX3_forest_43
    ·
      have hna : ¬ ∃ j, j < 24 ∧ a = nI j ∧ ps j = true := by
        rcases h3 with ⟨z, -⟩ | ⟨-, z⟩
        · rw [z] at h4; exact absurd h4 (by decide)
        · exact z
      refine gi_const hC (v := -1) dX3_forest_21 (by decide) ?_
      exact hR _ _ _ _ rfl ⟨kFR_rf, hI, Or.inr ⟨kk, hk, rfl, Or.inl ⟨rfl, hna⟩⟩⟩ dX3_forest_22
  ·
    have hn : ¬ ∃ j, j < 7 ∧ k = nI j := by
      rcases h1 with ⟨z, -⟩ | ⟨-, z⟩
      · rw [z] at h2; exact absurd h2 (by decide)
      · exact z
    refine gi_bipush hC (v := -2) dX3_forest_7 (by decide) ?_
    exact hR _ _ _ _ rfl ⟨kFR_rf, hI, Or.inl ⟨rfl, hn⟩⟩ dX3_forest_9
set_option maxHeartbeats 4000000 in
set_option maxRecDepth 100000 in
theorem c_X3_tight (l : Launch) (E : gm_E) (σ : gm_S) (n : Nat) (ps : Nat → Bool) (U V : Nat → Nat) (hI : kInv σ n ps U V) (k a b : Int32) : gm_MI l E yX3_tight (.code yX3_tight cX3_tight 4 (some .int) :: gw_T) { frames := 5, cells := 0, slots := 0, locals := 122 } [.ref (E.2.2 0), .int k, .int a, .int b] σ (fun r σ2 => kFR σ σ2 ∧ kInv σ2 n ps U V ∧ ((r = -2 ∧ ¬ ((∃ j, j < 7 ∧ k = nI j) ∧ (∃ i, i < n ∧ a = nI i) ∧ ∃ j, j < n ∧ b = nI j)) ∨ ∃ kk i j, kk < 7 ∧ k = nI kk ∧ i < n ∧ a = nI i ∧ j < n ∧ b = nI j ∧ ∃ q sz b fol, pkd kk U V ps q sz b ∧ r = if (fnd kk U V q (fun _ => false) i j fol).1 = none then 1 else 0)) := by
  refine gm_enterI RX3 (by decide +kernel) rfl rfl (Nat.le_of_ble_eq_true rfl) (gm_c1_ok rfl) ?_
  intro X hC hR
  show gm_G X E 4 0 [some (.ref (E.2.2 0)), some (.int k), some (.int a), some (.int b)] [] σ
  obtain ⟨g1, g2, g3, g4, g5, g6, g7⟩ := id hI.1
  refine gi_ildn hC dX3_tight_0 rfl ?_
  refine gk_SI (n := 1) hC (fun l => c_X3_isForestCount l E σ k) (gw_S gw_183 gw_184 gw_23 gw_185) rfl ⟨rfl, rfl⟩ rfl (by decide +kernel) ⟨by decide, by decide⟩ (Nat.le_of_ble_eq_true rfl) dX3_tight_1 (fun r σ1 h1 => ?_)
  obtain ⟨h1, rfl⟩ := h1
  refine gi_if_eq hC 29 dX3_tight_4 (by decide) (fun h2 => ?_) (fun h2 => ?_)
  ·
    have hn : ¬ ∃ j, j < 7 ∧ k = nI j := by
      rcases h1 with ⟨z, -⟩ | ⟨-, z⟩
      · rw [z] at h2; exact absurd h2 (by decide)
      · exact z
    refine gi_bipush hC (v := -2) dX3_tight_29 (by decide) ?_
    exact hR _ _ _ _ rfl ⟨kFR_rf, hI, Or.inl ⟨rfl, fun z => hn z.1⟩⟩ dX3_tight_31
  ·
    obtain ⟨kk, hk, rfl⟩ : ∃ j, j < 7 ∧ k = nI j := by
      rcases h1 with ⟨-, z⟩ | ⟨z, -⟩
      · exact z
      · exact absurd z h2
    refine gi_aldn hC dX3_tight_7 rfl ?_
    refine gf_K_graph hC gw_129 dX3_tight_8 ?_
    refine gi_ildn hC dX3_tight_11 rfl ?_
    refine gk_VI (n := 1) hC (fun l => c_X0_hasVertex l E σ1 a) (gm_o0 E) rfl (gw_V gw_158 gw_159 gw_160 gw_24 gw_161) rfl ⟨rfl, rfl⟩ rfl (by decide +kernel) ⟨by decide, by decide⟩ (Nat.le_of_ble_eq_true rfl) dX3_tight_12 (fun r3 σ3 h3 => ?_)
    obtain ⟨h3, rfl⟩ := h3
    rw [g3, nI_vx g2] at h3
    refine gi_if_eq hC 29 dX3_tight_15 (by decide) (fun h4 => ?_) (fun h4 => ?_)
    ·
      have hn : ¬ ∃ j, j < n ∧ a = nI j := by
        rcases h3 with ⟨z, -⟩ | ⟨-, z⟩
        · rw [z] at h4; exact absurd h4 (by decide)
        · exact z
      refine gi_bipush hC (v := -2) dX3_tight_29 (by decide) ?_
      exact hR _ _ _ _ rfl ⟨kFR_rf, hI, Or.inl ⟨rfl, fun z => hn z.2.1⟩⟩ dX3_tight_31
    ·
      obtain ⟨i, hi2, rfl⟩ : ∃ j, j < n ∧ a = nI j := by
        rcases h3 with ⟨-, z⟩ | ⟨z, -⟩
        · exact z
        · exact absurd z h4
      refine gi_aldn hC dX3_tight_18 rfl ?_
      refine gf_K_graph hC gw_129 dX3_tight_19 ?_
      refine gi_ildn hC dX3_tight_22 rfl ?_
      refine gk_VI (n := 1) hC (fun l => c_X0_hasVertex l E σ3 b) (gm_o0 E) rfl (gw_V gw_158 gw_159 gw_160 gw_24 gw_161) rfl ⟨rfl, rfl⟩ rfl (by decide +kernel) ⟨by decide, by decide⟩ (Nat.le_of_ble_eq_true rfl) dX3_tight_23 (fun r5 σ5 h5 => ?_)
      obtain ⟨h5, rfl⟩ := h5
      rw [g3, nI_vx g2] at h5
      refine gi_if_ne hC 32 dX3_tight_26 (by decide) (fun h6 => ?_) (fun h6 => ?_)
      ·
        obtain ⟨j, hj, rfl⟩ : ∃ j, j < n ∧ b = nI j := by
          rcases h5 with ⟨-, z⟩ | ⟨z, -⟩
          · exact z
          · exact absurd z h6
        refine gi_aldn hC dX3_tight_32 rfl ?_
        refine gi_ildn hC dX3_tight_33 rfl ?_
        refine gk_VR (n := 1) hC (fun l => c_X3_packed l E σ5 n ps U V hI kk hk) (gm_o3 E) rfl (gw_V gw_186 gw_188 gw_1 gw_23 gw_189) rfl ⟨rfl, rfl⟩ rfl (by decide +kernel) ⟨by decide, by decide⟩ (Nat.le_of_ble_eq_true rfl) dX3_tight_34 (fun σ2 h9 => ?_)
        obtain ⟨h9f, q, sz, fol, hP⟩ := h9
        have hI2 := kInv_up bl_blk h9f hI (kP_kI hP)
        have hfr := kFR_blk bl_blk h9f
        refine gi_aldn hC dX3_tight_37 rfl ?_
        refine gf_K_graph hC gw_129 dX3_tight_38 ?_
        refine gi_ildn hC dX3_tight_41 rfl ?_
        refine gi_ildn hC dX3_tight_42 rfl ?_
        refine gk_VI (n := 3) hC (fun l => c_X1_findRoom l E hk σ2 U V (gL_mv h9f g6) q hP.2.2.2.2.1 (fun _ => false) (kfx hP) fol hP.2.1 i j (by omega) (by omega)) (gm_o1 E hk) rfl (gw_V gw_271 gw_204 gw_205 gw_25 gw_206) rfl ⟨rfl, rfl⟩ rfl (by decide +kernel) ⟨by decide, by decide⟩ (Nat.le_of_ble_eq_true rfl) dX3_tight_43 (fun r7 σ7 h7 => ?_)
        obtain ⟨c1, c2⟩ := h7
        obtain ⟨Z, hZ⟩ : ∃ Z, Z = fnd kk U V q (fun _ => false) i j fol := ⟨_, rfl⟩
        rw [← hZ] at c2
        have hP7 := kP_sr hk c1 hP c2.1.2.2.2.2
        have hI7 := kInv_up sr_blk (mv_sr c1) hI2 (kP_kI hP7)
        have hfr7 := kFR_tr hfr (kFR_blk sr_blk (mv_sr c1))
        obtain ⟨z1, z2⟩ := Z
        cases z1 with
        | some w =>
          obtain ⟨lm, t⟩ := w
          obtain ⟨c3, rfl, -⟩ := c2
          refine gi_if_eq hC 53 dX3_tight_46 (by decide) (fun h8 => ?_) (fun h8 => ?_)
          · exact absurd h8 (by decide)
          ·
            refine gi_const hC (v := 0) dX3_tight_49 (by decide) ?_
            refine gi_goto hC 54 dX3_tight_50 (by decide) ?_
            exact hR _ _ _ _ rfl ⟨hfr7, hI7, Or.inr ⟨kk, i, j, hk, rfl, hi2, rfl, hj, rfl, q, sz, _, fol, hP.2.2.2.2.2.2, by rw [← hZ]; rfl⟩⟩ dX3_tight_54
        | none =>
          obtain ⟨c3, c4⟩ := c2
          have c4 : r7 = 0 := c4
          subst c4
          refine gi_if_eq hC 53 dX3_tight_46 (by decide) (fun h8 => ?_) (fun h8 => ?_)
          ·
            refine gi_const hC (v := 1) dX3_tight_53 (by decide) ?_
            exact hR _ _ _ _ rfl ⟨hfr7, hI7, Or.inr ⟨kk, i, j, hk, rfl, hi2, rfl, hj, rfl, q, sz, _, fol, hP.2.2.2.2.2.2, by rw [← hZ]; rfl⟩⟩ dX3_tight_54
          · exact absurd rfl h8
      ·
        have hn : ¬ ∃ j, j < n ∧ b = nI j := by
          rcases h5 with ⟨z, -⟩ | ⟨-, z⟩
          · rw [z] at h6; exact absurd h6 (by decide)
          · exact z
        refine gi_bipush hC (v := -2) dX3_tight_29 (by decide) ?_
        exact hR _ _ _ _ rfl ⟨kFR_rf, hI, Or.inl ⟨rfl, fun z => hn z.2.2⟩⟩ dX3_tight_31
end
section
/-! THE PACKER: why, classes, crossing, arboricity, dense, spanning, told -/
set_option maxHeartbeats 4000000 in
set_option maxRecDepth 100000 in
theorem c_X3_why (l : Launch) (E : gm_E) (σ : gm_S) (n : Nat) (ps : Nat → Bool) (U V : Nat → Nat) (hI : kInv σ n ps U V) (k a f : Int32) : gm_MI l E yX3_why (.code yX3_why cX3_why 6 (some .int) :: gw_T) { frames := 5, cells := 0, slots := 0, locals := 122 } [.ref (E.2.2 0), .int k, .int a, .int f] σ (fun r σ2 => kFR σ σ2 ∧ kInv σ2 n ps U V ∧ ((r = -2 ∧ ¬ ∃ j, j < 7 ∧ k = nI j) ∨ ∃ kk, kk < 7 ∧ k = nI kk ∧ ((r = -1 ∧ ¬ ((∃ e, e < 24 ∧ a = nI e ∧ ps e = true) ∧ (f = -1 ∨ ∃ e, e < 24 ∧ f = nI e ∧ ps e = true))) ∨ ∃ e, e < 24 ∧ a = nI e ∧ ps e = true ∧ (f = -1 ∨ ∃ d, d < 24 ∧ f = nI d ∧ ps d = true) ∧ ∃ q sz b, pkd kk U V ps q sz b ∧ ((q.1 e ≠ none ∧ r = -1) ∨ (q.1 e = none ∧ ∃ fol m, bm m (rsn kk U V q e fol) ∧ ((f = -1 ∧ r = jbc m) ∨ ∃ d, d < 24 ∧ f = nI d ∧ r = if bt m d = true then 1 else 0)))))) := by
  refine gm_enterI RX3 (by decide +kernel) rfl rfl (Nat.le_of_ble_eq_true rfl) (gm_c1_ok rfl) ?_
  intro X hC hR
  show gm_G X E 6 0 [some (.ref (E.2.2 0)), some (.int k), some (.int a), some (.int f), none, none] [] σ
  obtain ⟨g1, g2, g3, g4, g5, g6, g7⟩ := id hI.1
  refine gi_ildn hC dX3_why_0 rfl ?_
  refine gk_SI (n := 1) hC (fun l => c_X3_isForestCount l E σ k) (gw_S gw_183 gw_184 gw_23 gw_185) rfl ⟨rfl, rfl⟩ rfl (by decide +kernel) ⟨by decide, by decide⟩ (Nat.le_of_ble_eq_true rfl) dX3_why_1 (fun r σ1 h1 => ?_)
  obtain ⟨h1, rfl⟩ := h1
  refine gi_if_ne hC 10 dX3_why_4 (by decide) (fun h2 => ?_) (fun h2 => ?_)
  ·
    obtain ⟨kk, hk, rfl⟩ : ∃ j, j < 7 ∧ k = nI j := by
      rcases h1 with ⟨-, z⟩ | ⟨z, -⟩
      · exact z
      · exact absurd z h2
    refine gi_aldn hC dX3_why_10 rfl ?_
    refine gf_K_graph hC gw_129 dX3_why_11 ?_
    refine gi_ildn hC dX3_why_14 rfl ?_
    refine gk_VI (n := 1) hC (fun l => c_X0_hasEdge l E σ1 a) (gm_o0 E) rfl (gw_V gw_178 gw_167 gw_168 gw_24 gw_169) rfl ⟨rfl, rfl⟩ rfl (by decide +kernel) ⟨by decide, by decide⟩ (Nat.le_of_ble_eq_true rfl) dX3_why_15 (fun r3 σ3 h3 => ?_)
    obtain ⟨h3, rfl⟩ := h3
    rw [gE_ex g4] at h3
    have KK : ∀ e, e < 24 → a = nI e → ps e = true → (f = -1 ∨ ∃ d, d < 24 ∧ f = nI d ∧ ps d = true) → ∀ w4 w5 : Option Value, gm_G X E 6 39 [some (.ref (E.2.2 0)), some (.int (nI kk)), some (.int a), some (.int f), w4, w5] [] σ3 := by
      intro e he ha hpe hf w4 w5
      subst ha
      refine gi_aldn hC dX3_why_39 rfl ?_
      refine gi_ildn hC dX3_why_40 rfl ?_
      refine gk_VR (n := 1) hC (fun l => c_X3_packed l E σ3 n ps U V hI kk hk) (gm_o3 E) rfl (gw_V gw_186 gw_188 gw_1 gw_23 gw_189) rfl ⟨rfl, rfl⟩ rfl (by decide +kernel) ⟨by decide, by decide⟩ (Nat.le_of_ble_eq_true rfl) dX3_why_41 (fun σ2 h9 => ?_)
      obtain ⟨h9f, q, sz, fol, hP⟩ := h9
      have hI2 := kInv_up bl_blk h9f hI (kP_kI hP)
      have hfr := kFR_blk bl_blk h9f
      obtain ⟨p1, p2⟩ := hP.2.2.2.2.1.1 e he
      refine gi_ast_4 hC dX3_why_44 (by decide) ?_
      refine gi_ald hC dX3_why_46 rfl ?_
      refine gf_P_place hC hk gw_90 dX3_why_48 ?_
      refine gi_ildn hC dX3_why_51 rfl ?_
      refine gi_iald hC (gm_iR E hk 1 (by decide) (by decide)) he rfl (by first | decide | omega) dX3_why_52 ?_
      rw [p1]
      refine gi_const hC (v := -1) dX3_why_53 (by decide) ?_
      refine gi_icmp_eq hC 59 dX3_why_54 (by decide) (fun h5 => ?_) (fun h5 => ?_)
      ·
        have hq := (oI_m1 (oI_in p2 (by omega))).mp h5
        refine gi_ald hC dX3_why_59 rfl ?_
        refine gi_aldn hC dX3_why_61 rfl ?_
        refine gf_K_graph hC gw_129 dX3_why_62 ?_
        refine gi_ildn hC dX3_why_65 rfl ?_
        refine gk_VI (n := 2) hC (fun l => c_X1_reason l E hk σ2 U V (gL_mv h9f g6) q hP.2.2.2.2.1 (fun _ => false) (kfx hP) fol hP.2.1 e he) (gm_o1 E hk) rfl (gw_V gw_262 gw_263 gw_264 gw_25 gw_265) rfl ⟨rfl, rfl⟩ rfl (by decide +kernel) ⟨by decide, by decide⟩ (Nat.le_of_ble_eq_true rfl) dX3_why_66 (fun m σ4 h6 => ?_)
        obtain ⟨c1, c2, c3⟩ := h6
        have hP4 := kP_sr hk c1 hP c2.2.2.2.2
        have hI4 := kInv_up sr_blk (mv_sr c1) hI2 (kP_kI hP4)
        have hfr4 := kFR_tr hfr (kFR_blk sr_blk (mv_sr c1))
        refine gi_ist_5 hC dX3_why_69 (by decide) ?_
        refine gi_ildn hC dX3_why_71 rfl ?_
        refine gi_const hC (v := -1) dX3_why_72 (by decide) ?_
        refine gi_icmp_ne hC 84 dX3_why_73 (by decide) (fun h7 => ?_) (fun h7 => ?_)
        ·
          obtain ⟨d, hd, rfl, hpd⟩ := hf.elim (fun z => absurd z h7) id
          refine gi_ild hC dX3_why_84 rfl ?_
          refine gi_ildn hC dX3_why_86 rfl ?_
          refine gi_ishr hC dX3_why_87 ?_
          refine gi_const hC (v := 1) dX3_why_88 (by decide) ?_
          refine gi_iand hC dX3_why_89 ?_
          rw [b_tst m (by omega)]
          exact hR _ _ _ _ rfl ⟨hfr4, hI4, Or.inr ⟨kk, hk, rfl, Or.inr ⟨e, he, rfl, hpe, hf, q, sz, _, hP.2.2.2.2.2.2, Or.inr ⟨hq, fol, m, c3, Or.inr ⟨d, hd, rfl, rfl⟩⟩⟩⟩⟩ dX3_why_90
        ·
          subst h7
          refine gi_ild hC dX3_why_76 rfl ?_
          refine gk_SI (n := 1) hC (fun l => c_J6_bitCount_0f7a4 l E σ4 _) (gw_S gw_266 gw_145 gw_29 gw_146) rfl ⟨rfl, rfl⟩ rfl (by decide +kernel) ⟨by decide, by decide⟩ (Nat.le_of_ble_eq_true rfl) dX3_why_78 (fun r8 σ8 h8 => ?_)
          obtain ⟨rfl, rfl⟩ := h8
          refine gi_goto hC 90 dX3_why_81 (by decide) ?_
          exact hR _ _ _ _ rfl ⟨hfr4, hI4, Or.inr ⟨kk, hk, rfl, Or.inr ⟨e, he, rfl, hpe, hf, q, sz, _, hP.2.2.2.2.2.2, Or.inr ⟨hq, fol, m, c3, Or.inl ⟨rfl, rfl⟩⟩⟩⟩⟩ dX3_why_90
      ·
        have hq : q.1 e ≠ none := fun z => h5 ((oI_m1 (oI_in p2 (by omega))).mpr z)
        refine gi_const hC (v := -1) dX3_why_57 (by decide) ?_
        exact hR _ _ _ _ rfl ⟨hfr, hI2, Or.inr ⟨kk, hk, rfl, Or.inr ⟨e, he, rfl, hpe, hf, q, sz, _, hP.2.2.2.2.2.2, Or.inl ⟨hq, rfl⟩⟩⟩⟩ dX3_why_58
    refine gi_if_eq hC 37 dX3_why_18 (by decide) (fun h4 => ?_) (fun h4 => ?_)
    ·
      have hna : ¬ ∃ j, j < 24 ∧ a = nI j ∧ ps j = true := by
        rcases h3 with ⟨z, -⟩ | ⟨-, z⟩
        · rw [z] at h4; exact absurd h4 (by decide)
        · exact z
      refine gi_const hC (v := -1) dX3_why_37 (by decide) ?_
      exact hR _ _ _ _ rfl ⟨kFR_rf, hI, Or.inr ⟨kk, hk, rfl, Or.inl ⟨rfl, fun z => hna z.1⟩⟩⟩ dX3_why_38
    ·
      obtain ⟨e, he, ha, hpe⟩ : ∃ j, j < 24 ∧ a = nI j ∧ ps j = true := by
        rcases h3 with ⟨-, z⟩ | ⟨z, -⟩
        · exact z
        · exact absurd z h4
      refine gi_ildn hC dX3_why_21 rfl ?_
      refine gi_const hC (v := -1) dX3_why_22 (by decide) ?_
      refine gi_icmp_eq hC 39 dX3_why_23 (by decide) (fun h5 => ?_) (fun h5 => ?_)
      · exact KK e he ha hpe (Or.inl h5) _ _
      ·
        refine gi_aldn hC dX3_why_26 rfl ?_
        refine gf_K_graph hC gw_129 dX3_why_27 ?_
        refine gi_ildn hC dX3_why_30 rfl ?_
        refine gk_VI (n := 1) hC (fun l => c_X0_hasEdge l E σ3 f) (gm_o0 E) rfl (gw_V gw_178 gw_167 gw_168 gw_24 gw_169) rfl ⟨rfl, rfl⟩ rfl (by decide +kernel) ⟨by decide, by decide⟩ (Nat.le_of_ble_eq_true rfl) dX3_why_31 (fun r6 σ6 h6 => ?_)
        obtain ⟨h6, rfl⟩ := h6
        rw [gE_ex g4] at h6
        refine gi_if_ne hC 39 dX3_why_34 (by decide) (fun h7 => ?_) (fun h7 => ?_)
        ·
          have hf : ∃ j, j < 24 ∧ f = nI j ∧ ps j = true := by
            rcases h6 with ⟨-, z⟩ | ⟨z, -⟩
            · exact z
            · exact absurd z h7
          exact KK e he ha hpe (Or.inr hf) _ _
        ·
          have hnf : ¬ ∃ j, j < 24 ∧ f = nI j ∧ ps j = true := by
            rcases h6 with ⟨z, -⟩ | ⟨-, z⟩
            · rw [z] at h7; exact absurd h7 (by decide)
            · exact z
          refine gi_const hC (v := -1) dX3_why_37 (by decide) ?_
          exact hR _ _ _ _ rfl ⟨kFR_rf, hI, Or.inr ⟨kk, hk, rfl, Or.inl ⟨rfl, fun z => z.2.elim h5 hnf⟩⟩⟩ dX3_why_38
  ·
    have hn : ¬ ∃ j, j < 7 ∧ k = nI j := by
      rcases h1 with ⟨z, -⟩ | ⟨-, z⟩
      · rw [z] at h2; exact absurd h2 (by decide)
      · exact z
    refine gi_bipush hC (v := -2) dX3_why_7 (by decide) ?_
    exact hR _ _ _ _ rfl ⟨kFR_rf, hI, Or.inl ⟨rfl, hn⟩⟩ dX3_why_9
set_option maxHeartbeats 4000000 in
set_option maxRecDepth 100000 in
theorem c_X3_classes (l : Launch) (E : gm_E) (σ : gm_S) (n : Nat) (ps : Nat → Bool) (U V : Nat → Nat) (hI : kInv σ n ps U V) (k : Int32) : gm_MI l E yX3_classes (.code yX3_classes cX3_classes 5 (some .int) :: gw_T) { frames := 5, cells := 0, slots := 0, locals := 122 } [.ref (E.2.2 0), .int k] σ (fun r σ2 => kFR σ σ2 ∧ kInv σ2 n ps U V ∧ ((r = -2 ∧ ¬ ∃ j, j < 7 ∧ k = nI j) ∨ ∃ kk, kk < 7 ∧ k = nI kk ∧ ∃ q sz b, pkd kk U V ps q sz b ∧ ∃ fol, r = nI (cl_lp kk U V q n 0 0 fol).1)) := by
  refine gm_enterI RX3 (by decide +kernel) rfl rfl (Nat.le_of_ble_eq_true rfl) (gm_c1_ok rfl) ?_
  intro X hC hR
  show gm_G X E 5 0 [some (.ref (E.2.2 0)), some (.int k), none, none, none] [] σ
  obtain ⟨g1, g2, g3, g4, g5, g6, g7⟩ := id hI.1
  refine gi_ildn hC dX3_classes_0 rfl ?_
  refine gk_SI (n := 1) hC (fun l => c_X3_isForestCount l E σ k) (gw_S gw_183 gw_184 gw_23 gw_185) rfl ⟨rfl, rfl⟩ rfl (by decide +kernel) ⟨by decide, by decide⟩ (Nat.le_of_ble_eq_true rfl) dX3_classes_1 (fun r σ1 h1 => ?_)
  obtain ⟨h1, rfl⟩ := h1
  refine gi_if_ne hC 10 dX3_classes_4 (by decide) (fun h2 => ?_) (fun h2 => ?_)
  ·
    obtain ⟨kk, hk, rfl⟩ : ∃ j, j < 7 ∧ k = nI j := by
      rcases h1 with ⟨-, z⟩ | ⟨z, -⟩
      · exact z
      · exact absurd z h2
    refine gi_aldn hC dX3_classes_10 rfl ?_
    refine gi_ildn hC dX3_classes_11 rfl ?_
    refine gk_VR (n := 1) hC (fun l => c_X3_packed l E σ1 n ps U V hI kk hk) (gm_o3 E) rfl (gw_V gw_186 gw_188 gw_1 gw_23 gw_189) rfl ⟨rfl, rfl⟩ rfl (by decide +kernel) ⟨by decide, by decide⟩ (Nat.le_of_ble_eq_true rfl) dX3_classes_12 (fun σ2 h9 => ?_)
    obtain ⟨h9f, q, sz, fol, hP⟩ := h9
    have hI2 := kInv_up bl_blk h9f hI (kP_kI hP)
    have hfr := kFR_blk bl_blk h9f
    obtain ⟨Z, hZ⟩ : ∃ Z, Z = cl_lp kk U V q n 0 0 fol := ⟨_, rfl⟩
    have L : ∀ m v c fo (σ3 : gm_S), v + m = n → kFR σ1 σ3 → kInv σ3 n ps U V → kP σ3 U V ps kk q sz fo → Z = cl_lp kk U V q m v c fo → gm_G X E 5 21 [some (.ref (E.2.2 0)), some (.int (nI kk)), some (.ref (E.2.2 (gm_P kk))), some (.int (nI c)), some (.int (nI v))] [] σ3 := by
      intro m
      induction m with
      | zero =>
        intro v c fo σ3 hv hf3 hI3 hP3 hw
        have hv : v = n := by omega
        subst hv
        rw [cl_lp] at hw
        obtain ⟨k1, k2, k3, k4, k5, k6, k7⟩ := id hI3.1
        refine gi_ild hC dX3_classes_21 rfl ?_
        refine gi_aldn hC dX3_classes_23 rfl ?_
        refine gf_K_graph hC gw_129 dX3_classes_24 ?_
        refine gf_G_vertices hC gw_54 dX3_classes_27 ?_
        rw [k3]
        refine gi_icmp_ge hC 55 dX3_classes_30 (by decide) (fun h5 => ?_) (fun h5 => ?_)
        ·
          refine gi_ildn hC dX3_classes_55 rfl ?_
          exact hR _ _ _ _ rfl ⟨hf3, hI3, Or.inr ⟨kk, hk, rfl, q, sz, _, hP.2.2.2.2.2.2, fol, by rw [← hZ, hw]⟩⟩ dX3_classes_56
        · exact absurd (Int32.le_refl _) h5
      | succ m ih =>
        intro v c fo σ3 hv hf3 hI3 hP3 hw
        obtain ⟨k1, k2, k3, k4, k5, k6, k7⟩ := id hI3.1
        rw [cl_lp] at hw
        refine gi_ild hC dX3_classes_21 rfl ?_
        refine gi_aldn hC dX3_classes_23 rfl ?_
        refine gf_K_graph hC gw_129 dX3_classes_24 ?_
        refine gf_G_vertices hC gw_54 dX3_classes_27 ?_
        rw [k3]
        refine gi_icmp_ge hC 55 dX3_classes_30 (by decide) (fun h5 => ?_) (fun h5 => ?_)
        · exact absurd h5 (nI_ge (a := v) (b := n) (by omega) (by omega))
        ·
          refine gi_aldn hC dX3_classes_33 rfl ?_
          refine gi_aldn hC dX3_classes_34 rfl ?_
          refine gf_K_graph hC gw_129 dX3_classes_35 ?_
          refine gi_ild hC dX3_classes_38 rfl ?_
          refine gk_VI (n := 2) hC (fun l => c_X1_isFirstOfClass l E hk σ3 U V k6 q hP3.2.2.2.2.1 (fun _ => false) (kfx hP3) fo hP3.2.1 v (by omega)) (gm_o1 E hk) rfl (gw_V gw_276 gw_277 gw_278 gw_25 gw_279) rfl ⟨rfl, rfl⟩ rfl (by decide +kernel) ⟨by decide, by decide⟩ (Nat.le_of_ble_eq_true rfl) dX3_classes_40 (fun r6 σ6 h6 => ?_)
          obtain ⟨c1, c2, c3⟩ := h6
          generalize ifc kk U V q (fun _ => false) v v 0 fo = z at hw c2 c3
          obtain ⟨z1, z2⟩ := z
          have hP6 := kP_sr hk c1 hP3 c2
          have hI6 := kInv_up sr_blk (mv_sr c1) hI3 (kP_kI hP6)
          have hf6 := kFR_tr hf3 (kFR_blk sr_blk (mv_sr c1))
          cases z1 with
          | true =>
            have c3 : r6 = 1 := c3
            subst c3
            try dsimp only at hw
            refine gi_if_eq hC 49 dX3_classes_43 (by decide) (fun h7 => ?_) (fun h7 => ?_)
            · exact absurd h7 (by decide)
            ·
              refine gi_iinc_3 hC dX3_classes_46 (nI_1 c) (by decide) ?_
              refine gi_iinc_4 hC dX3_classes_49 (nI_1 v) (by decide) ?_
              refine gi_goto hC 21 dX3_classes_52 (by decide) ?_
              exact ih (v + 1) (c + 1) z2 σ6 (by omega) hf6 hI6 hP6 hw
          | false =>
            have c3 : r6 = 0 := c3
            subst c3
            try dsimp only at hw
            refine gi_if_eq hC 49 dX3_classes_43 (by decide) (fun h7 => ?_) (fun h7 => ?_)
            ·
              refine gi_iinc_4 hC dX3_classes_49 (nI_1 v) (by decide) ?_
              refine gi_goto hC 21 dX3_classes_52 (by decide) ?_
              exact ih (v + 1) c z2 σ6 (by omega) hf6 hI6 hP6 hw
            · exact absurd rfl h7
    refine gi_astn_2 hC dX3_classes_15 (by decide) ?_
    refine gi_const hC (v := 0) dX3_classes_16 (by decide) ?_
    refine gi_istn_3 hC dX3_classes_17 (by decide) ?_
    refine gi_const hC (v := 0) dX3_classes_18 (by decide) ?_
    refine gi_ist_4 hC dX3_classes_19 (by decide) ?_
    exact L n 0 0 fol σ2 (by omega) hfr hI2 hP hZ
  ·
    have hn : ¬ ∃ j, j < 7 ∧ k = nI j := by
      rcases h1 with ⟨z, -⟩ | ⟨-, z⟩
      · rw [z] at h2; exact absurd h2 (by decide)
      · exact z
    refine gi_bipush hC (v := -2) dX3_classes_7 (by decide) ?_
    exact hR _ _ _ _ rfl ⟨kFR_rf, hI, Or.inl ⟨rfl, hn⟩⟩ dX3_classes_9
set_option maxHeartbeats 4000000 in
set_option maxRecDepth 100000 in
theorem c_X3_crossing (l : Launch) (E : gm_E) (σ : gm_S) (n : Nat) (ps : Nat → Bool) (U V : Nat → Nat) (hI : kInv σ n ps U V) (k : Int32) : gm_MI l E yX3_crossing (.code yX3_crossing cX3_crossing 5 (some .int) :: gw_T) { frames := 5, cells := 0, slots := 0, locals := 122 } [.ref (E.2.2 0), .int k] σ (fun r σ2 => kFR σ σ2 ∧ kInv σ2 n ps U V ∧ ((r = -2 ∧ ¬ ∃ j, j < 7 ∧ k = nI j) ∨ ∃ kk, kk < 7 ∧ k = nI kk ∧ ∃ q sz b, pkd kk U V ps q sz b ∧ ∃ fol, r = nI (cr_lp kk U V ps q 24 0 0 fol).1)) := by
  refine gm_enterI RX3 (by decide +kernel) rfl rfl (Nat.le_of_ble_eq_true rfl) (gm_c1_ok rfl) ?_
  intro X hC hR
  show gm_G X E 5 0 [some (.ref (E.2.2 0)), some (.int k), none, none, none] [] σ
  obtain ⟨g1, g2, g3, g4, g5, g6, g7⟩ := id hI.1
  refine gi_ildn hC dX3_crossing_0 rfl ?_
  refine gk_SI (n := 1) hC (fun l => c_X3_isForestCount l E σ k) (gw_S gw_183 gw_184 gw_23 gw_185) rfl ⟨rfl, rfl⟩ rfl (by decide +kernel) ⟨by decide, by decide⟩ (Nat.le_of_ble_eq_true rfl) dX3_crossing_1 (fun r σ1 h1 => ?_)
  obtain ⟨h1, rfl⟩ := h1
  refine gi_if_ne hC 10 dX3_crossing_4 (by decide) (fun h2 => ?_) (fun h2 => ?_)
  ·
    obtain ⟨kk, hk, rfl⟩ : ∃ j, j < 7 ∧ k = nI j := by
      rcases h1 with ⟨-, z⟩ | ⟨z, -⟩
      · exact z
      · exact absurd z h2
    refine gi_aldn hC dX3_crossing_10 rfl ?_
    refine gi_ildn hC dX3_crossing_11 rfl ?_
    refine gk_VR (n := 1) hC (fun l => c_X3_packed l E σ1 n ps U V hI kk hk) (gm_o3 E) rfl (gw_V gw_186 gw_188 gw_1 gw_23 gw_189) rfl ⟨rfl, rfl⟩ rfl (by decide +kernel) ⟨by decide, by decide⟩ (Nat.le_of_ble_eq_true rfl) dX3_crossing_12 (fun σ2 h9 => ?_)
    obtain ⟨h9f, q, sz, fol, hP⟩ := h9
    have hI2 := kInv_up bl_blk h9f hI (kP_kI hP)
    have hfr := kFR_blk bl_blk h9f
    obtain ⟨Z, hZ⟩ : ∃ Z, Z = cr_lp kk U V ps q 24 0 0 fol := ⟨_, rfl⟩
    have L : ∀ m e c fo (σ3 : gm_S), e + m = 24 → kFR σ1 σ3 → kInv σ3 n ps U V → kP σ3 U V ps kk q sz fo → Z = cr_lp kk U V ps q m e c fo → gm_G X E 5 21 [some (.ref (E.2.2 0)), some (.int (nI kk)), some (.ref (E.2.2 (gm_P kk))), some (.int (nI c)), some (.int (nI e))] [] σ3 := by
      intro m
      induction m with
      | zero =>
        intro e c fo σ3 hv hf3 hI3 hP3 hw
        have hv : e = 24 := by omega
        subst hv
        rw [cr_lp] at hw
        refine gi_ild hC dX3_crossing_21 rfl ?_
        refine gi_bipush hC (v := 24) dX3_crossing_23 (by decide) ?_
        refine gi_icmp_ge hC 80 dX3_crossing_25 (by decide) (fun h5 => ?_) (fun h5 => ?_)
        ·
          refine gi_ildn hC dX3_crossing_80 rfl ?_
          exact hR _ _ _ _ rfl ⟨hf3, hI3, Or.inr ⟨kk, hk, rfl, q, sz, _, hP.2.2.2.2.2.2, fol, by rw [← hZ, hw]⟩⟩ dX3_crossing_81
        · exact absurd (Int32.le_refl _) h5
      | succ m ih =>
        intro e c fo σ3 hv hf3 hI3 hP3 hw
        obtain ⟨k1, k2, k3, k4, k5, k6, k7⟩ := id hI3.1
        rw [cr_lp] at hw
        obtain ⟨l1, l2, l3, l4⟩ := k6 e (by omega)
        refine gi_ild hC dX3_crossing_21 rfl ?_
        refine gi_bipush hC (v := 24) dX3_crossing_23 (by decide) ?_
        refine gi_icmp_ge hC 80 dX3_crossing_25 (by decide) (fun h5 => ?_) (fun h5 => ?_)
        · exact absurd h5 (nI_ge (a := e) (b := 24) (by omega) (by omega))
        ·
          refine gi_aldn hC dX3_crossing_28 rfl ?_
          refine gf_K_graph hC gw_129 dX3_crossing_29 ?_
          refine gi_ild hC dX3_crossing_32 rfl ?_
          refine gk_VI (n := 1) hC (fun l => c_X0_hasEdge l E σ3 (nI e)) (gm_o0 E) rfl (gw_V gw_178 gw_167 gw_168 gw_24 gw_169) rfl ⟨rfl, rfl⟩ rfl (by decide +kernel) ⟨by decide, by decide⟩ (Nat.le_of_ble_eq_true rfl) dX3_crossing_34 (fun r6 σ6 h6 => ?_)
          obtain ⟨h6, rfl⟩ := h6
          rw [gE_has_nI (by omega), k4 e (by omega)] at h6
          refine gi_if_eq hC 74 dX3_crossing_37 (by decide) (fun h7 => ?_) (fun h7 => ?_)
          ·
            have hpe : ¬ ps e = true := by
              rcases h6 with ⟨z, -⟩ | ⟨-, z⟩
              · rw [z] at h7; exact absurd h7 (by decide)
              · exact z
            rw [if_neg hpe] at hw
            refine gi_iinc_4 hC dX3_crossing_74 (nI_1 e) (by decide) ?_
            refine gi_goto hC 21 dX3_crossing_77 (by decide) ?_
            exact ih (e + 1) c fo σ6 (by omega) hf3 hI3 hP3 hw
          ·
            have hpe : ps e = true := by
              rcases h6 with ⟨-, z⟩ | ⟨z, -⟩
              · exact z
              · exact absurd z h7
            rw [if_pos hpe] at hw
            refine gi_aldn hC dX3_crossing_40 rfl ?_
            refine gi_aldn hC dX3_crossing_41 rfl ?_
            refine gf_K_graph hC gw_129 dX3_crossing_42 ?_
            refine gi_aldn hC dX3_crossing_45 rfl ?_
            refine gf_K_graph hC gw_129 dX3_crossing_46 ?_
            refine gf_G_lesser hC gw_47 dX3_crossing_49 ?_
            refine gi_ild hC dX3_crossing_52 rfl ?_
            refine gi_iald hC (gm_i2 E) (j := e) (by omega) rfl (by first | decide | omega) dX3_crossing_54 ?_
            refine gi_aldn hC dX3_crossing_55 rfl ?_
            refine gf_K_graph hC gw_129 dX3_crossing_56 ?_
            refine gf_G_greater hC gw_50 dX3_crossing_59 ?_
            refine gi_ild hC dX3_crossing_62 rfl ?_
            refine gi_iald hC (gm_i3 E) (j := e) (by omega) rfl (by first | decide | omega) dX3_crossing_64 ?_
            rw [l1, l2]
            refine gk_VI (n := 3) hC (fun l => c_X1_findRoom l E hk σ6 U V k6 q hP3.2.2.2.2.1 (fun _ => false) (kfx hP3) fo hP3.2.1 (U e) (V e) l3 l4) (gm_o1 E hk) rfl (gw_V gw_271 gw_204 gw_205 gw_25 gw_206) rfl ⟨rfl, rfl⟩ rfl (by decide +kernel) ⟨by decide, by decide⟩ (Nat.le_of_ble_eq_true rfl) dX3_crossing_65 (fun r8 σ8 h8 => ?_)
            obtain ⟨c1, c2⟩ := h8
            generalize fnd kk U V q (fun _ => false) (U e) (V e) fo = z at hw c2
            obtain ⟨z1, z2⟩ := z
            have hP8 := kP_sr hk c1 hP3 c2.1.2.2.2.2
            have hI8 := kInv_up sr_blk (mv_sr c1) hI3 (kP_kI hP8)
            have hf8 := kFR_tr hf3 (kFR_blk sr_blk (mv_sr c1))
            cases z1 with
            | some w =>
              obtain ⟨lm, t⟩ := w
              obtain ⟨c3, rfl, -⟩ := c2
              try dsimp only at hw
              refine gi_if_eq hC 74 dX3_crossing_68 (by decide) (fun h9 => ?_) (fun h9 => ?_)
              · exact absurd h9 (by decide)
              ·
                refine gi_iinc_3 hC dX3_crossing_71 (nI_1 c) (by decide) ?_
                refine gi_iinc_4 hC dX3_crossing_74 (nI_1 e) (by decide) ?_
                refine gi_goto hC 21 dX3_crossing_77 (by decide) ?_
                exact ih (e + 1) (c + 1) _ σ8 (by omega) hf8 hI8 hP8 hw
            | none =>
              obtain ⟨c3, c4⟩ := c2
              have c4 : r8 = 0 := c4
              subst c4
              try dsimp only at hw
              refine gi_if_eq hC 74 dX3_crossing_68 (by decide) (fun h9 => ?_) (fun h9 => ?_)
              ·
                refine gi_iinc_4 hC dX3_crossing_74 (nI_1 e) (by decide) ?_
                refine gi_goto hC 21 dX3_crossing_77 (by decide) ?_
                exact ih (e + 1) c _ σ8 (by omega) hf8 hI8 hP8 hw
              · exact absurd rfl h9
    refine gi_astn_2 hC dX3_crossing_15 (by decide) ?_
    refine gi_const hC (v := 0) dX3_crossing_16 (by decide) ?_
    refine gi_istn_3 hC dX3_crossing_17 (by decide) ?_
    refine gi_const hC (v := 0) dX3_crossing_18 (by decide) ?_
    refine gi_ist_4 hC dX3_crossing_19 (by decide) ?_
    exact L 24 0 0 fol σ2 rfl hfr hI2 hP hZ
  ·
    have hn : ¬ ∃ j, j < 7 ∧ k = nI j := by
      rcases h1 with ⟨z, -⟩ | ⟨-, z⟩
      · rw [z] at h2; exact absurd h2 (by decide)
      · exact z
    refine gi_bipush hC (v := -2) dX3_crossing_7 (by decide) ?_
    exact hR _ _ _ _ rfl ⟨kFR_rf, hI, Or.inl ⟨rfl, hn⟩⟩ dX3_crossing_9
set_option maxHeartbeats 4000000 in
set_option maxRecDepth 100000 in
theorem c_X3_arboricity (l : Launch) (E : gm_E) (σ : gm_S) (n : Nat) (ps : Nat → Bool) (U V : Nat → Nat) (hI : kInv σ n ps U V)  : gm_MI l E yX3_arboricity (.code yX3_arboricity cX3_arboricity 3 (some .int) :: gw_T) { frames := 5, cells := 0, slots := 0, locals := 122 } [.ref (E.2.2 0)] σ (fun r σ2 => kFR σ σ2 ∧ kInv σ2 n ps U V ∧ σ2.1 1 2 = σ.1 1 2 ∧ arbP U V ps (σ.1 1 2) r) := by
  refine gm_enterI RX3 (by decide +kernel) rfl rfl (Nat.le_of_ble_eq_true rfl) (gm_c1_ok rfl) ?_
  intro X hC hR
  show gm_G X E 3 0 [some (.ref (E.2.2 0)), none, none] [] σ
  have L : ∀ m kk (σ3 : gm_S), kk + m = 7 → kFR σ σ3 → kInv σ3 n ps U V → σ3.1 1 2 = σ.1 1 2 → (∀ k2, k2 < kk → ∃ q sz b, pkd k2 U V ps q sz b ∧ nI sz ≠ jbc (σ.1 1 2)) → gm_G X E 3 10 [some (.ref (E.2.2 0)), some (.int (jbc (σ.1 1 2))), some (.int (nI kk))] [] σ3 := by
    intro m
    induction m with
    | zero =>
      intro kk σ3 hv hf3 hI3 he3 hw
      have hv : kk = 7 := by omega
      subst hv
      refine gi_ildn hC dX3_arboricity_10 rfl ?_
      refine gi_bipush hC (v := 6) dX3_arboricity_11 (by decide) ?_
      refine gi_icmp_gt hC 36 dX3_arboricity_13 (by decide) (fun h5 => ?_) (fun h5 => ?_)
      ·
        refine gi_const hC (v := -1) dX3_arboricity_36 (by decide) ?_
        exact hR _ _ _ _ rfl ⟨hf3, hI3, he3, Or.inr ⟨rfl, hw⟩⟩ dX3_arboricity_37
      · exact absurd (by decide) h5
    | succ m ih =>
      intro kk σ3 hv hf3 hI hv3 hw
      have hk : kk < 7 := by omega
      refine gi_ildn hC dX3_arboricity_10 rfl ?_
      refine gi_bipush hC (v := 6) dX3_arboricity_11 (by decide) ?_
      refine gi_icmp_gt hC 36 dX3_arboricity_13 (by decide) (fun h5 => ?_) (fun h5 => ?_)
      · exact absurd h5 (nI_nlt (a := 6) (b := kk) (by omega) (by omega))
      ·
        refine gi_aldn hC dX3_arboricity_16 rfl ?_
        refine gi_ildn hC dX3_arboricity_17 rfl ?_
        refine gk_VR (n := 1) hC (fun l => c_X3_packed l E σ3 n ps U V hI kk hk) (gm_o3 E) rfl (gw_V gw_186 gw_188 gw_1 gw_23 gw_189) rfl ⟨rfl, rfl⟩ rfl (by decide +kernel) ⟨by decide, by decide⟩ (Nat.le_of_ble_eq_true rfl) dX3_arboricity_18 (fun σ2 h9 => ?_)
        obtain ⟨h9f, q, sz, fol, hP⟩ := h9
        have hI2 := kInv_up bl_blk h9f hI (kP_kI hP)
        have hfr := kFR_blk bl_blk h9f
        have hf2 := kFR_tr hf3 hfr
        have he2 : σ2.1 1 2 = σ.1 1 2 := (kNF bl_blk h9f 2).trans hv3
        refine gf_P_size hC hk gw_92 dX3_arboricity_21 ?_
        rw [hP.2.2.2.2.2.1]
        refine gi_ildn hC dX3_arboricity_24 rfl ?_
        refine gi_icmp_ne hC 30 dX3_arboricity_25 (by decide) (fun h6 => ?_) (fun h6 => ?_)
        ·
          refine gi_iinc_2 hC dX3_arboricity_30 (nI_1 kk) (by decide) ?_
          refine gi_goto hC 10 dX3_arboricity_33 (by decide) ?_
          exact ih (kk + 1) σ2 (by omega) hf2 hI2 he2 (fun k2 hk2 => by
            by_cases e : k2 = kk
            · subst e; exact ⟨q, sz, _, hP.2.2.2.2.2.2, h6⟩
            · exact hw k2 (by omega))
        ·
          refine gi_ildn hC dX3_arboricity_28 rfl ?_
          exact hR _ _ _ _ rfl ⟨hf2, hI2, he2, Or.inl ⟨kk, hk, rfl, ⟨q, sz, _, hP.2.2.2.2.2.2, h6⟩, hw⟩⟩ dX3_arboricity_29
  refine gi_aldn hC dX3_arboricity_0 rfl ?_
  refine gf_K_graph hC gw_129 dX3_arboricity_1 ?_
  refine gk_VI (n := 0) hC (fun l => c_X0_edgeCount l E σ) (gm_o0 E) rfl (gw_V gw_140 gw_141 gw_142 gw_24 gw_143) rfl ⟨rfl, rfl⟩ rfl (by decide +kernel) ⟨by decide, by decide⟩ (Nat.le_of_ble_eq_true rfl) dX3_arboricity_4 (fun r1 σ1 h1 => ?_)
  obtain ⟨rfl, rfl⟩ := h1
  refine gi_istn_1 hC dX3_arboricity_7 (by decide) ?_
  refine gi_const hC (v := 0) dX3_arboricity_8 (by decide) ?_
  refine gi_istn_2 hC dX3_arboricity_9 (by decide) ?_
  exact L 7 0 σ1 rfl kFR_rf hI rfl (fun k2 hk2 => absurd hk2 (Nat.not_lt_zero k2))
set_option maxHeartbeats 4000000 in
set_option maxRecDepth 100000 in
theorem c_X3_dense (l : Launch) (E : gm_E) (σ : gm_S) (n : Nat) (ps : Nat → Bool) (U V : Nat → Nat) (hI : kInv σ n ps U V)  : gm_MI l E yX3_dense (.code yX3_dense cX3_dense 4 (some .int) :: gw_T) { frames := 6, cells := 0, slots := 0, locals := 144 } [.ref (E.2.2 0)] σ (fun r σ2 => kFR σ σ2 ∧ kInv σ2 n ps U V ∧ ((r = -1 ∧ arbP U V ps (σ.1 1 2) (-1)) ∨ (r = 0 ∧ arbP U V ps (σ.1 1 2) (nI 0)) ∨ ∃ kk, kk + 1 < 7 ∧ arbP U V ps (σ.1 1 2) (nI (kk + 1)) ∧ ∃ q sz b, pkd kk U V ps q sz b ∧ ((r = 0 ∧ ∀ e, e < 24 → ¬ (ps e = true ∧ q.1 e = none)) ∨ ∃ e fol, e < 24 ∧ ps e = true ∧ q.1 e = none ∧ (∀ d, d < e → ¬ (ps d = true ∧ q.1 d = none)) ∧ bm r (vs_lp U V (rsn kk U V q e fol) 24 0 (fun _ => false))))) := by
  refine gm_enterI RX3 (by decide +kernel) rfl rfl (Nat.le_of_ble_eq_true rfl) (gm_c1_ok rfl) ?_
  intro X hC hR
  show gm_G X E 4 0 [some (.ref (E.2.2 0)), none, none, none] [] σ
  refine gi_aldn hC dX3_dense_0 rfl ?_
  refine gk_VI (n := 0) hC (fun l => c_X3_arboricity l E σ n ps U V hI) (gm_o3 E) rfl (gw_V gw_292 gw_285 gw_286 gw_23 gw_287) rfl ⟨rfl, rfl⟩ rfl (by decide +kernel) ⟨by decide, by decide⟩ (Nat.le_of_ble_eq_true rfl) dX3_dense_1 (fun r1 σ1 h1 => ?_)
  obtain ⟨a1, hI1, a2, a3⟩ := h1
  refine gi_istn_1 hC dX3_dense_4 (by decide) ?_
  refine gi_ildn hC dX3_dense_5 rfl ?_
  refine gi_const hC (v := -1) dX3_dense_6 (by decide) ?_
  refine gi_icmp_ne hC 12 dX3_dense_7 (by decide) (fun h2 => ?_) (fun h2 => ?_)
  ·
    obtain ⟨kz, hkz, rfl, -⟩ : ∃ kk, kk < 7 ∧ r1 = nI kk ∧ True := by
      rcases id a3 with ⟨kk, z1, z2, -⟩ | ⟨z, -⟩
      · exact ⟨kk, z1, z2, trivial⟩
      · exact absurd z h2
    refine gi_ildn hC dX3_dense_12 rfl ?_
    refine gi_if_ne hC 18 dX3_dense_13 (by decide) (fun h3 => ?_) (fun h3 => ?_)
    ·
      obtain ⟨kk, rfl⟩ : ∃ kk, kz = kk + 1 := ⟨kz - 1, by
        have : kz ≠ 0 := fun e => h3 (by rw [e]; rfl)
        omega⟩
      have hk : kk < 7 := by omega
      obtain ⟨k1, k2, k3, k4, k5, k6, k7⟩ := id hI1.1
      refine gi_aldn hC dX3_dense_18 rfl ?_
      refine gi_ildn hC dX3_dense_19 rfl ?_
      refine gi_const hC (v := 1) dX3_dense_20 (by decide) ?_
      refine gi_isub hC dX3_dense_21 ?_
      rw [nI_pred]
      refine gk_VR (n := 1) hC (fun l => c_X3_packed l E σ1 n ps U V hI1 kk hk) (gm_o3 E) rfl (gw_V gw_186 gw_188 gw_1 gw_23 gw_189) rfl ⟨rfl, rfl⟩ rfl (by decide +kernel) ⟨by decide, by decide⟩ (Nat.le_of_ble_eq_true rfl) dX3_dense_22 (fun σ2 h9 => ?_)
      obtain ⟨h9f, q, sz, fol, hP⟩ := h9
      have hI2 := kInv_up bl_blk h9f hI1 (kP_kI hP)
      have hfr := kFR_tr a1 (kFR_blk bl_blk h9f)
      obtain ⟨k1, k2, k3, k4, k5, k6, k7⟩ := id hI2.1
      have L : ∀ m e, e + m = 24 → (∀ d, d < e → ¬ (ps d = true ∧ q.1 d = none)) → gm_G X E 4 28 [some (.ref (E.2.2 0)), some (.int (nI (kk + 1))), some (.ref (E.2.2 (gm_P kk))), some (.int (nI e))] [] σ2 := by
        intro m
        induction m with
        | zero =>
          intro e hv hd
          have hv : e = 24 := by omega
          subst hv
          refine gi_ildn hC dX3_dense_28 rfl ?_
          refine gi_bipush hC (v := 24) dX3_dense_29 (by decide) ?_
          refine gi_icmp_ge hC 78 dX3_dense_31 (by decide) (fun h5 => ?_) (fun h5 => ?_)
          ·
            refine gi_const hC (v := 0) dX3_dense_78 (by decide) ?_
            exact hR _ _ _ _ rfl ⟨hfr, hI2, Or.inr (Or.inr ⟨kk, hkz, a3, q, sz, _, hP.2.2.2.2.2.2, Or.inl ⟨rfl, hd⟩⟩)⟩ dX3_dense_79
          · exact absurd (Int32.le_refl _) h5
        | succ m ih =>
          intro e hv hd
          obtain ⟨p1, p2⟩ := hP.2.2.2.2.1.1 e (by omega)
          have NX : ¬ (ps e = true ∧ q.1 e = none) → gm_G X E 4 72 [some (.ref (E.2.2 0)), some (.int (nI (kk + 1))), some (.ref (E.2.2 (gm_P kk))), some (.int (nI e))] [] σ2 := by
            intro hx
            refine gi_iinc_3 hC dX3_dense_72 (nI_1 e) (by decide) ?_
            refine gi_goto hC 28 dX3_dense_75 (by decide) ?_
            exact ih (e + 1) (by omega) (fun d hd2 => by
              by_cases z : d = e
              · subst z; exact hx
              · exact hd d (by omega))
          refine gi_ildn hC dX3_dense_28 rfl ?_
          refine gi_bipush hC (v := 24) dX3_dense_29 (by decide) ?_
          refine gi_icmp_ge hC 78 dX3_dense_31 (by decide) (fun h5 => ?_) (fun h5 => ?_)
          · exact absurd h5 (nI_ge (a := e) (b := 24) (by omega) (by omega))
          ·
            refine gi_aldn hC dX3_dense_34 rfl ?_
            refine gf_K_graph hC gw_129 dX3_dense_35 ?_
            refine gi_ildn hC dX3_dense_38 rfl ?_
            refine gk_VI (n := 1) hC (fun l => c_X0_hasEdge l E σ2 (nI e)) (gm_o0 E) rfl (gw_V gw_178 gw_167 gw_168 gw_24 gw_169) rfl ⟨rfl, rfl⟩ rfl (by decide +kernel) ⟨by decide, by decide⟩ (Nat.le_of_ble_eq_true rfl) dX3_dense_39 (fun r6 σ6 h6 => ?_)
            obtain ⟨h6, rfl⟩ := h6
            rw [gE_has_nI (by omega), k4 e (by omega)] at h6
            refine gi_if_eq hC 72 dX3_dense_42 (by decide) (fun h7 => ?_) (fun h7 => ?_)
            ·
              exact NX (fun z => by
                rcases h6 with ⟨y, -⟩ | ⟨-, y⟩
                · rw [y] at h7; exact absurd h7 (by decide)
                · exact y z.1)
            ·
              have hpe : ps e = true := by
                rcases h6 with ⟨-, z⟩ | ⟨z, -⟩
                · exact z
                · exact absurd z h7
              refine gi_aldn hC dX3_dense_45 rfl ?_
              refine gf_P_place hC hk gw_90 dX3_dense_46 ?_
              refine gi_ildn hC dX3_dense_49 rfl ?_
              refine gi_iald hC (gm_iR E hk 1 (by decide) (by decide)) (j := e) (by omega) rfl (by first | decide | omega) dX3_dense_50 ?_
              rw [p1]
              refine gi_const hC (v := -1) dX3_dense_51 (by decide) ?_
              refine gi_icmp_ne hC 72 dX3_dense_52 (by decide) (fun h8 => ?_) (fun h8 => ?_)
              · exact NX (fun z => h8 (by rw [z.2]; rfl))
              ·
                have hq := (oI_m1 (oI_in p2 (by omega))).mp h8
                refine gi_aldn hC dX3_dense_55 rfl ?_
                refine gf_K_graph hC gw_129 dX3_dense_56 ?_
                refine gi_aldn hC dX3_dense_59 rfl ?_
                refine gi_aldn hC dX3_dense_60 rfl ?_
                refine gf_K_graph hC gw_129 dX3_dense_61 ?_
                refine gi_ildn hC dX3_dense_64 rfl ?_
                refine gk_VI (n := 2) hC (fun l => c_X1_reason l E hk σ6 U V k6 q hP.2.2.2.2.1 (fun _ => false) (kfx hP) fol hP.2.1 e (by omega)) (gm_o1 E hk) rfl (gw_V gw_262 gw_263 gw_264 gw_25 gw_265) rfl ⟨rfl, rfl⟩ rfl (by decide +kernel) ⟨by decide, by decide⟩ (Nat.le_of_ble_eq_true rfl) dX3_dense_65 (fun m2 σ7 h9 => ?_)
                obtain ⟨c1, c2, c3⟩ := h9
                have hP4 := kP_sr hk c1 hP c2.2.2.2.2
                have hI4 := kInv_up sr_blk (mv_sr c1) hI2 (kP_kI hP4)
                have hfr4 := kFR_tr hfr (kFR_blk sr_blk (mv_sr c1))
                refine gk_VI (n := 1) hC (fun l => c_X0_verticesOf l E σ7 U V (gL_sr c1 k6) m2 (rsn kk U V q e fol) c3) (gm_o0 E) rfl (gw_V gw_293 gw_294 gw_295 gw_24 gw_296) rfl ⟨rfl, rfl⟩ rfl (by decide +kernel) ⟨by decide, by decide⟩ (Nat.le_of_ble_eq_true rfl) dX3_dense_68 (fun r9 σ9 h9 => ?_)
                obtain ⟨rfl, h9⟩ := h9
                exact hR _ _ _ _ rfl ⟨hfr4, hI4, Or.inr (Or.inr ⟨kk, hkz, a3, q, sz, _, hP.2.2.2.2.2.2, Or.inr ⟨e, fol, by omega, hpe, hq, hd, h9⟩⟩)⟩ dX3_dense_71
      refine gi_astn_2 hC dX3_dense_25 (by decide) ?_
      refine gi_const hC (v := 0) dX3_dense_26 (by decide) ?_
      refine gi_istn_3 hC dX3_dense_27 (by decide) ?_
      exact L 24 0 rfl (fun d hd => absurd hd (Nat.not_lt_zero d))
    ·
      have hz : kz = 0 := (nI_eq (b := 0) (by omega) (by omega)).mp h3
      subst hz
      refine gi_const hC (v := 0) dX3_dense_16 (by decide) ?_
      exact hR _ _ _ _ rfl ⟨a1, hI1, Or.inr (Or.inl ⟨rfl, a3⟩)⟩ dX3_dense_17
  ·
    subst h2
    refine gi_const hC (v := -1) dX3_dense_10 (by decide) ?_
    exact hR _ _ _ _ rfl ⟨a1, hI1, Or.inl ⟨rfl, a3⟩⟩ dX3_dense_11
set_option maxHeartbeats 4000000 in
set_option maxRecDepth 100000 in
theorem c_X3_spanning (l : Launch) (E : gm_E) (σ : gm_S) (n : Nat) (ps : Nat → Bool) (U V : Nat → Nat) (hI : kInv σ n ps U V)  : gm_MI l E yX3_spanning (.code yX3_spanning cX3_spanning 2 (some .int) :: gw_T) { frames := 5, cells := 0, slots := 0, locals := 122 } [.ref (E.2.2 0)] σ (fun r σ2 => kFR σ σ2 ∧ kInv σ2 n ps U V ∧ ((∃ kk, 1 ≤ kk ∧ kk < 7 ∧ r = nI kk ∧ (∃ q sz b, pkd kk U V ps q sz b ∧ nI sz = nI kk * (nI n - 1)) ∧ ∀ k2, kk < k2 → k2 < 7 → ∃ q sz b, pkd k2 U V ps q sz b ∧ nI sz ≠ nI k2 * (nI n - 1)) ∨ (r = 0 ∧ ∀ k2, 1 ≤ k2 → k2 < 7 → ∃ q sz b, pkd k2 U V ps q sz b ∧ nI sz ≠ nI k2 * (nI n - 1)))) := by
  refine gm_enterI RX3 (by decide +kernel) rfl rfl (Nat.le_of_ble_eq_true rfl) (gm_c1_ok rfl) ?_
  intro X hC hR
  show gm_G X E 2 0 [some (.ref (E.2.2 0)), none] [] σ
  have L : ∀ kk (σ3 : gm_S), kk < 7 → kFR σ σ3 → kInv σ3 n ps U V → (∀ k2, kk < k2 → k2 < 7 → ∃ q sz b, pkd k2 U V ps q sz b ∧ nI sz ≠ nI k2 * (nI n - 1)) → gm_G X E 2 3 [some (.ref (E.2.2 0)), some (.int (nI kk))] [] σ3 := by
    intro kk
    induction kk with
    | zero =>
      intro σ3 hv hf3 hI3 hw
      refine gi_ildn hC dX3_spanning_3 rfl ?_
      refine gi_if_le hC 37 dX3_spanning_4 (by decide) (fun h5 => ?_) (fun h5 => ?_)
      ·
        refine gi_const hC (v := 0) dX3_spanning_37 (by decide) ?_
        exact hR _ _ _ _ rfl ⟨hf3, hI3, Or.inr ⟨rfl, fun k2 z1 z2 => hw k2 z1 z2⟩⟩ dX3_spanning_38
      · exact absurd (Int32.le_refl _) h5
    | succ kk ih =>
      intro σ3 hk hf3 hI hw
      obtain ⟨kk2, hkk⟩ : ∃ z, z = kk + 1 := ⟨_, rfl⟩
      refine gi_ildn hC dX3_spanning_3 rfl ?_
      refine gi_if_le hC 37 dX3_spanning_4 (by decide) (fun h5 => ?_) (fun h5 => ?_)
      · exact absurd h5 (nI_nle (n := kk + 1) (by omega) (by omega))
      ·
        refine gi_aldn hC dX3_spanning_7 rfl ?_
        refine gi_ildn hC dX3_spanning_8 rfl ?_
        refine gk_VR (n := 1) hC (fun l => c_X3_packed l E σ3 n ps U V hI (kk + 1) hk) (gm_o3 E) rfl (gw_V gw_186 gw_188 gw_1 gw_23 gw_189) rfl ⟨rfl, rfl⟩ rfl (by decide +kernel) ⟨by decide, by decide⟩ (Nat.le_of_ble_eq_true rfl) dX3_spanning_9 (fun σ2 h9 => ?_)
        obtain ⟨h9f, q, sz, fol, hP⟩ := h9
        have hI2 := kInv_up bl_blk h9f hI (kP_kI hP)
        have hfr := kFR_tr hf3 (kFR_blk bl_blk h9f)
        obtain ⟨k1, k2, k3, k4, k5, k6, k7⟩ := id hI2.1
        refine gf_P_size hC hk gw_92 dX3_spanning_12 ?_
        rw [hP.2.2.2.2.2.1]
        refine gi_ildn hC dX3_spanning_15 rfl ?_
        refine gi_aldn hC dX3_spanning_16 rfl ?_
        refine gf_K_graph hC gw_129 dX3_spanning_17 ?_
        refine gf_G_vertices hC gw_54 dX3_spanning_20 ?_
        rw [k3]
        refine gi_const hC (v := 1) dX3_spanning_23 (by decide) ?_
        refine gi_isub hC dX3_spanning_24 ?_
        refine gi_imul hC dX3_spanning_25 ?_
        refine gi_icmp_ne hC 31 dX3_spanning_26 (by decide) (fun h6 => ?_) (fun h6 => ?_)
        ·
          refine gi_iinc_1 hC dX3_spanning_31 (pk_m1 kk) (by decide) ?_
          refine gi_goto hC 3 dX3_spanning_34 (by decide) ?_
          exact ih σ2 (by omega) hfr hI2 (fun k3 z1 z2 => by
            by_cases e : k3 = kk + 1
            · subst e; exact ⟨q, sz, _, hP.2.2.2.2.2.2, h6⟩
            · exact hw k3 (by omega) z2)
        ·
          refine gi_ildn hC dX3_spanning_29 rfl ?_
          exact hR _ _ _ _ rfl ⟨hfr, hI2, Or.inl ⟨kk + 1, by omega, hk, rfl, ⟨q, sz, _, hP.2.2.2.2.2.2, h6⟩, hw⟩⟩ dX3_spanning_30
  refine gi_bipush hC (v := 6) dX3_spanning_0 (by decide) ?_
  refine gi_istn_1 hC dX3_spanning_2 (by decide) ?_
  exact L 6 σ (by decide) kFR_rf hI (fun k2 z1 z2 => by omega)
set_option maxHeartbeats 4000000 in
set_option maxRecDepth 100000 in
theorem c_X3_told (l : Launch) (E : gm_E) (σ : gm_S) (n : Nat) (ps : Nat → Bool) (U V : Nat → Nat) (hI : kInv σ n ps U V) (a w : Int32) : gm_MI l E yX3_told (.code yX3_told cX3_told 3 (some .int) :: gw_T) { frames := 2, cells := 0, slots := 0, locals := 46 } [.ref (E.2.2 0), .int a, .int w] σ (fun r σ2 => kFR σ σ2 ∧ kInv σ2 n ps U V ∧ ((r = -2 ∧ ¬ ∃ j, j < 5 ∧ w = nI j) ∨ (w = nI 0 ∧ ((r = -1 ∧ ¬ ∃ e, e < 24 ∧ a = nI e ∧ ps e = true) ∨ ∃ e, e < 24 ∧ a = nI e ∧ ps e = true ∧ r = nI (U e))) ∨ (w = nI 1 ∧ ((r = -1 ∧ ¬ ∃ e, e < 24 ∧ a = nI e ∧ ps e = true) ∨ ∃ e, e < 24 ∧ a = nI e ∧ ps e = true ∧ r = nI (V e))) ∨ (w = nI 2 ∧ r = jbc (σ.1 1 2)) ∨ (w = nI 3 ∧ r = nI n) ∨ (w = nI 4 ∧ r = nI (am_lp U V ps (bt a) 24 0 0)))) := by
  refine gm_enterI RX3 (by decide +kernel) rfl rfl (Nat.le_of_ble_eq_true rfl) (gm_c1_ok rfl) ?_
  intro X hC hR
  show gm_G X E 3 0 [some (.ref (E.2.2 0)), some (.int a), some (.int w)] [] σ
  obtain ⟨g1, g2, g3, g4, g5, g6, g7⟩ := id hI.1
  refine gi_ildn hC dX3_told_0 rfl ?_
  by_cases hw : ∃ j, j < 5 ∧ w = nI j
  · obtain ⟨j, hj, rfl⟩ := hw
    rcases (show j = 0 ∨ j = 1 ∨ j = 2 ∨ j = 3 ∨ j = 4 by omega) with rfl | rfl | rfl | rfl | rfl
    ·
      refine gi_tsIn hC 36 dX3_told_1 (by decide) (by decide) rfl (by decide) ?_
      refine gi_aldn hC dX3_told_36 rfl ?_
      refine gf_K_graph hC gw_129 dX3_told_37 ?_
      refine gi_ildn hC dX3_told_40 rfl ?_
      refine gk_VI (n := 1) hC (fun l => c_X0_hasEdge l E σ a) (gm_o0 E) rfl (gw_V gw_178 gw_167 gw_168 gw_24 gw_169) rfl ⟨rfl, rfl⟩ rfl (by decide +kernel) ⟨by decide, by decide⟩ (Nat.le_of_ble_eq_true rfl) dX3_told_41 (fun r3 σ3 h3 => ?_)
      obtain ⟨h3, rfl⟩ := h3
      rw [gE_ex g4] at h3
      refine gi_if_eq hC 59 dX3_told_44 (by decide) (fun h4 => ?_) (fun h4 => ?_)
      ·
        have hna : ¬ ∃ j, j < 24 ∧ a = nI j ∧ ps j = true := by
          rcases h3 with ⟨z, -⟩ | ⟨-, z⟩
          · rw [z] at h4; exact absurd h4 (by decide)
          · exact z
        refine gi_const hC (v := -1) dX3_told_59 (by decide) ?_
        exact hR _ _ _ _ rfl ⟨kFR_rf, hI, Or.inr (Or.inl ⟨rfl, Or.inl ⟨rfl, hna⟩⟩)⟩ dX3_told_60
      ·
        obtain ⟨e, he, rfl, hpe⟩ : ∃ j, j < 24 ∧ a = nI j ∧ ps j = true := by
          rcases h3 with ⟨-, z⟩ | ⟨z, -⟩
          · exact z
          · exact absurd z h4
        obtain ⟨l1, l2, l3, l4⟩ := g6 e he
        refine gi_aldn hC dX3_told_47 rfl ?_
        refine gf_K_graph hC gw_129 dX3_told_48 ?_
        refine gf_G_lesser hC gw_47 dX3_told_51 ?_
        refine gi_ildn hC dX3_told_54 rfl ?_
        refine gi_iald hC (gm_i2 E) he rfl (by first | decide | omega) dX3_told_55 ?_
        rw [l1]
        refine gi_goto hC 60 dX3_told_56 (by decide) ?_
        exact hR _ _ _ _ rfl ⟨kFR_rf, hI, Or.inr (Or.inl ⟨rfl, Or.inr ⟨e, he, rfl, hpe, rfl⟩⟩)⟩ dX3_told_60
    ·
      refine gi_tsIn hC 61 dX3_told_1 (by decide) (by decide) rfl (by decide) ?_
      refine gi_aldn hC dX3_told_61 rfl ?_
      refine gf_K_graph hC gw_129 dX3_told_62 ?_
      refine gi_ildn hC dX3_told_65 rfl ?_
      refine gk_VI (n := 1) hC (fun l => c_X0_hasEdge l E σ a) (gm_o0 E) rfl (gw_V gw_178 gw_167 gw_168 gw_24 gw_169) rfl ⟨rfl, rfl⟩ rfl (by decide +kernel) ⟨by decide, by decide⟩ (Nat.le_of_ble_eq_true rfl) dX3_told_66 (fun r3 σ3 h3 => ?_)
      obtain ⟨h3, rfl⟩ := h3
      rw [gE_ex g4] at h3
      refine gi_if_eq hC 84 dX3_told_69 (by decide) (fun h4 => ?_) (fun h4 => ?_)
      ·
        have hna : ¬ ∃ j, j < 24 ∧ a = nI j ∧ ps j = true := by
          rcases h3 with ⟨z, -⟩ | ⟨-, z⟩
          · rw [z] at h4; exact absurd h4 (by decide)
          · exact z
        refine gi_const hC (v := -1) dX3_told_84 (by decide) ?_
        exact hR _ _ _ _ rfl ⟨kFR_rf, hI, Or.inr (Or.inr (Or.inl ⟨rfl, Or.inl ⟨rfl, hna⟩⟩))⟩ dX3_told_85
      ·
        obtain ⟨e, he, rfl, hpe⟩ : ∃ j, j < 24 ∧ a = nI j ∧ ps j = true := by
          rcases h3 with ⟨-, z⟩ | ⟨z, -⟩
          · exact z
          · exact absurd z h4
        obtain ⟨l1, l2, l3, l4⟩ := g6 e he
        refine gi_aldn hC dX3_told_72 rfl ?_
        refine gf_K_graph hC gw_129 dX3_told_73 ?_
        refine gf_G_greater hC gw_50 dX3_told_76 ?_
        refine gi_ildn hC dX3_told_79 rfl ?_
        refine gi_iald hC (gm_i3 E) he rfl (by first | decide | omega) dX3_told_80 ?_
        rw [l2]
        refine gi_goto hC 85 dX3_told_81 (by decide) ?_
        exact hR _ _ _ _ rfl ⟨kFR_rf, hI, Or.inr (Or.inr (Or.inl ⟨rfl, Or.inr ⟨e, he, rfl, hpe, rfl⟩⟩))⟩ dX3_told_85
    ·
      refine gi_tsIn hC 86 dX3_told_1 (by decide) (by decide) rfl (by decide) ?_
      refine gi_aldn hC dX3_told_86 rfl ?_
      refine gf_K_graph hC gw_129 dX3_told_87 ?_
      refine gk_VI (n := 0) hC (fun l => c_X0_edgeCount l E σ) (gm_o0 E) rfl (gw_V gw_140 gw_141 gw_142 gw_24 gw_143) rfl ⟨rfl, rfl⟩ rfl (by decide +kernel) ⟨by decide, by decide⟩ (Nat.le_of_ble_eq_true rfl) dX3_told_90 (fun r3 σ3 h3 => ?_)
      obtain ⟨rfl, rfl⟩ := h3
      exact hR _ _ _ _ rfl ⟨kFR_rf, hI, Or.inr (Or.inr (Or.inr (Or.inl ⟨rfl, rfl⟩)))⟩ dX3_told_93
    ·
      refine gi_tsIn hC 94 dX3_told_1 (by decide) (by decide) rfl (by decide) ?_
      refine gi_aldn hC dX3_told_94 rfl ?_
      refine gf_K_graph hC gw_129 dX3_told_95 ?_
      refine gf_G_vertices hC gw_54 dX3_told_98 ?_
      exact hR _ _ _ _ rfl ⟨kFR_rf, hI, Or.inr (Or.inr (Or.inr (Or.inr (Or.inl ⟨rfl, g3⟩))))⟩ dX3_told_101
    ·
      refine gi_tsIn hC 102 dX3_told_1 (by decide) (by decide) rfl (by decide) ?_
      refine gi_aldn hC dX3_told_102 rfl ?_
      refine gf_K_graph hC gw_129 dX3_told_103 ?_
      refine gi_ildn hC dX3_told_106 rfl ?_
      refine gk_VI (n := 1) hC (fun l => c_X0_edgesAmong l E σ U V g6 ps g4 a) (gm_o0 E) rfl (gw_V gw_305 gw_306 gw_307 gw_24 gw_308) rfl ⟨rfl, rfl⟩ rfl (by decide +kernel) ⟨by decide, by decide⟩ (Nat.le_of_ble_eq_true rfl) dX3_told_107 (fun r3 σ3 h3 => ?_)
      obtain ⟨rfl, rfl⟩ := h3
      exact hR _ _ _ _ rfl ⟨kFR_rf, hI, Or.inr (Or.inr (Or.inr (Or.inr (Or.inr ⟨rfl, rfl⟩))))⟩ dX3_told_110
  · refine gi_tsOut hC 111 dX3_told_1 ?_ (by decide) ?_
    · rcases (show w.toInt < 0 ∨ 0 ≤ w.toInt by omega) with z | z
      · exact Or.inl z
      · refine Or.inr ?_
        rcases (show 4 < w.toInt ∨ w.toInt ≤ 4 by omega) with y | y
        · exact y
        · exfalso
          have h0 : ¬ w < 0 := fun q => by
            rw [Int32.lt_iff_toInt_lt] at q
            have e0 : (0 : Int32).toInt = 0 := by decide
            omega
          obtain ⟨j, hj, rfl⟩ := nI_of h0
          rw [nI_toInt hj] at y
          exact hw ⟨j, by omega, rfl⟩
    ·
      refine gi_bipush hC (v := -2) dX3_told_111 (by decide) ?_
      exact hR _ _ _ _ rfl ⟨kFR_rf, hI, Or.inl ⟨rfl, hw⟩⟩ dX3_told_113
end
section
/-! THE REFERENCE: words, and its plain methods -/
def cnt_lp (P : Nat → Bool) : Nat → Nat → Nat → Nat
  | 0, _, c => c
  | n + 1, e, c => if P e = true then cnt_lp P n (e + 1) (c + 1) else cnt_lp P n (e + 1) c
theorem cnt_lp_le (P : Nat → Bool) : ∀ n e c, cnt_lp P n e c ≤ c + n
  | 0, _, c => Nat.le_refl c
  | n + 1, e, c => by
    rw [cnt_lp]
    split
    · have := cnt_lp_le P n (e + 1) (c + 1); omega
    · have := cnt_lp_le P n (e + 1) c; omega
theorem cnt_lp_ge (P : Nat → Bool) : ∀ n e c, c ≤ cnt_lp P n e c
  | 0, _, c => Nat.le_refl c
  | n + 1, e, c => by
    rw [cnt_lp]
    split
    · have := cnt_lp_ge P n (e + 1) (c + 1); omega
    · exact cnt_lp_ge P n (e + 1) c
theorem cnt_lp_pos {P : Nat → Bool} {i : Nat} (hi : P i = true) : ∀ n e c, e ≤ i → i < e + n → c + 1 ≤ cnt_lp P n e c
  | 0, e, c, h1, h2 => by omega
  | n + 1, e, c, h1, h2 => by
    rw [cnt_lp]
    by_cases h : e = i
    · subst h; rw [if_pos hi]; exact cnt_lp_ge P n (e + 1) (c + 1)
    · split
      · have := cnt_lp_pos hi n (e + 1) (c + 1) (by omega) (by omega); omega
      · exact cnt_lp_pos hi n (e + 1) c (by omega) (by omega)
def mE (σ : gm_S) (U V : Nat → Nat) : Prop := ∀ e, e < 24 → σ.2 6 (2 * e) = nI (U e) ∧ σ.2 6 (2 * e + 1) = nI (V e) ∧ U e < 10 ∧ V e < 10
def mZ (σ : gm_S) (x : Nat) (S : Nat → Bool) : Prop := ∀ e, e < 24 → σ.2 x e = if S e = true then 1 else 0
def mG (σ : gm_S) (n : Nat) (ps : Nat → Bool) (U V : Nat → Nat) : Prop := 1 ≤ n ∧ n ≤ 10 ∧ σ.1 5 0 = nI n ∧ mZ σ 7 ps ∧ mE σ U V ∧ (∀ e, 24 ≤ e → ps e = false) ∧ ∀ e, ps e = true → U e < V e ∧ V e < n
/-- the reference writes nothing of the class -/
def mFR (σ σ2 : gm_S) : Prop := gm_fr σ σ2 (fun x _ => x = 5) (fun y => 6 ≤ y ∧ y ≤ 14)
theorem mFR_rf {σ : gm_S} : mFR σ σ := gm_fr_rf
theorem mFR_tr {σ σ2 σ3 : gm_S} (h : mFR σ σ2) (g : mFR σ2 σ3) : mFR σ σ3 := gm_fr_tr h g
/-- only the held edges change -/
def hFR (σ σ2 : gm_S) : Prop := gm_fr σ σ2 (fun x j => x = 5 ∧ j = 3) (fun _ => False)
theorem hFR_m {σ σ2 : gm_S} (h : hFR σ σ2) : mFR σ σ2 := gm_fr_mono h (fun _ _ z => z.1) (fun _ z => absurd z id)
theorem mG_h {σ σ2 : gm_S} {n : Nat} {ps : Nat → Bool} {U V : Nat → Nat} (h : hFR σ σ2) (g : mG σ n ps U V) : mG σ2 n ps U V := by
  obtain ⟨g1, g2, g3, g4, g5, g6, g7⟩ := g
  have hr : ∀ y, σ2.2 y = σ.2 y := fun y => h.2 y (fun z => z)
  exact ⟨g1, g2, by rw [h.1 5 0 (fun z => by cases z.2)]; exact g3, fun e he => by rw [hr]; exact g4 e he, fun e he => by rw [hr]; exact g5 e he, g6, g7⟩
/-- two ends of one edge more, or none -/
def abI (ab : Option (Nat × Nat)) : Int32 × Int32 := match ab with
  | none => (-1, -1)
  | some (a, b) => (nI a, nI b)
def ab10 (ab : Option (Nat × Nat)) : Prop := ∀ a b, ab = some (a, b) → a < 10 ∧ b < 10
def m0 (p : Nat) (ab : Option (Nat × Nat)) : Nat := match ab with
  | none => 0
  | some (a, b) => if p.testBit a = true ∧ p.testBit b = true then 1 else 0
def wcn (U V : Nat → Nat) (S : Nat → Bool) (p : Nat) (ab : Option (Nat × Nat)) : Nat := cnt_lp (fun e => S e && p.testBit (U e) && p.testBit (V e)) 24 0 (m0 p ab)
def bcn (p : Nat) : Nat := cnt_lp (fun i => p.testBit i) 10 0 0
def FT (n : Nat) (U V : Nat → Nat) (S : Nat → Bool) (k : Nat) (ab : Option (Nat × Nat)) : Prop := ∀ p, 1 ≤ p → p < 2 ^ n → wcn U V S p ab ≤ k * (bcn p - 1)
def ftb (n : Nat) (U V : Nat → Nat) (S : Nat → Bool) (k : Nat) (ab : Option (Nat × Nat)) : Bool := (List.range (2 ^ n)).all (fun p => decide (p = 0) || decide (wcn U V S p ab ≤ k * (bcn p - 1)))
theorem ftb_iff {n : Nat} {U V : Nat → Nat} {S : Nat → Bool} {k : Nat} {ab : Option (Nat × Nat)} : ftb n U V S k ab = true ↔ FT n U V S k ab := by
  simp only [ftb, List.all_eq_true, List.mem_range, Bool.or_eq_true, decide_eq_true_eq]
  constructor
  · intro h p h1 h2
    rcases h p h2 with z | z
    · omega
    · exact z
  · intro h p hp
    rcases Nat.eq_zero_or_pos p with z | z
    · exact Or.inl z
    · exact Or.inr (h p z hp)
def hd_lp (n : Nat) (U V : Nat → Nat) (ps : Nat → Bool) (k : Nat) : Nat → Nat → (Nat → Bool) → (Nat → Bool)
  | 0, _, S => S
  | m + 1, e, S => if ps e = true ∧ ftb n U V (fun i => S i || decide (i = e)) k none = true then hd_lp n U V ps k m (e + 1) (fun i => S i || decide (i = e)) else hd_lp n U V ps k m (e + 1) S
def hdd (n : Nat) (U V : Nat → Nat) (ps : Nat → Bool) (k : Nat) : Nat → Bool := hd_lp n U V ps k 24 0 (fun _ => false)
theorem bm_nI {p : Nat} (hp : p < 2 ^ 31) : bm (nI p) (fun i => p.testBit i) := by
  intro i hi
  show (BitVec.ofNat 32 p).getLsbD i = p.testBit i
  rw [BitVec.getLsbD_ofNat]
  simp [hi]
theorem bcn_pos {p : Nat} (h1 : 1 ≤ p) (h2 : p < 1024) : 1 ≤ bcn p := by
  obtain ⟨i, hi⟩ := Nat.exists_testBit_of_ne_zero (show p ≠ 0 by omega)
  have hi10 : i < 10 := by
    rcases Nat.lt_or_ge i 10 with z | z
    · exact z
    · have h3 : p < 2 ^ i := Nat.lt_of_lt_of_le h2 (Nat.pow_le_pow_right (n := 2) (i := 10) (by omega) z)
      rw [Nat.testBit_lt_two_pow h3] at hi
      cases hi
  have := cnt_lp_pos (P := fun i => p.testBit i) hi 10 0 0 (Nat.zero_le _) (by omega)
  unfold bcn
  omega
theorem nI_inn {v : Int32} {lo hi : Nat} (hh : hi < 2 ^ 31) (hl : lo < 2 ^ 31) : (¬ v < nI lo ∧ ¬ nI hi < v) ↔ ∃ j, lo ≤ j ∧ j ≤ hi ∧ v = nI j := by
  constructor
  · rintro ⟨h1, h2⟩
    have h0 : ¬ v < 0 := fun h => h1 (by
      rw [Int32.lt_iff_toInt_lt] at h ⊢
      have e0 : (0 : Int32).toInt = 0 := by decide
      rw [nI_toInt hl]
      omega)
    obtain ⟨j, hj, rfl⟩ := nI_of h0
    rw [nI_ltI hj hl] at h1
    rw [nI_ltI hh hj] at h2
    exact ⟨j, by omega, by omega, rfl⟩
  · rintro ⟨j, h1, h2, rfl⟩
    rw [nI_ltI (by omega) hl, nI_ltI hh (by omega)]
    omega
set_option maxHeartbeats 4000000 in
set_option maxRecDepth 100000 in
theorem c_X4_in (l : Launch) (E : gm_E) (σ : gm_S) (v a b : Int32) : gm_MI l E yX4_in (.code yX4_in cX4_in 3 (some .boolean) :: gw_T) { frames := 0, cells := 0, slots := 0, locals := 0 } [.int v, .int a, .int b] σ (fun r σ2 => (r = 1 ∧ (¬ v < a ∧ ¬ b < v) ∨ r = 0 ∧ ¬ (¬ v < a ∧ ¬ b < v)) ∧ σ2 = σ) := by
  refine gm_enterI RX4 (by decide +kernel) rfl rfl (Nat.le_of_ble_eq_true rfl) (gm_c1_ok rfl) ?_
  intro X hC hR
  show gm_G X E 3 0 [some (.int v), some (.int a), some (.int b)] [] σ
  refine gi_ildn hC dX4_in_0 rfl ?_
  refine gi_ildn hC dX4_in_1 rfl ?_
  refine gi_icmp_lt hC 14 dX4_in_2 (by decide) (fun h1 => ?_) (fun h1 => ?_)
  ·
    refine gi_const hC (v := 0) dX4_in_14 (by decide) ?_
    exact hR _ _ _ _ (by decide +kernel) ⟨Or.inr ⟨rfl, fun z => z.1 h1⟩, rfl⟩ dX4_in_15
  ·
    refine gi_ildn hC dX4_in_5 rfl ?_
    refine gi_ildn hC dX4_in_6 rfl ?_
    refine gi_icmp_gt hC 14 dX4_in_7 (by decide) (fun h2 => ?_) (fun h2 => ?_)
    ·
      refine gi_const hC (v := 0) dX4_in_14 (by decide) ?_
      exact hR _ _ _ _ (by decide +kernel) ⟨Or.inr ⟨rfl, fun z => z.2 h2⟩, rfl⟩ dX4_in_15
    ·
      refine gi_const hC (v := 1) dX4_in_10 (by decide) ?_
      refine gi_goto hC 15 dX4_in_11 (by decide) ?_
      exact hR _ _ _ _ (by decide +kernel) ⟨Or.inl ⟨rfl, h1, h2⟩, rfl⟩ dX4_in_15
set_option maxHeartbeats 4000000 in
set_option maxRecDepth 100000 in
theorem c_X4_has (l : Launch) (E : gm_E) (σ : gm_S) (ps : Nat → Bool) (hz : mZ σ 7 ps) (a : Int32) : gm_MI l E yX4_has (.code yX4_has cX4_has 2 (some .boolean) :: gw_T) { frames := 1, cells := 0, slots := 0, locals := 22 } [.ref (E.2.2 5), .int a] σ (fun r σ2 => (r = 1 ∧ (∃ j, j < 24 ∧ a = nI j ∧ ps j = true) ∨ r = 0 ∧ ¬ ∃ j, j < 24 ∧ a = nI j ∧ ps j = true) ∧ σ2 = σ) := by
  refine gm_enterI RX4 (by decide +kernel) rfl rfl (Nat.le_of_ble_eq_true rfl) (gm_c1_ok rfl) ?_
  intro X hC hR
  show gm_G X E 2 0 [some (.ref (E.2.2 5)), some (.int a)] [] σ
  refine gi_ildn hC dX4_has_0 rfl ?_
  refine gi_const hC (v := 0) dX4_has_1 (by decide) ?_
  refine gi_bipush hC (v := 23) dX4_has_2 (by decide) ?_
  refine gk_SI (n := 3) hC (fun l => c_X4_in l E σ a 0 23) (gw_S gw_355 gw_356 gw_28 gw_357) rfl ⟨rfl, rfl⟩ rfl (by decide +kernel) ⟨by decide, by decide⟩ (Nat.le_of_ble_eq_true rfl) dX4_has_4 (fun r σ1 h1 => ?_)
  obtain ⟨h1, rfl⟩ := h1
  rw [show (0 : Int32) = nI 0 from rfl, show (23 : Int32) = nI 23 from rfl, nI_inn (by omega) (by omega)] at h1
  refine gi_if_eq hC 23 dX4_has_7 (by decide) (fun h2 => ?_) (fun h2 => ?_)
  ·
    have hn : ¬ ∃ j, 0 ≤ j ∧ j ≤ 23 ∧ a = nI j := by
      rcases h1 with ⟨z, -⟩ | ⟨-, z⟩
      · rw [z] at h2; exact absurd h2 (by decide)
      · exact z
    refine gi_const hC (v := 0) dX4_has_23 (by decide) ?_
    exact hR _ _ _ _ (by decide +kernel) ⟨Or.inr ⟨rfl, fun ⟨j, z1, z2, _⟩ => hn ⟨j, by omega, by omega, z2⟩⟩, rfl⟩ dX4_has_24
  ·
    obtain ⟨j, -, hj, rfl⟩ : ∃ j, 0 ≤ j ∧ j ≤ 23 ∧ a = nI j := by
      rcases h1 with ⟨-, z⟩ | ⟨z, -⟩
      · exact z
      · exact absurd z h2
    have hzj := hz j (by omega)
    refine gi_aldn hC dX4_has_10 rfl ?_
    refine gf_M_isEdge hC gw_318 dX4_has_11 ?_
    refine gi_ildn hC dX4_has_14 rfl ?_
    refine gi_zald hC (gm_i7 E) (j := j) (by omega) rfl (by first | decide | omega) dX4_has_15 ?_
    rw [hzj]
    refine gi_if_eq hC 23 dX4_has_16 (by decide) (fun h3 => ?_) (fun h3 => ?_)
    ·
      have hpj : ¬ ps j = true := fun z => by rw [if_pos z] at h3; exact absurd h3 (by decide)
      refine gi_const hC (v := 0) dX4_has_23 (by decide) ?_
      exact hR _ _ _ _ (by decide +kernel) ⟨Or.inr ⟨rfl, fun ⟨i, z1, z2, z3⟩ => hpj ((nI_eq (by omega) (by omega)).mp z2 ▸ z3)⟩, rfl⟩ dX4_has_24
    ·
      have hpj : ps j = true := by
        cases hb : ps j
        · rw [hb] at h3; exact absurd rfl h3
        · rfl
      refine gi_const hC (v := 1) dX4_has_19 (by decide) ?_
      refine gi_goto hC 24 dX4_has_20 (by decide) ?_
      exact hR _ _ _ _ (by decide +kernel) ⟨Or.inl ⟨rfl, j, by omega, rfl, hpj⟩, rfl⟩ dX4_has_24
set_option maxHeartbeats 4000000 in
set_option maxRecDepth 100000 in
theorem c_X4_isK (l : Launch) (E : gm_E) (σ : gm_S) (k : Int32) : gm_MI l E yX4_isK (.code yX4_isK cX4_isK 1 (some .boolean) :: gw_T) { frames := 1, cells := 0, slots := 0, locals := 22 } [.int k] σ (fun r σ2 => (r = 1 ∧ (∃ j, j < 7 ∧ k = nI j) ∨ r = 0 ∧ ¬ ∃ j, j < 7 ∧ k = nI j) ∧ σ2 = σ) := by
  refine gm_enterI RX4 (by decide +kernel) rfl rfl (Nat.le_of_ble_eq_true rfl) (gm_c1_ok rfl) ?_
  intro X hC hR
  show gm_G X E 1 0 [some (.int k)] [] σ
  refine gi_ildn hC dX4_isK_0 rfl ?_
  refine gi_const hC (v := 0) dX4_isK_1 (by decide) ?_
  refine gi_bipush hC (v := 6) dX4_isK_2 (by decide) ?_
  refine gk_SI (n := 3) hC (fun l => c_X4_in l E σ k 0 6) (gw_S gw_355 gw_356 gw_28 gw_357) rfl ⟨rfl, rfl⟩ rfl (by decide +kernel) ⟨by decide, by decide⟩ (Nat.le_of_ble_eq_true rfl) dX4_isK_4 (fun r σ1 h1 => ?_)
  obtain ⟨h1, rfl⟩ := h1
  rw [show (¬ k < 0 ∧ ¬ (6 : Int32) < k) = ∃ j, j < 7 ∧ k = nI j from propext nI_k6] at h1
  refine hR _ _ _ _ ?_ ⟨h1, rfl⟩ dX4_isK_7
  rcases h1 with ⟨rfl, -⟩ | ⟨rfl, -⟩ <;> decide +kernel
set_option maxHeartbeats 4000000 in
set_option maxRecDepth 100000 in
theorem c_X4_isVertex (l : Launch) (E : gm_E) (σ : gm_S) (n : Nat) (h1n : 1 ≤ n) (hn : n ≤ 10) (h3 : σ.1 5 0 = nI n) (v : Int32) : gm_MI l E yX4_isVertex (.code yX4_isVertex cX4_isVertex 2 (some .boolean) :: gw_T) { frames := 1, cells := 0, slots := 0, locals := 22 } [.ref (E.2.2 5), .int v] σ (fun r σ2 => (r = 1 ∧ (∃ j, j < n ∧ v = nI j) ∨ r = 0 ∧ ¬ ∃ j, j < n ∧ v = nI j) ∧ σ2 = σ) := by
  refine gm_enterI RX4 (by decide +kernel) rfl rfl (Nat.le_of_ble_eq_true rfl) (gm_c1_ok rfl) ?_
  intro X hC hR
  show gm_G X E 2 0 [some (.ref (E.2.2 5)), some (.int v)] [] σ
  obtain ⟨n, rfl⟩ : ∃ m, n = m + 1 := ⟨n - 1, by omega⟩
  refine gi_ildn hC dX4_isVertex_0 rfl ?_
  refine gi_const hC (v := 0) dX4_isVertex_1 (by decide) ?_
  refine gi_aldn hC dX4_isVertex_2 rfl ?_
  refine gf_M_n hC gw_316 dX4_isVertex_3 ?_
  rw [h3]
  refine gi_const hC (v := 1) dX4_isVertex_6 (by decide) ?_
  refine gi_isub hC dX4_isVertex_7 ?_
  rw [nI_pred]
  refine gk_SI (n := 3) hC (fun l => c_X4_in l E σ v 0 (nI n)) (gw_S gw_355 gw_356 gw_28 gw_357) rfl ⟨rfl, rfl⟩ rfl (by decide +kernel) ⟨by decide, by decide⟩ (Nat.le_of_ble_eq_true rfl) dX4_isVertex_8 (fun r σ1 h1 => ?_)
  obtain ⟨h1, rfl⟩ := h1
  rw [show (0 : Int32) = nI 0 from rfl, nI_inn (by omega) (by omega)] at h1
  have he : (∃ j, 0 ≤ j ∧ j ≤ n ∧ v = nI j) ↔ ∃ j, j < n + 1 ∧ v = nI j := ⟨fun ⟨j, _, a, b⟩ => ⟨j, by omega, b⟩, fun ⟨j, a, b⟩ => ⟨j, by omega, by omega, b⟩⟩
  rw [he] at h1
  refine hR _ _ _ _ ?_ ⟨h1, rfl⟩ dX4_isVertex_11
  rcases h1 with ⟨rfl, -⟩ | ⟨rfl, -⟩ <;> decide +kernel
set_option maxHeartbeats 4000000 in
set_option maxRecDepth 100000 in
theorem c_X4_many (l : Launch) (E : gm_E) (σ : gm_S) (ps : Nat → Bool) (hz : mZ σ 7 ps) : gm_MI l E yX4_many (.code yX4_many cX4_many 3 (some .int) :: gw_T) { frames := 0, cells := 0, slots := 0, locals := 0 } [.ref (E.2.2 5)] σ (fun r σ2 => r = nI (cnt_lp ps 24 0 0) ∧ σ2 = σ) := by
  refine gm_enterI RX4 (by decide +kernel) rfl rfl (Nat.le_of_ble_eq_true rfl) (gm_c1_ok rfl) ?_
  intro X hC hR
  show gm_G X E 3 0 [some (.ref (E.2.2 5)), none, none] [] σ
  obtain ⟨Z, hZ⟩ : ∃ Z, Z = cnt_lp ps 24 0 0 := ⟨_, rfl⟩
  rw [← hZ] at hR
  have L : ∀ n i c, i + n = 24 → Z = cnt_lp ps n i c → gm_G X E 3 4 [some (.ref (E.2.2 5)), some (.int (nI c)), some (.int (nI i))] [] σ := by
    intro n
    induction n with
    | zero =>
      intro i c hi0 hw
      have hi0 : i = 24 := by omega
      subst hi0
      rw [cnt_lp] at hw
      subst hw
      refine gi_ildn hC dX4_many_4 rfl ?_
      refine gi_bipush hC (v := 24) dX4_many_5 (by decide) ?_
      refine gi_icmp_ge hC 33 dX4_many_7 (by decide) (fun h1 => ?_) (fun h1 => ?_)
      ·
        refine gi_ildn hC dX4_many_33 rfl ?_
        exact hR _ _ _ _ rfl ⟨rfl, rfl⟩ dX4_many_34
      · exact absurd (Int32.le_refl _) h1
    | succ n ih =>
      intro i c hi0 hw
      rw [cnt_lp] at hw
      have hzi := hz i (by omega)
      refine gi_ildn hC dX4_many_4 rfl ?_
      refine gi_bipush hC (v := 24) dX4_many_5 (by decide) ?_
      refine gi_icmp_ge hC 33 dX4_many_7 (by decide) (fun h1 => ?_) (fun h1 => ?_)
      · exact absurd h1 (nI_ge (a := i) (b := 24) (by omega) (by omega))
      ·
        refine gi_aldn hC dX4_many_10 rfl ?_
        refine gf_M_isEdge hC gw_318 dX4_many_11 ?_
        refine gi_ildn hC dX4_many_14 rfl ?_
        refine gi_zald hC (gm_i7 E) (j := i) (by omega) rfl (by first | decide | omega) dX4_many_15 ?_
        rw [hzi]
        refine gi_if_eq hC 25 dX4_many_16 (by decide) (fun h2 => ?_) (fun h2 => ?_)
        ·
          rw [if_neg (fun z => by rw [if_pos z] at h2; exact absurd h2 (by decide))] at hw
          refine gi_ildn hC dX4_many_25 rfl ?_
          refine gi_istn_1 hC dX4_many_26 (by decide) ?_
          refine gi_iinc_2 hC dX4_many_27 (nI_1 i) (by decide) ?_
          refine gi_goto hC 4 dX4_many_30 (by decide) ?_
          exact ih (i + 1) c (by omega) hw
        ·
          rw [if_pos (by
            cases hb : ps i
            · rw [hb] at h2; exact absurd rfl h2
            · rfl)] at hw
          refine gi_ildn hC dX4_many_19 rfl ?_
          refine gi_const hC (v := 1) dX4_many_20 (by decide) ?_
          refine gi_iadd hC dX4_many_21 ?_
          rw [nI_1]
          refine gi_goto hC 26 dX4_many_22 (by decide) ?_
          refine gi_istn_1 hC dX4_many_26 (by decide) ?_
          refine gi_iinc_2 hC dX4_many_27 (nI_1 i) (by decide) ?_
          refine gi_goto hC 4 dX4_many_30 (by decide) ?_
          exact ih (i + 1) (c + 1) (by omega) hw
  refine gi_const hC (v := 0) dX4_many_0 (by decide) ?_
  refine gi_istn_1 hC dX4_many_1 (by decide) ?_
  refine gi_const hC (v := 0) dX4_many_2 (by decide) ?_
  refine gi_istn_2 hC dX4_many_3 (by decide) ?_
  exact L 24 0 0 rfl hZ
set_option maxHeartbeats 4000000 in
set_option maxRecDepth 100000 in
theorem c_X4_bitsOf (l : Launch) (E : gm_E) (σ : gm_S) (p : Nat) (hp : p < 2 ^ 31) : gm_MI l E yX4_bitsOf (.code yX4_bitsOf cX4_bitsOf 3 (some .int) :: gw_T) { frames := 0, cells := 0, slots := 0, locals := 0 } [.int (nI p)] σ (fun r σ2 => r = nI (bcn p) ∧ σ2 = σ) := by
  refine gm_enterI RX4 (by decide +kernel) rfl rfl (Nat.le_of_ble_eq_true rfl) (gm_c1_ok rfl) ?_
  intro X hC hR
  show gm_G X E 3 0 [some (.int (nI p)), none, none] [] σ
  obtain ⟨Z, hZ⟩ : ∃ Z, Z = cnt_lp (fun i => p.testBit i) 10 0 0 := ⟨_, rfl⟩
  rw [bcn, ← hZ] at hR
  have L : ∀ n i c, i + n = 10 → Z = cnt_lp (fun i => p.testBit i) n i c → gm_G X E 3 4 [some (.int (nI p)), some (.int (nI c)), some (.int (nI i))] [] σ := by
    intro n
    induction n with
    | zero =>
      intro i c hi0 hw
      have hi0 : i = 10 := by omega
      subst hi0
      rw [cnt_lp] at hw
      subst hw
      refine gi_ildn hC dX4_bitsOf_4 rfl ?_
      refine gi_bipush hC (v := 10) dX4_bitsOf_5 (by decide) ?_
      refine gi_icmp_ge hC 24 dX4_bitsOf_7 (by decide) (fun h1 => ?_) (fun h1 => ?_)
      ·
        refine gi_ildn hC dX4_bitsOf_24 rfl ?_
        exact hR _ _ _ _ rfl ⟨rfl, rfl⟩ dX4_bitsOf_25
      · exact absurd (Int32.le_refl _) h1
    | succ n ih =>
      intro i c hi0 hw
      rw [cnt_lp] at hw
      refine gi_ildn hC dX4_bitsOf_4 rfl ?_
      refine gi_bipush hC (v := 10) dX4_bitsOf_5 (by decide) ?_
      refine gi_icmp_ge hC 24 dX4_bitsOf_7 (by decide) (fun h1 => ?_) (fun h1 => ?_)
      · exact absurd h1 (nI_ge (a := i) (b := 10) (by omega) (by omega))
      ·
        refine gi_ildn hC dX4_bitsOf_10 rfl ?_
        refine gi_ildn hC dX4_bitsOf_11 rfl ?_
        refine gi_ildn hC dX4_bitsOf_12 rfl ?_
        refine gi_ishr hC dX4_bitsOf_13 ?_
        refine gi_const hC (v := 1) dX4_bitsOf_14 (by decide) ?_
        refine gi_iand hC dX4_bitsOf_15 ?_
        rw [bm_tst (bm_nI hp) (by omega)]
        by_cases hb : p.testBit i = true
        ·
          rw [if_pos hb] at hw ⊢
          refine gi_iadd hC dX4_bitsOf_16 ?_
          rw [nI_1]
          refine gi_istn_1 hC dX4_bitsOf_17 (by decide) ?_
          refine gi_iinc_2 hC dX4_bitsOf_18 (nI_1 i) (by decide) ?_
          refine gi_goto hC 4 dX4_bitsOf_21 (by decide) ?_
          exact ih (i + 1) (c + 1) (by omega) hw
        ·
          rw [if_neg hb] at hw ⊢
          refine gi_iadd hC dX4_bitsOf_16 ?_
          rw [Int32.add_zero]
          refine gi_istn_1 hC dX4_bitsOf_17 (by decide) ?_
          refine gi_iinc_2 hC dX4_bitsOf_18 (nI_1 i) (by decide) ?_
          refine gi_goto hC 4 dX4_bitsOf_21 (by decide) ?_
          exact ih (i + 1) c (by omega) hw
  refine gi_const hC (v := 0) dX4_bitsOf_0 (by decide) ?_
  refine gi_istn_1 hC dX4_bitsOf_1 (by decide) ?_
  refine gi_const hC (v := 0) dX4_bitsOf_2 (by decide) ?_
  refine gi_istn_2 hC dX4_bitsOf_3 (by decide) ?_
  exact L 10 0 0 rfl hZ
set_option maxHeartbeats 4000000 in
set_option maxRecDepth 100000 in
theorem c_X4_within (l : Launch) (E : gm_E) (σ : gm_S) (U V : Nat → Nat) (hE : mE σ U V) (x : Int32) (S : Nat → Bool) (hx : bm x S) (p : Nat) (hp : p < 2 ^ 31) (ab : Option (Nat × Nat)) (hab : ab10 ab) : gm_MI l E yX4_within (.code yX4_within cX4_within 8 (some .int) :: gw_T) { frames := 0, cells := 0, slots := 0, locals := 0 } [.ref (E.2.2 5), .int x, .int (nI p), .int (abI ab).1, .int (abI ab).2] σ (fun r σ2 => r = nI (wcn U V S p ab) ∧ σ2 = σ) := by
  refine gm_enterI RX4 (by decide +kernel) rfl rfl (Nat.le_of_ble_eq_true rfl) (gm_c1_ok rfl) ?_
  intro X hC hR
  show gm_G X E 8 0 [some (.ref (E.2.2 5)), some (.int x), some (.int (nI p)), some (.int (abI ab).1), some (.int (abI ab).2), none, none, none] [] σ
  have hbp := bm_nI hp
  obtain ⟨Z, hZ⟩ : ∃ Z, Z = wcn U V S p ab := ⟨_, rfl⟩
  rw [← hZ] at hR
  have L : ∀ n i c (w7 : Option Value), i + n = 24 → Z = cnt_lp (fun e => S e && p.testBit (U e) && p.testBit (V e)) n i c → gm_G X E 8 33 [some (.ref (E.2.2 5)), some (.int x), some (.int (nI p)), some (.int (abI ab).1), some (.int (abI ab).2), some (.int (nI c)), some (.int (nI i)), w7] [] σ := by
    intro n
    induction n with
    | zero =>
      intro i c w7 hi0 hw
      have hi0 : i = 24 := by omega
      subst hi0
      rw [cnt_lp] at hw
      subst hw
      refine gi_ild hC dX4_within_33 rfl ?_
      refine gi_bipush hC (v := 24) dX4_within_35 (by decide) ?_
      refine gi_icmp_ge hC 115 dX4_within_37 (by decide) (fun h1 => ?_) (fun h1 => ?_)
      ·
        refine gi_ild hC dX4_within_115 rfl ?_
        exact hR _ _ _ _ rfl ⟨rfl, rfl⟩ dX4_within_117
      · exact absurd (Int32.le_refl _) h1
    | succ n ih =>
      intro i c w7 hi0 hw
      rw [cnt_lp] at hw
      obtain ⟨e1, e2, e3, e4⟩ := hE i (by omega)
      have Y : ∀ w7 : Option Value, (S i && p.testBit (U i) && p.testBit (V i)) = true → gm_G X E 8 91 [some (.ref (E.2.2 5)), some (.int x), some (.int (nI p)), some (.int (abI ab).1), some (.int (abI ab).2), some (.int (nI c)), some (.int (nI i)), w7] [.int 1] σ := by
        intro w7 hy
        rw [if_pos hy] at hw
        refine gi_ist_7 hC dX4_within_91 (by decide) ?_
        refine gi_ild hC dX4_within_93 rfl ?_
        refine gi_if_eq hC 105 dX4_within_95 (by decide) (fun h9 => ?_) (fun h9 => ?_)
        · exact absurd h9 (by decide)
        ·
          refine gi_ild hC dX4_within_98 rfl ?_
          refine gi_const hC (v := 1) dX4_within_100 (by decide) ?_
          refine gi_iadd hC dX4_within_101 ?_
          rw [nI_1]
          refine gi_goto hC 107 dX4_within_102 (by decide) ?_
          refine gi_ist_5 hC dX4_within_107 (by decide) ?_
          refine gi_iinc_6 hC dX4_within_109 (nI_1 i) (by decide) ?_
          refine gi_goto hC 33 dX4_within_112 (by decide) ?_
          exact ih (i + 1) (c + 1) _ (by omega) hw
      have N : ∀ w7 : Option Value, ¬ (S i && p.testBit (U i) && p.testBit (V i)) = true → gm_G X E 8 90 [some (.ref (E.2.2 5)), some (.int x), some (.int (nI p)), some (.int (abI ab).1), some (.int (abI ab).2), some (.int (nI c)), some (.int (nI i)), w7] [] σ := by
        intro w7 hy
        rw [if_neg hy] at hw
        refine gi_const hC (v := 0) dX4_within_90 (by decide) ?_
        refine gi_ist_7 hC dX4_within_91 (by decide) ?_
        refine gi_ild hC dX4_within_93 rfl ?_
        refine gi_if_eq hC 105 dX4_within_95 (by decide) (fun h9 => ?_) (fun h9 => ?_)
        ·
          refine gi_ild hC dX4_within_105 rfl ?_
          refine gi_ist_5 hC dX4_within_107 (by decide) ?_
          refine gi_iinc_6 hC dX4_within_109 (nI_1 i) (by decide) ?_
          refine gi_goto hC 33 dX4_within_112 (by decide) ?_
          exact ih (i + 1) c _ (by omega) hw
        · exact absurd rfl h9
      refine gi_ild hC dX4_within_33 rfl ?_
      refine gi_bipush hC (v := 24) dX4_within_35 (by decide) ?_
      refine gi_icmp_ge hC 115 dX4_within_37 (by decide) (fun h1 => ?_) (fun h1 => ?_)
      · exact absurd h1 (nI_ge (a := i) (b := 24) (by omega) (by omega))
      ·
        refine gi_ildn hC dX4_within_40 rfl ?_
        refine gi_ild hC dX4_within_41 rfl ?_
        refine gi_ishr hC dX4_within_43 ?_
        refine gi_const hC (v := 1) dX4_within_44 (by decide) ?_
        refine gi_iand hC dX4_within_45 ?_
        refine gi_const hC (v := 1) dX4_within_46 (by decide) ?_
        rw [bm_tst hx (by omega)]
        refine gi_icmp_ne hC 90 dX4_within_47 (by decide) (fun h2 => ?_) (fun h2 => ?_)
        · exact N _ (fun z => h2 (by simp at z; rw [if_pos z.1.1]))
        ·
          have s1 : S i = true := by
            cases hb : S i
            · rw [hb] at h2; exact absurd h2 (by decide)
            · rfl
          refine gi_ildn hC dX4_within_50 rfl ?_
          refine gi_aldn hC dX4_within_51 rfl ?_
          refine gf_M_ends hC gw_317 dX4_within_52 ?_
          refine gi_const hC (v := 2) dX4_within_55 (by decide) ?_
          refine gi_ild hC dX4_within_56 rfl ?_
          refine gi_imul hC dX4_within_58 ?_
          refine gi_iald hC (gm_i6 E) (j := 2 * i) (by omega) (by rw [show (2 : Int32) = nI 2 from rfl, pk_mul]) (by first | decide | omega) dX4_within_59 ?_
          rw [e1]
          refine gi_ishr hC dX4_within_60 ?_
          refine gi_const hC (v := 1) dX4_within_61 (by decide) ?_
          refine gi_iand hC dX4_within_62 ?_
          refine gi_const hC (v := 1) dX4_within_63 (by decide) ?_
          rw [bm_tst hbp (by omega)]
          refine gi_icmp_ne hC 90 dX4_within_64 (by decide) (fun h3 => ?_) (fun h3 => ?_)
          · exact N _ (fun z => h3 (by simp at z; rw [if_pos z.1.2]))
          ·
            have s2 : p.testBit (U i) = true := by
              cases hb : p.testBit (U i)
              · rw [hb] at h3; exact absurd h3 (by decide)
              · rfl
            refine gi_ildn hC dX4_within_67 rfl ?_
            refine gi_aldn hC dX4_within_68 rfl ?_
            refine gf_M_ends hC gw_317 dX4_within_69 ?_
            refine gi_const hC (v := 2) dX4_within_72 (by decide) ?_
            refine gi_ild hC dX4_within_73 rfl ?_
            refine gi_imul hC dX4_within_75 ?_
            refine gi_const hC (v := 1) dX4_within_76 (by decide) ?_
            refine gi_iadd hC dX4_within_77 ?_
            refine gi_iald hC (gm_i6 E) (j := 2 * i + 1) (by omega) (by rw [show (2 : Int32) = nI 2 from rfl, pk_mul, nI_1]) (by first | decide | omega) dX4_within_78 ?_
            rw [e2]
            refine gi_ishr hC dX4_within_79 ?_
            refine gi_const hC (v := 1) dX4_within_80 (by decide) ?_
            refine gi_iand hC dX4_within_81 ?_
            refine gi_const hC (v := 1) dX4_within_82 (by decide) ?_
            rw [bm_tst hbp (by omega)]
            refine gi_icmp_ne hC 90 dX4_within_83 (by decide) (fun h4 => ?_) (fun h4 => ?_)
            · exact N _ (fun z => h4 (by simp at z; rw [if_pos z.2]))
            ·
              have s3 : p.testBit (V i) = true := by
                cases hb : p.testBit (V i)
                · rw [hb] at h4; exact absurd h4 (by decide)
                · rfl
              refine gi_const hC (v := 1) dX4_within_86 (by decide) ?_
              refine gi_goto hC 91 dX4_within_87 (by decide) ?_
              exact Y _ (by rw [s1, s2, s3]; rfl)
  have ST : ∀ c (w5 w6 w7 : Option Value), c = m0 p ab → gm_G X E 8 28 [some (.ref (E.2.2 5)), some (.int x), some (.int (nI p)), some (.int (abI ab).1), some (.int (abI ab).2), w5, w6, w7] [.int (nI c)] σ := by
    intro c w5 w6 w7 hc
    refine gi_ist_5 hC dX4_within_28 (by decide) ?_
    refine gi_const hC (v := 0) dX4_within_30 (by decide) ?_
    refine gi_ist_6 hC dX4_within_31 (by decide) ?_
    exact L 24 0 c _ rfl (by rw [hZ, wcn, hc])
  cases ab with
  | none =>
    refine gi_ildn hC dX4_within_0 rfl ?_
    refine gi_if_lt hC 27 dX4_within_1 (by decide) (fun h1 => ?_) (fun h1 => ?_)
    ·
      refine gi_const hC (v := 0) dX4_within_27 (by decide) ?_
      exact ST 0 _ _ _ rfl
    · exact absurd (by show (-1 : Int32) < 0; decide) h1
  | some w =>
    obtain ⟨a, b⟩ := w
    obtain ⟨ha, hb⟩ := hab a b rfl
    refine gi_ildn hC dX4_within_0 rfl ?_
    refine gi_if_lt hC 27 dX4_within_1 (by decide) (fun h1 => ?_) (fun h1 => ?_)
    · exact absurd h1 (nI_pos (n := a) (by omega))
    ·
      refine gi_ildn hC dX4_within_4 rfl ?_
      refine gi_ildn hC dX4_within_5 rfl ?_
      refine gi_ishr hC dX4_within_6 ?_
      refine gi_const hC (v := 1) dX4_within_7 (by decide) ?_
      refine gi_iand hC dX4_within_8 ?_
      refine gi_const hC (v := 1) dX4_within_9 (by decide) ?_
      rw [show ((nI p >>> ((abI (some (a, b))).1 &&& 31)) &&& 1) = if p.testBit a then 1 else 0 from bm_tst hbp (by omega)]
      refine gi_icmp_ne hC 27 dX4_within_10 (by decide) (fun h2 => ?_) (fun h2 => ?_)
      ·
        refine gi_const hC (v := 0) dX4_within_27 (by decide) ?_
        exact ST 0 _ _ _ (by rw [m0, if_neg]; exact fun z => h2 (by rw [if_pos z.1]))
      ·
        have s2 : p.testBit a = true := by
          cases hq : p.testBit a
          · rw [hq] at h2; exact absurd h2 (by decide)
          · rfl
        refine gi_ildn hC dX4_within_13 rfl ?_
        refine gi_ild hC dX4_within_14 rfl ?_
        refine gi_ishr hC dX4_within_16 ?_
        refine gi_const hC (v := 1) dX4_within_17 (by decide) ?_
        refine gi_iand hC dX4_within_18 ?_
        refine gi_const hC (v := 1) dX4_within_19 (by decide) ?_
        rw [show ((nI p >>> ((abI (some (a, b))).2 &&& 31)) &&& 1) = if p.testBit b then 1 else 0 from bm_tst hbp (by omega)]
        refine gi_icmp_ne hC 27 dX4_within_20 (by decide) (fun h3 => ?_) (fun h3 => ?_)
        ·
          refine gi_const hC (v := 0) dX4_within_27 (by decide) ?_
          exact ST 0 _ _ _ (by rw [m0, if_neg]; exact fun z => h3 (by rw [if_pos z.2]))
        ·
          have s3 : p.testBit b = true := by
            cases hq : p.testBit b
            · rw [hq] at h3; exact absurd h3 (by decide)
            · rfl
          refine gi_const hC (v := 1) dX4_within_23 (by decide) ?_
          refine gi_goto hC 28 dX4_within_24 (by decide) ?_
          exact ST 1 _ _ _ (by rw [m0, if_pos ⟨s2, s3⟩])
set_option maxHeartbeats 4000000 in
set_option maxRecDepth 100000 in
theorem c_X4_fits (l : Launch) (E : gm_E) (σ : gm_S) (n : Nat) (hn1 : 1 ≤ n) (hn : n ≤ 10) (h3 : σ.1 5 0 = nI n) (U V : Nat → Nat) (hE : mE σ U V) (x : Int32) (S : Nat → Bool) (hx : bm x S) (k : Nat) (hk : k < 7) (ab : Option (Nat × Nat)) (hab : ab10 ab) : gm_MI l E yX4_fits (.code yX4_fits cX4_fits 6 (some .boolean) :: gw_T) { frames := 1, cells := 0, slots := 0, locals := 27 } [.ref (E.2.2 5), .int x, .int (nI k), .int (abI ab).1, .int (abI ab).2] σ (fun r σ2 => r = (if ftb n U V S k ab = true then 1 else 0) ∧ σ2 = σ) := by
  refine gm_enterI RX4 (by decide +kernel) rfl rfl (Nat.le_of_ble_eq_true rfl) (gm_c1_ok rfl) ?_
  intro X hC hR
  show gm_G X E 6 0 [some (.ref (E.2.2 5)), some (.int x), some (.int (nI k)), some (.int (abI ab).1), some (.int (abI ab).2), none] [] σ
  have hpw : 2 ^ n ≤ 1024 := Nat.pow_le_pow_right (n := 2) (i := n) (j := 10) (by omega) hn
  have hsh : (1 : Int32) <<< (nI n &&& 31) = nI (2 ^ n) := by
    have := pk_shlN (n := 1) (nI n &&& 31) n (s_l n (by omega)) (by omega)
    rw [Nat.one_mul] at this
    exact this
  have L : ∀ m p, p + m = 2 ^ n → 1 ≤ p → (∀ q, 1 ≤ q → q < p → wcn U V S q ab ≤ k * (bcn q - 1)) → gm_G X E 6 3 [some (.ref (E.2.2 5)), some (.int x), some (.int (nI k)), some (.int (abI ab).1), some (.int (abI ab).2), some (.int (nI p))] [] σ := by
    intro m
    induction m with
    | zero =>
      intro p hp h1 hw
      have hp : p = 2 ^ n := by omega
      subst hp
      refine gi_ild hC dX4_fits_3 rfl ?_
      refine gi_const hC (v := 1) dX4_fits_5 (by decide) ?_
      refine gi_aldn hC dX4_fits_6 rfl ?_
      refine gf_M_n hC gw_316 dX4_fits_7 ?_
      rw [h3]
      refine gi_ishl hC dX4_fits_10 ?_
      rw [hsh]
      refine gi_icmp_ge hC 44 dX4_fits_11 (by decide) (fun h4 => ?_) (fun h4 => ?_)
      ·
        refine gi_const hC (v := 1) dX4_fits_44 (by decide) ?_
        exact hR _ _ _ _ (by decide +kernel) ⟨by rw [if_pos (ftb_iff.mpr hw)], rfl⟩ dX4_fits_45
      · exact absurd (Int32.le_refl _) h4
    | succ m ih =>
      intro p hp h1 hw
      have hb1 := bcn_pos h1 (show p < 1024 by omega)
      have hb2 : bcn p ≤ 10 := by have := cnt_lp_le (fun i => p.testBit i) 10 0 0; unfold bcn; omega
      have hw25 : wcn U V S p ab ≤ 25 := by
        have h9 := cnt_lp_le (fun e => S e && p.testBit (U e) && p.testBit (V e)) 24 0 (m0 p ab)
        have h8 : m0 p ab ≤ 1 := by
          unfold m0
          split
          · omega
          · split <;> omega
        unfold wcn
        omega
      have hkb : k * (bcn p - 1) ≤ 6 * 9 := Nat.mul_le_mul (by omega) (by omega)
      refine gi_ild hC dX4_fits_3 rfl ?_
      refine gi_const hC (v := 1) dX4_fits_5 (by decide) ?_
      refine gi_aldn hC dX4_fits_6 rfl ?_
      refine gf_M_n hC gw_316 dX4_fits_7 ?_
      rw [h3]
      refine gi_ishl hC dX4_fits_10 ?_
      rw [hsh]
      refine gi_icmp_ge hC 44 dX4_fits_11 (by decide) (fun h4 => ?_) (fun h4 => ?_)
      · exact absurd h4 (nI_ge (a := p) (b := 2 ^ n) (by omega) (by omega))
      ·
        refine gi_aldn hC dX4_fits_14 rfl ?_
        refine gi_ildn hC dX4_fits_15 rfl ?_
        refine gi_ild hC dX4_fits_16 rfl ?_
        refine gi_ildn hC dX4_fits_18 rfl ?_
        refine gi_ild hC dX4_fits_19 rfl ?_
        refine gk_VI (n := 4) hC (fun l => c_X4_within l E σ U V hE x S hx p (by omega) ab hab) (gm_o4 E) rfl (gw_V gw_393 gw_395 gw_13 gw_28 gw_396) rfl ⟨rfl, rfl⟩ rfl (by decide +kernel) ⟨by decide, by decide⟩ (Nat.le_of_ble_eq_true rfl) dX4_fits_21 (fun r σ1 h5 => ?_)
        obtain ⟨rfl, rfl⟩ := h5
        refine gi_ildn hC dX4_fits_24 rfl ?_
        refine gi_ild hC dX4_fits_25 rfl ?_
        refine gk_SI (n := 1) hC (fun l => c_X4_bitsOf l E σ1 p (by omega)) (gw_S gw_397 gw_398 gw_28 gw_399) rfl ⟨rfl, rfl⟩ rfl (by decide +kernel) ⟨by decide, by decide⟩ (Nat.le_of_ble_eq_true rfl) dX4_fits_27 (fun r2 σ2 h6 => ?_)
        obtain ⟨rfl, rfl⟩ := h6
        refine gi_const hC (v := 1) dX4_fits_30 (by decide) ?_
        refine gi_isub hC dX4_fits_31 ?_
        refine gi_imul hC dX4_fits_32 ?_
        rw [show nI (bcn p) - 1 = nI (bcn p - 1) from by rw [show (1 : Int32) = nI 1 from rfl, pk_sub hb1], pk_mul]
        refine gi_icmp_le hC 38 dX4_fits_33 (by decide) (fun h7 => ?_) (fun h7 => ?_)
        ·
          refine gi_iinc_5 hC dX4_fits_38 (nI_1 p) (by decide) ?_
          refine gi_goto hC 3 dX4_fits_41 (by decide) ?_
          rw [nI_leI (by omega) (by omega)] at h7
          exact ih (p + 1) (by omega) (by omega) (fun q q1 q2 => by
            by_cases e : q = p
            · subst e; exact h7
            · exact hw q q1 (by omega))
        ·
          refine gi_const hC (v := 0) dX4_fits_36 (by decide) ?_
          rw [nI_leI (by omega) (by omega)] at h7
          exact hR _ _ _ _ (by decide +kernel) ⟨by rw [if_neg]; exact fun z => h7 (ftb_iff.mp z p h1 (by omega)), rfl⟩ dX4_fits_37
  have h2n : 1 ≤ 2 ^ n := Nat.one_le_two_pow
  refine gi_const hC (v := 1) dX4_fits_0 (by decide) ?_
  refine gi_ist_5 hC dX4_fits_1 (by decide) ?_
  exact L (2 ^ n - 1) 1 (by omega) (Nat.le_refl 1) (fun q q1 q2 => by omega)
end
section
/-! THE REFERENCE: begin, join, cut, hold, most, held, why, tight, classes, crossing -/
def wb_lp (n : Nat) (U V : Nat → Nat) (H : Nat → Bool) (k e : Nat) : Nat → Nat → (Nat → Bool) → (Nat → Bool)
  | 0, _, T => T
  | m + 1, f, T => if H f = true ∧ ftb n U V (fun i => (H i && !decide (i = f)) || decide (i = e)) k none = true then wb_lp n U V H k e m (f + 1) (fun i => T i || decide (i = f)) else wb_lp n U V H k e m (f + 1) T
def wyb (n : Nat) (U V : Nat → Nat) (H : Nat → Bool) (k e : Nat) : Nat → Bool := wb_lp n U V H k e 24 0 (fun i => decide (i = e))
def tgt (n : Nat) (U V : Nat → Nat) (H : Nat → Bool) (k a b : Nat) : Bool := decide (a = b) || !ftb n U V H k (some (a, b))
def fst_lp (n : Nat) (U V : Nat → Nat) (H : Nat → Bool) (k a : Nat) : Nat → Nat → Bool → Bool
  | 0, _, r => r
  | m + 1, b, r => fst_lp n U V H k a m (b + 1) (r && !tgt n U V H k a b)
def mcl_lp (n : Nat) (U V : Nat → Nat) (H : Nat → Bool) (k : Nat) : Nat → Nat → Nat → Nat
  | 0, _, c => c
  | m + 1, a, c => mcl_lp n U V H k m (a + 1) (if fst_lp n U V H k a a 0 true = true then c + 1 else c)
def mcr_lp (n : Nat) (U V : Nat → Nat) (ps H : Nat → Bool) (k : Nat) : Nat → Nat → Nat → Nat
  | 0, _, c => c
  | m + 1, e, c => mcr_lp n U V ps H k m (e + 1) (if ps e = true ∧ tgt n U V H k (U e) (V e) = false then c + 1 else c)
theorem ab_none : ab10 none := fun _ _ h => by cases h
theorem ab_some {a b : Nat} (ha : a < 10) (hb : b < 10) : ab10 (some (a, b)) := fun _ _ h => by cases h; exact ⟨ha, hb⟩
set_option maxHeartbeats 4000000 in
set_option maxRecDepth 100000 in
theorem c_X4_hold (l : Launch) (E : gm_E) (σ : gm_S) (n : Nat) (ps : Nat → Bool) (U V : Nat → Nat) (hM : mG σ n ps U V) (k : Nat) (hk : k < 7) : gm_MV l E yX4_hold (.code yX4_hold cX4_hold 3 none :: gw_T) { frames := 2, cells := 0, slots := 0, locals := 52 } [.ref (E.2.2 5), .int (nI k)] σ (fun σ2 => hFR σ σ2 ∧ bm (σ2.1 5 3) (hdd n U V ps k)) := by
  refine gm_enterV RX4 (by decide +kernel) rfl rfl (Nat.le_of_ble_eq_true rfl) (gm_c1_ok rfl) ?_
  intro X hC hR
  show gm_G X E 3 0 [some (.ref (E.2.2 5)), some (.int (nI k)), none] [] σ
  obtain ⟨g1, g2, g3, g4, g5, g6, g7⟩ := id hM
  obtain ⟨Z, hZ⟩ : ∃ Z, Z = hdd n U V ps k := ⟨_, rfl⟩
  rw [← hZ] at hR
  have L : ∀ m i S (σ2 : gm_S), i + m = 24 → hFR σ σ2 → bm (σ2.1 5 3) S → Z = hd_lp n U V ps k m i S → gm_G X E 3 7 [some (.ref (E.2.2 5)), some (.int (nI k)), some (.int (nI i))] [] σ2 := by
    intro m
    induction m with
    | zero =>
      intro i S σ2 hi0 hfr hb hw
      have hi0 : i = 24 := by omega
      subst hi0
      rw [hd_lp] at hw
      subst hw
      refine gi_ildn hC dX4_hold_7 rfl ?_
      refine gi_bipush hC (v := 24) dX4_hold_8 (by decide) ?_
      refine gi_icmp_ge hC 58 dX4_hold_10 (by decide) (fun h1 => ?_) (fun h1 => ?_)
      · exact hR _ _ _ ⟨hfr, hb⟩ dX4_hold_58
      · exact absurd (Int32.le_refl _) h1
    | succ m ih =>
      intro i S σ2 hi0 hfr hb hw
      obtain ⟨k1, k2, k3, k4, k5, k6, k7⟩ := mG_h hfr hM
      have hzi := k4 i (by omega)
      rw [hd_lp] at hw
      have NX : ∀ (σ3 : gm_S) S3, hFR σ σ3 → bm (σ3.1 5 3) S3 → Z = hd_lp n U V ps k m (i + 1) S3 → gm_G X E 3 52 [some (.ref (E.2.2 5)), some (.int (nI k)), some (.int (nI i))] [] σ3 := by
        intro σ3 S3 a1 a2 a3
        refine gi_iinc_2 hC dX4_hold_52 (nI_1 i) (by decide) ?_
        refine gi_goto hC 7 dX4_hold_55 (by decide) ?_
        exact ih (i + 1) S3 σ3 (by omega) a1 a2 a3
      refine gi_ildn hC dX4_hold_7 rfl ?_
      refine gi_bipush hC (v := 24) dX4_hold_8 (by decide) ?_
      refine gi_icmp_ge hC 58 dX4_hold_10 (by decide) (fun h1 => ?_) (fun h1 => ?_)
      · exact absurd h1 (nI_ge (a := i) (b := 24) (by omega) (by omega))
      ·
        refine gi_aldn hC dX4_hold_13 rfl ?_
        refine gf_M_isEdge hC gw_318 dX4_hold_14 ?_
        refine gi_ildn hC dX4_hold_17 rfl ?_
        refine gi_zald hC (gm_i7 E) (j := i) (by omega) rfl (by first | decide | omega) dX4_hold_18 ?_
        rw [hzi]
        refine gi_if_eq hC 52 dX4_hold_19 (by decide) (fun h2 => ?_) (fun h2 => ?_)
        ·
          rw [if_neg (fun z => by rw [if_pos z.1] at h2; exact absurd h2 (by decide))] at hw
          exact NX σ2 S hfr hb hw
        ·
          have hpi : ps i = true := by
            cases hbb : ps i
            · rw [hbb] at h2; exact absurd rfl h2
            · rfl
          refine gi_aldn hC dX4_hold_22 rfl ?_
          refine gi_aldn hC dX4_hold_23 rfl ?_
          refine gf_M_heldBits hC gw_319 dX4_hold_24 ?_
          refine gi_const hC (v := 1) dX4_hold_27 (by decide) ?_
          refine gi_ildn hC dX4_hold_28 rfl ?_
          refine gi_ishl hC dX4_hold_29 ?_
          refine gi_ior hC dX4_hold_30 ?_
          refine gi_ildn hC dX4_hold_31 rfl ?_
          refine gi_const hC (v := -1) dX4_hold_32 (by decide) ?_
          refine gi_const hC (v := -1) dX4_hold_33 (by decide) ?_
          refine gk_VI (n := 4) hC (fun l => c_X4_fits l E σ2 n k1 k2 k3 U V k5 _ (fun j => S j || decide (j = i)) (bm_or hb (bm_pow (by omega))) k hk none ab_none) (gm_o4 E) rfl (gw_V gw_389 gw_391 gw_12 gw_28 gw_392) rfl ⟨rfl, rfl⟩ rfl (by decide +kernel) ⟨by decide, by decide⟩ (Nat.le_of_ble_eq_true rfl) dX4_hold_34 (fun r σ3 h3 => ?_)
          obtain ⟨h3, rfl⟩ := h3
          cases hft : ftb n U V (fun j => S j || decide (j = i)) k none with
          | true =>
            rw [hft, if_pos rfl] at h3
            subst h3
            rw [if_pos ⟨hpi, hft⟩] at hw
            refine gi_if_eq hC 52 dX4_hold_37 (by decide) (fun h4 => ?_) (fun h4 => ?_)
            · exact absurd h4 (by decide)
            ·
              refine gi_aldn hC dX4_hold_40 rfl ?_
              refine gi_dup hC dX4_hold_41 rfl ?_
              refine gf_M_heldBits hC gw_319 dX4_hold_42 ?_
              refine gi_const hC (v := 1) dX4_hold_45 (by decide) ?_
              refine gi_ildn hC dX4_hold_46 rfl ?_
              refine gi_ishl hC dX4_hold_47 ?_
              refine gi_ior hC dX4_hold_48 ?_
              refine pf_M_heldBits hC gw_319 dX4_hold_49 ?_
              exact NX _ _ (gm_fr_tr hfr (gm_fr_sc ⟨rfl, rfl⟩)) (by rw [gm_sc_1]; exact bm_or hb (bm_pow (by omega))) hw
          | false =>
            rw [hft, if_neg Bool.false_ne_true] at h3
            subst h3
            rw [if_neg (fun z => by rw [hft] at z; cases z.2)] at hw
            refine gi_if_eq hC 52 dX4_hold_37 (by decide) (fun h4 => ?_) (fun h4 => ?_)
            · exact NX σ3 S hfr hb hw
            · exact absurd rfl h4
  refine gi_aldn hC dX4_hold_0 rfl ?_
  refine gi_const hC (v := 0) dX4_hold_1 (by decide) ?_
  refine pf_M_heldBits hC gw_319 dX4_hold_2 ?_
  refine gi_const hC (v := 0) dX4_hold_5 (by decide) ?_
  refine gi_istn_2 hC dX4_hold_6 (by decide) ?_
  exact L 24 0 (fun _ => false) _ rfl (gm_fr_sc ⟨rfl, rfl⟩) (by rw [gm_sc_1]; exact bm_0) hZ
set_option maxHeartbeats 4000000 in
set_option maxRecDepth 100000 in
theorem c_X4_heldMany (l : Launch) (E : gm_E) (σ : gm_S) (H : Nat → Bool) (hb : bm (σ.1 5 3) H) : gm_MI l E yX4_heldMany (.code yX4_heldMany cX4_heldMany 3 (some .int) :: gw_T) { frames := 0, cells := 0, slots := 0, locals := 0 } [.ref (E.2.2 5)] σ (fun r σ2 => r = nI (cnt_lp H 24 0 0) ∧ σ2 = σ) := by
  refine gm_enterI RX4 (by decide +kernel) rfl rfl (Nat.le_of_ble_eq_true rfl) (gm_c1_ok rfl) ?_
  intro X hC hR
  show gm_G X E 3 0 [some (.ref (E.2.2 5)), none, none] [] σ
  obtain ⟨Z, hZ⟩ : ∃ Z, Z = cnt_lp H 24 0 0 := ⟨_, rfl⟩
  rw [← hZ] at hR
  have L : ∀ n i c, i + n = 24 → Z = cnt_lp H n i c → gm_G X E 3 4 [some (.ref (E.2.2 5)), some (.int (nI c)), some (.int (nI i))] [] σ := by
    intro n
    induction n with
    | zero =>
      intro i c hi0 hw
      have hi0 : i = 24 := by omega
      subst hi0
      rw [cnt_lp] at hw
      subst hw
      refine gi_ildn hC dX4_heldMany_4 rfl ?_
      refine gi_bipush hC (v := 24) dX4_heldMany_5 (by decide) ?_
      refine gi_icmp_ge hC 27 dX4_heldMany_7 (by decide) (fun h1 => ?_) (fun h1 => ?_)
      ·
        refine gi_ildn hC dX4_heldMany_27 rfl ?_
        exact hR _ _ _ _ rfl ⟨rfl, rfl⟩ dX4_heldMany_28
      · exact absurd (Int32.le_refl _) h1
    | succ n ih =>
      intro i c hi0 hw
      rw [cnt_lp] at hw
      refine gi_ildn hC dX4_heldMany_4 rfl ?_
      refine gi_bipush hC (v := 24) dX4_heldMany_5 (by decide) ?_
      refine gi_icmp_ge hC 27 dX4_heldMany_7 (by decide) (fun h1 => ?_) (fun h1 => ?_)
      · exact absurd h1 (nI_ge (a := i) (b := 24) (by omega) (by omega))
      ·
        refine gi_ildn hC dX4_heldMany_10 rfl ?_
        refine gi_aldn hC dX4_heldMany_11 rfl ?_
        refine gf_M_heldBits hC gw_319 dX4_heldMany_12 ?_
        refine gi_ildn hC dX4_heldMany_15 rfl ?_
        refine gi_ishr hC dX4_heldMany_16 ?_
        refine gi_const hC (v := 1) dX4_heldMany_17 (by decide) ?_
        refine gi_iand hC dX4_heldMany_18 ?_
        rw [bm_tst hb (by omega)]
        by_cases hq : H i = true
        ·
          rw [if_pos hq] at hw ⊢
          refine gi_iadd hC dX4_heldMany_19 ?_
          rw [nI_1]
          refine gi_istn_1 hC dX4_heldMany_20 (by decide) ?_
          refine gi_iinc_2 hC dX4_heldMany_21 (nI_1 i) (by decide) ?_
          refine gi_goto hC 4 dX4_heldMany_24 (by decide) ?_
          exact ih (i + 1) (c + 1) (by omega) hw
        ·
          rw [if_neg hq] at hw ⊢
          refine gi_iadd hC dX4_heldMany_19 ?_
          rw [Int32.add_zero]
          refine gi_istn_1 hC dX4_heldMany_20 (by decide) ?_
          refine gi_iinc_2 hC dX4_heldMany_21 (nI_1 i) (by decide) ?_
          refine gi_goto hC 4 dX4_heldMany_24 (by decide) ?_
          exact ih (i + 1) c (by omega) hw
  refine gi_const hC (v := 0) dX4_heldMany_0 (by decide) ?_
  refine gi_istn_1 hC dX4_heldMany_1 (by decide) ?_
  refine gi_const hC (v := 0) dX4_heldMany_2 (by decide) ?_
  refine gi_istn_2 hC dX4_heldMany_3 (by decide) ?_
  exact L 24 0 0 rfl hZ
set_option maxHeartbeats 4000000 in
set_option maxRecDepth 100000 in
theorem c_X4_most (l : Launch) (E : gm_E) (σ : gm_S) (n : Nat) (ps : Nat → Bool) (U V : Nat → Nat) (hM : mG σ n ps U V) (k : Int32) : gm_MI l E yX4_most (.code yX4_most cX4_most 2 (some .int) :: gw_T) { frames := 3, cells := 0, slots := 0, locals := 74 } [.ref (E.2.2 5), .int k] σ (fun r σ2 => hFR σ σ2 ∧ ((r = -2 ∧ ¬ ∃ j, j < 7 ∧ k = nI j) ∨ ∃ kk, kk < 7 ∧ k = nI kk ∧ r = nI (cnt_lp (hdd n U V ps kk) 24 0 0))) := by
  refine gm_enterI RX4 (by decide +kernel) rfl rfl (Nat.le_of_ble_eq_true rfl) (gm_c1_ok rfl) ?_
  intro X hC hR
  show gm_G X E 2 0 [some (.ref (E.2.2 5)), some (.int k)] [] σ
  refine gi_ildn hC dX4_most_0 rfl ?_
  refine gk_SI (n := 1) hC (fun l => c_X4_isK l E σ k) (gw_S gw_382 gw_383 gw_28 gw_384) rfl ⟨rfl, rfl⟩ rfl (by decide +kernel) ⟨by decide, by decide⟩ (Nat.le_of_ble_eq_true rfl) dX4_most_1 (fun r σ1 h1 => ?_)
  obtain ⟨h1, rfl⟩ := h1
  refine gi_if_ne hC 10 dX4_most_4 (by decide) (fun h2 => ?_) (fun h2 => ?_)
  ·
    obtain ⟨kk, hk, rfl⟩ : ∃ j, j < 7 ∧ k = nI j := by
      rcases h1 with ⟨-, z⟩ | ⟨z, -⟩
      · exact z
      · exact absurd z h2
    refine gi_aldn hC dX4_most_10 rfl ?_
    refine gi_ildn hC dX4_most_11 rfl ?_
    refine gk_VV (n := 1) hC (fun l => c_X4_hold l E σ1 n ps U V hM kk hk) (gm_o4 E) rfl (gw_V gw_385 gw_387 gw_11 gw_28 gw_388) rfl ⟨rfl, rfl⟩ rfl (by decide +kernel) ⟨by decide, by decide⟩ (Nat.le_of_ble_eq_true rfl) dX4_most_12 (fun σ2 h3 => ?_)
    refine gi_aldn hC dX4_most_15 rfl ?_
    refine gk_VI (n := 0) hC (fun l => c_X4_heldMany l E σ2 _ h3.2) (gm_o4 E) rfl (gw_V gw_400 gw_402 gw_14 gw_28 gw_403) rfl ⟨rfl, rfl⟩ rfl (by decide +kernel) ⟨by decide, by decide⟩ (Nat.le_of_ble_eq_true rfl) dX4_most_16 (fun r2 σ3 h4 => ?_)
    obtain ⟨rfl, rfl⟩ := h4
    exact hR _ _ _ _ rfl ⟨h3.1, Or.inr ⟨kk, hk, rfl, rfl⟩⟩ dX4_most_19
  ·
    have hn : ¬ ∃ j, j < 7 ∧ k = nI j := by
      rcases h1 with ⟨z, -⟩ | ⟨-, z⟩
      · rw [z] at h2; exact absurd h2 (by decide)
      · exact z
    refine gi_bipush hC (v := -2) dX4_most_7 (by decide) ?_
    exact hR _ _ _ _ rfl ⟨gm_fr_rf, Or.inl ⟨rfl, hn⟩⟩ dX4_most_9
set_option maxHeartbeats 4000000 in
set_option maxRecDepth 100000 in
theorem c_X4_held (l : Launch) (E : gm_E) (σ : gm_S) (n : Nat) (ps : Nat → Bool) (U V : Nat → Nat) (hM : mG σ n ps U V) (k a : Int32) : gm_MI l E yX4_held (.code yX4_held cX4_held 3 (some .int) :: gw_T) { frames := 3, cells := 0, slots := 0, locals := 74 } [.ref (E.2.2 5), .int k, .int a] σ (fun r σ2 => hFR σ σ2 ∧ ((r = -2 ∧ ¬ ∃ j, j < 7 ∧ k = nI j) ∨ ∃ kk, kk < 7 ∧ k = nI kk ∧ ((r = -1 ∧ ¬ ∃ e, e < 24 ∧ a = nI e ∧ ps e = true) ∨ ∃ e, e < 24 ∧ a = nI e ∧ ps e = true ∧ r = if hdd n U V ps kk e = true then 1 else 0))) := by
  refine gm_enterI RX4 (by decide +kernel) rfl rfl (Nat.le_of_ble_eq_true rfl) (gm_c1_ok rfl) ?_
  intro X hC hR
  show gm_G X E 3 0 [some (.ref (E.2.2 5)), some (.int k), some (.int a)] [] σ
  obtain ⟨g1, g2, g3, g4, g5, g6, g7⟩ := id hM
  refine gi_ildn hC dX4_held_0 rfl ?_
  refine gk_SI (n := 1) hC (fun l => c_X4_isK l E σ k) (gw_S gw_382 gw_383 gw_28 gw_384) rfl ⟨rfl, rfl⟩ rfl (by decide +kernel) ⟨by decide, by decide⟩ (Nat.le_of_ble_eq_true rfl) dX4_held_1 (fun r σ1 h1 => ?_)
  obtain ⟨h1, rfl⟩ := h1
  refine gi_if_ne hC 10 dX4_held_4 (by decide) (fun h2 => ?_) (fun h2 => ?_)
  ·
    obtain ⟨kk, hk, rfl⟩ : ∃ j, j < 7 ∧ k = nI j := by
      rcases h1 with ⟨-, z⟩ | ⟨z, -⟩
      · exact z
      · exact absurd z h2
    refine gi_aldn hC dX4_held_10 rfl ?_
    refine gi_ildn hC dX4_held_11 rfl ?_
    refine gk_VI (n := 1) hC (fun l => c_X4_has l E σ1 ps g4 a) (gm_o4 E) rfl (gw_V gw_374 gw_376 gw_10 gw_28 gw_377) rfl ⟨rfl, rfl⟩ rfl (by decide +kernel) ⟨by decide, by decide⟩ (Nat.le_of_ble_eq_true rfl) dX4_held_12 (fun r3 σ3 h3 => ?_)
    obtain ⟨h3, rfl⟩ := h3
    refine gi_if_ne hC 20 dX4_held_15 (by decide) (fun h4 => ?_) (fun h4 => ?_)
    ·
      obtain ⟨e, he, rfl, hpe⟩ : ∃ j, j < 24 ∧ a = nI j ∧ ps j = true := by
        rcases h3 with ⟨-, z⟩ | ⟨z, -⟩
        · exact z
        · exact absurd z h4
      refine gi_aldn hC dX4_held_20 rfl ?_
      refine gi_ildn hC dX4_held_21 rfl ?_
      refine gk_VV (n := 1) hC (fun l => c_X4_hold l E σ3 n ps U V hM kk hk) (gm_o4 E) rfl (gw_V gw_385 gw_387 gw_11 gw_28 gw_388) rfl ⟨rfl, rfl⟩ rfl (by decide +kernel) ⟨by decide, by decide⟩ (Nat.le_of_ble_eq_true rfl) dX4_held_22 (fun σ5 h5 => ?_)
      refine gi_aldn hC dX4_held_25 rfl ?_
      refine gf_M_heldBits hC gw_319 dX4_held_26 ?_
      refine gi_ildn hC dX4_held_29 rfl ?_
      refine gi_ishr hC dX4_held_30 ?_
      refine gi_const hC (v := 1) dX4_held_31 (by decide) ?_
      refine gi_iand hC dX4_held_32 ?_
      rw [bm_tst h5.2 (by omega)]
      exact hR _ _ _ _ rfl ⟨h5.1, Or.inr ⟨kk, hk, rfl, Or.inr ⟨e, he, rfl, hpe, rfl⟩⟩⟩ dX4_held_33
    ·
      have hna : ¬ ∃ j, j < 24 ∧ a = nI j ∧ ps j = true := by
        rcases h3 with ⟨z, -⟩ | ⟨-, z⟩
        · rw [z] at h4; exact absurd h4 (by decide)
        · exact z
      refine gi_const hC (v := -1) dX4_held_18 (by decide) ?_
      exact hR _ _ _ _ rfl ⟨gm_fr_rf, Or.inr ⟨kk, hk, rfl, Or.inl ⟨rfl, hna⟩⟩⟩ dX4_held_19
  ·
    have hn : ¬ ∃ j, j < 7 ∧ k = nI j := by
      rcases h1 with ⟨z, -⟩ | ⟨-, z⟩
      · rw [z] at h2; exact absurd h2 (by decide)
      · exact z
    refine gi_bipush hC (v := -2) dX4_held_7 (by decide) ?_
    exact hR _ _ _ _ rfl ⟨gm_fr_rf, Or.inl ⟨rfl, hn⟩⟩ dX4_held_9
set_option maxHeartbeats 4000000 in
set_option maxRecDepth 100000 in
theorem c_X4_begin (l : Launch) (E : gm_E) (σ : gm_S) (n : Nat) (ps : Nat → Bool) (U V : Nat → Nat) (hM : mG σ n ps U V) (a : Int32) : gm_MI l E yX4_begin (.code yX4_begin cX4_begin 4 (some .int) :: gw_T) { frames := 1, cells := 0, slots := 0, locals := 22 } [.ref (E.2.2 5), .int a] σ (fun r σ2 => mFR σ σ2 ∧ ((r = -2 ∧ (¬ ∃ m, 1 ≤ m ∧ m ≤ 10 ∧ a = nI m) ∧ mG σ2 n ps U V) ∨ ∃ m, 1 ≤ m ∧ m ≤ 10 ∧ a = nI m ∧ r = nI (cnt_lp ps 24 0 0) ∧ mG σ2 m (fun _ => false) U V)) := by
  refine gm_enterI RX4 (by decide +kernel) rfl rfl (Nat.le_of_ble_eq_true rfl) (gm_c1_ok rfl) ?_
  intro X hC hR
  show gm_G X E 4 0 [some (.ref (E.2.2 5)), some (.int a), none, none] [] σ
  obtain ⟨g1, g2, g3, g4, g5, g6, g7⟩ := id hM
  refine gi_ildn hC dX4_begin_0 rfl ?_
  refine gi_const hC (v := 1) dX4_begin_1 (by decide) ?_
  refine gi_bipush hC (v := 10) dX4_begin_2 (by decide) ?_
  refine gk_SI (n := 3) hC (fun l => c_X4_in l E σ a 1 10) (gw_S gw_355 gw_356 gw_28 gw_357) rfl ⟨rfl, rfl⟩ rfl (by decide +kernel) ⟨by decide, by decide⟩ (Nat.le_of_ble_eq_true rfl) dX4_begin_4 (fun r σ1 h1 => ?_)
  obtain ⟨h1, rfl⟩ := h1
  rw [show (1 : Int32) = nI 1 from rfl, show (10 : Int32) = nI 10 from rfl, nI_inn (by omega) (by omega)] at h1
  refine gi_if_ne hC 13 dX4_begin_7 (by decide) (fun h2 => ?_) (fun h2 => ?_)
  ·
    obtain ⟨m, m1, m2, rfl⟩ : ∃ j, 1 ≤ j ∧ j ≤ 10 ∧ a = nI j := by
      rcases h1 with ⟨-, z⟩ | ⟨z, -⟩
      · exact z
      · exact absurd z h2
    refine gi_aldn hC dX4_begin_13 rfl ?_
    refine gk_VI (n := 0) hC (fun l => c_X4_many l E σ1 ps g4) (gm_o4 E) rfl (gw_V gw_358 gw_360 gw_8 gw_28 gw_361) rfl ⟨rfl, rfl⟩ rfl (by decide +kernel) ⟨by decide, by decide⟩ (Nat.le_of_ble_eq_true rfl) dX4_begin_14 (fun r2 σ2 h3 => ?_)
    obtain ⟨rfl, rfl⟩ := h3
    have L : ∀ c i (σ3 : gm_S), i + c = 24 → mFR σ2 σ3 → σ3.1 5 0 = nI m → (∀ j, j < i → σ3.2 7 j = 0) → mE σ3 U V → gm_G X E 4 25 [some (.ref (E.2.2 5)), some (.int (nI m)), some (.int (nI (cnt_lp ps 24 0 0))), some (.int (nI i))] [] σ3 := by
      intro c
      induction c with
      | zero =>
        intro i σ3 hi0 hfr hn3 hz hE
        have hi0 : i = 24 := by omega
        subst hi0
        refine gi_ildn hC dX4_begin_25 rfl ?_
        refine gi_bipush hC (v := 24) dX4_begin_26 (by decide) ?_
        refine gi_icmp_ge hC 44 dX4_begin_28 (by decide) (fun h4 => ?_) (fun h4 => ?_)
        ·
          refine gi_ildn hC dX4_begin_44 rfl ?_
          exact hR _ _ _ _ rfl ⟨hfr, Or.inr ⟨m, m1, m2, rfl, rfl, m1, m2, hn3, fun e he => (by rw [hz e he]; rfl), hE, fun _ _ => rfl, fun e he => by cases he⟩⟩ dX4_begin_45
        · exact absurd (Int32.le_refl _) h4
      | succ c ih =>
        intro i σ3 hi0 hfr hn3 hz hE
        refine gi_ildn hC dX4_begin_25 rfl ?_
        refine gi_bipush hC (v := 24) dX4_begin_26 (by decide) ?_
        refine gi_icmp_ge hC 44 dX4_begin_28 (by decide) (fun h4 => ?_) (fun h4 => ?_)
        · exact absurd h4 (nI_ge (a := i) (b := 24) (by omega) (by omega))
        ·
          refine gi_aldn hC dX4_begin_31 rfl ?_
          refine gf_M_isEdge hC gw_318 dX4_begin_32 ?_
          refine gi_ildn hC dX4_begin_35 rfl ?_
          refine gi_const hC (v := 0) dX4_begin_36 (by decide) ?_
          refine gi_zast hC (gm_i7 E) (j := i) (by omega) rfl (Or.inl rfl) (by decide) dX4_begin_37 ?_
          refine gi_iinc_3 hC dX4_begin_38 (nI_1 i) (by decide) ?_
          refine gi_goto hC 25 dX4_begin_41 (by decide) ?_
          refine ih (i + 1) _ (by omega) (gm_fr_tr hfr (gm_fr_ar (by omega))) hn3 (fun j hj => ?_) (fun e he => ?_)
          · by_cases hji : j = i
            · subst hji; exact gm_ar_2 _ _ _ _
            · rw [gm_ar_n _ _ (fun z => hji z.2)]; exact hz j (by omega)
          · rw [gm_ar_r _ _ (by omega)]; exact hE e he
    refine gi_istn_2 hC dX4_begin_17 (by decide) ?_
    refine gi_aldn hC dX4_begin_18 rfl ?_
    refine gi_ildn hC dX4_begin_19 rfl ?_
    refine pf_M_n hC gw_316 dX4_begin_20 ?_
    refine gi_const hC (v := 0) dX4_begin_23 (by decide) ?_
    refine gi_istn_3 hC dX4_begin_24 (by decide) ?_
    exact L 24 0 _ rfl (gm_fr_sc rfl) (gm_sc_1 _ _ _ _) (fun j hj => absurd hj (Nat.not_lt_zero j)) g5
  ·
    have hn : ¬ ∃ j, 1 ≤ j ∧ j ≤ 10 ∧ a = nI j := by
      rcases h1 with ⟨z, -⟩ | ⟨-, z⟩
      · rw [z] at h2; exact absurd h2 (by decide)
      · exact z
    refine gi_bipush hC (v := -2) dX4_begin_10 (by decide) ?_
    exact hR _ _ _ _ rfl ⟨mFR_rf, Or.inl ⟨rfl, hn, hM⟩⟩ dX4_begin_12
set_option maxHeartbeats 4000000 in
set_option maxRecDepth 100000 in
theorem c_X4_cut (l : Launch) (E : gm_E) (σ : gm_S) (n : Nat) (ps : Nat → Bool) (U V : Nat → Nat) (hM : mG σ n ps U V) (a : Int32) : gm_MI l E yX4_cut (.code yX4_cut cX4_cut 2 (some .int) :: gw_T) { frames := 2, cells := 0, slots := 0, locals := 43 } [.ref (E.2.2 5), .int a] σ (fun r σ2 => mFR σ σ2 ∧ ((r = -1 ∧ (¬ ∃ e, e < 24 ∧ a = nI e ∧ ps e = true) ∧ mG σ2 n ps U V) ∨ ∃ e, e < 24 ∧ a = nI e ∧ ps e = true ∧ r = nI (U e * 10 + V e) ∧ mG σ2 n (fun d => ps d && !decide (d = e)) U V)) := by
  refine gm_enterI RX4 (by decide +kernel) rfl rfl (Nat.le_of_ble_eq_true rfl) (gm_c1_ok rfl) ?_
  intro X hC hR
  show gm_G X E 2 0 [some (.ref (E.2.2 5)), some (.int a)] [] σ
  obtain ⟨g1, g2, g3, g4, g5, g6, g7⟩ := id hM
  refine gi_aldn hC dX4_cut_0 rfl ?_
  refine gi_ildn hC dX4_cut_1 rfl ?_
  refine gk_VI (n := 1) hC (fun l => c_X4_has l E σ ps g4 a) (gm_o4 E) rfl (gw_V gw_374 gw_376 gw_10 gw_28 gw_377) rfl ⟨rfl, rfl⟩ rfl (by decide +kernel) ⟨by decide, by decide⟩ (Nat.le_of_ble_eq_true rfl) dX4_cut_2 (fun r3 σ3 h3 => ?_)
  obtain ⟨h3, rfl⟩ := h3
  refine gi_if_ne hC 10 dX4_cut_5 (by decide) (fun h4 => ?_) (fun h4 => ?_)
  ·
    obtain ⟨e, he, rfl, hpe⟩ : ∃ j, j < 24 ∧ a = nI j ∧ ps j = true := by
      rcases h3 with ⟨-, z⟩ | ⟨z, -⟩
      · exact z
      · exact absurd z h4
    obtain ⟨e1, e2, e3, e4⟩ := g5 e he
    refine gi_aldn hC dX4_cut_10 rfl ?_
    refine gf_M_isEdge hC gw_318 dX4_cut_11 ?_
    refine gi_ildn hC dX4_cut_14 rfl ?_
    refine gi_const hC (v := 0) dX4_cut_15 (by decide) ?_
    refine gi_zast hC (gm_i7 E) he rfl (Or.inl rfl) (by decide) dX4_cut_16 ?_
    refine gi_bipush hC (v := 10) dX4_cut_17 (by decide) ?_
    refine gi_aldn hC dX4_cut_19 rfl ?_
    refine gf_M_ends hC gw_317 dX4_cut_20 ?_
    refine gi_const hC (v := 2) dX4_cut_23 (by decide) ?_
    refine gi_ildn hC dX4_cut_24 rfl ?_
    refine gi_imul hC dX4_cut_25 ?_
    refine gi_iald hC (gm_i6 E) (j := 2 * e) (by omega) (by rw [show (2 : Int32) = nI 2 from rfl, pk_mul]) (by first | decide | omega) dX4_cut_26 ?_
    rw [gm_ar_r (y := 6) _ _ (by decide), e1]
    refine gi_imul hC dX4_cut_27 ?_
    refine gi_aldn hC dX4_cut_28 rfl ?_
    refine gf_M_ends hC gw_317 dX4_cut_29 ?_
    refine gi_const hC (v := 2) dX4_cut_32 (by decide) ?_
    refine gi_ildn hC dX4_cut_33 rfl ?_
    refine gi_imul hC dX4_cut_34 ?_
    refine gi_const hC (v := 1) dX4_cut_35 (by decide) ?_
    refine gi_iadd hC dX4_cut_36 ?_
    refine gi_iald hC (gm_i6 E) (j := 2 * e + 1) (by omega) (by rw [show (2 : Int32) = nI 2 from rfl, pk_mul, nI_1]) (by first | decide | omega) dX4_cut_37 ?_
    rw [gm_ar_r (y := 6) _ _ (by decide), e2]
    refine gi_iadd hC dX4_cut_38 ?_
    rw [show 10 * nI (U e) + nI (V e) = nI (U e * 10 + V e) by rw [show (10 : Int32) = nI 10 from rfl, pk_mul, nI_add, Nat.mul_comm]]
    refine hR _ _ _ _ rfl ⟨gm_fr_ar (by omega), Or.inr ⟨e, he, rfl, hpe, rfl, g1, g2, g3, fun d hd => ?_, fun d hd => ?_, fun d hd => (by show (ps d && !decide (d = e)) = false; rw [g6 d hd]; rfl), fun d hd => g7 d (by simp at hd; exact hd.1)⟩⟩ dX4_cut_39
    · by_cases hde : d = e
      · subst hde; rw [gm_ar_2]; simp
      · rw [gm_ar_n _ _ (fun z => hde z.2), g4 d hd]; simp [hde]
    · rw [gm_ar_r _ _ (by omega)]; exact g5 d hd
  ·
    have hna : ¬ ∃ j, j < 24 ∧ a = nI j ∧ ps j = true := by
      rcases h3 with ⟨z, -⟩ | ⟨-, z⟩
      · rw [z] at h4; exact absurd h4 (by decide)
      · exact z
    refine gi_const hC (v := -1) dX4_cut_8 (by decide) ?_
    exact hR _ _ _ _ rfl ⟨mFR_rf, Or.inl ⟨rfl, hna, hM⟩⟩ dX4_cut_9
set_option maxHeartbeats 4000000 in
set_option maxRecDepth 100000 in
theorem c_X4_whyBits (l : Launch) (E : gm_E) (σ : gm_S) (n : Nat) (ps : Nat → Bool) (U V : Nat → Nat) (hM : mG σ n ps U V) (H : Nat → Bool) (hb : bm (σ.1 5 3) H) (k : Nat) (hk : k < 7) (e : Nat) (he : e < 24) : gm_MI l E yX4_whyBits (.code yX4_whyBits cX4_whyBits 5 (some .int) :: gw_T) { frames := 2, cells := 0, slots := 0, locals := 52 } [.ref (E.2.2 5), .int (nI k), .int (nI e)] σ (fun r σ2 => bm r (wyb n U V H k e) ∧ σ2 = σ) := by
  refine gm_enterI RX4 (by decide +kernel) rfl rfl (Nat.le_of_ble_eq_true rfl) (gm_c1_ok rfl) ?_
  intro X hC hR
  show gm_G X E 5 0 [some (.ref (E.2.2 5)), some (.int (nI k)), some (.int (nI e)), none, none] [] σ
  obtain ⟨g1, g2, g3, g4, g5, g6, g7⟩ := id hM
  obtain ⟨Z, hZ⟩ : ∃ Z, Z = wyb n U V H k e := ⟨_, rfl⟩
  rw [← hZ] at hR
  have L : ∀ m f (y : Int32) T, f + m = 24 → bm y T → Z = wb_lp n U V H k e m f T → gm_G X E 5 7 [some (.ref (E.2.2 5)), some (.int (nI k)), some (.int (nI e)), some (.int y), some (.int (nI f))] [] σ := by
    intro m
    induction m with
    | zero =>
      intro f y T hi0 hy hw
      have hi0 : f = 24 := by omega
      subst hi0
      rw [wb_lp] at hw
      subst hw
      refine gi_ild hC dX4_whyBits_7 rfl ?_
      refine gi_bipush hC (v := 24) dX4_whyBits_9 (by decide) ?_
      refine gi_icmp_ge hC 65 dX4_whyBits_11 (by decide) (fun h1 => ?_) (fun h1 => ?_)
      ·
        refine gi_ildn hC dX4_whyBits_65 rfl ?_
        exact hR _ _ _ _ rfl ⟨hy, rfl⟩ dX4_whyBits_66
      · exact absurd (Int32.le_refl _) h1
    | succ m ih =>
      intro f y T hi0 hy hw
      rw [wb_lp] at hw
      refine gi_ild hC dX4_whyBits_7 rfl ?_
      refine gi_bipush hC (v := 24) dX4_whyBits_9 (by decide) ?_
      refine gi_icmp_ge hC 65 dX4_whyBits_11 (by decide) (fun h1 => ?_) (fun h1 => ?_)
      · exact absurd h1 (nI_ge (a := f) (b := 24) (by omega) (by omega))
      ·
        refine gi_aldn hC dX4_whyBits_14 rfl ?_
        refine gf_M_heldBits hC gw_319 dX4_whyBits_15 ?_
        refine gi_ild hC dX4_whyBits_18 rfl ?_
        refine gi_ishr hC dX4_whyBits_20 ?_
        refine gi_const hC (v := 1) dX4_whyBits_21 (by decide) ?_
        refine gi_iand hC dX4_whyBits_22 ?_
        refine gi_const hC (v := 1) dX4_whyBits_23 (by decide) ?_
        rw [bm_tst hb (by omega)]
        refine gi_icmp_ne hC 59 dX4_whyBits_24 (by decide) (fun h2 => ?_) (fun h2 => ?_)
        ·
          rw [if_neg (fun z => h2 (by rw [if_pos z.1]))] at hw
          refine gi_iinc_4 hC dX4_whyBits_59 (nI_1 f) (by decide) ?_
          refine gi_goto hC 7 dX4_whyBits_62 (by decide) ?_
          exact ih (f + 1) y T (by omega) hy hw
        ·
          have hHf : H f = true := by
            cases hq : H f
            · rw [hq] at h2; exact absurd h2 (by decide)
            · rfl
          refine gi_aldn hC dX4_whyBits_27 rfl ?_
          refine gi_aldn hC dX4_whyBits_28 rfl ?_
          refine gf_M_heldBits hC gw_319 dX4_whyBits_29 ?_
          refine gi_const hC (v := 1) dX4_whyBits_32 (by decide) ?_
          refine gi_ild hC dX4_whyBits_33 rfl ?_
          refine gi_ishl hC dX4_whyBits_35 ?_
          refine gi_const hC (v := -1) dX4_whyBits_36 (by decide) ?_
          refine gi_ixor hC dX4_whyBits_37 ?_
          refine gi_iand hC dX4_whyBits_38 ?_
          refine gi_const hC (v := 1) dX4_whyBits_39 (by decide) ?_
          refine gi_ildn hC dX4_whyBits_40 rfl ?_
          refine gi_ishl hC dX4_whyBits_41 ?_
          refine gi_ior hC dX4_whyBits_42 ?_
          refine gi_ildn hC dX4_whyBits_43 rfl ?_
          refine gi_const hC (v := -1) dX4_whyBits_44 (by decide) ?_
          refine gi_const hC (v := -1) dX4_whyBits_45 (by decide) ?_
          refine gk_VI (n := 4) hC (fun l => c_X4_fits l E σ n g1 g2 g3 U V g5 _ (fun i => (H i && !decide (i = f)) || decide (i = e)) (bm_or (bm_and hb (bm_not (bm_pow (by omega)))) (bm_pow (by omega))) k hk none ab_none) (gm_o4 E) rfl (gw_V gw_389 gw_391 gw_12 gw_28 gw_392) rfl ⟨rfl, rfl⟩ rfl (by decide +kernel) ⟨by decide, by decide⟩ (Nat.le_of_ble_eq_true rfl) dX4_whyBits_46 (fun r σ3 h3 => ?_)
          obtain ⟨h3, rfl⟩ := h3
          cases hft : ftb n U V (fun i => (H i && !decide (i = f)) || decide (i = e)) k none with
          | true =>
            rw [hft, if_pos rfl] at h3
            subst h3
            rw [if_pos ⟨hHf, hft⟩] at hw
            refine gi_if_eq hC 59 dX4_whyBits_49 (by decide) (fun h4 => ?_) (fun h4 => ?_)
            · exact absurd h4 (by decide)
            ·
              refine gi_ildn hC dX4_whyBits_52 rfl ?_
              refine gi_const hC (v := 1) dX4_whyBits_53 (by decide) ?_
              refine gi_ild hC dX4_whyBits_54 rfl ?_
              refine gi_ishl hC dX4_whyBits_56 ?_
              refine gi_ior hC dX4_whyBits_57 ?_
              refine gi_istn_3 hC dX4_whyBits_58 (by decide) ?_
              refine gi_iinc_4 hC dX4_whyBits_59 (nI_1 f) (by decide) ?_
              refine gi_goto hC 7 dX4_whyBits_62 (by decide) ?_
              exact ih (f + 1) _ _ (by omega) (bm_or hy (bm_pow (by omega))) hw
          | false =>
            rw [hft, if_neg Bool.false_ne_true] at h3
            subst h3
            rw [if_neg (fun z => by rw [hft] at z; cases z.2)] at hw
            refine gi_if_eq hC 59 dX4_whyBits_49 (by decide) (fun h4 => ?_) (fun h4 => ?_)
            ·
              refine gi_iinc_4 hC dX4_whyBits_59 (nI_1 f) (by decide) ?_
              refine gi_goto hC 7 dX4_whyBits_62 (by decide) ?_
              exact ih (f + 1) y T (by omega) hy hw
            · exact absurd rfl h4
  refine gi_const hC (v := 1) dX4_whyBits_0 (by decide) ?_
  refine gi_ildn hC dX4_whyBits_1 rfl ?_
  refine gi_ishl hC dX4_whyBits_2 ?_
  refine gi_istn_3 hC dX4_whyBits_3 (by decide) ?_
  refine gi_const hC (v := 0) dX4_whyBits_4 (by decide) ?_
  refine gi_ist_4 hC dX4_whyBits_5 (by decide) ?_
  exact L 24 0 _ (fun i => decide (i = e)) rfl (bm_pow (by omega)) hZ
set_option maxHeartbeats 4000000 in
set_option maxRecDepth 100000 in
theorem c_X4_isTight (l : Launch) (E : gm_E) (σ : gm_S) (n : Nat) (ps : Nat → Bool) (U V : Nat → Nat) (hM : mG σ n ps U V) (H : Nat → Bool) (hb : bm (σ.1 5 3) H) (k : Nat) (hk : k < 7) (a b : Nat) (ha : a < 10) (hb2 : b < 10) : gm_MI l E yX4_isTight (.code yX4_isTight cX4_isTight 4 (some .boolean) :: gw_T) { frames := 2, cells := 0, slots := 0, locals := 52 } [.ref (E.2.2 5), .int (nI k), .int (nI a), .int (nI b)] σ (fun r σ2 => r = (if tgt n U V H k a b = true then 1 else 0) ∧ σ2 = σ) := by
  refine gm_enterI RX4 (by decide +kernel) rfl rfl (Nat.le_of_ble_eq_true rfl) (gm_c1_ok rfl) ?_
  intro X hC hR
  show gm_G X E 4 0 [some (.ref (E.2.2 5)), some (.int (nI k)), some (.int (nI a)), some (.int (nI b))] [] σ
  obtain ⟨g1, g2, g3, g4, g5, g6, g7⟩ := id hM
  refine gi_ildn hC dX4_isTight_0 rfl ?_
  refine gi_ildn hC dX4_isTight_1 rfl ?_
  refine gi_icmp_eq hC 19 dX4_isTight_2 (by decide) (fun h1 => ?_) (fun h1 => ?_)
  ·
    have hab : a = b := (nI_eq (by omega) (by omega)).mp h1
    refine gi_const hC (v := 1) dX4_isTight_19 (by decide) ?_
    refine gi_goto hC 24 dX4_isTight_20 (by decide) ?_
    exact hR _ _ _ _ (by decide +kernel) ⟨by rw [if_pos (by simp [tgt, hab])], rfl⟩ dX4_isTight_24
  ·
    have hab : a ≠ b := fun z => h1 (by rw [z])
    refine gi_aldn hC dX4_isTight_5 rfl ?_
    refine gi_aldn hC dX4_isTight_6 rfl ?_
    refine gf_M_heldBits hC gw_319 dX4_isTight_7 ?_
    refine gi_ildn hC dX4_isTight_10 rfl ?_
    refine gi_ildn hC dX4_isTight_11 rfl ?_
    refine gi_ildn hC dX4_isTight_12 rfl ?_
    refine gk_VI (n := 4) hC (fun l => c_X4_fits l E σ n g1 g2 g3 U V g5 _ H hb k hk (some (a, b)) (ab_some ha hb2)) (gm_o4 E) rfl (gw_V gw_389 gw_391 gw_12 gw_28 gw_392) rfl ⟨rfl, rfl⟩ rfl (by decide +kernel) ⟨by decide, by decide⟩ (Nat.le_of_ble_eq_true rfl) dX4_isTight_13 (fun r σ3 h3 => ?_)
    obtain ⟨h3, rfl⟩ := h3
    cases hft : ftb n U V H k (some (a, b)) with
    | true =>
      rw [hft, if_pos rfl] at h3
      subst h3
      refine gi_if_ne hC 23 dX4_isTight_16 (by decide) (fun h4 => ?_) (fun h4 => ?_)
      ·
        refine gi_const hC (v := 0) dX4_isTight_23 (by decide) ?_
        exact hR _ _ _ _ (by decide +kernel) ⟨by rw [if_neg (by simp [tgt, hab, hft])], rfl⟩ dX4_isTight_24
      · exact absurd h4 (by decide)
    | false =>
      rw [hft, if_neg Bool.false_ne_true] at h3
      subst h3
      refine gi_if_ne hC 23 dX4_isTight_16 (by decide) (fun h4 => ?_) (fun h4 => ?_)
      · exact absurd rfl h4
      ·
        refine gi_const hC (v := 1) dX4_isTight_19 (by decide) ?_
        refine gi_goto hC 24 dX4_isTight_20 (by decide) ?_
        exact hR _ _ _ _ (by decide +kernel) ⟨by rw [if_pos (by simp [tgt, hft])], rfl⟩ dX4_isTight_24
set_option maxHeartbeats 4000000 in
set_option maxRecDepth 100000 in
theorem c_X4_tight (l : Launch) (E : gm_E) (σ : gm_S) (n : Nat) (ps : Nat → Bool) (U V : Nat → Nat) (hM : mG σ n ps U V) (k a b : Int32) : gm_MI l E yX4_tight (.code yX4_tight cX4_tight 4 (some .int) :: gw_T) { frames := 3, cells := 0, slots := 0, locals := 75 } [.ref (E.2.2 5), .int k, .int a, .int b] σ (fun r σ2 => hFR σ σ2 ∧ ((r = -2 ∧ ¬ ((∃ j, j < 7 ∧ k = nI j) ∧ (∃ i, i < n ∧ a = nI i) ∧ ∃ j, j < n ∧ b = nI j)) ∨ ∃ kk i j, kk < 7 ∧ k = nI kk ∧ i < n ∧ a = nI i ∧ j < n ∧ b = nI j ∧ r = if tgt n U V (hdd n U V ps kk) kk i j = true then 1 else 0)) := by
  refine gm_enterI RX4 (by decide +kernel) rfl rfl (Nat.le_of_ble_eq_true rfl) (gm_c1_ok rfl) ?_
  intro X hC hR
  show gm_G X E 4 0 [some (.ref (E.2.2 5)), some (.int k), some (.int a), some (.int b)] [] σ
  obtain ⟨g1, g2, g3, g4, g5, g6, g7⟩ := id hM
  refine gi_ildn hC dX4_tight_0 rfl ?_
  refine gk_SI (n := 1) hC (fun l => c_X4_isK l E σ k) (gw_S gw_382 gw_383 gw_28 gw_384) rfl ⟨rfl, rfl⟩ rfl (by decide +kernel) ⟨by decide, by decide⟩ (Nat.le_of_ble_eq_true rfl) dX4_tight_1 (fun r σ1 h1 => ?_)
  obtain ⟨h1, rfl⟩ := h1
  refine gi_if_eq hC 23 dX4_tight_4 (by decide) (fun h2 => ?_) (fun h2 => ?_)
  ·
    have hn : ¬ ∃ j, j < 7 ∧ k = nI j := by
      rcases h1 with ⟨z, -⟩ | ⟨-, z⟩
      · rw [z] at h2; exact absurd h2 (by decide)
      · exact z
    refine gi_bipush hC (v := -2) dX4_tight_23 (by decide) ?_
    exact hR _ _ _ _ rfl ⟨gm_fr_rf, Or.inl ⟨rfl, fun z => hn z.1⟩⟩ dX4_tight_25
  ·
    obtain ⟨kk, hk, rfl⟩ : ∃ j, j < 7 ∧ k = nI j := by
      rcases h1 with ⟨-, z⟩ | ⟨z, -⟩
      · exact z
      · exact absurd z h2
    refine gi_aldn hC dX4_tight_7 rfl ?_
    refine gi_ildn hC dX4_tight_8 rfl ?_
    refine gk_VI (n := 1) hC (fun l => c_X4_isVertex l E σ1 n g1 g2 g3 a) (gm_o4 E) rfl (gw_V gw_366 gw_368 gw_9 gw_28 gw_369) rfl ⟨rfl, rfl⟩ rfl (by decide +kernel) ⟨by decide, by decide⟩ (Nat.le_of_ble_eq_true rfl) dX4_tight_9 (fun r3 σ3 h3 => ?_)
    obtain ⟨h3, rfl⟩ := h3
    refine gi_if_eq hC 23 dX4_tight_12 (by decide) (fun h4 => ?_) (fun h4 => ?_)
    ·
      have hn : ¬ ∃ j, j < n ∧ a = nI j := by
        rcases h3 with ⟨z, -⟩ | ⟨-, z⟩
        · rw [z] at h4; exact absurd h4 (by decide)
        · exact z
      refine gi_bipush hC (v := -2) dX4_tight_23 (by decide) ?_
      exact hR _ _ _ _ rfl ⟨gm_fr_rf, Or.inl ⟨rfl, fun z => hn z.2.1⟩⟩ dX4_tight_25
    ·
      obtain ⟨i, hi2, rfl⟩ : ∃ j, j < n ∧ a = nI j := by
        rcases h3 with ⟨-, z⟩ | ⟨z, -⟩
        · exact z
        · exact absurd z h4
      refine gi_aldn hC dX4_tight_15 rfl ?_
      refine gi_ildn hC dX4_tight_16 rfl ?_
      refine gk_VI (n := 1) hC (fun l => c_X4_isVertex l E σ3 n g1 g2 g3 b) (gm_o4 E) rfl (gw_V gw_366 gw_368 gw_9 gw_28 gw_369) rfl ⟨rfl, rfl⟩ rfl (by decide +kernel) ⟨by decide, by decide⟩ (Nat.le_of_ble_eq_true rfl) dX4_tight_17 (fun r5 σ5 h5 => ?_)
      obtain ⟨h5, rfl⟩ := h5
      refine gi_if_ne hC 26 dX4_tight_20 (by decide) (fun h6 => ?_) (fun h6 => ?_)
      ·
        obtain ⟨j, hj, rfl⟩ : ∃ j, j < n ∧ b = nI j := by
          rcases h5 with ⟨-, z⟩ | ⟨z, -⟩
          · exact z
          · exact absurd z h6
        refine gi_aldn hC dX4_tight_26 rfl ?_
        refine gi_ildn hC dX4_tight_27 rfl ?_
        refine gk_VV (n := 1) hC (fun l => c_X4_hold l E σ5 n ps U V hM kk hk) (gm_o4 E) rfl (gw_V gw_385 gw_387 gw_11 gw_28 gw_388) rfl ⟨rfl, rfl⟩ rfl (by decide +kernel) ⟨by decide, by decide⟩ (Nat.le_of_ble_eq_true rfl) dX4_tight_28 (fun σ7 h7 => ?_)
        refine gi_aldn hC dX4_tight_31 rfl ?_
        refine gi_ildn hC dX4_tight_32 rfl ?_
        refine gi_ildn hC dX4_tight_33 rfl ?_
        refine gi_ildn hC dX4_tight_34 rfl ?_
        refine gk_VI (n := 3) hC (fun l => c_X4_isTight l E σ7 n ps U V (mG_h h7.1 hM) _ h7.2 kk hk i j (by omega) (by omega)) (gm_o4 E) rfl (gw_V gw_444 gw_446 gw_21 gw_28 gw_447) rfl ⟨rfl, rfl⟩ rfl (by decide +kernel) ⟨by decide, by decide⟩ (Nat.le_of_ble_eq_true rfl) dX4_tight_35 (fun r8 σ8 h8 => ?_)
        obtain ⟨h8, rfl⟩ := h8
        refine gi_if_eq hC 45 dX4_tight_38 (by decide) (fun h9 => ?_) (fun h9 => ?_)
        ·
          refine gi_const hC (v := 0) dX4_tight_45 (by decide) ?_
          refine hR _ _ _ _ rfl ⟨h7.1, Or.inr ⟨kk, i, j, hk, rfl, hi2, rfl, hj, rfl, ?_⟩⟩ dX4_tight_46
          rw [← h8, h9]
        ·
          refine gi_const hC (v := 1) dX4_tight_41 (by decide) ?_
          refine gi_goto hC 46 dX4_tight_42 (by decide) ?_
          refine hR _ _ _ _ rfl ⟨h7.1, Or.inr ⟨kk, i, j, hk, rfl, hi2, rfl, hj, rfl, ?_⟩⟩ dX4_tight_46
          by_cases ht : tgt n U V (hdd n U V ps kk) kk i j = true
          · rw [if_pos ht]
          · rw [if_neg ht] at h8; exact absurd h8 h9
      ·
        have hn : ¬ ∃ j, j < n ∧ b = nI j := by
          rcases h5 with ⟨z, -⟩ | ⟨-, z⟩
          · rw [z] at h6; exact absurd h6 (by decide)
          · exact z
        refine gi_bipush hC (v := -2) dX4_tight_23 (by decide) ?_
        exact hR _ _ _ _ rfl ⟨gm_fr_rf, Or.inl ⟨rfl, fun z => hn z.2.2⟩⟩ dX4_tight_25
end
section
/-! THE REFERENCE: join, why, classes, crossing, arboricity, dense, spanning, told -/
def marb (n : Nat) (U V : Nat → Nat) (ps : Nat → Bool) (r : Int32) : Prop := (∃ kk, kk < 7 ∧ r = nI kk ∧ cnt_lp (hdd n U V ps kk) 24 0 0 = cnt_lp ps 24 0 0 ∧ ∀ k2, k2 < kk → cnt_lp (hdd n U V ps k2) 24 0 0 ≠ cnt_lp ps 24 0 0) ∨ (r = -1 ∧ ∀ k2, k2 < 7 → cnt_lp (hdd n U V ps k2) 24 0 0 ≠ cnt_lp ps 24 0 0)
theorem cnt_eq {P Q : Nat → Bool} : ∀ n e c, (∀ i, e ≤ i → i < e + n → P i = Q i) → cnt_lp P n e c = cnt_lp Q n e c
  | 0, _, _, _ => rfl
  | n + 1, e, c, h => by
    rw [cnt_lp, cnt_lp, h e (Nat.le_refl e) (by omega)]
    split
    · exact cnt_eq n (e + 1) (c + 1) (fun i h1 h2 => h i (by omega) (by omega))
    · exact cnt_eq n (e + 1) c (fun i h1 h2 => h i (by omega) (by omega))
theorem cnt_lt24 (P : Nat → Bool) : cnt_lp P 24 0 0 ≤ 24 := by have := cnt_lp_le P 24 0 0; omega
theorem hd_sub (n : Nat) (U V : Nat → Nat) (ps : Nat → Bool) (k : Nat) : ∀ m e S, (∀ i, S i = true → ps i = true) → ∀ i, hd_lp n U V ps k m e S i = true → ps i = true
  | 0, _, _, h, i, hi => h i hi
  | m + 1, e, S, h, i, hi => by
    rw [hd_lp] at hi
    split at hi
    · rename_i hc
      refine hd_sub n U V ps k m (e + 1) _ (fun j hj => ?_) i hi
      simp only [Bool.or_eq_true, decide_eq_true_eq] at hj
      rcases hj with hj | hj
      · exact h j hj
      · rw [hj]; exact hc.1
    · exact hd_sub n U V ps k m (e + 1) S h i hi
theorem hdd_sub {n : Nat} {U V : Nat → Nat} {ps : Nat → Bool} {k i : Nat} (h : hdd n U V ps k i = true) : ps i = true := hd_sub n U V ps k 24 0 _ (fun _ z => by cases z) i h
theorem hdd_ex {n : Nat} {U V : Nat → Nat} {ps : Nat → Bool} {k : Nat} (h : cnt_lp (hdd n U V ps k) 24 0 0 ≠ cnt_lp ps 24 0 0) : ∃ e, e < 24 ∧ ps e = true ∧ hdd n U V ps k e = false := by
  refine Classical.byContradiction fun hn => h (cnt_eq 24 0 0 fun i _ hi => ?_)
  cases hb : hdd n U V ps k i
  · cases hp : ps i
    · rfl
    · exact absurd ⟨i, by omega, hp, hb⟩ hn
  · exact (hdd_sub hb).symm
/-- nothing fits into no forest -/
theorem ft_zero {n : Nat} {U V : Nat → Nat} {S : Nat → Bool} {e : Nat} (he : e < 24) (hS : S e = true) (hU : U e < n) (hV : V e < n) : ftb n U V S 0 none = false := by
  cases hb : ftb n U V S 0 none
  · rfl
  · exfalso
    have hp1 : (2 ^ U e ||| 2 ^ V e).testBit (U e) = true := by rw [Nat.testBit_or, Nat.testBit_two_pow_self]; rfl
    have hp2 : (2 ^ U e ||| 2 ^ V e).testBit (V e) = true := by rw [Nat.testBit_or, Nat.testBit_two_pow_self]; simp
    have hlt : 2 ^ U e ||| 2 ^ V e < 2 ^ n := Nat.or_lt_two_pow (Nat.pow_lt_pow_right (by omega) hU) (Nat.pow_lt_pow_right (by omega) hV)
    have hpos : 1 ≤ 2 ^ U e ||| 2 ^ V e := by
      rcases Nat.eq_zero_or_pos (2 ^ U e ||| 2 ^ V e) with z | z
      · rw [z] at hp1; simp at hp1
      · exact z
    have h1 := ftb_iff.mp hb _ hpos hlt
    have h2 := cnt_lp_pos (P := fun d => S d && (2 ^ U e ||| 2 ^ V e).testBit (U d) && (2 ^ U e ||| 2 ^ V e).testBit (V d)) (i := e) (by rw [hS, hp1, hp2]; rfl) 24 0 (m0 (2 ^ U e ||| 2 ^ V e) none) (Nat.zero_le _) (by omega)
    unfold wcn at h1
    omega
theorem hd_zero {n : Nat} {U V : Nat → Nat} {ps : Nat → Bool} (hp : ∀ e, ps e = true → U e < V e ∧ V e < n) : ∀ m e, e + m ≤ 24 → hd_lp n U V ps 0 m e (fun _ => false) = (fun _ => false)
  | 0, _, _ => rfl
  | m + 1, e, h => by
    rw [hd_lp, if_neg]
    · exact hd_zero hp m (e + 1) (by omega)
    · rintro ⟨h1, h2⟩
      have := hp e h1
      rw [ft_zero (e := e) (by omega) (by simp) (by omega) (by omega)] at h2
      cases h2
theorem cnt_none : ∀ n e c, cnt_lp (fun _ => false) n e c = c
  | 0, _, _ => rfl
  | n + 1, e, c => by rw [cnt_lp, if_neg Bool.false_ne_true]; exact cnt_none n (e + 1) c
set_option maxHeartbeats 4000000 in
set_option maxRecDepth 100000 in
theorem c_X4_join (l : Launch) (E : gm_E) (σ : gm_S) (n : Nat) (ps : Nat → Bool) (U V : Nat → Nat) (hM : mG σ n ps U V) (a b : Int32) : gm_MI l E yX4_join (.code yX4_join cX4_join 4 (some .int) :: gw_T) { frames := 2, cells := 0, slots := 0, locals := 43 } [.ref (E.2.2 5), .int a, .int b] σ (fun r σ2 => mFR σ σ2 ∧ ((r = -2 ∧ (¬ ∃ i j, i < n ∧ j < n ∧ i ≠ j ∧ a = nI i ∧ b = nI j) ∧ mG σ2 n ps U V) ∨ ∃ i j, i < n ∧ j < n ∧ i ≠ j ∧ a = nI i ∧ b = nI j ∧ ((r = -3 ∧ (∀ e, e < 24 → ps e = true) ∧ mG σ2 n ps U V) ∨ ∃ e, e < 24 ∧ r = nI e ∧ ps e = false ∧ (∀ d, d < e → ps d = true) ∧ mG σ2 n (fun d => ps d || decide (d = e)) (va_up U e (min i j)) (va_up V e (max i j))))) := by
  refine gm_enterI RX4 (by decide +kernel) rfl rfl (Nat.le_of_ble_eq_true rfl) (gm_c1_ok rfl) ?_
  intro X hC hR
  show gm_G X E 4 0 [some (.ref (E.2.2 5)), some (.int a), some (.int b), none] [] σ
  obtain ⟨g1, g2, g3, g4, g5, g6, g7⟩ := id hM
  refine gi_aldn hC dX4_join_0 rfl ?_
  refine gi_ildn hC dX4_join_1 rfl ?_
  refine gk_VI (n := 1) hC (fun l => c_X4_isVertex l E σ n g1 g2 g3 a) (gm_o4 E) rfl (gw_V gw_366 gw_368 gw_9 gw_28 gw_369) rfl ⟨rfl, rfl⟩ rfl (by decide +kernel) ⟨by decide, by decide⟩ (Nat.le_of_ble_eq_true rfl) dX4_join_2 (fun r1 σ1 h1 => ?_)
  obtain ⟨h1, rfl⟩ := h1
  refine gi_if_eq hC 21 dX4_join_5 (by decide) (fun h2 => ?_) (fun h2 => ?_)
  ·
    have hn : ¬ ∃ j, j < n ∧ a = nI j := by
      rcases h1 with ⟨z, -⟩ | ⟨-, z⟩
      · rw [z] at h2; exact absurd h2 (by decide)
      · exact z
    refine gi_bipush hC (v := -2) dX4_join_21 (by decide) ?_
    exact hR _ _ _ _ rfl ⟨mFR_rf, Or.inl ⟨rfl, fun ⟨i, j, c1, c2, c3, c4, c5⟩ => hn ⟨i, c1, c4⟩, hM⟩⟩ dX4_join_23
  ·
    obtain ⟨i, hi, rfl⟩ : ∃ j, j < n ∧ a = nI j := by
      rcases h1 with ⟨-, z⟩ | ⟨z, -⟩
      · exact z
      · exact absurd z h2
    refine gi_aldn hC dX4_join_8 rfl ?_
    refine gi_ildn hC dX4_join_9 rfl ?_
    refine gk_VI (n := 1) hC (fun l => c_X4_isVertex l E σ1 n g1 g2 g3 b) (gm_o4 E) rfl (gw_V gw_366 gw_368 gw_9 gw_28 gw_369) rfl ⟨rfl, rfl⟩ rfl (by decide +kernel) ⟨by decide, by decide⟩ (Nat.le_of_ble_eq_true rfl) dX4_join_10 (fun r2 σ2 h3 => ?_)
    obtain ⟨h3, rfl⟩ := h3
    refine gi_if_eq hC 21 dX4_join_13 (by decide) (fun h4 => ?_) (fun h4 => ?_)
    ·
      have hn : ¬ ∃ j, j < n ∧ b = nI j := by
        rcases h3 with ⟨z, -⟩ | ⟨-, z⟩
        · rw [z] at h4; exact absurd h4 (by decide)
        · exact z
      refine gi_bipush hC (v := -2) dX4_join_21 (by decide) ?_
      exact hR _ _ _ _ rfl ⟨mFR_rf, Or.inl ⟨rfl, fun ⟨i, j, c1, c2, c3, c4, c5⟩ => hn ⟨j, c2, c5⟩, hM⟩⟩ dX4_join_23
    ·
      obtain ⟨j, hj, rfl⟩ : ∃ j, j < n ∧ b = nI j := by
        rcases h3 with ⟨-, z⟩ | ⟨z, -⟩
        · exact z
        · exact absurd z h4
      refine gi_ildn hC dX4_join_16 rfl ?_
      refine gi_ildn hC dX4_join_17 rfl ?_
      refine gi_icmp_ne hC 24 dX4_join_18 (by decide) (fun h5 => ?_) (fun h5 => ?_)
      ·
        have hij : i ≠ j := fun e => h5 (by rw [e])
        have T : ∀ e, e ≤ 24 → (∀ d, d < e → ps d = true) → (e < 24 → ps e = false) → gm_G X E 4 47 [some (.ref (E.2.2 5)), some (.int (nI i)), some (.int (nI j)), some (.int (nI e))] [] σ2 := by
          intro e he0 hd hpe
          refine gi_ildn hC dX4_join_47 rfl ?_
          refine gi_bipush hC (v := 24) dX4_join_48 (by decide) ?_
          refine gi_icmp_ne hC 56 dX4_join_50 (by decide) (fun h6 => ?_) (fun h6 => ?_)
          ·
            have he : e < 24 := by
              rcases Nat.lt_or_ge e 24 with z | z
              · exact z
              · exact absurd (by rw [show e = 24 by omega]; rfl) h6
            have F2 : ∀ (σ3 : gm_S), gm_fr σ2 σ3 (fun x _ => x = 5) (fun y => 6 ≤ y ∧ y ≤ 14) → σ3.1 = σ2.1 → (∀ d, d < 24 → d ≠ e → σ3.2 6 (2 * d) = σ2.2 6 (2 * d) ∧ σ3.2 6 (2 * d + 1) = σ2.2 6 (2 * d + 1)) → σ3.2 6 (2 * e) = nI (min i j) → (∀ d, σ3.2 7 d = if d = e then 1 else σ2.2 7 d) → gm_G X E 4 81 [some (.ref (E.2.2 5)), some (.int (nI i)), some (.int (nI j)), some (.int (nI e))] [] σ3 := by
              intro σ3 a1 a2 a3 a4 a5
              have F3 : gm_G X E 4 100 [some (.ref (E.2.2 5)), some (.int (nI i)), some (.int (nI j)), some (.int (nI e))] [.int (nI (max i j)), .int (2 * nI e + 1), .ref (E.2.2 6)] σ3 := by
                refine gi_iast hC (gm_i6 E) (j := 2 * e + 1) (by omega) (by rw [show (2 : Int32) = nI 2 from rfl, pk_mul, nI_1]) (by first | decide | omega) dX4_join_100 ?_
                refine gi_ildn hC dX4_join_101 rfl ?_
                refine hR _ _ _ _ rfl ⟨gm_fr_tr a1 (gm_fr_ar (by omega)), Or.inr ⟨i, j, hi, hj, hij, rfl, rfl, Or.inr ⟨e, he, rfl, hpe he, hd, g1, g2, by rw [gm_ar_1, a2]; exact g3, fun d hd2 => ?_, fun d hd2 => ?_, fun d hd2 => ?_, fun d hd2 => ?_⟩⟩⟩ dX4_join_102
                · rw [gm_ar_n _ _ (by omega), a5]
                  by_cases hde : d = e
                  · subst hde; simp
                  · rw [if_neg hde, g4 d hd2]; simp [hde]
                · by_cases hde : d = e
                  · subst hde
                    rw [va_up_self, va_up_self, gm_ar_n _ _ (by omega), gm_ar_2]
                    exact ⟨a4, rfl, by omega, by omega⟩
                  · rw [va_up_ne _ _ hde, va_up_ne _ _ hde, gm_ar_n _ _ (by omega), gm_ar_n _ _ (by omega), (a3 d hd2 hde).1, (a3 d hd2 hde).2]
                    exact g5 d hd2
                · show (ps d || decide (d = e)) = false
                  rw [g6 d hd2]; simp; omega
                · by_cases hde : d = e
                  · subst hde
                    rw [va_up_self, va_up_self]
                    omega
                  · rw [va_up_ne _ _ hde, va_up_ne _ _ hde]
                    exact g7 d (by simpa [hde] using hd2)
              refine gi_aldn hC dX4_join_81 rfl ?_
              refine gf_M_ends hC gw_317 dX4_join_82 ?_
              refine gi_const hC (v := 2) dX4_join_85 (by decide) ?_
              refine gi_ildn hC dX4_join_86 rfl ?_
              refine gi_imul hC dX4_join_87 ?_
              refine gi_const hC (v := 1) dX4_join_88 (by decide) ?_
              refine gi_iadd hC dX4_join_89 ?_
              refine gi_ildn hC dX4_join_90 rfl ?_
              refine gi_ildn hC dX4_join_91 rfl ?_
              refine gi_icmp_ge hC 99 dX4_join_92 (by decide) (fun h8 => ?_) (fun h8 => ?_)
              ·
                rw [nI_leI (by omega) (by omega)] at h8
                refine gi_ildn hC dX4_join_99 rfl ?_
                have hm : max i j = i := Nat.max_eq_left h8
                rw [hm] at F3
                exact F3
              ·
                rw [nI_leI (by omega) (by omega)] at h8
                refine gi_ildn hC dX4_join_95 rfl ?_
                refine gi_goto hC 100 dX4_join_96 (by decide) ?_
                have hm : max i j = j := Nat.max_eq_right (by omega)
                rw [hm] at F3
                exact F3
            have F1 : gm_G X E 4 80 [some (.ref (E.2.2 5)), some (.int (nI i)), some (.int (nI j)), some (.int (nI e))] [.int (nI (min i j)), .int (2 * nI e), .ref (E.2.2 6)] (gm_ar σ2 7 e 1) := by
              refine gi_iast hC (gm_i6 E) (j := 2 * e) (by omega) (by rw [show (2 : Int32) = nI 2 from rfl, pk_mul]) (by first | decide | omega) dX4_join_80 ?_
              refine F2 _ (gm_fr_tr (gm_fr_ar (by omega)) (gm_fr_ar (by omega))) rfl (fun d hd2 hde => ?_) (gm_ar_2 _ _ _ _) (fun d => ?_)
              · rw [gm_ar_n _ _ (by omega), gm_ar_n _ _ (by omega), gm_ar_n _ _ (by omega), gm_ar_n _ _ (by omega)]
                exact ⟨rfl, rfl⟩
              · rw [gm_ar_r _ _ (by omega)]
                by_cases hde : d = e
                · subst hde; rw [gm_ar_2, if_pos rfl]
                · rw [gm_ar_n _ _ (fun z => hde z.2), if_neg hde]
            refine gi_aldn hC dX4_join_56 rfl ?_
            refine gf_M_isEdge hC gw_318 dX4_join_57 ?_
            refine gi_ildn hC dX4_join_60 rfl ?_
            refine gi_const hC (v := 1) dX4_join_61 (by decide) ?_
            refine gi_zast hC (gm_i7 E) he rfl (Or.inr rfl) (by decide) dX4_join_62 ?_
            refine gi_aldn hC dX4_join_63 rfl ?_
            refine gf_M_ends hC gw_317 dX4_join_64 ?_
            refine gi_const hC (v := 2) dX4_join_67 (by decide) ?_
            refine gi_ildn hC dX4_join_68 rfl ?_
            refine gi_imul hC dX4_join_69 ?_
            refine gi_ildn hC dX4_join_70 rfl ?_
            refine gi_ildn hC dX4_join_71 rfl ?_
            refine gi_icmp_ge hC 79 dX4_join_72 (by decide) (fun h7 => ?_) (fun h7 => ?_)
            ·
              rw [nI_leI (by omega) (by omega)] at h7
              refine gi_ildn hC dX4_join_79 rfl ?_
              have hm : min i j = j := Nat.min_eq_right h7
              rw [hm] at F1
              exact F1
            ·
              rw [nI_leI (by omega) (by omega)] at h7
              refine gi_ildn hC dX4_join_75 rfl ?_
              refine gi_goto hC 80 dX4_join_76 (by decide) ?_
              have hm : min i j = i := Nat.min_eq_left (by omega)
              rw [hm] at F1
              exact F1
          ·
            have he : e = 24 := (nI_eq (b := 24) (by omega) (by omega)).mp h6
            subst he
            refine gi_bipush hC (v := -3) dX4_join_53 (by decide) ?_
            exact hR _ _ _ _ rfl ⟨mFR_rf, Or.inr ⟨i, j, hi, hj, hij, rfl, rfl, Or.inl ⟨rfl, hd, hM⟩⟩⟩ dX4_join_55
        have L : ∀ m e, e + m = 24 → (∀ d, d < e → ps d = true) → gm_G X E 4 26 [some (.ref (E.2.2 5)), some (.int (nI i)), some (.int (nI j)), some (.int (nI e))] [] σ2 := by
          intro m
          induction m with
          | zero =>
            intro e he hd
            have he : e = 24 := by omega
            subst he
            refine gi_ildn hC dX4_join_26 rfl ?_
            refine gi_bipush hC (v := 24) dX4_join_27 (by decide) ?_
            refine gi_icmp_ge hC 47 dX4_join_29 (by decide) (fun h6 => ?_) (fun h6 => ?_)
            · exact T 24 (by decide) hd (fun z => by omega)
            · exact absurd (Int32.le_refl _) h6
          | succ m ih =>
            intro e he hd
            have hze := g4 e (by omega)
            refine gi_ildn hC dX4_join_26 rfl ?_
            refine gi_bipush hC (v := 24) dX4_join_27 (by decide) ?_
            refine gi_icmp_ge hC 47 dX4_join_29 (by decide) (fun h6 => ?_) (fun h6 => ?_)
            · exact absurd h6 (nI_ge (a := e) (b := 24) (by omega) (by omega))
            ·
              refine gi_aldn hC dX4_join_32 rfl ?_
              refine gf_M_isEdge hC gw_318 dX4_join_33 ?_
              refine gi_ildn hC dX4_join_36 rfl ?_
              refine gi_zald hC (gm_i7 E) (j := e) (by omega) rfl (by first | decide | omega) dX4_join_37 ?_
              rw [hze]
              refine gi_if_eq hC 47 dX4_join_38 (by decide) (fun h7 => ?_) (fun h7 => ?_)
              · exact T e (by omega) hd (fun _ => by
                cases hb : ps e
                · rfl
                · rw [hb] at h7; exact absurd h7 (by decide))
              ·
                refine gi_iinc_3 hC dX4_join_41 (nI_1 e) (by decide) ?_
                refine gi_goto hC 26 dX4_join_44 (by decide) ?_
                exact ih (e + 1) (by omega) (fun d hd2 => by
                  by_cases z : d = e
                  · subst z
                    cases hb : ps d
                    · rw [hb] at h7; exact absurd rfl h7
                    · rfl
                  · exact hd d (by omega))
        refine gi_const hC (v := 0) dX4_join_24 (by decide) ?_
        refine gi_istn_3 hC dX4_join_25 (by decide) ?_
        exact L 24 0 rfl (fun d hd => absurd hd (Nat.not_lt_zero d))
      ·
        have hij : i = j := (nI_eq (by omega) (by omega)).mp h5
        refine gi_bipush hC (v := -2) dX4_join_21 (by decide) ?_
        exact hR _ _ _ _ rfl ⟨mFR_rf, Or.inl ⟨rfl, fun ⟨i2, j2, c1, c2, c3, c4, c5⟩ => c3 (by rw [← (nI_eq (by omega) (by omega)).mp c4, ← (nI_eq (by omega) (by omega)).mp c5, hij]), hM⟩⟩ dX4_join_23
set_option maxHeartbeats 4000000 in
set_option maxRecDepth 100000 in
theorem c_X4_why (l : Launch) (E : gm_E) (σ : gm_S) (n : Nat) (ps : Nat → Bool) (U V : Nat → Nat) (hM : mG σ n ps U V) (k a f : Int32) : gm_MI l E yX4_why (.code yX4_why cX4_why 7 (some .int) :: gw_T) { frames := 3, cells := 0, slots := 0, locals := 76 } [.ref (E.2.2 5), .int k, .int a, .int f] σ (fun r σ2 => hFR σ σ2 ∧ ((r = -2 ∧ ¬ ∃ j, j < 7 ∧ k = nI j) ∨ ∃ kk, kk < 7 ∧ k = nI kk ∧ ((r = -1 ∧ ¬ ((∃ e, e < 24 ∧ a = nI e ∧ ps e = true) ∧ (f = -1 ∨ ∃ e, e < 24 ∧ f = nI e ∧ ps e = true))) ∨ ∃ e, e < 24 ∧ a = nI e ∧ ps e = true ∧ (f = -1 ∨ ∃ d, d < 24 ∧ f = nI d ∧ ps d = true) ∧ ((hdd n U V ps kk e = true ∧ r = -1) ∨ (hdd n U V ps kk e = false ∧ ((f = -1 ∧ r = nI (cnt_lp (wyb n U V (hdd n U V ps kk) kk e) 24 0 0)) ∨ ∃ d, d < 24 ∧ f = nI d ∧ r = if wyb n U V (hdd n U V ps kk) kk e d = true then 1 else 0)))))) := by
  refine gm_enterI RX4 (by decide +kernel) rfl rfl (Nat.le_of_ble_eq_true rfl) (gm_c1_ok rfl) ?_
  intro X hC hR
  show gm_G X E 7 0 [some (.ref (E.2.2 5)), some (.int k), some (.int a), some (.int f), none, none, none] [] σ
  obtain ⟨g1, g2, g3, g4, g5, g6, g7⟩ := id hM
  refine gi_ildn hC dX4_why_0 rfl ?_
  refine gk_SI (n := 1) hC (fun l => c_X4_isK l E σ k) (gw_S gw_382 gw_383 gw_28 gw_384) rfl ⟨rfl, rfl⟩ rfl (by decide +kernel) ⟨by decide, by decide⟩ (Nat.le_of_ble_eq_true rfl) dX4_why_1 (fun r σ1 h1 => ?_)
  obtain ⟨h1, rfl⟩ := h1
  refine gi_if_ne hC 10 dX4_why_4 (by decide) (fun h2 => ?_) (fun h2 => ?_)
  ·
    obtain ⟨kk, hk, rfl⟩ : ∃ j, j < 7 ∧ k = nI j := by
      rcases h1 with ⟨-, z⟩ | ⟨z, -⟩
      · exact z
      · exact absurd z h2
    refine gi_aldn hC dX4_why_10 rfl ?_
    refine gi_ildn hC dX4_why_11 rfl ?_
    refine gk_VI (n := 1) hC (fun l => c_X4_has l E σ1 ps g4 a) (gm_o4 E) rfl (gw_V gw_374 gw_376 gw_10 gw_28 gw_377) rfl ⟨rfl, rfl⟩ rfl (by decide +kernel) ⟨by decide, by decide⟩ (Nat.le_of_ble_eq_true rfl) dX4_why_12 (fun r3 σ3 h3 => ?_)
    obtain ⟨h3, rfl⟩ := h3
    have KK : ∀ e, e < 24 → a = nI e → ps e = true → (f = -1 ∨ ∃ d, d < 24 ∧ f = nI d ∧ ps d = true) → ∀ w4 w5 w6 : Option Value, gm_G X E 7 33 [some (.ref (E.2.2 5)), some (.int (nI kk)), some (.int a), some (.int f), w4, w5, w6] [] σ3 := by
      intro e he ha hpe hf w4 w5 w6
      subst ha
      refine gi_aldn hC dX4_why_33 rfl ?_
      refine gi_ildn hC dX4_why_34 rfl ?_
      refine gk_VV (n := 1) hC (fun l => c_X4_hold l E σ3 n ps U V hM kk hk) (gm_o4 E) rfl (gw_V gw_385 gw_387 gw_11 gw_28 gw_388) rfl ⟨rfl, rfl⟩ rfl (by decide +kernel) ⟨by decide, by decide⟩ (Nat.le_of_ble_eq_true rfl) dX4_why_35 (fun σ5 h5 => ?_)
      refine gi_aldn hC dX4_why_38 rfl ?_
      refine gf_M_heldBits hC gw_319 dX4_why_39 ?_
      refine gi_ildn hC dX4_why_42 rfl ?_
      refine gi_ishr hC dX4_why_43 ?_
      refine gi_const hC (v := 1) dX4_why_44 (by decide) ?_
      refine gi_iand hC dX4_why_45 ?_
      refine gi_const hC (v := 1) dX4_why_46 (by decide) ?_
      rw [bm_tst h5.2 (by omega)]
      refine gi_icmp_ne hC 52 dX4_why_47 (by decide) (fun h6 => ?_) (fun h6 => ?_)
      ·
        have hh : hdd n U V ps kk e = false := by
          cases hb : hdd n U V ps kk e
          · rfl
          · rw [hb] at h6; exact absurd rfl h6
        refine gi_aldn hC dX4_why_52 rfl ?_
        refine gi_ildn hC dX4_why_53 rfl ?_
        refine gi_ildn hC dX4_why_54 rfl ?_
        refine gk_VI (n := 2) hC (fun l => c_X4_whyBits l E σ5 n ps U V (mG_h h5.1 hM) _ h5.2 kk hk e he) (gm_o4 E) rfl (gw_V gw_436 gw_438 gw_20 gw_28 gw_439) rfl ⟨rfl, rfl⟩ rfl (by decide +kernel) ⟨by decide, by decide⟩ (Nat.le_of_ble_eq_true rfl) dX4_why_55 (fun y σ7 h7 => ?_)
        obtain ⟨h7, rfl⟩ := h7
        obtain ⟨Z, hZ⟩ : ∃ Z, Z = cnt_lp (wyb n U V (hdd n U V ps kk) kk e) 24 0 0 := ⟨_, rfl⟩
        have L : ∀ m i c, i + m = 24 → Z = cnt_lp (wyb n U V (hdd n U V ps kk) kk e) m i c → gm_G X E 7 66 [some (.ref (E.2.2 5)), some (.int (nI kk)), some (.int (nI e)), some (.int f), some (.int y), some (.int (nI c)), some (.int (nI i))] [] σ7 := by
          intro m
          induction m with
          | zero =>
            intro i c hi0 hw
            have hi0 : i = 24 := by omega
            subst hi0
            rw [cnt_lp] at hw
            refine gi_ild hC dX4_why_66 rfl ?_
            refine gi_bipush hC (v := 24) dX4_why_68 (by decide) ?_
            refine gi_icmp_ge hC 91 dX4_why_70 (by decide) (fun h8 => ?_) (fun h8 => ?_)
            ·
              refine gi_ildn hC dX4_why_91 rfl ?_
              refine gi_const hC (v := -1) dX4_why_92 (by decide) ?_
              refine gi_icmp_ne hC 101 dX4_why_93 (by decide) (fun h9 => ?_) (fun h9 => ?_)
              ·
                obtain ⟨d, hd, rfl, hpd⟩ := hf.elim (fun z => absurd z h9) id
                refine gi_ild hC dX4_why_101 rfl ?_
                refine gi_ildn hC dX4_why_103 rfl ?_
                refine gi_ishr hC dX4_why_104 ?_
                refine gi_const hC (v := 1) dX4_why_105 (by decide) ?_
                refine gi_iand hC dX4_why_106 ?_
                rw [bm_tst h7 (by omega)]
                exact hR _ _ _ _ rfl ⟨h5.1, Or.inr ⟨kk, hk, rfl, Or.inr ⟨e, he, rfl, hpe, hf, Or.inr ⟨hh, Or.inr ⟨d, hd, rfl, rfl⟩⟩⟩⟩⟩ dX4_why_107
              ·
                subst h9
                refine gi_ild hC dX4_why_96 rfl ?_
                refine gi_goto hC 107 dX4_why_98 (by decide) ?_
                exact hR _ _ _ _ rfl ⟨h5.1, Or.inr ⟨kk, hk, rfl, Or.inr ⟨e, he, rfl, hpe, hf, Or.inr ⟨hh, Or.inl ⟨rfl, by rw [← hZ, hw]⟩⟩⟩⟩⟩ dX4_why_107
            · exact absurd (Int32.le_refl _) h8
          | succ m ih =>
            intro i c hi0 hw
            rw [cnt_lp] at hw
            refine gi_ild hC dX4_why_66 rfl ?_
            refine gi_bipush hC (v := 24) dX4_why_68 (by decide) ?_
            refine gi_icmp_ge hC 91 dX4_why_70 (by decide) (fun h8 => ?_) (fun h8 => ?_)
            · exact absurd h8 (nI_ge (a := i) (b := 24) (by omega) (by omega))
            ·
              refine gi_ild hC dX4_why_73 rfl ?_
              refine gi_ild hC dX4_why_75 rfl ?_
              refine gi_ild hC dX4_why_77 rfl ?_
              refine gi_ishr hC dX4_why_79 ?_
              refine gi_const hC (v := 1) dX4_why_80 (by decide) ?_
              refine gi_iand hC dX4_why_81 ?_
              rw [bm_tst h7 (by omega)]
              by_cases hq : wyb n U V (hdd n U V ps kk) kk e i = true
              ·
                rw [if_pos hq] at hw ⊢
                refine gi_iadd hC dX4_why_82 ?_
                rw [nI_1]
                refine gi_ist_5 hC dX4_why_83 (by decide) ?_
                refine gi_iinc_6 hC dX4_why_85 (nI_1 i) (by decide) ?_
                refine gi_goto hC 66 dX4_why_88 (by decide) ?_
                exact ih (i + 1) (c + 1) (by omega) hw
              ·
                rw [if_neg hq] at hw ⊢
                refine gi_iadd hC dX4_why_82 ?_
                rw [Int32.add_zero]
                refine gi_ist_5 hC dX4_why_83 (by decide) ?_
                refine gi_iinc_6 hC dX4_why_85 (nI_1 i) (by decide) ?_
                refine gi_goto hC 66 dX4_why_88 (by decide) ?_
                exact ih (i + 1) c (by omega) hw
        refine gi_ist_4 hC dX4_why_58 (by decide) ?_
        refine gi_const hC (v := 0) dX4_why_60 (by decide) ?_
        refine gi_ist_5 hC dX4_why_61 (by decide) ?_
        refine gi_const hC (v := 0) dX4_why_63 (by decide) ?_
        refine gi_ist_6 hC dX4_why_64 (by decide) ?_
        exact L 24 0 0 rfl hZ
      ·
        have hh : hdd n U V ps kk e = true := by
          cases hb : hdd n U V ps kk e
          · rw [hb] at h6; exact absurd h6 (by decide)
          · rfl
        refine gi_const hC (v := -1) dX4_why_50 (by decide) ?_
        exact hR _ _ _ _ rfl ⟨h5.1, Or.inr ⟨kk, hk, rfl, Or.inr ⟨e, he, rfl, hpe, hf, Or.inl ⟨hh, rfl⟩⟩⟩⟩ dX4_why_51
    refine gi_if_eq hC 31 dX4_why_15 (by decide) (fun h4 => ?_) (fun h4 => ?_)
    ·
      have hna : ¬ ∃ j, j < 24 ∧ a = nI j ∧ ps j = true := by
        rcases h3 with ⟨z, -⟩ | ⟨-, z⟩
        · rw [z] at h4; exact absurd h4 (by decide)
        · exact z
      refine gi_const hC (v := -1) dX4_why_31 (by decide) ?_
      exact hR _ _ _ _ rfl ⟨gm_fr_rf, Or.inr ⟨kk, hk, rfl, Or.inl ⟨rfl, fun z => hna z.1⟩⟩⟩ dX4_why_32
    ·
      obtain ⟨e, he, ha, hpe⟩ : ∃ j, j < 24 ∧ a = nI j ∧ ps j = true := by
        rcases h3 with ⟨-, z⟩ | ⟨z, -⟩
        · exact z
        · exact absurd z h4
      refine gi_ildn hC dX4_why_18 rfl ?_
      refine gi_const hC (v := -1) dX4_why_19 (by decide) ?_
      refine gi_icmp_eq hC 33 dX4_why_20 (by decide) (fun h5 => ?_) (fun h5 => ?_)
      · exact KK e he ha hpe (Or.inl h5) _ _ _
      ·
        refine gi_aldn hC dX4_why_23 rfl ?_
        refine gi_ildn hC dX4_why_24 rfl ?_
        refine gk_VI (n := 1) hC (fun l => c_X4_has l E σ3 ps g4 f) (gm_o4 E) rfl (gw_V gw_374 gw_376 gw_10 gw_28 gw_377) rfl ⟨rfl, rfl⟩ rfl (by decide +kernel) ⟨by decide, by decide⟩ (Nat.le_of_ble_eq_true rfl) dX4_why_25 (fun r6 σ6 h6 => ?_)
        obtain ⟨h6, rfl⟩ := h6
        refine gi_if_ne hC 33 dX4_why_28 (by decide) (fun h7 => ?_) (fun h7 => ?_)
        ·
          have hf : ∃ j, j < 24 ∧ f = nI j ∧ ps j = true := by
            rcases h6 with ⟨-, z⟩ | ⟨z, -⟩
            · exact z
            · exact absurd z h7
          exact KK e he ha hpe (Or.inr hf) _ _ _
        ·
          have hnf : ¬ ∃ j, j < 24 ∧ f = nI j ∧ ps j = true := by
            rcases h6 with ⟨z, -⟩ | ⟨-, z⟩
            · rw [z] at h7; exact absurd h7 (by decide)
            · exact z
          refine gi_const hC (v := -1) dX4_why_31 (by decide) ?_
          exact hR _ _ _ _ rfl ⟨gm_fr_rf, Or.inr ⟨kk, hk, rfl, Or.inl ⟨rfl, fun z => z.2.elim h5 hnf⟩⟩⟩ dX4_why_32
  ·
    have hn : ¬ ∃ j, j < 7 ∧ k = nI j := by
      rcases h1 with ⟨z, -⟩ | ⟨-, z⟩
      · rw [z] at h2; exact absurd h2 (by decide)
      · exact z
    refine gi_bipush hC (v := -2) dX4_why_7 (by decide) ?_
    exact hR _ _ _ _ rfl ⟨gm_fr_rf, Or.inl ⟨rfl, hn⟩⟩ dX4_why_9
end
section
/-! THE REFERENCE: classes, crossing, arboricity, dense, spanning, told -/
set_option maxHeartbeats 4000000 in
set_option maxRecDepth 100000 in
theorem c_X4_classes (l : Launch) (E : gm_E) (σ : gm_S) (n : Nat) (ps : Nat → Bool) (U V : Nat → Nat) (hM : mG σ n ps U V) (k : Int32) : gm_MI l E yX4_classes (.code yX4_classes cX4_classes 6 (some .int) :: gw_T) { frames := 3, cells := 0, slots := 0, locals := 75 } [.ref (E.2.2 5), .int k] σ (fun r σ2 => hFR σ σ2 ∧ ((r = -2 ∧ ¬ ∃ j, j < 7 ∧ k = nI j) ∨ ∃ kk, kk < 7 ∧ k = nI kk ∧ r = nI (mcl_lp n U V (hdd n U V ps kk) kk n 0 0))) := by
  refine gm_enterI RX4 (by decide +kernel) rfl rfl (Nat.le_of_ble_eq_true rfl) (gm_c1_ok rfl) ?_
  intro X hC hR
  show gm_G X E 6 0 [some (.ref (E.2.2 5)), some (.int k), none, none, none, none] [] σ
  obtain ⟨g1, g2, g3, g4, g5, g6, g7⟩ := id hM
  refine gi_ildn hC dX4_classes_0 rfl ?_
  refine gk_SI (n := 1) hC (fun l => c_X4_isK l E σ k) (gw_S gw_382 gw_383 gw_28 gw_384) rfl ⟨rfl, rfl⟩ rfl (by decide +kernel) ⟨by decide, by decide⟩ (Nat.le_of_ble_eq_true rfl) dX4_classes_1 (fun r σ1 h1 => ?_)
  obtain ⟨h1, rfl⟩ := h1
  refine gi_if_ne hC 10 dX4_classes_4 (by decide) (fun h2 => ?_) (fun h2 => ?_)
  ·
    obtain ⟨kk, hk, rfl⟩ : ∃ j, j < 7 ∧ k = nI j := by
      rcases h1 with ⟨-, z⟩ | ⟨z, -⟩
      · exact z
      · exact absurd z h2
    refine gi_aldn hC dX4_classes_10 rfl ?_
    refine gi_ildn hC dX4_classes_11 rfl ?_
    refine gk_VV (n := 1) hC (fun l => c_X4_hold l E σ1 n ps U V hM kk hk) (gm_o4 E) rfl (gw_V gw_385 gw_387 gw_11 gw_28 gw_388) rfl ⟨rfl, rfl⟩ rfl (by decide +kernel) ⟨by decide, by decide⟩ (Nat.le_of_ble_eq_true rfl) dX4_classes_12 (fun σ2 h3 => ?_)
    obtain ⟨hf, hb⟩ := h3
    have hM2 := mG_h hf hM
    obtain ⟨H, hH⟩ : ∃ H, H = hdd n U V ps kk := ⟨_, rfl⟩
    rw [← hH] at hb
    obtain ⟨Z, hZ⟩ : ∃ Z, Z = mcl_lp n U V H kk n 0 0 := ⟨_, rfl⟩
    have hfin : ∀ c, c = Z → ∀ lo, gm_G X E 6 88 lo [.int (nI c)] σ2 := fun c hc lo => hR _ _ _ _ rfl ⟨hf, Or.inr ⟨kk, hk, rfl, by rw [← hH, ← hZ, hc]⟩⟩ dX4_classes_88
    have hn3 : σ2.1 5 0 = nI n := hM2.2.2.1
    have LI : ∀ m a b (rr : Bool) c, a < n → b + m = a → (∀ r2 : Bool, r2 = fst_lp n U V H kk a m b rr → ∀ w5 : Option Value, gm_G X E 6 68 [some (.ref (E.2.2 5)), some (.int (nI kk)), some (.int (nI c)), some (.int (nI a)), some (.int (if r2 = true then 1 else 0)), w5] [] σ2) → gm_G X E 6 33 [some (.ref (E.2.2 5)), some (.int (nI kk)), some (.int (nI c)), some (.int (nI a)), some (.int (if rr = true then 1 else 0)), some (.int (nI b))] [] σ2 := by
      intro m
      induction m with
      | zero =>
        intro a b rr c ha hb0 KK
        have hb0 : b = a := by omega
        subst hb0
        refine gi_ild hC dX4_classes_33 rfl ?_
        refine gi_ildn hC dX4_classes_35 rfl ?_
        refine gi_icmp_ge hC 68 dX4_classes_36 (by decide) (fun h5 => ?_) (fun h5 => ?_)
        · exact KK rr rfl _
        · exact absurd (Int32.le_refl _) h5
      | succ m ih =>
        intro a b rr c ha hb0 KK
        refine gi_ild hC dX4_classes_33 rfl ?_
        refine gi_ildn hC dX4_classes_35 rfl ?_
        refine gi_icmp_ge hC 68 dX4_classes_36 (by decide) (fun h5 => ?_) (fun h5 => ?_)
        · exact absurd h5 (nI_ge (a := b) (b := a) (by omega) (by omega))
        ·
          have NX : ∀ r2 : Bool, r2 = (rr && !tgt n U V H kk a b) → ∀ w4 : Option Value, gm_G X E 6 60 [some (.ref (E.2.2 5)), some (.int (nI kk)), some (.int (nI c)), some (.int (nI a)), w4, some (.int (nI b))] [.int (if r2 = true then 1 else 0)] σ2 := by
            intro r2 hr2 w4
            refine gi_ist_4 hC dX4_classes_60 (by decide) ?_
            refine gi_iinc_5 hC dX4_classes_62 (nI_1 b) (by decide) ?_
            refine gi_goto hC 33 dX4_classes_65 (by decide) ?_
            exact ih a (b + 1) r2 c ha (by omega) (fun r3 h3 w5 => KK r3 (by rw [fst_lp, ← hr2]; exact h3) w5)
          refine gi_ild hC dX4_classes_39 rfl ?_
          refine gi_if_eq hC 59 dX4_classes_41 (by decide) (fun h6 => ?_) (fun h6 => ?_)
          ·
            have hrr : rr = false := by
              cases rr
              · rfl
              · exact absurd h6 (by decide)
            refine gi_const hC (v := 0) dX4_classes_59 (by decide) ?_
            exact NX false (by rw [hrr]; rfl) _
          ·
            have hrr : rr = true := by
              cases rr
              · exact absurd rfl h6
              · rfl
            refine gi_aldn hC dX4_classes_44 rfl ?_
            refine gi_ildn hC dX4_classes_45 rfl ?_
            refine gi_ildn hC dX4_classes_46 rfl ?_
            refine gi_ild hC dX4_classes_47 rfl ?_
            refine gk_VI (n := 3) hC (fun l => c_X4_isTight l E σ2 n ps U V hM2 H hb kk hk a b (by omega) (by omega)) (gm_o4 E) rfl (gw_V gw_444 gw_446 gw_21 gw_28 gw_447) rfl ⟨rfl, rfl⟩ rfl (by decide +kernel) ⟨by decide, by decide⟩ (Nat.le_of_ble_eq_true rfl) dX4_classes_49 (fun r7 σ7 h7 => ?_)
            obtain ⟨h7, rfl⟩ := h7
            cases ht : tgt n U V H kk a b with
            | true =>
              rw [ht, if_pos rfl] at h7
              subst h7
              refine gi_if_ne hC 59 dX4_classes_52 (by decide) (fun h8 => ?_) (fun h8 => ?_)
              ·
                refine gi_const hC (v := 0) dX4_classes_59 (by decide) ?_
                exact NX false (by rw [hrr, ht]; rfl) _
              · exact absurd h8 (by decide)
            | false =>
              rw [ht, if_neg Bool.false_ne_true] at h7
              subst h7
              refine gi_if_ne hC 59 dX4_classes_52 (by decide) (fun h8 => ?_) (fun h8 => ?_)
              · exact absurd rfl h8
              ·
                refine gi_const hC (v := 1) dX4_classes_55 (by decide) ?_
                refine gi_goto hC 60 dX4_classes_56 (by decide) ?_
                exact NX true (by rw [hrr, ht]; rfl) _
    have LO : ∀ m a c (w4 w5 : Option Value), a + m = n → Z = mcl_lp n U V H kk m a c → gm_G X E 6 19 [some (.ref (E.2.2 5)), some (.int (nI kk)), some (.int (nI c)), some (.int (nI a)), w4, w5] [] σ2 := by
      intro m
      induction m with
      | zero =>
        intro a c w4 w5 ha hw
        have ha : a = n := by omega
        subst ha
        rw [mcl_lp] at hw
        refine gi_ildn hC dX4_classes_19 rfl ?_
        refine gi_aldn hC dX4_classes_20 rfl ?_
        refine gf_M_n hC gw_316 dX4_classes_21 ?_
        rw [hn3]
        refine gi_icmp_ge hC 87 dX4_classes_24 (by decide) (fun h5 => ?_) (fun h5 => ?_)
        ·
          refine gi_ildn hC dX4_classes_87 rfl ?_
          exact hfin c hw.symm _
        · exact absurd (Int32.le_refl _) h5
      | succ m ih =>
        intro a c w4 w5 ha hw
        rw [mcl_lp] at hw
        refine gi_ildn hC dX4_classes_19 rfl ?_
        refine gi_aldn hC dX4_classes_20 rfl ?_
        refine gf_M_n hC gw_316 dX4_classes_21 ?_
        rw [hn3]
        refine gi_icmp_ge hC 87 dX4_classes_24 (by decide) (fun h5 => ?_) (fun h5 => ?_)
        · exact absurd h5 (nI_ge (a := a) (b := n) (by omega) (by omega))
        ·
          refine gi_const hC (v := 1) dX4_classes_27 (by decide) ?_
          refine gi_ist_4 hC dX4_classes_28 (by decide) ?_
          refine gi_const hC (v := 0) dX4_classes_30 (by decide) ?_
          refine gi_ist_5 hC dX4_classes_31 (by decide) ?_
          refine LI a a 0 true c (by omega) (by omega) (fun r2 hr2 w5 => ?_)
          rw [← hr2] at hw
          cases r2 with
          | true =>
            rw [if_pos rfl] at hw
            refine gi_ild hC dX4_classes_68 rfl ?_
            refine gi_if_eq hC 79 dX4_classes_70 (by decide) (fun h6 => ?_) (fun h6 => ?_)
            · exact absurd h6 (by decide)
            ·
              refine gi_ildn hC dX4_classes_73 rfl ?_
              refine gi_const hC (v := 1) dX4_classes_74 (by decide) ?_
              refine gi_iadd hC dX4_classes_75 ?_
              rw [nI_1]
              refine gi_goto hC 80 dX4_classes_76 (by decide) ?_
              refine gi_istn_2 hC dX4_classes_80 (by decide) ?_
              refine gi_iinc_3 hC dX4_classes_81 (nI_1 a) (by decide) ?_
              refine gi_goto hC 19 dX4_classes_84 (by decide) ?_
              exact ih (a + 1) (c + 1) _ _ (by omega) hw
          | false =>
            rw [if_neg Bool.false_ne_true] at hw
            refine gi_ild hC dX4_classes_68 rfl ?_
            refine gi_if_eq hC 79 dX4_classes_70 (by decide) (fun h6 => ?_) (fun h6 => ?_)
            ·
              refine gi_ildn hC dX4_classes_79 rfl ?_
              refine gi_istn_2 hC dX4_classes_80 (by decide) ?_
              refine gi_iinc_3 hC dX4_classes_81 (nI_1 a) (by decide) ?_
              refine gi_goto hC 19 dX4_classes_84 (by decide) ?_
              exact ih (a + 1) c _ _ (by omega) hw
            · exact absurd rfl h6
    refine gi_const hC (v := 0) dX4_classes_15 (by decide) ?_
    refine gi_istn_2 hC dX4_classes_16 (by decide) ?_
    refine gi_const hC (v := 0) dX4_classes_17 (by decide) ?_
    refine gi_istn_3 hC dX4_classes_18 (by decide) ?_
    exact LO n 0 0 _ _ (by omega) hZ
  ·
    have hn : ¬ ∃ j, j < 7 ∧ k = nI j := by
      rcases h1 with ⟨z, -⟩ | ⟨-, z⟩
      · rw [z] at h2; exact absurd h2 (by decide)
      · exact z
    refine gi_bipush hC (v := -2) dX4_classes_7 (by decide) ?_
    exact hR _ _ _ _ rfl ⟨gm_fr_rf, Or.inl ⟨rfl, hn⟩⟩ dX4_classes_9
set_option maxHeartbeats 4000000 in
set_option maxRecDepth 100000 in
theorem c_X4_crossing (l : Launch) (E : gm_E) (σ : gm_S) (n : Nat) (ps : Nat → Bool) (U V : Nat → Nat) (hM : mG σ n ps U V) (k : Int32) : gm_MI l E yX4_crossing (.code yX4_crossing cX4_crossing 4 (some .int) :: gw_T) { frames := 3, cells := 0, slots := 0, locals := 75 } [.ref (E.2.2 5), .int k] σ (fun r σ2 => hFR σ σ2 ∧ ((r = -2 ∧ ¬ ∃ j, j < 7 ∧ k = nI j) ∨ ∃ kk, kk < 7 ∧ k = nI kk ∧ r = nI (mcr_lp n U V ps (hdd n U V ps kk) kk 24 0 0))) := by
  refine gm_enterI RX4 (by decide +kernel) rfl rfl (Nat.le_of_ble_eq_true rfl) (gm_c1_ok rfl) ?_
  intro X hC hR
  show gm_G X E 4 0 [some (.ref (E.2.2 5)), some (.int k), none, none] [] σ
  obtain ⟨g1, g2, g3, g4, g5, g6, g7⟩ := id hM
  refine gi_ildn hC dX4_crossing_0 rfl ?_
  refine gk_SI (n := 1) hC (fun l => c_X4_isK l E σ k) (gw_S gw_382 gw_383 gw_28 gw_384) rfl ⟨rfl, rfl⟩ rfl (by decide +kernel) ⟨by decide, by decide⟩ (Nat.le_of_ble_eq_true rfl) dX4_crossing_1 (fun r σ1 h1 => ?_)
  obtain ⟨h1, rfl⟩ := h1
  refine gi_if_ne hC 10 dX4_crossing_4 (by decide) (fun h2 => ?_) (fun h2 => ?_)
  ·
    obtain ⟨kk, hk, rfl⟩ : ∃ j, j < 7 ∧ k = nI j := by
      rcases h1 with ⟨-, z⟩ | ⟨z, -⟩
      · exact z
      · exact absurd z h2
    refine gi_aldn hC dX4_crossing_10 rfl ?_
    refine gi_ildn hC dX4_crossing_11 rfl ?_
    refine gk_VV (n := 1) hC (fun l => c_X4_hold l E σ1 n ps U V hM kk hk) (gm_o4 E) rfl (gw_V gw_385 gw_387 gw_11 gw_28 gw_388) rfl ⟨rfl, rfl⟩ rfl (by decide +kernel) ⟨by decide, by decide⟩ (Nat.le_of_ble_eq_true rfl) dX4_crossing_12 (fun σ2 h3 => ?_)
    obtain ⟨hf, hb⟩ := h3
    have hM2 := mG_h hf hM
    obtain ⟨k1, k2, k3, k4, k5, k6, k7⟩ := id hM2
    obtain ⟨H, hH⟩ : ∃ H, H = hdd n U V ps kk := ⟨_, rfl⟩
    rw [← hH] at hb
    obtain ⟨Z, hZ⟩ : ∃ Z, Z = mcr_lp n U V ps H kk 24 0 0 := ⟨_, rfl⟩
    have L : ∀ m i c, i + m = 24 → Z = mcr_lp n U V ps H kk m i c → gm_G X E 4 19 [some (.ref (E.2.2 5)), some (.int (nI kk)), some (.int (nI c)), some (.int (nI i))] [] σ2 := by
      intro m
      induction m with
      | zero =>
        intro i c hi0 hw
        have hi0 : i = 24 := by omega
        subst hi0
        rw [mcr_lp] at hw
        refine gi_ildn hC dX4_crossing_19 rfl ?_
        refine gi_bipush hC (v := 24) dX4_crossing_20 (by decide) ?_
        refine gi_icmp_ge hC 74 dX4_crossing_22 (by decide) (fun h5 => ?_) (fun h5 => ?_)
        ·
          refine gi_ildn hC dX4_crossing_74 rfl ?_
          exact hR _ _ _ _ rfl ⟨hf, Or.inr ⟨kk, hk, rfl, by rw [← hH, ← hZ, hw]⟩⟩ dX4_crossing_75
        · exact absurd (Int32.le_refl _) h5
      | succ m ih =>
        intro i c hi0 hw
        rw [mcr_lp] at hw
        have hzi := k4 i (by omega)
        obtain ⟨e1, e2, e3, e4⟩ := k5 i (by omega)
        have N : ¬ (ps i = true ∧ tgt n U V H kk (U i) (V i) = false) → gm_G X E 4 66 [some (.ref (E.2.2 5)), some (.int (nI kk)), some (.int (nI c)), some (.int (nI i))] [] σ2 := by
          intro hx
          rw [if_neg hx] at hw
          refine gi_ildn hC dX4_crossing_66 rfl ?_
          refine gi_istn_2 hC dX4_crossing_67 (by decide) ?_
          refine gi_iinc_3 hC dX4_crossing_68 (nI_1 i) (by decide) ?_
          refine gi_goto hC 19 dX4_crossing_71 (by decide) ?_
          exact ih (i + 1) c (by omega) hw
        refine gi_ildn hC dX4_crossing_19 rfl ?_
        refine gi_bipush hC (v := 24) dX4_crossing_20 (by decide) ?_
        refine gi_icmp_ge hC 74 dX4_crossing_22 (by decide) (fun h5 => ?_) (fun h5 => ?_)
        · exact absurd h5 (nI_ge (a := i) (b := 24) (by omega) (by omega))
        ·
          refine gi_aldn hC dX4_crossing_25 rfl ?_
          refine gf_M_isEdge hC gw_318 dX4_crossing_26 ?_
          refine gi_ildn hC dX4_crossing_29 rfl ?_
          refine gi_zald hC (gm_i7 E) (j := i) (by omega) rfl (by first | decide | omega) dX4_crossing_30 ?_
          rw [hzi]
          refine gi_if_eq hC 66 dX4_crossing_31 (by decide) (fun h6 => ?_) (fun h6 => ?_)
          · exact N (fun z => by rw [if_pos z.1] at h6; exact absurd h6 (by decide))
          ·
            have hpi : ps i = true := by
              cases hbb : ps i
              · rw [hbb] at h6; exact absurd rfl h6
              · rfl
            refine gi_aldn hC dX4_crossing_34 rfl ?_
            refine gi_ildn hC dX4_crossing_35 rfl ?_
            refine gi_aldn hC dX4_crossing_36 rfl ?_
            refine gf_M_ends hC gw_317 dX4_crossing_37 ?_
            refine gi_const hC (v := 2) dX4_crossing_40 (by decide) ?_
            refine gi_ildn hC dX4_crossing_41 rfl ?_
            refine gi_imul hC dX4_crossing_42 ?_
            refine gi_iald hC (gm_i6 E) (j := 2 * i) (by omega) (by rw [show (2 : Int32) = nI 2 from rfl, pk_mul]) (by first | decide | omega) dX4_crossing_43 ?_
            refine gi_aldn hC dX4_crossing_44 rfl ?_
            refine gf_M_ends hC gw_317 dX4_crossing_45 ?_
            refine gi_const hC (v := 2) dX4_crossing_48 (by decide) ?_
            refine gi_ildn hC dX4_crossing_49 rfl ?_
            refine gi_imul hC dX4_crossing_50 ?_
            refine gi_const hC (v := 1) dX4_crossing_51 (by decide) ?_
            refine gi_iadd hC dX4_crossing_52 ?_
            refine gi_iald hC (gm_i6 E) (j := 2 * i + 1) (by omega) (by rw [show (2 : Int32) = nI 2 from rfl, pk_mul, nI_1]) (by first | decide | omega) dX4_crossing_53 ?_
            rw [e1, e2]
            refine gk_VI (n := 3) hC (fun l => c_X4_isTight l E σ2 n ps U V hM2 H hb kk hk (U i) (V i) e3 e4) (gm_o4 E) rfl (gw_V gw_444 gw_446 gw_21 gw_28 gw_447) rfl ⟨rfl, rfl⟩ rfl (by decide +kernel) ⟨by decide, by decide⟩ (Nat.le_of_ble_eq_true rfl) dX4_crossing_54 (fun r7 σ7 h7 => ?_)
            obtain ⟨h7, rfl⟩ := h7
            cases ht : tgt n U V H kk (U i) (V i) with
            | true =>
              rw [ht, if_pos rfl] at h7
              subst h7
              refine gi_if_ne hC 66 dX4_crossing_57 (by decide) (fun h8 => ?_) (fun h8 => ?_)
              · exact N (fun z => by rw [ht] at z; cases z.2)
              · exact absurd h8 (by decide)
            | false =>
              rw [ht, if_neg Bool.false_ne_true] at h7
              subst h7
              rw [if_pos ⟨hpi, ht⟩] at hw
              refine gi_if_ne hC 66 dX4_crossing_57 (by decide) (fun h8 => ?_) (fun h8 => ?_)
              · exact absurd rfl h8
              ·
                refine gi_ildn hC dX4_crossing_60 rfl ?_
                refine gi_const hC (v := 1) dX4_crossing_61 (by decide) ?_
                refine gi_iadd hC dX4_crossing_62 ?_
                rw [nI_1]
                refine gi_goto hC 67 dX4_crossing_63 (by decide) ?_
                refine gi_istn_2 hC dX4_crossing_67 (by decide) ?_
                refine gi_iinc_3 hC dX4_crossing_68 (nI_1 i) (by decide) ?_
                refine gi_goto hC 19 dX4_crossing_71 (by decide) ?_
                exact ih (i + 1) (c + 1) (by omega) hw
    refine gi_const hC (v := 0) dX4_crossing_15 (by decide) ?_
    refine gi_istn_2 hC dX4_crossing_16 (by decide) ?_
    refine gi_const hC (v := 0) dX4_crossing_17 (by decide) ?_
    refine gi_istn_3 hC dX4_crossing_18 (by decide) ?_
    exact L 24 0 0 rfl hZ
  ·
    have hn : ¬ ∃ j, j < 7 ∧ k = nI j := by
      rcases h1 with ⟨z, -⟩ | ⟨-, z⟩
      · rw [z] at h2; exact absurd h2 (by decide)
      · exact z
    refine gi_bipush hC (v := -2) dX4_crossing_7 (by decide) ?_
    exact hR _ _ _ _ rfl ⟨gm_fr_rf, Or.inl ⟨rfl, hn⟩⟩ dX4_crossing_9
set_option maxHeartbeats 4000000 in
set_option maxRecDepth 100000 in
theorem c_X4_arboricity (l : Launch) (E : gm_E) (σ : gm_S) (n : Nat) (ps : Nat → Bool) (U V : Nat → Nat) (hM : mG σ n ps U V)  : gm_MI l E yX4_arboricity (.code yX4_arboricity cX4_arboricity 3 (some .int) :: gw_T) { frames := 4, cells := 0, slots := 0, locals := 95 } [.ref (E.2.2 5)] σ (fun r σ2 => hFR σ σ2 ∧ marb n U V ps r) := by
  refine gm_enterI RX4 (by decide +kernel) rfl rfl (Nat.le_of_ble_eq_true rfl) (gm_c1_ok rfl) ?_
  intro X hC hR
  show gm_G X E 3 0 [some (.ref (E.2.2 5)), none, none] [] σ
  obtain ⟨g1, g2, g3, g4, g5, g6, g7⟩ := id hM
  have hP24 := cnt_lt24 ps
  have L : ∀ m kk (σ3 : gm_S), kk + m = 7 → hFR σ σ3 → (∀ k2, k2 < kk → cnt_lp (hdd n U V ps k2) 24 0 0 ≠ cnt_lp ps 24 0 0) → gm_G X E 3 7 [some (.ref (E.2.2 5)), some (.int (nI (cnt_lp ps 24 0 0))), some (.int (nI kk))] [] σ3 := by
    intro m
    induction m with
    | zero =>
      intro kk σ3 hv hf hw
      have hv : kk = 7 := by omega
      subst hv
      refine gi_ildn hC dX4_arboricity_7 rfl ?_
      refine gi_bipush hC (v := 6) dX4_arboricity_8 (by decide) ?_
      refine gi_icmp_gt hC 30 dX4_arboricity_10 (by decide) (fun h5 => ?_) (fun h5 => ?_)
      ·
        refine gi_const hC (v := -1) dX4_arboricity_30 (by decide) ?_
        exact hR _ _ _ _ rfl ⟨hf, Or.inr ⟨rfl, hw⟩⟩ dX4_arboricity_31
      · exact absurd (by decide) h5
    | succ m ih =>
      intro kk σ3 hv hf hw
      have hk : kk < 7 := by omega
      have hH24 := cnt_lt24 (hdd n U V ps kk)
      refine gi_ildn hC dX4_arboricity_7 rfl ?_
      refine gi_bipush hC (v := 6) dX4_arboricity_8 (by decide) ?_
      refine gi_icmp_gt hC 30 dX4_arboricity_10 (by decide) (fun h5 => ?_) (fun h5 => ?_)
      · exact absurd h5 (nI_nlt (a := 6) (b := kk) (by omega) (by omega))
      ·
        refine gi_aldn hC dX4_arboricity_13 rfl ?_
        refine gi_ildn hC dX4_arboricity_14 rfl ?_
        refine gk_VI (n := 1) hC (fun l => c_X4_most l E σ3 n ps U V (mG_h hf hM) (nI kk)) (gm_o4 E) rfl (gw_V gw_460 gw_379 gw_380 gw_28 gw_381) rfl ⟨rfl, rfl⟩ rfl (by decide +kernel) ⟨by decide, by decide⟩ (Nat.le_of_ble_eq_true rfl) dX4_arboricity_15 (fun r6 σ6 h6 => ?_)
        obtain ⟨h6f, h6⟩ := h6
        have hf6 := gm_fr_tr hf h6f
        have h6 : r6 = nI (cnt_lp (hdd n U V ps kk) 24 0 0) := by
          rcases h6 with ⟨-, z⟩ | ⟨k2, z1, z2, z3⟩
          · exact absurd ⟨kk, hk, rfl⟩ z
          · rw [(nI_eq (by omega) (by omega)).mp z2]; exact z3
        subst h6
        refine gi_ildn hC dX4_arboricity_18 rfl ?_
        refine gi_icmp_ne hC 24 dX4_arboricity_19 (by decide) (fun h7 => ?_) (fun h7 => ?_)
        ·
          refine gi_iinc_2 hC dX4_arboricity_24 (nI_1 kk) (by decide) ?_
          refine gi_goto hC 7 dX4_arboricity_27 (by decide) ?_
          exact ih (kk + 1) σ6 (by omega) hf6 (fun k2 hk2 => by
            by_cases e : k2 = kk
            · subst e; exact fun z => h7 (by rw [z])
            · exact hw k2 (by omega))
        ·
          refine gi_ildn hC dX4_arboricity_22 rfl ?_
          exact hR _ _ _ _ rfl ⟨hf6, Or.inl ⟨kk, hk, rfl, (nI_eq (by omega) (by omega)).mp h7, hw⟩⟩ dX4_arboricity_23
  refine gi_aldn hC dX4_arboricity_0 rfl ?_
  refine gk_VI (n := 0) hC (fun l => c_X4_many l E σ ps g4) (gm_o4 E) rfl (gw_V gw_358 gw_360 gw_8 gw_28 gw_361) rfl ⟨rfl, rfl⟩ rfl (by decide +kernel) ⟨by decide, by decide⟩ (Nat.le_of_ble_eq_true rfl) dX4_arboricity_1 (fun r1 σ1 h1 => ?_)
  obtain ⟨rfl, rfl⟩ := h1
  refine gi_istn_1 hC dX4_arboricity_4 (by decide) ?_
  refine gi_const hC (v := 0) dX4_arboricity_5 (by decide) ?_
  refine gi_istn_2 hC dX4_arboricity_6 (by decide) ?_
  exact L 7 0 σ1 rfl gm_fr_rf (fun k2 hk2 => absurd hk2 (Nat.not_lt_zero k2))
set_option maxHeartbeats 4000000 in
set_option maxRecDepth 100000 in
theorem c_X4_spanning (l : Launch) (E : gm_E) (σ : gm_S) (n : Nat) (ps : Nat → Bool) (U V : Nat → Nat) (hM : mG σ n ps U V)  : gm_MI l E yX4_spanning (.code yX4_spanning cX4_spanning 2 (some .int) :: gw_T) { frames := 4, cells := 0, slots := 0, locals := 95 } [.ref (E.2.2 5)] σ (fun r σ2 => hFR σ σ2 ∧ ∃ kk, kk < 7 ∧ r = nI kk ∧ cnt_lp (hdd n U V ps kk) 24 0 0 = kk * (n - 1) ∧ ∀ k2, kk < k2 → k2 < 7 → cnt_lp (hdd n U V ps k2) 24 0 0 ≠ k2 * (n - 1)) := by
  refine gm_enterI RX4 (by decide +kernel) rfl rfl (Nat.le_of_ble_eq_true rfl) (gm_c1_ok rfl) ?_
  intro X hC hR
  show gm_G X E 2 0 [some (.ref (E.2.2 5)), none] [] σ
  obtain ⟨g1, g2, g3, g4, g5, g6, g7⟩ := id hM
  have L : ∀ kk (σ3 : gm_S), kk < 7 → hFR σ σ3 → (∀ k2, kk < k2 → k2 < 7 → cnt_lp (hdd n U V ps k2) 24 0 0 ≠ k2 * (n - 1)) → gm_G X E 2 3 [some (.ref (E.2.2 5)), some (.int (nI kk))] [] σ3 := by
    intro kk
    induction kk with
    | zero =>
      intro σ3 hk hf hw
      have hM3 := mG_h hf hM
      have hH24 := cnt_lt24 (hdd n U V ps 0)
      have hkn : 0 * (n - 1) ≤ 6 * 9 := Nat.mul_le_mul (by omega) (by omega)
      refine gi_aldn hC dX4_spanning_3 rfl ?_
      refine gi_ildn hC dX4_spanning_4 rfl ?_
      refine gk_VI (n := 1) hC (fun l => c_X4_most l E σ3 n ps U V hM3 (nI (0))) (gm_o4 E) rfl (gw_V gw_460 gw_379 gw_380 gw_28 gw_381) rfl ⟨rfl, rfl⟩ rfl (by decide +kernel) ⟨by decide, by decide⟩ (Nat.le_of_ble_eq_true rfl) dX4_spanning_5 (fun r6 σ6 h6 => ?_)
      obtain ⟨h6f, h6⟩ := h6
      have hf6 := gm_fr_tr hf h6f
      have h6 : r6 = nI (cnt_lp (hdd n U V ps (0)) 24 0 0) := by
        rcases h6 with ⟨-, z⟩ | ⟨k2, z1, z2, z3⟩
        · exact absurd ⟨0, hk, rfl⟩ z
        · have ez := (nI_eq (by omega) (by omega)).mp z2
          subst ez
          exact z3
      subst h6
      refine gi_ildn hC dX4_spanning_8 rfl ?_
      refine gi_aldn hC dX4_spanning_9 rfl ?_
      refine gf_M_n hC gw_316 dX4_spanning_10 ?_
      rw [(mG_h hf6 hM).2.2.1]
      refine gi_const hC (v := 1) dX4_spanning_13 (by decide) ?_
      refine gi_isub hC dX4_spanning_14 ?_
      refine gi_imul hC dX4_spanning_15 ?_
      rw [show nI n - 1 = nI (n - 1) from by rw [show (1 : Int32) = nI 1 from rfl, pk_sub g1], pk_mul]
      refine gi_icmp_eq hC 25 dX4_spanning_16 (by decide) (fun h7 => ?_) (fun h7 => ?_)
      ·
        refine gi_ildn hC dX4_spanning_25 rfl ?_
        exact hR _ _ _ _ rfl ⟨hf6, 0, hk, rfl, (nI_eq (by omega) (by omega)).mp h7, hw⟩ dX4_spanning_26
      · refine absurd ?_ h7
        rw [Nat.zero_mul, show cnt_lp (hdd n U V ps 0) 24 0 0 = 0 by rw [hdd, hd_zero g7 24 0 (by omega)]; exact cnt_none 24 0 0]
    | succ kk ih =>
      intro σ3 hk hf hw
      have hM3 := mG_h hf hM
      have hH24 := cnt_lt24 (hdd n U V ps (kk + 1))
      have hkn : (kk + 1) * (n - 1) ≤ 6 * 9 := Nat.mul_le_mul (by omega) (by omega)
      refine gi_aldn hC dX4_spanning_3 rfl ?_
      refine gi_ildn hC dX4_spanning_4 rfl ?_
      refine gk_VI (n := 1) hC (fun l => c_X4_most l E σ3 n ps U V hM3 (nI ((kk + 1)))) (gm_o4 E) rfl (gw_V gw_460 gw_379 gw_380 gw_28 gw_381) rfl ⟨rfl, rfl⟩ rfl (by decide +kernel) ⟨by decide, by decide⟩ (Nat.le_of_ble_eq_true rfl) dX4_spanning_5 (fun r6 σ6 h6 => ?_)
      obtain ⟨h6f, h6⟩ := h6
      have hf6 := gm_fr_tr hf h6f
      have h6 : r6 = nI (cnt_lp (hdd n U V ps ((kk + 1))) 24 0 0) := by
        rcases h6 with ⟨-, z⟩ | ⟨k2, z1, z2, z3⟩
        · exact absurd ⟨(kk + 1), hk, rfl⟩ z
        · have ez := (nI_eq (by omega) (by omega)).mp z2
          subst ez
          exact z3
      subst h6
      refine gi_ildn hC dX4_spanning_8 rfl ?_
      refine gi_aldn hC dX4_spanning_9 rfl ?_
      refine gf_M_n hC gw_316 dX4_spanning_10 ?_
      rw [(mG_h hf6 hM).2.2.1]
      refine gi_const hC (v := 1) dX4_spanning_13 (by decide) ?_
      refine gi_isub hC dX4_spanning_14 ?_
      refine gi_imul hC dX4_spanning_15 ?_
      rw [show nI n - 1 = nI (n - 1) from by rw [show (1 : Int32) = nI 1 from rfl, pk_sub g1], pk_mul]
      refine gi_icmp_eq hC 25 dX4_spanning_16 (by decide) (fun h7 => ?_) (fun h7 => ?_)
      ·
        refine gi_ildn hC dX4_spanning_25 rfl ?_
        exact hR _ _ _ _ rfl ⟨hf6, (kk + 1), hk, rfl, (nI_eq (by omega) (by omega)).mp h7, hw⟩ dX4_spanning_26
      ·
        refine gi_iinc_1 hC dX4_spanning_19 (pk_m1 kk) (by decide) ?_
        refine gi_goto hC 3 dX4_spanning_22 (by decide) ?_
        exact ih σ6 (by omega) hf6 (fun k2 z1 z2 => by
          by_cases e : k2 = kk + 1
          · subst e; exact fun z => h7 (by rw [z])
          · exact hw k2 (by omega) z2)
  refine gi_bipush hC (v := 6) dX4_spanning_0 (by decide) ?_
  refine gi_istn_1 hC dX4_spanning_2 (by decide) ?_
  exact L 6 σ (by decide) gm_fr_rf (fun k2 z1 z2 => by omega)
set_option maxHeartbeats 4000000 in
set_option maxRecDepth 100000 in
theorem c_X4_dense (l : Launch) (E : gm_E) (σ : gm_S) (n : Nat) (ps : Nat → Bool) (U V : Nat → Nat) (hM : mG σ n ps U V)  : gm_MI l E yX4_dense (.code yX4_dense cX4_dense 6 (some .int) :: gw_T) { frames := 5, cells := 0, slots := 0, locals := 117 } [.ref (E.2.2 5)] σ (fun r σ2 => hFR σ σ2 ∧ ((r = -1 ∧ marb n U V ps (-1)) ∨ (r = 0 ∧ marb n U V ps (nI 0)) ∨ ∃ kk e, kk + 1 < 7 ∧ marb n U V ps (nI (kk + 1)) ∧ e < 24 ∧ ps e = true ∧ hdd n U V ps kk e = false ∧ (∀ d, d < e → ¬ (ps d = true ∧ hdd n U V ps kk d = false)) ∧ bm r (vs_lp U V (wyb n U V (hdd n U V ps kk) kk e) 24 0 (fun _ => false)))) := by
  refine gm_enterI RX4 (by decide +kernel) rfl rfl (Nat.le_of_ble_eq_true rfl) (gm_c1_ok rfl) ?_
  intro X hC hR
  show gm_G X E 6 0 [some (.ref (E.2.2 5)), none, none, none, none, none] [] σ
  obtain ⟨g1, g2, g3, g4, g5, g6, g7⟩ := id hM
  refine gi_aldn hC dX4_dense_0 rfl ?_
  refine gk_VI (n := 0) hC (fun l => c_X4_arboricity l E σ n ps U V hM) (gm_o4 E) rfl (gw_V gw_465 gw_457 gw_458 gw_28 gw_459) rfl ⟨rfl, rfl⟩ rfl (by decide +kernel) ⟨by decide, by decide⟩ (Nat.le_of_ble_eq_true rfl) dX4_dense_1 (fun r1 σ1 h1 => ?_)
  obtain ⟨h1f, a3⟩ := h1
  refine gi_istn_1 hC dX4_dense_4 (by decide) ?_
  refine gi_ildn hC dX4_dense_5 rfl ?_
  refine gi_const hC (v := 1) dX4_dense_6 (by decide) ?_
  refine gi_icmp_ge hC 12 dX4_dense_7 (by decide) (fun h2 => ?_) (fun h2 => ?_)
  ·
    obtain ⟨kk, hkz, rfl, hne⟩ : ∃ kk, kk + 1 < 7 ∧ r1 = nI (kk + 1) ∧ cnt_lp (hdd n U V ps kk) 24 0 0 ≠ cnt_lp ps 24 0 0 := by
      rcases id a3 with ⟨kz, z1, rfl, z3, z4⟩ | ⟨rfl, -⟩
      · rw [show (1 : Int32) = nI 1 from rfl, nI_leI (by omega) (by omega)] at h2
        exact ⟨kz - 1, by omega, by rw [show kz - 1 + 1 = kz by omega], z4 (kz - 1) (by omega)⟩
      · exact absurd h2 (by decide)
    have hk : kk < 7 := by omega
    refine gi_aldn hC dX4_dense_12 rfl ?_
    refine gi_ildn hC dX4_dense_13 rfl ?_
    refine gi_const hC (v := 1) dX4_dense_14 (by decide) ?_
    refine gi_isub hC dX4_dense_15 ?_
    rw [nI_pred]
    refine gk_VV (n := 1) hC (fun l => c_X4_hold l E σ1 n ps U V (mG_h h1f hM) kk hk) (gm_o4 E) rfl (gw_V gw_385 gw_387 gw_11 gw_28 gw_388) rfl ⟨rfl, rfl⟩ rfl (by decide +kernel) ⟨by decide, by decide⟩ (Nat.le_of_ble_eq_true rfl) dX4_dense_16 (fun σ3 h3 => ?_)
    obtain ⟨h3f, hb⟩ := h3
    have hf := gm_fr_tr h1f h3f
    have hM3 := mG_h hf hM
    obtain ⟨k1, k2, k3, k4, k5, k6, k7⟩ := id hM3
    obtain ⟨e9, e91, e92, e93⟩ := hdd_ex hne
    obtain ⟨H, hH⟩ : ∃ H, H = hdd n U V ps kk := ⟨_, rfl⟩
    rw [← hH] at hb e93
    have LV : ∀ e, e < 24 → ps e = true → H e = false → (∀ d, d < e → ¬ (ps d = true ∧ H d = false)) → ∀ (y : Int32) (S : Nat → Bool), bm y S → S = wyb n U V H kk e → ∀ m i (z : Int32) T, i + m = 24 → bm z T → vs_lp U V S 24 0 (fun _ => false) = vs_lp U V S m i T → gm_G X E 6 63 [some (.ref (E.2.2 5)), some (.int (nI (kk + 1))), some (.int (nI e)), some (.int y), some (.int z), some (.int (nI i))] [] σ3 := by
      intro e he hpe hHe hd y S hy hS
      obtain ⟨Z, hZ⟩ : ∃ Z, Z = vs_lp U V S 24 0 (fun _ => false) := ⟨_, rfl⟩
      rw [← hZ]
      intro m
      induction m with
      | zero =>
        intro i z T hi0 hz hw
        have hi0 : i = 24 := by omega
        subst hi0
        rw [vs_lp] at hw
        refine gi_ild hC dX4_dense_63 rfl ?_
        refine gi_bipush hC (v := 24) dX4_dense_65 (by decide) ?_
        refine gi_icmp_ge hC 121 dX4_dense_67 (by decide) (fun h5 => ?_) (fun h5 => ?_)
        ·
          refine gi_ild hC dX4_dense_121 rfl ?_
          exact hR _ _ _ _ rfl ⟨hf, Or.inr (Or.inr ⟨kk, e, hkz, a3, he, hpe, by rw [← hH]; exact hHe, by rw [← hH]; exact hd, by rw [← hH, ← hS, ← hZ, hw]; exact hz⟩)⟩ dX4_dense_123
        · exact absurd (Int32.le_refl _) h5
      | succ m ih =>
        intro i z T hi0 hz hw
        rw [vs_lp] at hw
        obtain ⟨l1, l2, l3, l4⟩ := k5 i (by omega)
        refine gi_ild hC dX4_dense_63 rfl ?_
        refine gi_bipush hC (v := 24) dX4_dense_65 (by decide) ?_
        refine gi_icmp_ge hC 121 dX4_dense_67 (by decide) (fun h5 => ?_) (fun h5 => ?_)
        · exact absurd h5 (nI_ge (a := i) (b := 24) (by omega) (by omega))
        ·
          refine gi_ildn hC dX4_dense_70 rfl ?_
          refine gi_ild hC dX4_dense_71 rfl ?_
          refine gi_ishr hC dX4_dense_73 ?_
          refine gi_const hC (v := 1) dX4_dense_74 (by decide) ?_
          refine gi_iand hC dX4_dense_75 ?_
          refine gi_const hC (v := 1) dX4_dense_76 (by decide) ?_
          rw [bm_tst hy (by omega)]
          refine gi_icmp_ne hC 111 dX4_dense_77 (by decide) (fun h6 => ?_) (fun h6 => ?_)
          ·
            rw [if_neg (fun q => h6 (by rw [if_pos q]))] at hw
            refine gi_ild hC dX4_dense_111 rfl ?_
            refine gi_ist_4 hC dX4_dense_113 (by decide) ?_
            refine gi_iinc_5 hC dX4_dense_115 (nI_1 i) (by decide) ?_
            refine gi_goto hC 63 dX4_dense_118 (by decide) ?_
            exact ih (i + 1) z T (by omega) hz hw
          ·
            have hSi : S i = true := by
              cases hq : S i
              · rw [hq] at h6; exact absurd h6 (by decide)
              · rfl
            rw [if_pos hSi] at hw
            refine gi_ild hC dX4_dense_80 rfl ?_
            refine gi_const hC (v := 1) dX4_dense_82 (by decide) ?_
            refine gi_aldn hC dX4_dense_83 rfl ?_
            refine gf_M_ends hC gw_317 dX4_dense_84 ?_
            refine gi_const hC (v := 2) dX4_dense_87 (by decide) ?_
            refine gi_ild hC dX4_dense_88 rfl ?_
            refine gi_imul hC dX4_dense_90 ?_
            refine gi_iald hC (gm_i6 E) (j := 2 * i) (by omega) (by rw [show (2 : Int32) = nI 2 from rfl, pk_mul]) (by first | decide | omega) dX4_dense_91 ?_
            rw [l1]
            refine gi_ishl hC dX4_dense_92 ?_
            refine gi_ior hC dX4_dense_93 ?_
            refine gi_const hC (v := 1) dX4_dense_94 (by decide) ?_
            refine gi_aldn hC dX4_dense_95 rfl ?_
            refine gf_M_ends hC gw_317 dX4_dense_96 ?_
            refine gi_const hC (v := 2) dX4_dense_99 (by decide) ?_
            refine gi_ild hC dX4_dense_100 rfl ?_
            refine gi_imul hC dX4_dense_102 ?_
            refine gi_const hC (v := 1) dX4_dense_103 (by decide) ?_
            refine gi_iadd hC dX4_dense_104 ?_
            refine gi_iald hC (gm_i6 E) (j := 2 * i + 1) (by omega) (by rw [show (2 : Int32) = nI 2 from rfl, pk_mul, nI_1]) (by first | decide | omega) dX4_dense_105 ?_
            rw [l2]
            refine gi_ishl hC dX4_dense_106 ?_
            refine gi_ior hC dX4_dense_107 ?_
            refine gi_goto hC 113 dX4_dense_108 (by decide) ?_
            refine gi_ist_4 hC dX4_dense_113 (by decide) ?_
            refine gi_iinc_5 hC dX4_dense_115 (nI_1 i) (by decide) ?_
            refine gi_goto hC 63 dX4_dense_118 (by decide) ?_
            refine ih (i + 1) _ _ (by omega) (bm_eq (bm_or (bm_or hz (bm_pow (n := U i) (by omega))) (bm_pow (n := V i) (by omega))) (fun j _ => ?_)) hw
            exact Bool.or_assoc _ _ _
    have LE : ∀ m e (w3 w4 w5 : Option Value), e + m = e9 → (∀ d, d < e → ¬ (ps d = true ∧ H d = false)) → gm_G X E 6 21 [some (.ref (E.2.2 5)), some (.int (nI (kk + 1))), some (.int (nI e)), w3, w4, w5] [] σ3 := by
      intro m
      induction m with
      | zero =>
        intro e w3 w4 w5 he0 hd
        have he0 : e = e9 := by omega
        subst he0
        have hpe := e92
        have hHe := e93
        have hze := k4 e e91
        rw [if_pos hpe] at hze
        refine gi_aldn hC dX4_dense_21 rfl ?_
        refine gf_M_isEdge hC gw_318 dX4_dense_22 ?_
        refine gi_ildn hC dX4_dense_25 rfl ?_
        refine gi_zald hC (gm_i7 E) (j := e) e91 rfl (by first | decide | omega) dX4_dense_26 ?_
        rw [hze]
        refine gi_if_eq hC 42 dX4_dense_27 (by decide) (fun h5 => ?_) (fun h5 => ?_)
        · exact absurd h5 (by decide)
        ·
          refine gi_aldn hC dX4_dense_30 rfl ?_
          refine gf_M_heldBits hC gw_319 dX4_dense_31 ?_
          refine gi_ildn hC dX4_dense_34 rfl ?_
          refine gi_ishr hC dX4_dense_35 ?_
          refine gi_const hC (v := 1) dX4_dense_36 (by decide) ?_
          refine gi_iand hC dX4_dense_37 ?_
          refine gi_const hC (v := 1) dX4_dense_38 (by decide) ?_
          rw [bm_tst hb (by omega)]
          refine gi_icmp_ne hC 48 dX4_dense_39 (by decide) (fun h6 => ?_) (fun h6 => ?_)
          ·
            refine gi_aldn hC dX4_dense_48 rfl ?_
            refine gi_ildn hC dX4_dense_49 rfl ?_
            refine gi_const hC (v := 1) dX4_dense_50 (by decide) ?_
            refine gi_isub hC dX4_dense_51 ?_
            refine gi_ildn hC dX4_dense_52 rfl ?_
            rw [nI_pred]
            refine gk_VI (n := 2) hC (fun l => c_X4_whyBits l E σ3 n ps U V hM3 H hb kk hk e (by omega)) (gm_o4 E) rfl (gw_V gw_436 gw_438 gw_20 gw_28 gw_439) rfl ⟨rfl, rfl⟩ rfl (by decide +kernel) ⟨by decide, by decide⟩ (Nat.le_of_ble_eq_true rfl) dX4_dense_53 (fun y σ7 h7 => ?_)
            obtain ⟨h7, rfl⟩ := h7
            refine gi_istn_3 hC dX4_dense_56 (by decide) ?_
            refine gi_const hC (v := 0) dX4_dense_57 (by decide) ?_
            refine gi_ist_4 hC dX4_dense_58 (by decide) ?_
            refine gi_const hC (v := 0) dX4_dense_60 (by decide) ?_
            refine gi_ist_5 hC dX4_dense_61 (by decide) ?_
            exact LV e (by omega) hpe hHe hd y _ h7 rfl 24 0 0 (fun _ => false) rfl bm_0 rfl
          · rw [hHe] at h6; exact absurd h6 (by decide)
      | succ m ih =>
        intro e w3 w4 w5 he0 hd
        have hze := k4 e (by omega)
        have NX : ∀ w3 w4 w5 : Option Value, ¬ (ps e = true ∧ H e = false) → gm_G X E 6 42 [some (.ref (E.2.2 5)), some (.int (nI (kk + 1))), some (.int (nI e)), w3, w4, w5] [] σ3 := by
          intro w3 w4 w5 hx
          refine gi_iinc_2 hC dX4_dense_42 (nI_1 e) (by decide) ?_
          refine gi_goto hC 21 dX4_dense_45 (by decide) ?_
          exact ih (e + 1) _ _ _ (by omega) (fun d hd2 => by
            by_cases z : d = e
            · subst z; exact hx
            · exact hd d (by omega))
        refine gi_aldn hC dX4_dense_21 rfl ?_
        refine gf_M_isEdge hC gw_318 dX4_dense_22 ?_
        refine gi_ildn hC dX4_dense_25 rfl ?_
        refine gi_zald hC (gm_i7 E) (j := e) (by omega) rfl (by first | decide | omega) dX4_dense_26 ?_
        rw [hze]
        refine gi_if_eq hC 42 dX4_dense_27 (by decide) (fun h5 => ?_) (fun h5 => ?_)
        · exact NX _ _ _ (fun z => by rw [if_pos z.1] at h5; exact absurd h5 (by decide))
        ·
          have hpe : ps e = true := by
            cases hbb : ps e
            · rw [hbb] at h5; exact absurd rfl h5
            · rfl
          refine gi_aldn hC dX4_dense_30 rfl ?_
          refine gf_M_heldBits hC gw_319 dX4_dense_31 ?_
          refine gi_ildn hC dX4_dense_34 rfl ?_
          refine gi_ishr hC dX4_dense_35 ?_
          refine gi_const hC (v := 1) dX4_dense_36 (by decide) ?_
          refine gi_iand hC dX4_dense_37 ?_
          refine gi_const hC (v := 1) dX4_dense_38 (by decide) ?_
          rw [bm_tst hb (by omega)]
          refine gi_icmp_ne hC 48 dX4_dense_39 (by decide) (fun h6 => ?_) (fun h6 => ?_)
          ·
            have hHe : H e = false := by
              cases hbb : H e
              · rfl
              · rw [hbb] at h6; exact absurd rfl h6
            refine gi_aldn hC dX4_dense_48 rfl ?_
            refine gi_ildn hC dX4_dense_49 rfl ?_
            refine gi_const hC (v := 1) dX4_dense_50 (by decide) ?_
            refine gi_isub hC dX4_dense_51 ?_
            refine gi_ildn hC dX4_dense_52 rfl ?_
            rw [nI_pred]
            refine gk_VI (n := 2) hC (fun l => c_X4_whyBits l E σ3 n ps U V hM3 H hb kk hk e (by omega)) (gm_o4 E) rfl (gw_V gw_436 gw_438 gw_20 gw_28 gw_439) rfl ⟨rfl, rfl⟩ rfl (by decide +kernel) ⟨by decide, by decide⟩ (Nat.le_of_ble_eq_true rfl) dX4_dense_53 (fun y σ7 h7 => ?_)
            obtain ⟨h7, rfl⟩ := h7
            refine gi_istn_3 hC dX4_dense_56 (by decide) ?_
            refine gi_const hC (v := 0) dX4_dense_57 (by decide) ?_
            refine gi_ist_4 hC dX4_dense_58 (by decide) ?_
            refine gi_const hC (v := 0) dX4_dense_60 (by decide) ?_
            refine gi_ist_5 hC dX4_dense_61 (by decide) ?_
            exact LV e (by omega) hpe hHe hd y _ h7 rfl 24 0 0 (fun _ => false) rfl bm_0 rfl
          · exact NX _ _ _ (fun z => by rw [z.2] at h6; exact absurd h6 (by decide))
    refine gi_const hC (v := 0) dX4_dense_19 (by decide) ?_
    refine gi_istn_2 hC dX4_dense_20 (by decide) ?_
    exact LE e9 0 _ _ _ (by omega) (fun d hd => absurd hd (Nat.not_lt_zero d))
  ·
    refine gi_ildn hC dX4_dense_10 rfl ?_
    rcases id a3 with ⟨kz, z1, rfl, z3, z4⟩ | ⟨rfl, -⟩
    · have hkz : kz = 0 := by
        rw [show (1 : Int32) = nI 1 from rfl, nI_leI (by omega) (by omega)] at h2
        omega
      subst hkz
      exact hR _ _ _ _ rfl ⟨h1f, Or.inr (Or.inl ⟨rfl, a3⟩)⟩ dX4_dense_11
    · exact hR _ _ _ _ rfl ⟨h1f, Or.inl ⟨rfl, a3⟩⟩ dX4_dense_11
set_option maxHeartbeats 4000000 in
set_option maxRecDepth 100000 in
theorem c_X4_told (l : Launch) (E : gm_E) (σ : gm_S) (n : Nat) (ps : Nat → Bool) (U V : Nat → Nat) (hM : mG σ n ps U V) (a w : Int32) : gm_MI l E yX4_told (.code yX4_told cX4_told 5 (some .int) :: gw_T) { frames := 2, cells := 0, slots := 0, locals := 43 } [.ref (E.2.2 5), .int a, .int w] σ (fun r σ2 => σ2 = σ ∧ ((r = -2 ∧ ¬ ∃ j, j < 5 ∧ w = nI j) ∨ (w = nI 0 ∧ ((r = -1 ∧ ¬ ∃ e, e < 24 ∧ a = nI e ∧ ps e = true) ∨ ∃ e, e < 24 ∧ a = nI e ∧ ps e = true ∧ r = nI (U e))) ∨ (w = nI 1 ∧ ((r = -1 ∧ ¬ ∃ e, e < 24 ∧ a = nI e ∧ ps e = true) ∨ ∃ e, e < 24 ∧ a = nI e ∧ ps e = true ∧ r = nI (V e))) ∨ (w = nI 2 ∧ r = nI (cnt_lp ps 24 0 0)) ∨ (w = nI 3 ∧ r = nI n) ∨ (w = nI 4 ∧ r = nI (am_lp U V ps (bt a) 24 0 0)))) := by
  refine gm_enterI RX4 (by decide +kernel) rfl rfl (Nat.le_of_ble_eq_true rfl) (gm_c1_ok rfl) ?_
  intro X hC hR
  show gm_G X E 5 0 [some (.ref (E.2.2 5)), some (.int a), some (.int w), none, none] [] σ
  obtain ⟨g1, g2, g3, g4, g5, g6, g7⟩ := id hM
  refine gi_ildn hC dX4_told_0 rfl ?_
  refine gi_const hC (v := 0) dX4_told_1 (by decide) ?_
  refine gi_const hC (v := 4) dX4_told_2 (by decide) ?_
  refine gk_SI (n := 3) hC (fun l => c_X4_in l E σ w 0 4) (gw_S gw_355 gw_356 gw_28 gw_357) rfl ⟨rfl, rfl⟩ rfl (by decide +kernel) ⟨by decide, by decide⟩ (Nat.le_of_ble_eq_true rfl) dX4_told_3 (fun r1 σ1 h1 => ?_)
  obtain ⟨h1, rfl⟩ := h1
  rw [show (0 : Int32) = nI 0 from rfl, show (4 : Int32) = nI 4 from rfl, nI_inn (by omega) (by omega)] at h1
  refine gi_if_ne hC 12 dX4_told_6 (by decide) (fun h2 => ?_) (fun h2 => ?_)
  ·
    obtain ⟨j, -, hj, rfl⟩ : ∃ j, 0 ≤ j ∧ j ≤ 4 ∧ w = nI j := by
      rcases h1 with ⟨-, z⟩ | ⟨z, -⟩
      · exact z
      · exact absurd z h2
    refine gi_ildn hC dX4_told_12 rfl ?_
    refine gi_const hC (v := 2) dX4_told_13 (by decide) ?_
    refine gi_icmp_ge hC 40 dX4_told_14 (by decide) (fun h3 => ?_) (fun h3 => ?_)
    ·
      rw [show (2 : Int32) = nI 2 from rfl, nI_leI (by omega) (by omega)] at h3
      refine gi_ildn hC dX4_told_40 rfl ?_
      refine gi_const hC (v := 2) dX4_told_41 (by decide) ?_
      refine gi_icmp_ne hC 50 dX4_told_42 (by decide) (fun h4 => ?_) (fun h4 => ?_)
      ·
        have hj2 : j ≠ 2 := fun z => h4 (by rw [z]; rfl)
        refine gi_ildn hC dX4_told_50 rfl ?_
        refine gi_const hC (v := 3) dX4_told_51 (by decide) ?_
        refine gi_icmp_ne hC 60 dX4_told_52 (by decide) (fun h5 => ?_) (fun h5 => ?_)
        ·
          have hj3 : j ≠ 3 := fun z => h5 (by rw [z]; rfl)
          obtain rfl : j = 4 := by omega
          obtain ⟨Z, hZ⟩ : ∃ Z, Z = am_lp U V ps (bt a) 24 0 0 := ⟨_, rfl⟩
          have L : ∀ m i c, i + m = 24 → Z = am_lp U V ps (bt a) m i c → gm_G X E 5 65 [some (.ref (E.2.2 5)), some (.int a), some (.int (nI 4)), some (.int (nI c)), some (.int (nI i))] [] σ1 := by
            intro m
            induction m with
            | zero =>
              intro i c hi0 hw
              have hi0 : i = 24 := by omega
              subst hi0
              rw [am_lp] at hw
              refine gi_ild hC dX4_told_65 rfl ?_
              refine gi_bipush hC (v := 24) dX4_told_67 (by decide) ?_
              refine gi_icmp_ge hC 132 dX4_told_69 (by decide) (fun h6 => ?_) (fun h6 => ?_)
              ·
                refine gi_ildn hC dX4_told_132 rfl ?_
                exact hR _ _ _ _ rfl ⟨rfl, Or.inr (Or.inr (Or.inr (Or.inr (Or.inr ⟨rfl, by rw [← hZ, hw]⟩))))⟩ dX4_told_133
              · exact absurd (Int32.le_refl _) h6
            | succ m ih =>
              intro i c hi0 hw
              rw [am_lp] at hw
              have hzi := g4 i (by omega)
              obtain ⟨l1, l2, l3, l4⟩ := g5 i (by omega)
              have N : ¬ (ps i = true ∧ bt a (U i) = true ∧ bt a (V i) = true) → gm_G X E 5 124 [some (.ref (E.2.2 5)), some (.int a), some (.int (nI 4)), some (.int (nI c)), some (.int (nI i))] [] σ1 := by
                intro hx
                rw [if_neg hx] at hw
                refine gi_ildn hC dX4_told_124 rfl ?_
                refine gi_istn_3 hC dX4_told_125 (by decide) ?_
                refine gi_iinc_4 hC dX4_told_126 (nI_1 i) (by decide) ?_
                refine gi_goto hC 65 dX4_told_129 (by decide) ?_
                exact ih (i + 1) c (by omega) hw
              refine gi_ild hC dX4_told_65 rfl ?_
              refine gi_bipush hC (v := 24) dX4_told_67 (by decide) ?_
              refine gi_icmp_ge hC 132 dX4_told_69 (by decide) (fun h6 => ?_) (fun h6 => ?_)
              · exact absurd h6 (nI_ge (a := i) (b := 24) (by omega) (by omega))
              ·
                refine gi_aldn hC dX4_told_72 rfl ?_
                refine gf_M_isEdge hC gw_318 dX4_told_73 ?_
                refine gi_ild hC dX4_told_76 rfl ?_
                refine gi_zald hC (gm_i7 E) (j := i) (by omega) rfl (by first | decide | omega) dX4_told_78 ?_
                rw [hzi]
                refine gi_if_eq hC 124 dX4_told_79 (by decide) (fun h7 => ?_) (fun h7 => ?_)
                · exact N (fun z => by rw [if_pos z.1] at h7; exact absurd h7 (by decide))
                ·
                  have hpi : ps i = true := by
                    cases hbb : ps i
                    · rw [hbb] at h7; exact absurd rfl h7
                    · rfl
                  refine gi_ildn hC dX4_told_82 rfl ?_
                  refine gi_aldn hC dX4_told_83 rfl ?_
                  refine gf_M_ends hC gw_317 dX4_told_84 ?_
                  refine gi_const hC (v := 2) dX4_told_87 (by decide) ?_
                  refine gi_ild hC dX4_told_88 rfl ?_
                  refine gi_imul hC dX4_told_90 ?_
                  refine gi_iald hC (gm_i6 E) (j := 2 * i) (by omega) (by rw [show (2 : Int32) = nI 2 from rfl, pk_mul]) (by first | decide | omega) dX4_told_91 ?_
                  rw [l1]
                  refine gi_ishr hC dX4_told_92 ?_
                  refine gi_const hC (v := 1) dX4_told_93 (by decide) ?_
                  refine gi_iand hC dX4_told_94 ?_
                  refine gi_const hC (v := 1) dX4_told_95 (by decide) ?_
                  refine gi_icmp_ne hC 124 dX4_told_96 (by decide) (fun h8 => ?_) (fun h8 => ?_)
                  · exact N (fun z => h8 ((b_tst1 a (by omega)).mpr z.2.1))
                  ·
                    refine gi_ildn hC dX4_told_99 rfl ?_
                    refine gi_aldn hC dX4_told_100 rfl ?_
                    refine gf_M_ends hC gw_317 dX4_told_101 ?_
                    refine gi_const hC (v := 2) dX4_told_104 (by decide) ?_
                    refine gi_ild hC dX4_told_105 rfl ?_
                    refine gi_imul hC dX4_told_107 ?_
                    refine gi_const hC (v := 1) dX4_told_108 (by decide) ?_
                    refine gi_iadd hC dX4_told_109 ?_
                    refine gi_iald hC (gm_i6 E) (j := 2 * i + 1) (by omega) (by rw [show (2 : Int32) = nI 2 from rfl, pk_mul, nI_1]) (by first | decide | omega) dX4_told_110 ?_
                    rw [l2]
                    refine gi_ishr hC dX4_told_111 ?_
                    refine gi_const hC (v := 1) dX4_told_112 (by decide) ?_
                    refine gi_iand hC dX4_told_113 ?_
                    refine gi_const hC (v := 1) dX4_told_114 (by decide) ?_
                    refine gi_icmp_ne hC 124 dX4_told_115 (by decide) (fun h9 => ?_) (fun h9 => ?_)
                    · exact N (fun z => h9 ((b_tst1 a (by omega)).mpr z.2.2))
                    ·
                      rw [if_pos ⟨hpi, (b_tst1 a (by omega)).mp h8, (b_tst1 a (by omega)).mp h9⟩] at hw
                      refine gi_ildn hC dX4_told_118 rfl ?_
                      refine gi_const hC (v := 1) dX4_told_119 (by decide) ?_
                      refine gi_iadd hC dX4_told_120 ?_
                      rw [nI_1]
                      refine gi_goto hC 125 dX4_told_121 (by decide) ?_
                      refine gi_istn_3 hC dX4_told_125 (by decide) ?_
                      refine gi_iinc_4 hC dX4_told_126 (nI_1 i) (by decide) ?_
                      refine gi_goto hC 65 dX4_told_129 (by decide) ?_
                      exact ih (i + 1) (c + 1) (by omega) hw
          refine gi_const hC (v := 0) dX4_told_60 (by decide) ?_
          refine gi_istn_3 hC dX4_told_61 (by decide) ?_
          refine gi_const hC (v := 0) dX4_told_62 (by decide) ?_
          refine gi_ist_4 hC dX4_told_63 (by decide) ?_
          exact L 24 0 0 rfl hZ
        ·
          obtain rfl : j = 3 := (nI_eq (b := 3) (by omega) (by omega)).mp h5
          refine gi_aldn hC dX4_told_55 rfl ?_
          refine gf_M_n hC gw_316 dX4_told_56 ?_
          exact hR _ _ _ _ rfl ⟨rfl, Or.inr (Or.inr (Or.inr (Or.inr (Or.inl ⟨rfl, g3⟩))))⟩ dX4_told_59
      ·
        obtain rfl : j = 2 := (nI_eq (b := 2) (by omega) (by omega)).mp h4
        refine gi_aldn hC dX4_told_45 rfl ?_
        refine gk_VI (n := 0) hC (fun l => c_X4_many l E σ1 ps g4) (gm_o4 E) rfl (gw_V gw_358 gw_360 gw_8 gw_28 gw_361) rfl ⟨rfl, rfl⟩ rfl (by decide +kernel) ⟨by decide, by decide⟩ (Nat.le_of_ble_eq_true rfl) dX4_told_46 (fun r6 σ6 h6 => ?_)
        obtain ⟨rfl, rfl⟩ := h6
        exact hR _ _ _ _ rfl ⟨rfl, Or.inr (Or.inr (Or.inr (Or.inl ⟨rfl, rfl⟩)))⟩ dX4_told_49
    ·
      rw [show (2 : Int32) = nI 2 from rfl, nI_leI (by omega) (by omega)] at h3
      refine gi_aldn hC dX4_told_17 rfl ?_
      refine gi_ildn hC dX4_told_18 rfl ?_
      refine gk_VI (n := 1) hC (fun l => c_X4_has l E σ1 ps g4 a) (gm_o4 E) rfl (gw_V gw_374 gw_376 gw_10 gw_28 gw_377) rfl ⟨rfl, rfl⟩ rfl (by decide +kernel) ⟨by decide, by decide⟩ (Nat.le_of_ble_eq_true rfl) dX4_told_19 (fun r3 σ3 h3x => ?_)
      obtain ⟨h3x, rfl⟩ := h3x
      refine gi_if_eq hC 38 dX4_told_22 (by decide) (fun h4 => ?_) (fun h4 => ?_)
      ·
        have hna : ¬ ∃ j, j < 24 ∧ a = nI j ∧ ps j = true := by
          rcases h3x with ⟨z, -⟩ | ⟨-, z⟩
          · rw [z] at h4; exact absurd h4 (by decide)
          · exact z
        refine gi_const hC (v := -1) dX4_told_38 (by decide) ?_
        rcases (show j = 0 ∨ j = 1 by omega) with rfl | rfl
        · exact hR _ _ _ _ rfl ⟨rfl, Or.inr (Or.inl ⟨rfl, Or.inl ⟨rfl, hna⟩⟩)⟩ dX4_told_39
        · exact hR _ _ _ _ rfl ⟨rfl, Or.inr (Or.inr (Or.inl ⟨rfl, Or.inl ⟨rfl, hna⟩⟩))⟩ dX4_told_39
      ·
        obtain ⟨e, he, rfl, hpe⟩ : ∃ j, j < 24 ∧ a = nI j ∧ ps j = true := by
          rcases h3x with ⟨-, z⟩ | ⟨z, -⟩
          · exact z
          · exact absurd z h4
        obtain ⟨l1, l2, l3, l4⟩ := g5 e he
        refine gi_aldn hC dX4_told_25 rfl ?_
        refine gf_M_ends hC gw_317 dX4_told_26 ?_
        refine gi_const hC (v := 2) dX4_told_29 (by decide) ?_
        refine gi_ildn hC dX4_told_30 rfl ?_
        refine gi_imul hC dX4_told_31 ?_
        refine gi_ildn hC dX4_told_32 rfl ?_
        refine gi_iadd hC dX4_told_33 ?_
        rcases (show j = 0 ∨ j = 1 by omega) with rfl | rfl
        ·
          refine gi_iald hC (gm_i6 E) (j := 2 * e) (by omega) (by rw [show (2 : Int32) = nI 2 from rfl, pk_mul, nI_add, Nat.add_zero]) (by first | decide | omega) dX4_told_34 ?_
          rw [l1]
          refine gi_goto hC 39 dX4_told_35 (by decide) ?_
          exact hR _ _ _ _ rfl ⟨rfl, Or.inr (Or.inl ⟨rfl, Or.inr ⟨e, he, rfl, hpe, rfl⟩⟩)⟩ dX4_told_39
        ·
          refine gi_iald hC (gm_i6 E) (j := 2 * e + 1) (by omega) (by rw [show (2 : Int32) = nI 2 from rfl, pk_mul, nI_add]) (by first | decide | omega) dX4_told_34 ?_
          rw [l2]
          refine gi_goto hC 39 dX4_told_35 (by decide) ?_
          exact hR _ _ _ _ rfl ⟨rfl, Or.inr (Or.inr (Or.inl ⟨rfl, Or.inr ⟨e, he, rfl, hpe, rfl⟩⟩))⟩ dX4_told_39
  ·
    have hn : ¬ ∃ j, 0 ≤ j ∧ j ≤ 4 ∧ w = nI j := by
      rcases h1 with ⟨z, -⟩ | ⟨-, z⟩
      · rw [z] at h2; exact absurd h2 (by decide)
      · exact z
    refine gi_bipush hC (v := -2) dX4_told_9 (by decide) ?_
    exact hR _ _ _ _ rfl ⟨rfl, Or.inl ⟨rfl, fun ⟨j, z1, z2⟩ => hn ⟨j, by omega, by omega, z2⟩⟩⟩ dX4_told_11
end
section
/-! THE REFERENCE: wayIn -/
def wG (p : Nat → Option Nat) (f w : Nat) : Nat → Prop := fun x => x < 24 ∧ p x = some f ∧ x ≠ w
def mP (σ : gm_S) (p : Nat → Option Nat) : Prop := ∀ e, e < 24 → σ.2 8 e = oI (p e) ∧ ∀ i, p e = some i → i < 100
def wy_inv (U V : Nat → Nat) (G : Nat → Prop) (s : Nat) (T : Nat → Bool) (lf : Nat → Option Nat) (rk : Nat → Nat) : Prop :=
  T s = true ∧ (∀ v, T v = true → v < 10) ∧ (∀ v, T v = false → lf v = none) ∧ lf s = none ∧ (∀ v, T v = true → v ≠ s → ∃ e u, lf v = some e ∧ e < 24 ∧ G e ∧ ((U e = u ∧ V e = v) ∨ (U e = v ∧ V e = u)) ∧ T u = true ∧ rk u < rk v) ∧ ∀ v, T v = true → gq_con U V G s v
theorem cnt_mono {P Q : Nat → Bool} : ∀ n e c c2, c ≤ c2 → (∀ i, e ≤ i → i < e + n → P i = true → Q i = true) → cnt_lp P n e c ≤ cnt_lp Q n e c2
  | 0, _, _, _, h, _ => h
  | n + 1, e, c, c2, h, hs => by
    rw [cnt_lp, cnt_lp]
    by_cases hP : P e = true
    · rw [if_pos hP, if_pos (hs e (Nat.le_refl e) (by omega) hP)]
      exact cnt_mono n (e + 1) (c + 1) (c2 + 1) (by omega) (fun i h1 h2 => hs i (by omega) (by omega))
    · rw [if_neg hP]
      split
      · exact cnt_mono n (e + 1) c (c2 + 1) (by omega) (fun i h1 h2 => hs i (by omega) (by omega))
      · exact cnt_mono n (e + 1) c c2 h (fun i h1 h2 => hs i (by omega) (by omega))
theorem cnt_more {P Q : Nat → Bool} {v : Nat} (hv : Q v = true) (hv2 : P v = false) : ∀ n e c, e ≤ v → v < e + n → (∀ i, e ≤ i → i < e + n → P i = true → Q i = true) → cnt_lp P n e c + 1 ≤ cnt_lp Q n e c
  | 0, e, c, h1, h2, _ => by omega
  | n + 1, e, c, h1, h2, hs => by
    rw [cnt_lp, cnt_lp]
    by_cases hev : e = v
    · subst hev
      rw [if_neg (by rw [hv2]; exact Bool.false_ne_true), if_pos hv]
      have h3 : cnt_lp P n (e + 1) (c + 1) ≤ cnt_lp Q n (e + 1) (c + 1) := cnt_mono n (e + 1) _ _ (Nat.le_refl _) (fun i h1 h2 => hs i (by omega) (by omega))
      have h4 : ∀ n e c, cnt_lp P n e (c + 1) = cnt_lp P n e c + 1 := by
        intro n
        induction n with
        | zero => intro e c; rfl
        | succ n ih => intro e c; rw [cnt_lp, cnt_lp]; split <;> rw [ih]
      rw [h4] at h3
      exact h3
    · by_cases hP : P e = true
      · rw [if_pos hP, if_pos (hs e (Nat.le_refl e) (by omega) hP)]
        exact cnt_more hv hv2 n (e + 1) (c + 1) (by omega) (by omega) (fun i h1 h2 => hs i (by omega) (by omega))
      · rw [if_neg hP]
        split
        · have h5 := cnt_more hv hv2 n (e + 1) c (by omega) (by omega) (fun i h1 h2 => hs i (by omega) (by omega))
          have h6 : cnt_lp Q n (e + 1) c ≤ cnt_lp Q n (e + 1) (c + 1) := cnt_mono n (e + 1) _ _ (by omega) (fun i _ _ z => z)
          omega
        · exact cnt_more hv hv2 n (e + 1) c (by omega) (by omega) (fun i h1 h2 => hs i (by omega) (by omega))
theorem gq_ne {U V : Nat → Nat} {X : Nat → Prop} {a b : Nat} (h : gq_con U V X a b) (hab : a ≠ b) : ∃ x, X x := by
  refine Classical.byContradiction fun hn => hab ?_
  exact h (fun x y => x = y) ⟨fun _ => rfl, fun _ _ q => q.symm, fun _ _ _ q r => q.trans r⟩ (fun e he => absurd ⟨e, he⟩ hn)
theorem wy_step {U V : Nat → Nat} {G : Nat → Prop} {s e u v : Nat} {T : Nat → Bool} {lf : Nat → Option Nat} {rk : Nat → Nat} (h : wy_inv U V G s T lf rk) (he : e < 24) (hG : G e) (hends : (U e = u ∧ V e = v) ∨ (U e = v ∧ V e = u)) (hu : T u = true) (hv : T v = false) (hv10 : v < 10) : wy_inv U V G s (fun i => T i || (decide (i = U e) || decide (i = V e))) (va_up lf v (some e)) (va_up rk v (rk u + 1)) := by
  obtain ⟨h1, h2, h3, h4, h5, h6⟩ := h
  have hT : ∀ i, (T i || (decide (i = U e) || decide (i = V e))) = true ↔ T i = true ∨ i = v := by
    intro i
    simp only [Bool.or_eq_true, decide_eq_true_eq]
    rcases hends with ⟨a, b⟩ | ⟨a, b⟩
    · rw [a, b]
      exact ⟨fun z => by rcases z with z | z | z; exact Or.inl z; exact Or.inl (z ▸ hu); exact Or.inr z, fun z => by rcases z with z | z; exact Or.inl z; exact Or.inr (Or.inr z)⟩
    · rw [a, b]
      exact ⟨fun z => by rcases z with z | z | z; exact Or.inl z; exact Or.inr z; exact Or.inl (z ▸ hu), fun z => by rcases z with z | z; exact Or.inl z; exact Or.inr (Or.inl z)⟩
  have hvs : v ≠ s := fun z => by rw [z, h1] at hv; cases hv
  have hne : ∀ i, T i = true → i ≠ v := fun i hi z => by rw [z, hv] at hi; cases hi
  refine ⟨(hT s).mpr (Or.inl h1), fun i hi => ?_, fun i hi => ?_, ?_, fun i hi his => ?_, fun i hi => ?_⟩
  · rcases (hT i).mp hi with z | z
    · exact h2 i z
    · rw [z]; exact hv10
  · have hi : (T i || (decide (i = U e) || decide (i = V e))) = false := hi
    have hnv : i ≠ v := fun z => by
      have := (hT i).mpr (Or.inr z)
      rw [hi] at this
      cases this
    rw [va_up_ne _ _ hnv]
    refine h3 i ?_
    cases hb : T i
    · rfl
    · have := (hT i).mpr (Or.inl hb)
      rw [hi] at this
      cases this
  · rw [va_up_ne _ _ (Ne.symm hvs)]; exact h4
  · rcases (hT i).mp hi with z | z
    · obtain ⟨e2, u2, a1, a2, a3, a4, a5, a6⟩ := h5 i z his
      refine ⟨e2, u2, by rw [va_up_ne _ _ (hne i z)]; exact a1, a2, a3, a4, (hT u2).mpr (Or.inl a5), ?_⟩
      rw [va_up_ne _ _ (hne i z), va_up_ne _ _ (hne u2 a5)]
      exact a6
    · subst z
      refine ⟨e, u, va_up_self _ _ _, he, hG, hends, (hT u).mpr (Or.inl hu), ?_⟩
      rw [va_up_self, va_up_ne _ _ (hne u hu)]
      omega
  · rcases (hT i).mp hi with z | z
    · exact h6 i z
    · subst z
      refine gq_tr (h6 u hu) ?_
      rcases hends with ⟨a, b⟩ | ⟨a, b⟩
      · rw [← a, ← b]; exact gq_ed hG
      · rw [← a, ← b]; exact gq_sy (gq_ed hG)
/-- the way back: what is gathered so far, from t to v -/
def wb_inv (U V : Nat → Nat) (G : Nat → Prop) (lf : Nat → Option Nat) (rk : Nat → Nat) (t v : Nat) (S : Nat → Bool) : Prop := (∀ x, S x = true → G x) ∧ gq_con U V (fun x => S x = true) t v ∧ ∀ x, S x = true → ∃ a b, lf a = some x ∧ ((U x = b ∧ V x = a) ∨ (U x = a ∧ V x = b)) ∧ rk v ≤ rk b ∧ rk b < rk a ∧ gq_con U V (fun y => S y = true ∧ y ≠ x) t a ∧ gq_con U V (fun y => S y = true ∧ y ≠ x) b v
theorem wb_step {U V : Nat → Nat} {G : Nat → Prop} {lf : Nat → Option Nat} {rk : Nat → Nat} {t v u e : Nat} {S : Nat → Bool} (h : wb_inv U V G lf rk t v S) (hG : G e) (hl : lf v = some e) (hends : (U e = u ∧ V e = v) ∨ (U e = v ∧ V e = u)) (hr : rk u < rk v) : wb_inv U V G lf rk t u (fun i => S i || decide (i = e)) := by
  obtain ⟨h1, h2, h3⟩ := h
  have hS : ∀ i, (S i || decide (i = e)) = true ↔ S i = true ∨ i = e := fun i => by simp
  have heS : ¬ S e = true := by
    intro z
    obtain ⟨a, b, c1, c2, c3, c4, -⟩ := h3 e z
    have hav : a ≠ v := fun q => by rw [q] at c4; omega
    have : (a = u ∧ b = v) := by
      rcases c2 with ⟨d1, d2⟩ | ⟨d1, d2⟩ <;> rcases hends with ⟨f1, f2⟩ | ⟨f1, f2⟩ <;> omega
    rw [this.1, this.2] at c4
    omega
  have hed : gq_con U V (fun x => (S x || decide (x = e)) = true) v u := by
    have := gq_ed (U := U) (V := V) (X := fun x => (S x || decide (x = e)) = true) (e := e) ((hS e).mpr (Or.inr rfl))
    rcases hends with ⟨a, b⟩ | ⟨a, b⟩
    · rw [a, b] at this; exact gq_sy this
    · rw [a, b] at this; exact this
  refine ⟨fun x hx => ?_, gq_tr (gq_mono (fun x hx => (hS x).mpr (Or.inl hx)) h2) hed, fun x hx => ?_⟩
  · rcases (hS x).mp hx with z | z
    · exact h1 x z
    · rw [z]; exact hG
  · rcases (hS x).mp hx with z | z
    · obtain ⟨a, b, c1, c2, c3, c4, c5, c6⟩ := h3 x z
      have hxe : e ≠ x := fun q => heS (q ▸ z)
      refine ⟨a, b, c1, c2, by omega, c4, gq_mono (fun y hy => ⟨(hS y).mpr (Or.inl hy.1), hy.2⟩) c5, gq_tr (gq_mono (fun y hy => ⟨(hS y).mpr (Or.inl hy.1), hy.2⟩) c6) ?_⟩
      have := gq_ed (U := U) (V := V) (X := fun y => (S y || decide (y = e)) = true ∧ y ≠ x) (e := e) ⟨(hS e).mpr (Or.inr rfl), hxe⟩
      rcases hends with ⟨a, b⟩ | ⟨a, b⟩
      · rw [a, b] at this; exact gq_sy this
      · rw [a, b] at this; exact this
    · subst z
      refine ⟨v, u, hl, hends, Nat.le_refl _, hr, gq_mono (fun y hy => ⟨(hS y).mpr (Or.inl hy), fun q => heS (q ▸ hy)⟩) h2, gq_rf⟩
theorem wb_end {U V : Nat → Nat} {G : Nat → Prop} {lf : Nat → Option Nat} {rk : Nat → Nat} {t s : Nat} {S : Nat → Bool} (hf : gf_for U V G) (h : wb_inv U V G lf rk t s S) : ∀ x, S x = true → ¬ gq_con U V (fun y => G y ∧ y ≠ x) s t := by
  intro x hx hc
  obtain ⟨h1, h2, h3⟩ := h
  obtain ⟨a, b, c1, c2, c3, c4, c5, c6⟩ := h3 x hx
  have up : ∀ {p q}, gq_con U V (fun y => S y = true ∧ y ≠ x) p q → gq_con U V (fun y => G y ∧ y ≠ x) p q := fun z => gq_mono (fun y hy => ⟨h1 y hy.1, hy.2⟩) z
  have hab : gq_con U V (fun y => G y ∧ y ≠ x) b a := gq_tr (up c6) (gq_tr hc (up c5))
  rcases c2 with ⟨d1, d2⟩ | ⟨d1, d2⟩
  · exact hf x (h1 x hx) (by rw [d1, d2]; exact hab)
  · exact hf x (h1 x hx) (by rw [d1, d2]; exact gq_sy hab)
/-- nothing more can be reached: the two ends lie apart -/
theorem wy_no {U V : Nat → Nat} {G : Nat → Prop} {s t : Nat} {T : Nat → Bool} (hs : T s = true) (ht : T t = false) (hc : ∀ e, G e → T (U e) = T (V e)) : ¬ gq_con U V G s t := by
  intro h
  have := h (fun a b => T a = T b) ⟨fun _ => rfl, fun _ _ q => q.symm, fun _ _ _ q r => q.trans r⟩ hc
  have this : T s = T t := this
  rw [hs, ht] at this
  cases this
set_option maxHeartbeats 4000000 in
set_option maxRecDepth 100000 in
theorem c_X4_wayIn (l : Launch) (E : gm_E) (σ : gm_S) (U V : Nat → Nat) (hE : mE σ U V) (p : Nat → Option Nat) (hp : mP σ p) (f w : Nat) (hf100 : f < 100) (hw : w < 24) (hUV : U w ≠ V w) (hG : gf_for U V (wG p f w)) : gm_MI l E yX4_wayIn (.code yX4_wayIn cX4_wayIn 11 (some .int) :: gw_T) { frames := 0, cells := 0, slots := 0, locals := 0 } [.ref (E.2.2 5), .int (nI f), .int (nI w)] σ (fun r σ2 => gm_fr σ σ2 (fun _ _ => False) (fun y => y = 13) ∧ ((r = 0 ∧ ¬ gq_con U V (wG p f w) (U w) (V w)) ∨ ∃ S, bm r S ∧ r ≠ 0 ∧ (∀ x, S x = true → wG p f w x) ∧ gq_con U V (fun x => S x = true) (U w) (V w) ∧ ∀ x, S x = true → ¬ gq_con U V (fun y => wG p f w y ∧ y ≠ x) (U w) (V w))) := by
  refine gm_enterI RX4 (by decide +kernel) rfl rfl (Nat.le_of_ble_eq_true rfl) (gm_c1_ok rfl) ?_
  intro X hC hR
  show gm_G X E 11 0 [some (.ref (E.2.2 5)), some (.int (nI f)), some (.int (nI w)), none, none, none, none, none, none, none, none] [] σ
  obtain ⟨w1, w2, w3, w4⟩ := hE w hw
  have hEr : ∀ σ2 : gm_S, gm_fr σ σ2 (fun _ _ => False) (fun y => y = 13) → mE σ2 U V ∧ mP σ2 p := fun σ2 h => ⟨fun e he => by rw [h.2 6 (by decide)]; exact hE e he, fun e he => by rw [h.2 8 (by decide)]; exact hp e he⟩
  have LB : ∀ m v (S : Nat → Bool) (y : Int32) (T : Nat → Bool) (lf : Nat → Option Nat) (rk : Nat → Nat) (σ2 : gm_S) (w4 w5 w8 w9 w10 : Option Value), rk v < m → v < 10 → gm_fr σ σ2 (fun _ _ => False) (fun y => y = 13) → (∀ j, j < 10 → σ2.2 13 j = oI (lf j)) → wy_inv U V (wG p f w) (U w) T lf rk → (∀ e, wG p f w e → T (U e) = T (V e)) → bm y S → wb_inv U V (wG p f w) lf rk (V w) v S → (T v = true ∨ (v = V w ∧ y = 0)) → gm_G X E 11 203 [some (.ref (E.2.2 5)), some (.int (nI f)), some (.int (nI w)), some (.int (nI (U w))), w4, w5, some (.int (nI v)), some (.int y), w8, w9, w10] [] σ2 := by
    intro m
    induction m with
    | zero =>
      intro v S y T lf rk σ2 w4 w5 w8 w9 w10 hm
      omega
    | succ m ih =>
      intro v S y T lf rk σ2 w4 w5 w8 w9 w10 hm hv10 hfr hlf hinv hcl hy hwb hT
      obtain ⟨hE2, hp2⟩ := hEr σ2 hfr
      refine gi_ild hC dX4_wayIn_203 rfl ?_
      refine gi_ildn hC dX4_wayIn_205 rfl ?_
      refine gi_icmp_eq hC 279 dX4_wayIn_206 (by decide) (fun h1 => ?_) (fun h1 => ?_)
      ·
        have hvs : v = U w := (nI_eq (by omega) (by omega)).mp h1
        subst hvs
        refine gi_ild hC dX4_wayIn_279 rfl ?_
        have hend := wb_end hG hwb
        obtain ⟨x, hx⟩ := gq_ne hwb.2.1 (Ne.symm hUV)
        refine hR _ _ _ _ rfl ⟨hfr, Or.inr ⟨S, hy, ?_, hwb.1, gq_sy hwb.2.1, hend⟩⟩ dX4_wayIn_281
        intro h0
        have h24 := (hwb.1 x hx).1
        have := hy x (by omega)
        rw [h0, b_0, hx] at this
        cases this
      ·
        have hvs : v ≠ U w := fun z => h1 (by rw [z])
        have hlv := hlf v hv10
        refine gi_aldn hC dX4_wayIn_209 rfl ?_
        refine gf_M_lifted hC gw_325 dX4_wayIn_210 ?_
        refine gi_ild hC dX4_wayIn_213 rfl ?_
        refine gi_iald hC (gm_i13 E) (j := v) hv10 rfl (by first | decide | omega) dX4_wayIn_215 ?_
        rw [hlv]
        refine gi_if_lt hC 279 dX4_wayIn_216 (by decide) (fun h2 => ?_) (fun h2 => ?_)
        ·
          have hTv : ¬ T v = true := by
            intro z
            obtain ⟨e, u, a1, a2, -⟩ := hinv.2.2.2.2.1 v z hvs
            rw [a1] at h2
            exact nI_pos (n := e) (by omega) h2
          obtain ⟨hv, hy0⟩ := hT.elim (fun z => absurd z hTv) id
          subst hv
          have hTf : T (V w) = false := by
            cases hb : T (V w)
            · rfl
            · exact absurd hb hTv
          refine gi_ild hC dX4_wayIn_279 rfl ?_
          rw [hy0]
          exact hR _ _ _ _ rfl ⟨hfr, Or.inl ⟨rfl, wy_no hinv.1 hTf hcl⟩⟩ dX4_wayIn_281
        ·
          have hTv : T v = true := by
            cases hb : T v
            · rw [hinv.2.2.1 v hb] at h2; exact absurd (by show (-1 : Int32) < 0; decide) h2
            · rfl
          obtain ⟨e, u, a1, a2, a3, a4, a5, a6⟩ := hinv.2.2.2.2.1 v hTv hvs
          have hu10 := hinv.2.1 u a5
          obtain ⟨e1, e2, e3, e4⟩ := hE2 e a2
          rw [a1] at hlv
          refine gi_aldn hC dX4_wayIn_219 rfl ?_
          refine gf_M_lifted hC gw_325 dX4_wayIn_220 ?_
          refine gi_ild hC dX4_wayIn_223 rfl ?_
          refine gi_iald hC (gm_i13 E) (j := v) hv10 rfl (by first | decide | omega) dX4_wayIn_225 ?_
          rw [hlv]
          refine gi_ist_8 hC dX4_wayIn_226 (by decide) ?_
          refine gi_ild hC dX4_wayIn_228 rfl ?_
          refine gi_const hC (v := 1) dX4_wayIn_230 (by decide) ?_
          refine gi_ild hC dX4_wayIn_231 rfl ?_
          refine gi_ishl hC dX4_wayIn_233 ?_
          refine gi_ior hC dX4_wayIn_234 ?_
          refine gi_ist_7 hC dX4_wayIn_235 (by decide) ?_
          refine gi_aldn hC dX4_wayIn_237 rfl ?_
          refine gf_M_ends hC gw_317 dX4_wayIn_238 ?_
          refine gi_const hC (v := 2) dX4_wayIn_241 (by decide) ?_
          refine gi_ild hC dX4_wayIn_242 rfl ?_
          refine gi_imul hC dX4_wayIn_244 ?_
          refine gi_iald hC (gm_i6 E) (j := 2 * e) (by omega) (by show 2 * nI e = nI (2 * e); rw [show (2 : Int32) = nI 2 from rfl, pk_mul]) (by first | decide | omega) dX4_wayIn_245 ?_
          rw [e1]
          refine gi_ild hC dX4_wayIn_246 rfl ?_
          refine gi_icmp_ne hC 265 dX4_wayIn_248 (by decide) (fun h3 => ?_) (fun h3 => ?_)
          ·
            have hU : U e = u := by
              rcases a4 with ⟨b1, b2⟩ | ⟨b1, b2⟩
              · exact b1
              · exact absurd (by rw [b1]) h3
            refine gi_aldn hC dX4_wayIn_265 rfl ?_
            refine gf_M_ends hC gw_317 dX4_wayIn_266 ?_
            refine gi_const hC (v := 2) dX4_wayIn_269 (by decide) ?_
            refine gi_ild hC dX4_wayIn_270 rfl ?_
            refine gi_imul hC dX4_wayIn_272 ?_
            refine gi_iald hC (gm_i6 E) (j := 2 * e) (by omega) (by show 2 * nI e = nI (2 * e); rw [show (2 : Int32) = nI 2 from rfl, pk_mul]) (by first | decide | omega) dX4_wayIn_273 ?_
            rw [e1, hU]
            refine gi_ist_6 hC dX4_wayIn_274 (by decide) ?_
            refine gi_goto hC 203 dX4_wayIn_276 (by decide) ?_
            exact ih u _ _ T lf rk σ2 _ _ _ _ _ (by omega) hu10 hfr hlf hinv hcl (bm_or hy (bm_pow (n := e) (by omega))) (wb_step hwb a3 a1 a4 a6) (Or.inl a5)
          ·
            have hV : V e = u := by
              have h3 : U e = v := (nI_eq (by omega) (by omega)).mp h3
              rcases a4 with ⟨b1, b2⟩ | ⟨b1, b2⟩
              · have : u = v := b1.symm.trans h3
                rw [this] at a6
                omega
              · exact b2
            refine gi_aldn hC dX4_wayIn_251 rfl ?_
            refine gf_M_ends hC gw_317 dX4_wayIn_252 ?_
            refine gi_const hC (v := 2) dX4_wayIn_255 (by decide) ?_
            refine gi_ild hC dX4_wayIn_256 rfl ?_
            refine gi_imul hC dX4_wayIn_258 ?_
            refine gi_const hC (v := 1) dX4_wayIn_259 (by decide) ?_
            refine gi_iadd hC dX4_wayIn_260 ?_
            refine gi_iald hC (gm_i6 E) (j := 2 * e + 1) (by omega) (by show 2 * nI e + 1 = nI (2 * e + 1); rw [show (2 : Int32) = nI 2 from rfl, pk_mul, nI_1]) (by first | decide | omega) dX4_wayIn_261 ?_
            refine gi_goto hC 274 dX4_wayIn_262 (by decide) ?_
            rw [e2, hV]
            refine gi_ist_6 hC dX4_wayIn_274 (by decide) ?_
            refine gi_goto hC 203 dX4_wayIn_276 (by decide) ?_
            exact ih u _ _ T lf rk σ2 _ _ _ _ _ (by omega) hu10 hfr hlf hinv hcl (bm_or hy (bm_pow (n := e) (by omega))) (wb_step hwb a3 a1 a4 a6) (Or.inl a5)
  have LI : ∀ m i (T0 T : Nat → Bool) (lf : Nat → Option Nat) (rk : Nat → Nat) (y : Int32) (mo : Bool) (σ2 : gm_S) (w7 w8 w9 w10 : Option Value), i + m = 24 → gm_fr σ σ2 (fun _ _ => False) (fun y => y = 13) → (∀ j, j < 10 → σ2.2 13 j = oI (lf j)) → wy_inv U V (wG p f w) (U w) T lf rk → bm y T → (mo = false → T = T0 ∧ ∀ e, e < i → wG p f w e → T (U e) = T (V e)) → (mo = true → cnt_lp T0 10 0 0 + 1 ≤ cnt_lp T 10 0 0) → (∀ j, T0 j = true → T j = true) → (∀ (σ3 : gm_S) (T3 : Nat → Bool) (lf3 : Nat → Option Nat) (rk3 : Nat → Nat) (y3 : Int32) (mo3 : Bool) (w6 w7 w8 w9 w10 : Option Value), gm_fr σ σ3 (fun _ _ => False) (fun y => y = 13) → (∀ j, j < 10 → σ3.2 13 j = oI (lf3 j)) → wy_inv U V (wG p f w) (U w) T3 lf3 rk3 → bm y3 T3 → (mo3 = false → T3 = T0 ∧ ∀ e, wG p f w e → T3 (U e) = T3 (V e)) → (mo3 = true → cnt_lp T0 10 0 0 + 1 ≤ cnt_lp T3 10 0 0) → gm_G X E 11 41 [some (.ref (E.2.2 5)), some (.int (nI f)), some (.int (nI w)), some (.int (nI (U w))), some (.int y3), some (.int (if mo3 = true then 1 else 0)), w6, w7, w8, w9, w10] [] σ3) → gm_G X E 11 52 [some (.ref (E.2.2 5)), some (.int (nI f)), some (.int (nI w)), some (.int (nI (U w))), some (.int y), some (.int (if mo = true then 1 else 0)), some (.int (nI i)), w7, w8, w9, w10] [] σ2 := by
    intro m
    induction m with
    | zero =>
      intro i T0 T lf rk y mo σ2 w7 w8 w9 w10 hi0 hfr hlf hinv hy hmo hmo1 hsub KK
      have hi0 : i = 24 := by omega
      subst hi0
      refine gi_ild hC dX4_wayIn_52 rfl ?_
      refine gi_bipush hC (v := 24) dX4_wayIn_54 (by decide) ?_
      refine gi_icmp_ge hC 185 dX4_wayIn_56 (by decide) (fun h1 => ?_) (fun h1 => ?_)
      ·
        refine gi_goto hC 41 dX4_wayIn_185 (by decide) ?_
        exact KK σ2 T lf rk y mo _ _ _ _ _ hfr hlf hinv hy (fun z => ⟨(hmo z).1, fun e he => (hmo z).2 e he.1 he⟩) hmo1
      · exact absurd (Int32.le_refl _) h1
    | succ m ih =>
      intro i T0 T lf rk y mo σ2 w7 w8 w9 w10 hi0 hfr hlf hinv hy hmo hmo1 hsub KK
      obtain ⟨hE2, hp2⟩ := hEr σ2 hfr
      obtain ⟨p1, p2⟩ := hp2 i (by omega)
      obtain ⟨e1, e2, e3, e4⟩ := hE2 i (by omega)
      have N : ∀ w7 w8 w9 w10 : Option Value, (wG p f w i → T (U i) = T (V i)) → gm_G X E 11 179 [some (.ref (E.2.2 5)), some (.int (nI f)), some (.int (nI w)), some (.int (nI (U w))), some (.int y), some (.int (if mo = true then 1 else 0)), some (.int (nI i)), w7, w8, w9, w10] [] σ2 := by
        intro w7 w8 w9 w10 hx
        refine gi_iinc_6 hC dX4_wayIn_179 (nI_1 i) (by decide) ?_
        refine gi_goto hC 52 dX4_wayIn_182 (by decide) ?_
        exact ih (i + 1) T0 T lf rk y mo σ2 _ _ _ _ (by omega) hfr hlf hinv hy (fun z => ⟨(hmo z).1, fun e he hg => by
          by_cases q : e = i
          · subst q; exact hx hg
          · exact (hmo z).2 e (by omega) hg⟩) hmo1 hsub KK
      refine gi_ild hC dX4_wayIn_52 rfl ?_
      refine gi_bipush hC (v := 24) dX4_wayIn_54 (by decide) ?_
      refine gi_icmp_ge hC 185 dX4_wayIn_56 (by decide) (fun h1 => ?_) (fun h1 => ?_)
      · exact absurd h1 (nI_ge (a := i) (b := 24) (by omega) (by omega))
      ·
        refine gi_aldn hC dX4_wayIn_59 rfl ?_
        refine gf_M_forestOf hC gw_320 dX4_wayIn_60 ?_
        refine gi_ild hC dX4_wayIn_63 rfl ?_
        refine gi_iald hC (gm_i8 E) (j := i) (by omega) rfl (by first | decide | omega) dX4_wayIn_65 ?_
        rw [p1]
        refine gi_ildn hC dX4_wayIn_66 rfl ?_
        refine gi_icmp_ne hC 179 dX4_wayIn_67 (by decide) (fun h2 => ?_) (fun h2 => ?_)
        · exact N _ _ _ _ (fun z => absurd (by rw [z.2.1]; rfl) h2)
        ·
          have hpf : p i = some f := oI_inj (t := some f) (fun n hn => Nat.lt_of_lt_of_le (p2 n hn) (by decide)) (fun n hn => by cases hn; omega) h2
          refine gi_ild hC dX4_wayIn_70 rfl ?_
          refine gi_ildn hC dX4_wayIn_72 rfl ?_
          refine gi_icmp_eq hC 179 dX4_wayIn_73 (by decide) (fun h3 => ?_) (fun h3 => ?_)
          · exact N _ _ _ _ (fun z => absurd ((nI_eq (by omega) (by omega)).mp h3) z.2.2)
          ·
            have hiw : i ≠ w := fun z => h3 (by rw [z])
            have hg : wG p f w i := ⟨by omega, hpf, hiw⟩
            refine gi_aldn hC dX4_wayIn_76 rfl ?_
            refine gf_M_ends hC gw_317 dX4_wayIn_77 ?_
            refine gi_const hC (v := 2) dX4_wayIn_80 (by decide) ?_
            refine gi_ild hC dX4_wayIn_81 rfl ?_
            refine gi_imul hC dX4_wayIn_83 ?_
            refine gi_iald hC (gm_i6 E) (j := 2 * i) (by omega) (by rw [show (2 : Int32) = nI 2 from rfl, pk_mul]) (by first | decide | omega) dX4_wayIn_84 ?_
            rw [e1]
            refine gi_ist_7 hC dX4_wayIn_85 (by decide) ?_
            refine gi_aldn hC dX4_wayIn_87 rfl ?_
            refine gf_M_ends hC gw_317 dX4_wayIn_88 ?_
            refine gi_const hC (v := 2) dX4_wayIn_91 (by decide) ?_
            refine gi_ild hC dX4_wayIn_92 rfl ?_
            refine gi_imul hC dX4_wayIn_94 ?_
            refine gi_const hC (v := 1) dX4_wayIn_95 (by decide) ?_
            refine gi_iadd hC dX4_wayIn_96 ?_
            refine gi_iald hC (gm_i6 E) (j := 2 * i + 1) (by omega) (by rw [show (2 : Int32) = nI 2 from rfl, pk_mul, nI_1]) (by first | decide | omega) dX4_wayIn_97 ?_
            rw [e2]
            refine gi_ist_8 hC dX4_wayIn_98 (by decide) ?_
            cases hA : T (U i) with
            | true =>
              refine gi_ild hC dX4_wayIn_100 rfl ?_
              refine gi_ild hC dX4_wayIn_102 rfl ?_
              refine gi_ishr hC dX4_wayIn_104 ?_
              refine gi_const hC (v := 1) dX4_wayIn_105 (by decide) ?_
              refine gi_iand hC dX4_wayIn_106 ?_
              refine gi_const hC (v := 1) dX4_wayIn_107 (by decide) ?_
              rw [bm_tst hy (by omega), hA]
              refine gi_icmp_ne hC 115 dX4_wayIn_108 (by decide) (fun h4 => ?_) (fun h4 => ?_)
              · exact absurd rfl h4
              ·
                refine gi_const hC (v := 1) dX4_wayIn_111 (by decide) ?_
                refine gi_goto hC 116 dX4_wayIn_112 (by decide) ?_
                refine gi_ist_9 hC dX4_wayIn_116 (by decide) ?_
                cases hB : T (V i) with
                | true =>
                  refine gi_ild hC dX4_wayIn_118 rfl ?_
                  refine gi_ild hC dX4_wayIn_120 rfl ?_
                  refine gi_ishr hC dX4_wayIn_122 ?_
                  refine gi_const hC (v := 1) dX4_wayIn_123 (by decide) ?_
                  refine gi_iand hC dX4_wayIn_124 ?_
                  refine gi_const hC (v := 1) dX4_wayIn_125 (by decide) ?_
                  rw [bm_tst hy (by omega), hB]
                  refine gi_icmp_ne hC 133 dX4_wayIn_126 (by decide) (fun h5 => ?_) (fun h5 => ?_)
                  · exact absurd rfl h5
                  ·
                    refine gi_const hC (v := 1) dX4_wayIn_129 (by decide) ?_
                    refine gi_goto hC 134 dX4_wayIn_130 (by decide) ?_
                    refine gi_ist_10 hC dX4_wayIn_134 (by decide) ?_
                    refine gi_ild hC dX4_wayIn_136 rfl ?_
                    refine gi_ild hC dX4_wayIn_138 rfl ?_
                    refine gi_icmp_eq hC 179 dX4_wayIn_140 (by decide) (fun h6 => ?_) (fun h6 => ?_)
                    · exact N _ _ _ _ (fun _ => by rw [hA, hB])
                    · exact absurd rfl h6
                | false =>
                  refine gi_ild hC dX4_wayIn_118 rfl ?_
                  refine gi_ild hC dX4_wayIn_120 rfl ?_
                  refine gi_ishr hC dX4_wayIn_122 ?_
                  refine gi_const hC (v := 1) dX4_wayIn_123 (by decide) ?_
                  refine gi_iand hC dX4_wayIn_124 ?_
                  refine gi_const hC (v := 1) dX4_wayIn_125 (by decide) ?_
                  rw [bm_tst hy (by omega), hB]
                  refine gi_icmp_ne hC 133 dX4_wayIn_126 (by decide) (fun h5 => ?_) (fun h5 => ?_)
                  ·
                    refine gi_const hC (v := 0) dX4_wayIn_133 (by decide) ?_
                    refine gi_ist_10 hC dX4_wayIn_134 (by decide) ?_
                    refine gi_ild hC dX4_wayIn_136 rfl ?_
                    refine gi_ild hC dX4_wayIn_138 rfl ?_
                    refine gi_icmp_eq hC 179 dX4_wayIn_140 (by decide) (fun h6 => ?_) (fun h6 => ?_)
                    · exact absurd h6 (by decide)
                    ·
                      refine gi_aldn hC dX4_wayIn_143 rfl ?_
                      refine gf_M_lifted hC gw_325 dX4_wayIn_144 ?_
                      refine gi_ild hC dX4_wayIn_147 rfl ?_
                      refine gi_if_eq hC 157 dX4_wayIn_149 (by decide) (fun h7 => ?_) (fun h7 => ?_)
                      · exact absurd h7 (by decide)
                      ·
                        refine gi_ild hC dX4_wayIn_152 rfl ?_
                        refine gi_goto hC 159 dX4_wayIn_154 (by decide) ?_
                        refine gi_ild hC dX4_wayIn_159 rfl ?_
                        refine gi_iast hC (gm_i13 E) (j := V i) (by omega) rfl (by first | decide | omega) dX4_wayIn_161 ?_
                        refine gi_ild hC dX4_wayIn_162 rfl ?_
                        refine gi_const hC (v := 1) dX4_wayIn_164 (by decide) ?_
                        refine gi_ild hC dX4_wayIn_165 rfl ?_
                        refine gi_ishl hC dX4_wayIn_167 ?_
                        refine gi_const hC (v := 1) dX4_wayIn_168 (by decide) ?_
                        refine gi_ild hC dX4_wayIn_169 rfl ?_
                        refine gi_ishl hC dX4_wayIn_171 ?_
                        refine gi_ior hC dX4_wayIn_172 ?_
                        refine gi_ior hC dX4_wayIn_173 ?_
                        refine gi_ist_4 hC dX4_wayIn_174 (by decide) ?_
                        refine gi_const hC (v := 1) dX4_wayIn_176 (by decide) ?_
                        refine gi_ist_5 hC dX4_wayIn_177 (by decide) ?_
                        refine gi_iinc_6 hC dX4_wayIn_179 (nI_1 i) (by decide) ?_
                        refine gi_goto hC 52 dX4_wayIn_182 (by decide) ?_
                        refine ih (i + 1) T0 _ _ _ _ true _ _ _ _ _ (by omega) (gm_fr_tr hfr (gm_fr_ar rfl)) (fun j hj => ?_) (wy_step hinv (by omega) hg (Or.inl ⟨rfl, rfl⟩) hA hB (by omega)) (bm_or hy (bm_or (bm_pow (n := U i) (by omega)) (bm_pow (n := V i) (by omega)))) (fun z => by cases z) (fun _ => ?_) (fun j hj => by simp [hsub j hj]) KK
                        · by_cases hjn : j = V i
                          · subst hjn
                            rw [gm_ar_2, va_up_self]
                            rfl
                          · rw [gm_ar_n _ _ (fun z => hjn z.2), va_up_ne _ _ hjn]
                            exact hlf j hj
                        · have q1 : cnt_lp T0 10 0 0 ≤ cnt_lp T 10 0 0 := cnt_mono 10 0 0 0 (Nat.le_refl 0) (fun j _ _ z => hsub j z)
                          have q2 := cnt_more (P := T) (Q := fun j => T j || (decide (j = U i) || decide (j = V i))) (v := V i) (by simp) hB 10 0 0 (Nat.zero_le _) (by omega) (fun j _ _ z => by simp [z])
                          omega
                  · exact absurd h5 (by decide)
            | false =>
              refine gi_ild hC dX4_wayIn_100 rfl ?_
              refine gi_ild hC dX4_wayIn_102 rfl ?_
              refine gi_ishr hC dX4_wayIn_104 ?_
              refine gi_const hC (v := 1) dX4_wayIn_105 (by decide) ?_
              refine gi_iand hC dX4_wayIn_106 ?_
              refine gi_const hC (v := 1) dX4_wayIn_107 (by decide) ?_
              rw [bm_tst hy (by omega), hA]
              refine gi_icmp_ne hC 115 dX4_wayIn_108 (by decide) (fun h4 => ?_) (fun h4 => ?_)
              ·
                refine gi_const hC (v := 0) dX4_wayIn_115 (by decide) ?_
                refine gi_ist_9 hC dX4_wayIn_116 (by decide) ?_
                cases hB : T (V i) with
                | true =>
                  refine gi_ild hC dX4_wayIn_118 rfl ?_
                  refine gi_ild hC dX4_wayIn_120 rfl ?_
                  refine gi_ishr hC dX4_wayIn_122 ?_
                  refine gi_const hC (v := 1) dX4_wayIn_123 (by decide) ?_
                  refine gi_iand hC dX4_wayIn_124 ?_
                  refine gi_const hC (v := 1) dX4_wayIn_125 (by decide) ?_
                  rw [bm_tst hy (by omega), hB]
                  refine gi_icmp_ne hC 133 dX4_wayIn_126 (by decide) (fun h5 => ?_) (fun h5 => ?_)
                  · exact absurd rfl h5
                  ·
                    refine gi_const hC (v := 1) dX4_wayIn_129 (by decide) ?_
                    refine gi_goto hC 134 dX4_wayIn_130 (by decide) ?_
                    refine gi_ist_10 hC dX4_wayIn_134 (by decide) ?_
                    refine gi_ild hC dX4_wayIn_136 rfl ?_
                    refine gi_ild hC dX4_wayIn_138 rfl ?_
                    refine gi_icmp_eq hC 179 dX4_wayIn_140 (by decide) (fun h6 => ?_) (fun h6 => ?_)
                    · exact absurd h6 (by decide)
                    ·
                      refine gi_aldn hC dX4_wayIn_143 rfl ?_
                      refine gf_M_lifted hC gw_325 dX4_wayIn_144 ?_
                      refine gi_ild hC dX4_wayIn_147 rfl ?_
                      refine gi_if_eq hC 157 dX4_wayIn_149 (by decide) (fun h7 => ?_) (fun h7 => ?_)
                      ·
                        refine gi_ild hC dX4_wayIn_157 rfl ?_
                        refine gi_ild hC dX4_wayIn_159 rfl ?_
                        refine gi_iast hC (gm_i13 E) (j := U i) (by omega) rfl (by first | decide | omega) dX4_wayIn_161 ?_
                        refine gi_ild hC dX4_wayIn_162 rfl ?_
                        refine gi_const hC (v := 1) dX4_wayIn_164 (by decide) ?_
                        refine gi_ild hC dX4_wayIn_165 rfl ?_
                        refine gi_ishl hC dX4_wayIn_167 ?_
                        refine gi_const hC (v := 1) dX4_wayIn_168 (by decide) ?_
                        refine gi_ild hC dX4_wayIn_169 rfl ?_
                        refine gi_ishl hC dX4_wayIn_171 ?_
                        refine gi_ior hC dX4_wayIn_172 ?_
                        refine gi_ior hC dX4_wayIn_173 ?_
                        refine gi_ist_4 hC dX4_wayIn_174 (by decide) ?_
                        refine gi_const hC (v := 1) dX4_wayIn_176 (by decide) ?_
                        refine gi_ist_5 hC dX4_wayIn_177 (by decide) ?_
                        refine gi_iinc_6 hC dX4_wayIn_179 (nI_1 i) (by decide) ?_
                        refine gi_goto hC 52 dX4_wayIn_182 (by decide) ?_
                        refine ih (i + 1) T0 _ _ _ _ true _ _ _ _ _ (by omega) (gm_fr_tr hfr (gm_fr_ar rfl)) (fun j hj => ?_) (wy_step hinv (by omega) hg (Or.inr ⟨rfl, rfl⟩) hB hA (by omega)) (bm_or hy (bm_or (bm_pow (n := U i) (by omega)) (bm_pow (n := V i) (by omega)))) (fun z => by cases z) (fun _ => ?_) (fun j hj => by simp [hsub j hj]) KK
                        · by_cases hjn : j = U i
                          · subst hjn
                            rw [gm_ar_2, va_up_self]
                            rfl
                          · rw [gm_ar_n _ _ (fun z => hjn z.2), va_up_ne _ _ hjn]
                            exact hlf j hj
                        · have q1 : cnt_lp T0 10 0 0 ≤ cnt_lp T 10 0 0 := cnt_mono 10 0 0 0 (Nat.le_refl 0) (fun j _ _ z => hsub j z)
                          have q2 := cnt_more (P := T) (Q := fun j => T j || (decide (j = U i) || decide (j = V i))) (v := U i) (by simp) hA 10 0 0 (Nat.zero_le _) (by omega) (fun j _ _ z => by simp [z])
                          omega
                      · exact absurd rfl h7
                | false =>
                  refine gi_ild hC dX4_wayIn_118 rfl ?_
                  refine gi_ild hC dX4_wayIn_120 rfl ?_
                  refine gi_ishr hC dX4_wayIn_122 ?_
                  refine gi_const hC (v := 1) dX4_wayIn_123 (by decide) ?_
                  refine gi_iand hC dX4_wayIn_124 ?_
                  refine gi_const hC (v := 1) dX4_wayIn_125 (by decide) ?_
                  rw [bm_tst hy (by omega), hB]
                  refine gi_icmp_ne hC 133 dX4_wayIn_126 (by decide) (fun h5 => ?_) (fun h5 => ?_)
                  ·
                    refine gi_const hC (v := 0) dX4_wayIn_133 (by decide) ?_
                    refine gi_ist_10 hC dX4_wayIn_134 (by decide) ?_
                    refine gi_ild hC dX4_wayIn_136 rfl ?_
                    refine gi_ild hC dX4_wayIn_138 rfl ?_
                    refine gi_icmp_eq hC 179 dX4_wayIn_140 (by decide) (fun h6 => ?_) (fun h6 => ?_)
                    · exact N _ _ _ _ (fun _ => by rw [hA, hB])
                    · exact absurd rfl h6
                  · exact absurd h5 (by decide)
              · exact absurd h4 (by decide)
  have LO : ∀ n (T : Nat → Bool) (lf : Nat → Option Nat) (rk : Nat → Nat) (y : Int32) (mo : Bool) (σ2 : gm_S) (w6 w7 w8 w9 w10 : Option Value), (mo = true → 10 < cnt_lp T 10 0 0 + n) → gm_fr σ σ2 (fun _ _ => False) (fun y => y = 13) → (∀ j, j < 10 → σ2.2 13 j = oI (lf j)) → wy_inv U V (wG p f w) (U w) T lf rk → bm y T → (mo = false → ∀ e, wG p f w e → T (U e) = T (V e)) → gm_G X E 11 41 [some (.ref (E.2.2 5)), some (.int (nI f)), some (.int (nI w)), some (.int (nI (U w))), some (.int y), some (.int (if mo = true then 1 else 0)), w6, w7, w8, w9, w10] [] σ2 := by
    have EX : ∀ (T : Nat → Bool) (lf : Nat → Option Nat) (rk : Nat → Nat) (y : Int32) (σ2 : gm_S) (w6 w7 w8 w9 w10 : Option Value), gm_fr σ σ2 (fun _ _ => False) (fun y => y = 13) → (∀ j, j < 10 → σ2.2 13 j = oI (lf j)) → wy_inv U V (wG p f w) (U w) T lf rk → (∀ e, wG p f w e → T (U e) = T (V e)) → gm_G X E 11 41 [some (.ref (E.2.2 5)), some (.int (nI f)), some (.int (nI w)), some (.int (nI (U w))), some (.int y), some (.int 0), w6, w7, w8, w9, w10] [] σ2 := by
      intro T lf rk y σ2 w6 w7 w8 w9 w10 hfr hlf hinv hcl
      obtain ⟨hE2, hp2⟩ := hEr σ2 hfr
      obtain ⟨w1, w2, w3, w4⟩ := hE2 w hw
      refine gi_ild hC dX4_wayIn_41 rfl ?_
      refine gi_if_eq hC 188 dX4_wayIn_43 (by decide) (fun h1 => ?_) (fun h1 => ?_)
      ·
        refine gi_aldn hC dX4_wayIn_188 rfl ?_
        refine gf_M_ends hC gw_317 dX4_wayIn_189 ?_
        refine gi_const hC (v := 2) dX4_wayIn_192 (by decide) ?_
        refine gi_ildn hC dX4_wayIn_193 rfl ?_
        refine gi_imul hC dX4_wayIn_194 ?_
        refine gi_const hC (v := 1) dX4_wayIn_195 (by decide) ?_
        refine gi_iadd hC dX4_wayIn_196 ?_
        refine gi_iald hC (gm_i6 E) (j := 2 * w + 1) (by omega) (by rw [show (2 : Int32) = nI 2 from rfl, pk_mul, nI_1]) (by first | decide | omega) dX4_wayIn_197 ?_
        rw [w2]
        refine gi_ist_6 hC dX4_wayIn_198 (by decide) ?_
        refine gi_const hC (v := 0) dX4_wayIn_200 (by decide) ?_
        refine gi_ist_7 hC dX4_wayIn_201 (by decide) ?_
        exact LB (rk (V w) + 1) (V w) (fun _ => false) 0 T lf rk σ2 _ _ _ _ _ (by omega) w4 hfr hlf hinv hcl bm_0 ⟨fun x hx => (by cases hx), gq_rf, fun x hx => (by cases hx)⟩ (Or.inr ⟨rfl, rfl⟩)
      · exact absurd rfl h1
    intro n
    induction n with
    | zero =>
      intro T lf rk y mo σ2 w6 w7 w8 w9 w10 hm hfr hlf hinv hy hcl
      cases mo with
      | true => have := hm rfl; have := cnt_lp_le T 10 0 0; omega
      | false => exact EX T lf rk y σ2 _ _ _ _ _ hfr hlf hinv (hcl rfl)
    | succ n ih =>
      intro T lf rk y mo σ2 w6 w7 w8 w9 w10 hm hfr hlf hinv hy hcl
      cases mo with
      | false => exact EX T lf rk y σ2 _ _ _ _ _ hfr hlf hinv (hcl rfl)
      | true =>
        refine gi_ild hC dX4_wayIn_41 rfl ?_
        refine gi_if_eq hC 188 dX4_wayIn_43 (by decide) (fun h1 => ?_) (fun h1 => ?_)
        · exact absurd h1 (by decide)
        ·
          refine gi_const hC (v := 0) dX4_wayIn_46 (by decide) ?_
          refine gi_ist_5 hC dX4_wayIn_47 (by decide) ?_
          refine gi_const hC (v := 0) dX4_wayIn_49 (by decide) ?_
          refine gi_ist_6 hC dX4_wayIn_50 (by decide) ?_
          refine LI 24 0 T T lf rk y false σ2 _ _ _ _ rfl hfr hlf hinv hy (fun _ => ⟨rfl, fun e he => absurd he (Nat.not_lt_zero e)⟩) (fun z => by cases z) (fun _ z => z) (fun σ3 T3 lf3 rk3 y3 mo3 w6 w7 w8 w9 w10 b1 b2 b3 b4 b5 b6 => ?_)
          exact ih T3 lf3 rk3 y3 mo3 σ3 _ _ _ _ _ (fun z => by have := b6 z; have := hm rfl; omega) b1 b2 b3 b4 (fun z => (b5 z).2)
  have L0 : ∀ m i (σ2 : gm_S) (w5 w6 w7 w8 w9 w10 : Option Value), i + m = 10 → gm_fr σ σ2 (fun _ _ => False) (fun y => y = 13) → (∀ j, j < i → σ2.2 13 j = -1) → gm_G X E 11 12 [some (.ref (E.2.2 5)), some (.int (nI f)), some (.int (nI w)), some (.int (nI (U w))), some (.int (nI i)), w5, w6, w7, w8, w9, w10] [] σ2 := by
    intro m
    induction m with
    | zero =>
      intro i σ2 w5 w6 w7 w8 w9 w10 hi0 hfr hz
      have hi0 : i = 10 := by omega
      subst hi0
      refine gi_ild hC dX4_wayIn_12 rfl ?_
      refine gi_bipush hC (v := 10) dX4_wayIn_14 (by decide) ?_
      refine gi_icmp_ge hC 33 dX4_wayIn_16 (by decide) (fun h1 => ?_) (fun h1 => ?_)
      ·
        refine gi_const hC (v := 1) dX4_wayIn_33 (by decide) ?_
        refine gi_ildn hC dX4_wayIn_34 rfl ?_
        refine gi_ishl hC dX4_wayIn_35 ?_
        refine gi_ist_4 hC dX4_wayIn_36 (by decide) ?_
        refine gi_const hC (v := 1) dX4_wayIn_38 (by decide) ?_
        refine gi_ist_5 hC dX4_wayIn_39 (by decide) ?_
        refine LO 11 (fun i => decide (i = U w)) (fun _ => none) (fun _ => 0) _ true σ2 _ _ _ _ _ (fun _ => by omega) hfr (fun j hj => by rw [hz j hj]; rfl) ⟨by simp, fun v hv => ?_, fun _ _ => rfl, rfl, fun v hv hne => ?_, fun v hv => ?_⟩ (bm_pow (by omega)) (fun z => by cases z)
        · simp at hv; omega
        · simp at hv; exact absurd hv hne
        · simp at hv; rw [hv]; exact gq_rf
      · exact absurd (Int32.le_refl _) h1
    | succ m ih =>
      intro i σ2 w5 w6 w7 w8 w9 w10 hi0 hfr hz
      refine gi_ild hC dX4_wayIn_12 rfl ?_
      refine gi_bipush hC (v := 10) dX4_wayIn_14 (by decide) ?_
      refine gi_icmp_ge hC 33 dX4_wayIn_16 (by decide) (fun h1 => ?_) (fun h1 => ?_)
      · exact absurd h1 (nI_ge (a := i) (b := 10) (by omega) (by omega))
      ·
        refine gi_aldn hC dX4_wayIn_19 rfl ?_
        refine gf_M_lifted hC gw_325 dX4_wayIn_20 ?_
        refine gi_ild hC dX4_wayIn_23 rfl ?_
        refine gi_const hC (v := -1) dX4_wayIn_25 (by decide) ?_
        refine gi_iast hC (gm_i13 E) (j := i) (by omega) rfl (by first | decide | omega) dX4_wayIn_26 ?_
        refine gi_iinc_4 hC dX4_wayIn_27 (nI_1 i) (by decide) ?_
        refine gi_goto hC 12 dX4_wayIn_30 (by decide) ?_
        exact ih (i + 1) _ _ _ _ _ _ _ (by omega) (gm_fr_tr hfr (gm_fr_ar rfl)) (fun j hj => by
          by_cases q : j = i
          · subst q; exact gm_ar_2 _ _ _ _
          · rw [gm_ar_n _ _ (fun z => q z.2)]; exact hz j (by omega))
  refine gi_aldn hC dX4_wayIn_0 rfl ?_
  refine gf_M_ends hC gw_317 dX4_wayIn_1 ?_
  refine gi_const hC (v := 2) dX4_wayIn_4 (by decide) ?_
  refine gi_ildn hC dX4_wayIn_5 rfl ?_
  refine gi_imul hC dX4_wayIn_6 ?_
  refine gi_iald hC (gm_i6 E) (j := 2 * w) (by omega) (by rw [show (2 : Int32) = nI 2 from rfl, pk_mul]) (by first | decide | omega) dX4_wayIn_7 ?_
  rw [w1]
  refine gi_istn_3 hC dX4_wayIn_8 (by decide) ?_
  refine gi_const hC (v := 0) dX4_wayIn_9 (by decide) ?_
  refine gi_ist_4 hC dX4_wayIn_10 (by decide) ?_
  exact L0 10 0 σ _ _ _ _ _ _ rfl gm_fr_rf (fun j hj => absurd hj (Nat.not_lt_zero j))
end
section
/-! THE SEARCH in pure words: what it has reached, in order; a row of moves; a set that is closed -/
def gs (F : Nat → Nat) : Nat → Nat
  | 0 => 0
  | k + 1 => gs F k + F k
theorem gs_congr {F G : Nat → Nat} : ∀ {k}, (∀ f, f < k → F f = G f) → gs F k = gs G k
  | 0, _ => rfl
  | k + 1, h => by rw [gs, gs, gs_congr (fun f hf => h f (by omega)), h k (by omega)]
theorem gs_mono {F G : Nat → Nat} : ∀ {k}, (∀ f, f < k → F f ≤ G f) → gs F k ≤ gs G k
  | 0, _ => Nat.le_refl 0
  | k + 1, h => by
    have h1 := gs_mono (F := F) (G := G) (k := k) (fun f hf => h f (by omega))
    have h2 := h k (by omega)
    rw [gs, gs]
    omega
theorem gs_bump {F G : Nat → Nat} {i : Nat} (hi : F i = G i + 1) : ∀ {k}, i < k → (∀ f, f < k → f ≠ i → F f = G f) → gs F k = gs G k + 1
  | 0, h, _ => absurd h (Nat.not_lt_zero i)
  | k + 1, h, hx => by
    rw [gs, gs]
    by_cases e : i = k
    · subst e
      rw [hi, gs_congr (fun f hf => hx f (by omega) (by omega))]
      omega
    · rw [gs_bump (F := F) (G := G) hi (k := k) (by omega) (fun f hf => hx f (by omega)), hx k (by omega) (Ne.symm e)]
      omega
theorem gs_parts {P : Nat → Prop} {q : Nat → Option Nat} {k : Nat} (h : ∀ e, P e → ∃ i, i < k ∧ q e = some i) : ∀ M, gs (fun f => gc_n (fun e => q e = some f ∧ P e) M) k = gc_n P M
  | 0 => by
    have : ∀ k, gs (fun _ => 0) k = 0 := by
      intro k
      induction k with
      | zero => rfl
      | succ k ih => rw [gs, ih]
    exact this k
  | M + 1 => by
    have ih := gs_parts (P := P) (q := q) (k := k) h M
    by_cases hP : P M
    · obtain ⟨i, hi, hq⟩ := h M hP
      rw [gc_s1 hP, ← ih]
      refine gs_bump (i := i) ?_ hi (fun f hf hne => ?_)
      · exact gc_s1 (P := fun e => q e = some i ∧ P e) ⟨hq, hP⟩
      · exact gc_s0 (P := fun e => q e = some f ∧ P e) (fun z => hne (by have := hq.symm.trans z.1; exact (Option.some.inj this).symm))
    · rw [gc_s0 hP, ← ih]
      exact gs_congr (fun f hf => gc_s0 (P := fun e => q e = some f ∧ P e) (fun z => hP z.2))
theorem nd_inj : ∀ (L : List Nat), L.Nodup → ∀ a b x : Nat, L[a]? = some x → L[b]? = some x → a = b
  | [], _, a, b, x, h, _ => by simp at h
  | y :: L, hn, a, b, x, h1, h2 => by
    obtain ⟨n1, n2⟩ := List.nodup_cons.mp hn
    cases a with
    | zero =>
      cases b with
      | zero => rfl
      | succ b =>
        rw [List.getElem?_cons_zero] at h1
        rw [List.getElem?_cons_succ] at h2
        cases h1
        exact absurd (List.mem_of_getElem? h2) n1
    | succ a =>
      rw [List.getElem?_cons_succ] at h1
      cases b with
      | zero =>
        rw [List.getElem?_cons_zero] at h2
        cases h2
        exact absurd (List.mem_of_getElem? h1) n1
      | succ b =>
        rw [List.getElem?_cons_succ] at h2
        rw [nd_inj L n2 a b x h1 h2]
section BF
variable {U V : Nat → Nat} {k : Nat} {p : Nat → Option Nat} {fx : Nat → Prop} {w : Nat}
/-- CLOSED: no room for w -/
theorem gp_closed {n M : Nat} (hM : ∀ e, p e ≠ none → e < M) (hwM : w < M) (hUV : ∀ e, p e ≠ none ∨ e = w → U e < n ∧ V e < n) (hw : p w = none) (hok : ∀ e i, p e = some i → i < k) (R : Nat → Prop) (hR : ∀ e, R e → p e ≠ none) (hfx : ∀ e, fx e → p e ≠ none) (hcl : ∀ z, R z ∨ z = w → ∀ f, f < k → gh_in U V (fun x => gp_F p f x ∧ (R x ∨ fx x)) z) : ¬ gp_fix U V k (fun e => p e ≠ none ∨ e = w) fx p := by
  rintro ⟨p2, h2, hd, hfix⟩
  have hdom : ∀ e, R e ∨ e = w ∨ fx e → p e ≠ none ∨ e = w := fun e he => by
    rcases he with z | z | z
    · exact Or.inl (hR e z)
    · exact Or.inr z
    · exact Or.inl (hfx e z)
  have e1 : ∀ e, R e ∨ e = w ∨ fx e → ∃ i, i < k ∧ p2 e = some i := fun e he => by
    have := (hd e).mp (hdom e he)
    cases hq : p2 e with
    | none => exact absurd hq this
    | some i => exact ⟨i, h2.1 e i hq, rfl⟩
  have e2 : ∀ e, R e ∨ fx e → ∃ i, i < k ∧ p e = some i := fun e he => by
    have hne : p e ≠ none := he.elim (hR e) (hfx e)
    cases hq : p e with
    | none => exact absurd hq hne
    | some i => exact ⟨i, hok e i hq, rfl⟩
  have s1 := gs_parts (k := k) e1 M
  have s2 := gs_parts (k := k) e2 M
  have hle : gs (fun f => gc_n (fun e => p2 e = some f ∧ (R e ∨ e = w ∨ fx e)) M) k ≤ gs (fun f => gc_n (fun e => p e = some f ∧ (R e ∨ fx e)) M) k := by
    refine gs_mono fun f hf => ?_
    refine gf_rank (U := U) (V := V) (n := n) (gf_sub (h2.2 f hf) (fun e he => he.1)) (fun e he => ?_) (fun e he => ?_) (fun e he => (hUV e (hdom e he.2)).1) (fun e he => (hUV e (hdom e he.2)).2) (fun e he => (hUV e (Or.inl (by rw [he.1]; exact fun z => by cases z))).1) (fun e he => (hUV e (Or.inl (by rw [he.1]; exact fun z => by cases z))).2) (fun e he => ?_)
    · rcases hdom e he.2 with z | z
      · exact hM e z
      · rw [z]; exact hwM
    · exact hM e (by rw [he.1]; exact fun z => by cases z)
    · rcases he.2 with z | z | z
      · exact hcl e (Or.inl z) f hf
      · exact hcl e (Or.inr z) f hf
      · exact gq_ed (X := fun x => p x = some f ∧ (R x ∨ fx x)) ⟨by rw [← hfix e z]; exact he.1, Or.inr z⟩
  have hout : gc_n (fun e => R e ∨ e = w ∨ fx e) M = gc_n (fun e => R e ∨ fx e) M + 1 := by
    refine gc_out (w := w) (Or.inr (Or.inl rfl)) (fun z => ?_) hwM (fun v _ hne => ⟨fun z => ?_, fun z => ?_⟩)
    · exact z.elim (fun y => hR w y hw) (fun y => hfx w y hw)
    · rcases z with z | z | z
      · exact Or.inl z
      · exact absurd z hne
      · exact Or.inr z
    · rcases z with z | z
      · exact Or.inl z
      · exact Or.inr (Or.inr z)
  omega
def bf_D (U V : Nat → Nat) (p : Nat → Option Nat) (fx : Nat → Prop) (L : List Nat) (f z : Nat) : Prop := gh_in U V (fun x => gp_F p f x ∧ (x ∈ L ∨ fx x)) z
def bf_ok (U V : Nat → Nat) (p : Nat → Option Nat) (fx : Nat → Prop) (w : Nat) (L : List Nat) (pr : Nat → Nat) : Prop := L[0]? = some w ∧ L.Nodup ∧ ∀ j y, L[j + 1]? = some y → ∃ i f, i ≤ j ∧ L[i]? = some (pr y) ∧ p y = some f ∧ ¬ fx y ∧ ¬ gh_in U V (fun x => gp_F p f x ∧ x ≠ y) (pr y) ∧ ∀ i2 z2, i2 < i → L[i2]? = some z2 → gh_in U V (fun x => gp_F p f x ∧ x ≠ y) z2
theorem bf_D_mono {L L2 : List Nat} {f z : Nat} (h : bf_D U V p fx L f z) (hs : ∀ x, x ∈ L → x ∈ L2) : bf_D U V p fx L2 f z := gq_mono (fun x hx => ⟨hx.1, hx.2.elim (fun y => Or.inl (hs x y)) Or.inr⟩) h
theorem bf_init : bf_ok U V p fx w [w] (fun _ => w) := ⟨rfl, by simp, fun j y h => by simp at h⟩
theorem bf_push {L : List Nat} {pr : Nat → Nat} {y z f i : Nat} (h : bf_ok U V p fx w L pr) (hy : y ∉ L) (hfy : ¬ fx y) (hp : p y = some f) (hz : L[i]? = some z) (hr : ¬ gh_in U V (fun x => gp_F p f x ∧ x ≠ y) z) (hD : ∀ i2 z2, i2 < i → L[i2]? = some z2 → bf_D U V p fx L f z2) : bf_ok U V p fx w (L ++ [y]) (va_up pr y z) := by
  obtain ⟨h1, h2, h3⟩ := h
  have hlen : ∀ {j x}, L[j]? = some x → (L ++ [y])[j]? = some x := fun {j x} hj => by
    rw [List.getElem?_append_left (List.getElem?_eq_some_iff.mp hj).1]; exact hj
  refine ⟨hlen h1, ?_, fun j y2 hj => ?_⟩
  · rw [List.nodup_append]
    refine ⟨h2, by simp, fun a ha b hb => ?_⟩
    simp at hb
    subst hb
    exact fun e => hy (e ▸ ha)
  · by_cases hjl : j + 1 < L.length
    · rw [List.getElem?_append_left hjl] at hj
      have hy2 : y2 ≠ y := fun e => hy (e ▸ List.mem_of_getElem? hj)
      obtain ⟨i2, f2, c1, c2, c3, c4, c5, c6⟩ := h3 j y2 hj
      refine ⟨i2, f2, c1, by rw [va_up_ne _ _ hy2]; exact hlen c2, c3, c4, by rw [va_up_ne _ _ hy2]; exact c5, fun i3 z3 hi3 hz3 => c6 i3 z3 hi3 ?_⟩
      rwa [List.getElem?_append_left (by omega)] at hz3
    · have hj2 : j + 1 = L.length := by
        have := (List.getElem?_eq_some_iff.mp hj).1
        simp at this
        omega
      rw [List.getElem?_append_right (by omega), hj2] at hj
      simp at hj
      subst hj
      have hil := (List.getElem?_eq_some_iff.mp hz).1
      refine ⟨i, f, by omega, by rw [va_up_self]; exact hlen hz, hp, hfy, by rw [va_up_self]; exact hr, fun i3 z3 hi3 hz3 => ?_⟩
      rw [List.getElem?_append_left (by omega)] at hz3
      refine gq_mono (fun x hx => ⟨hx.1, fun e => ?_⟩) (hD i3 z3 hi3 hz3)
      subst e
      exact hx.2.elim hy hfy
/-- the row of moves from z back to w -/
def chn (pr : Nat → Nat) (w : Nat) : List Nat → Prop
  | [] => False
  | [z] => z = w
  | z :: y :: r => z ≠ w ∧ y = pr z ∧ chn pr w (y :: r)
theorem bf_path {L : List Nat} {pr : Nat → Nat} (h : bf_ok U V p fx w L pr) : ∀ (i z : Nat), L[i]? = some z → ∃ r : List Nat, (∀ y, y ∈ z :: r → ∃ i2 : Nat, i2 ≤ i ∧ L[i2]? = some y) ∧ chn pr w (z :: r) ∧ (z :: r).Nodup ∧ (∀ y, y ∈ z :: r → y = w ∨ (p y ≠ none ∧ ¬ fx y)) ∧ ∀ G : Nat → Prop, ¬ gh_in U V G z → (∀ i2 z2 : Nat, i2 < i → L[i2]? = some z2 → gh_in U V G z2) → gp_pth U V p G (z :: r) := by
  intro i
  induction i using Nat.strongRecOn with
  | ind i ih =>
    intro z hz
    obtain ⟨h1, h2, h3⟩ := id h
    cases i with
    | zero =>
      have hzw : z = w := Option.some.inj (hz.symm.trans h1)
      subst hzw
      refine ⟨[], fun y hy => ⟨0, Nat.le_refl 0, ?_⟩, rfl, by simp, fun y hy => Or.inl (by simpa using hy), fun G hG _ => ⟨hG, fun y hy => (by cases hy), fun z => absurd rfl z⟩⟩
      have : y = z := by simpa using hy
      rw [this]; exact hz
    | succ j =>
      obtain ⟨i2, f, c1, c2, c3, c4, c5, c6⟩ := h3 j z hz
      obtain ⟨r, d1, d2, d3, d4, d5⟩ := ih i2 (by omega) (pr z) c2
      have hinj : ∀ a b x : Nat, L[a]? = some x → L[b]? = some x → a = b := fun a b x ha hb => nd_inj L h2 a b x ha hb
      have hzw : z ≠ w := fun e => by
        subst e
        have := hinj _ _ _ h1 hz
        omega
      have hznot : z ∉ pr z :: r := fun hm => by
        obtain ⟨i3, e1, e2⟩ := d1 z hm
        have := hinj _ _ _ e2 hz
        omega
      refine ⟨pr z :: r, fun y hy => ?_, ⟨hzw, rfl, d2⟩, List.nodup_cons.mpr ⟨hznot, d3⟩, fun y hy => ?_, fun G hG hE => ⟨hG, fun y hy => ?_, fun _ => ⟨f, c3, d5 _ c5 c6⟩⟩⟩
      · rcases List.mem_cons.mp hy with e | e
        · rw [e]; exact ⟨j + 1, Nat.le_refl _, hz⟩
        · obtain ⟨i3, e1, e2⟩ := d1 y e
          exact ⟨i3, by omega, e2⟩
      · rcases List.mem_cons.mp hy with e | e
        · rw [e]; exact Or.inr ⟨by rw [c3]; exact fun q => (by cases q), c4⟩
        · exact d4 y e
      · obtain ⟨i3, e1, e2⟩ := d1 y hy
        exact hE i3 y (by omega) e2
/-- the moves along a row -/
def shp : List Nat → (Nat → Option Nat) → Option Nat → (Nat → Option Nat)
  | [], p, _ => p
  | z :: r, p, t => shp r (va_up p z t) (p z)
theorem shp_ok {pr : Nat → Nat} : ∀ (r : List Nat) (z : Nat) (p : Nat → Option Nat) (t : Nat), gp_ok U V k p → t < k → p w = none → chn pr w (z :: r) → (z :: r).Nodup → gp_pth U V p (gp_F p t) (z :: r) → gp_ok U V k (shp (z :: r) p (some t)) ∧ (∀ e, (shp (z :: r) p (some t) e ≠ none ↔ p e ≠ none ∨ e = w)) ∧ ∀ e, e ∉ z :: r → shp (z :: r) p (some t) e = p e
  | [], z, p, t, hok, ht, hw, hc, hn, hp => by
    have hzw : z = w := hc
    subst hzw
    refine ⟨gp_mv_ok hok ht hp.1, fun e => ?_, fun e he => ?_⟩
    · show va_up p z (some t) e ≠ none ↔ _
      by_cases q : e = z
      · subst q; rw [va_up_self]; simp
      · rw [va_up_ne _ _ q]; simp [q]
    · show va_up p z (some t) e = p e
      exact va_up_ne _ _ (fun q => he (by rw [q]; exact List.mem_cons_self))
  | y :: r, z, p, t, hok, ht, hw, hc, hn, hp => by
    obtain ⟨hzw, hy, hc2⟩ := hc
    obtain ⟨hz, hn2⟩ := List.nodup_cons.mp hn
    obtain ⟨i, hi, hik, h1, h2⟩ := gp_step hok ht hz (by simp) hp
    have hw2 : gp_mv p z t w = none := by rw [gp_mv, va_up_ne _ _ (Ne.symm hzw)]; exact hw
    obtain ⟨a1, a2, a3⟩ := shp_ok r y (gp_mv p z t) i h1 hik hw2 hc2 hn2 h2
    have e1 : shp (z :: y :: r) p (some t) = shp (y :: r) (gp_mv p z t) (some i) := by
      rw [shp, hi]; rfl
    rw [e1]
    refine ⟨a1, fun e => ?_, fun e he => ?_⟩
    · rw [a2 e]
      by_cases q : e = z
      · subst q; rw [gp_mv, va_up_self, hi]; simp
      · rw [gp_mv, va_up_ne _ _ q]
    · have q : e ≠ z := fun q => he (by rw [q]; exact List.mem_cons_self)
      rw [a3 e (fun q2 => he (List.mem_cons_of_mem _ q2)), gp_mv, va_up_ne _ _ q]
end BF
end
section
/-! THE REFERENCE: shift, place -/
theorem nd_len : ∀ (L : List Nat) (n : Nat), L.Nodup → (∀ x, x ∈ L → x < n) → gc_n (fun x => x ∈ L) n = L.length
  | [], n, _, _ => gc_none n (fun v _ h => by cases h)
  | y :: L, n, hn, hx => by
    obtain ⟨n1, n2⟩ := List.nodup_cons.mp hn
    have ih := nd_len L n n2 (fun x h => hx x (List.mem_cons_of_mem _ h))
    rw [List.length_cons, ← ih]
    exact gc_out (w := y) List.mem_cons_self n1 (hx y List.mem_cons_self) (fun v _ hv => ⟨fun z => (List.mem_cons.mp z).elim (fun q => absurd q hv) id, fun z => List.mem_cons_of_mem _ z⟩)
theorem nd_le {L : List Nat} {n : Nat} (hn : L.Nodup) (hx : ∀ x, x ∈ L → x < n) : L.length ≤ n := by
  rw [← nd_len L n hn hx]; exact gc_le n
def bq (σ : gm_S) (L : List Nat) (pr : Nat → Nat) : Prop := (∀ i y : Nat, L[i]? = some y → y < 24 ∧ pr y < 24 ∧ σ.2 10 i = nI y) ∧ ∀ y, y < 24 → σ.2 11 y = if y ∈ L then nI (pr y) else -1
def bPR (U V : Nat → Nat) (k : Nat) (p : Nat → Option Nat) (fx : Nat → Prop) (L : List Nat) (h : Nat) : Prop := ∀ i z : Nat, i < h → L[i]? = some z → ∀ f, f < k → bf_D U V p fx L f z
theorem bPR_mono {U V : Nat → Nat} {k h : Nat} {p : Nat → Option Nat} {fx : Nat → Prop} {L : List Nat} {y : Nat} (hl : h ≤ L.length) (g : bPR U V k p fx L h) : bPR U V k p fx (L ++ [y]) h := by
  intro i z hi hz f hf
  rw [List.getElem?_append_left (by omega)] at hz
  exact bf_D_mono (g i z hi hz f hf) (fun x hx => List.mem_append_left _ hx)
set_option maxHeartbeats 4000000 in
set_option maxRecDepth 100000 in
theorem c_X4_shift (l : Launch) (E : gm_E) (σ : gm_S) (p : Nat → Option Nat) (hp : mP σ p) (w t : Nat) (hw : w < 24) (ht : t < 100) (pr : Nat → Nat) (z : Nat) (r : List Nat) (hc : chn pr w (z :: r)) (h24 : ∀ y, y ∈ z :: r → y < 24 ∧ σ.2 11 y = nI (pr y) ∧ pr y < 24) : gm_MV l E yX4_shift (.code yX4_shift cX4_shift 8 none :: gw_T) { frames := 0, cells := 0, slots := 0, locals := 0 } [.ref (E.2.2 5), .int (nI z), .int (nI t), .int (nI w)] σ (fun σ2 => gm_fr σ σ2 (fun _ _ => False) (fun y => y = 8) ∧ mP σ2 (shp (z :: r) p (some t))) := by
  refine gm_enterV RX4 (by decide +kernel) rfl rfl (Nat.le_of_ble_eq_true rfl) (gm_c1_ok rfl) ?_
  intro X hC hR
  show gm_G X E 8 0 [some (.ref (E.2.2 5)), some (.int (nI z)), some (.int (nI t)), some (.int (nI w)), none, none, none, none] [] σ
  obtain ⟨Z, hZ⟩ : ∃ Z, Z = shp (z :: r) p (some t) := ⟨_, rfl⟩
  rw [← hZ] at hR
  have L : ∀ (r2 : List Nat) (z2 : Nat) (p2 : Nat → Option Nat) (t2 : Option Nat) (σ2 : gm_S) (w7 : Option Value), chn pr w (z2 :: r2) → (∀ y, y ∈ z2 :: r2 → y < 24 ∧ σ.2 11 y = nI (pr y) ∧ pr y < 24) → gm_fr σ σ2 (fun _ _ => False) (fun y => y = 8) → mP σ2 p2 → (∀ i, t2 = some i → i < 100) → Z = shp (z2 :: r2) p2 t2 → gm_G X E 8 9 [some (.ref (E.2.2 5)), some (.int (nI z)), some (.int (nI t)), some (.int (nI w)), some (.int (nI z2)), some (.int (oI t2)), some (.int 1), w7] [] σ2 := by
    intro r2
    induction r2 with
    | nil =>
      intro z2 p2 t2 σ2 w7 hc2 h242 hfr hp2 ht2 hw2
      obtain ⟨hz24, hcz, hpz⟩ := h242 z2 List.mem_cons_self
      obtain ⟨p1, p3⟩ := hp2 z2 hz24
      have hp3 : mP (gm_ar σ2 8 z2 (oI t2)) (va_up p2 z2 t2) := by
        intro e he
        by_cases q : e = z2
        · subst q; rw [gm_ar_2, va_up_self]; exact ⟨rfl, ht2⟩
        · rw [gm_ar_n _ _ (fun y => q y.2), va_up_ne _ _ q]; exact hp2 e he
      have hc11 : (gm_ar σ2 8 z2 (oI t2)).2 11 z2 = nI (pr z2) := by rw [gm_ar_r _ _ (by decide), hfr.2 11 (by decide)]; exact hcz
      have hfr3 : gm_fr σ (gm_ar σ2 8 z2 (oI t2)) (fun _ _ => False) (fun y => y = 8) := gm_fr_tr hfr (gm_fr_ar rfl)
      have hzw : z2 = w := hc2
      refine gi_ild hC dX4_shift_9 rfl ?_
      refine gi_if_eq hC 61 dX4_shift_11 (by decide) (fun h1 => ?_) (fun h1 => ?_)
      · exact absurd h1 (by decide)
      ·
        refine gi_aldn hC dX4_shift_14 rfl ?_
        refine gf_M_forestOf hC gw_320 dX4_shift_15 ?_
        refine gi_ild hC dX4_shift_18 rfl ?_
        refine gi_iald hC (gm_i8 E) hz24 rfl (by first | decide | omega) dX4_shift_20 ?_
        rw [p1]
        refine gi_ist_7 hC dX4_shift_21 (by decide) ?_
        refine gi_aldn hC dX4_shift_23 rfl ?_
        refine gf_M_forestOf hC gw_320 dX4_shift_24 ?_
        refine gi_ild hC dX4_shift_27 rfl ?_
        refine gi_ild hC dX4_shift_29 rfl ?_
        refine gi_iast hC (gm_i8 E) hz24 rfl (by first | decide | omega) dX4_shift_31 ?_
        refine gi_ild hC dX4_shift_32 rfl ?_
        refine gi_ist_5 hC dX4_shift_34 (by decide) ?_
        refine gi_ild hC dX4_shift_36 rfl ?_
        refine gi_ildn hC dX4_shift_38 rfl ?_
        refine gi_icmp_eq hC 46 dX4_shift_39 (by decide) (fun h2 => ?_) (fun h2 => ?_)
        ·
          refine gi_const hC (v := 0) dX4_shift_46 (by decide) ?_
          refine gi_ist_6 hC dX4_shift_47 (by decide) ?_
          refine gi_aldn hC dX4_shift_49 rfl ?_
          refine gf_M_cameFrom hC gw_323 dX4_shift_50 ?_
          refine gi_ild hC dX4_shift_53 rfl ?_
          refine gi_iald hC (gm_i11 E) hz24 rfl (by first | decide | omega) dX4_shift_55 ?_
          rw [hc11]
          refine gi_ist_4 hC dX4_shift_56 (by decide) ?_
          refine gi_goto hC 9 dX4_shift_58 (by decide) ?_
          refine gi_ild hC dX4_shift_9 rfl ?_
          refine gi_if_eq hC 61 dX4_shift_11 (by decide) (fun h3 => ?_) (fun h3 => ?_)
          · exact hR _ _ _ ⟨hfr3, by rw [hw2]; exact hp3⟩ dX4_shift_61
          · exact absurd rfl h3
        · exact absurd (by rw [hzw]) h2
    | cons y r2 ih =>
      intro z2 p2 t2 σ2 w7 hc2 h242 hfr hp2 ht2 hw2
      obtain ⟨hz24, hcz, hpz⟩ := h242 z2 List.mem_cons_self
      obtain ⟨p1, p3⟩ := hp2 z2 hz24
      have hp3 : mP (gm_ar σ2 8 z2 (oI t2)) (va_up p2 z2 t2) := by
        intro e he
        by_cases q : e = z2
        · subst q; rw [gm_ar_2, va_up_self]; exact ⟨rfl, ht2⟩
        · rw [gm_ar_n _ _ (fun y => q y.2), va_up_ne _ _ q]; exact hp2 e he
      have hc11 : (gm_ar σ2 8 z2 (oI t2)).2 11 z2 = nI (pr z2) := by rw [gm_ar_r _ _ (by decide), hfr.2 11 (by decide)]; exact hcz
      have hfr3 : gm_fr σ (gm_ar σ2 8 z2 (oI t2)) (fun _ _ => False) (fun y => y = 8) := gm_fr_tr hfr (gm_fr_ar rfl)
      obtain ⟨hzw, hy, hc3⟩ := hc2
      refine gi_ild hC dX4_shift_9 rfl ?_
      refine gi_if_eq hC 61 dX4_shift_11 (by decide) (fun h1 => ?_) (fun h1 => ?_)
      · exact absurd h1 (by decide)
      ·
        refine gi_aldn hC dX4_shift_14 rfl ?_
        refine gf_M_forestOf hC gw_320 dX4_shift_15 ?_
        refine gi_ild hC dX4_shift_18 rfl ?_
        refine gi_iald hC (gm_i8 E) hz24 rfl (by first | decide | omega) dX4_shift_20 ?_
        rw [p1]
        refine gi_ist_7 hC dX4_shift_21 (by decide) ?_
        refine gi_aldn hC dX4_shift_23 rfl ?_
        refine gf_M_forestOf hC gw_320 dX4_shift_24 ?_
        refine gi_ild hC dX4_shift_27 rfl ?_
        refine gi_ild hC dX4_shift_29 rfl ?_
        refine gi_iast hC (gm_i8 E) hz24 rfl (by first | decide | omega) dX4_shift_31 ?_
        refine gi_ild hC dX4_shift_32 rfl ?_
        refine gi_ist_5 hC dX4_shift_34 (by decide) ?_
        refine gi_ild hC dX4_shift_36 rfl ?_
        refine gi_ildn hC dX4_shift_38 rfl ?_
        refine gi_icmp_eq hC 46 dX4_shift_39 (by decide) (fun h2 => ?_) (fun h2 => ?_)
        · exact absurd ((nI_eq (by omega) (by omega)).mp h2) hzw
        ·
          refine gi_const hC (v := 1) dX4_shift_42 (by decide) ?_
          refine gi_goto hC 47 dX4_shift_43 (by decide) ?_
          refine gi_ist_6 hC dX4_shift_47 (by decide) ?_
          refine gi_aldn hC dX4_shift_49 rfl ?_
          refine gf_M_cameFrom hC gw_323 dX4_shift_50 ?_
          refine gi_ild hC dX4_shift_53 rfl ?_
          refine gi_iald hC (gm_i11 E) hz24 rfl (by first | decide | omega) dX4_shift_55 ?_
          rw [hc11, ← hy]
          refine gi_ist_4 hC dX4_shift_56 (by decide) ?_
          refine gi_goto hC 9 dX4_shift_58 (by decide) ?_
          exact ih y _ (p2 z2) _ _ hc3 (fun x hx => h242 x (List.mem_cons_of_mem _ hx)) hfr3 hp3 p3 hw2
  refine gi_ildn hC dX4_shift_0 rfl ?_
  refine gi_ist_4 hC dX4_shift_1 (by decide) ?_
  refine gi_ildn hC dX4_shift_3 rfl ?_
  refine gi_ist_5 hC dX4_shift_4 (by decide) ?_
  refine gi_const hC (v := 1) dX4_shift_6 (by decide) ?_
  refine gi_ist_6 hC dX4_shift_7 (by decide) ?_
  exact L r z p (some t) σ _ hc h24 gm_fr_rf hp (fun i hi => by cases hi; exact ht) hZ
set_option maxHeartbeats 4000000 in
set_option maxRecDepth 100000 in
theorem c_X4_place (l : Launch) (E : gm_E) (σ : gm_S) (U V : Nat → Nat) (hE : mE σ U V) (p : Nat → Option Nat) (hp : mP σ p) (fx : Nat → Bool) (hz9 : mZ σ 9 fx) (k : Nat) (hk : k < 7) (hok : gp_ok U V k p) (hd : ∀ e, p e ≠ none → e < 24) (w : Nat) (hw : w < 24) (hpw : p w = none) (hne : ∀ e, p e ≠ none ∨ e = w → U e ≠ V e) (hfx : ∀ e, fx e = true → p e ≠ none) : gm_MI l E yX4_place (.code yX4_place cX4_place 9 (some .boolean) :: gw_T) { frames := 1, cells := 0, slots := 0, locals := 30 } [.ref (E.2.2 5), .int (nI w), .int (nI k)] σ (fun r σ2 => gm_fr σ σ2 (fun _ _ => False) (fun y => y = 8 ∨ y = 10 ∨ y = 11 ∨ y = 13) ∧ ((r = 1 ∧ ∃ p2, mP σ2 p2 ∧ gp_ok U V k p2 ∧ (∀ e, p2 e ≠ none ↔ p e ≠ none ∨ e = w) ∧ ∀ e, fx e = true → p2 e = p e) ∨ (r = 0 ∧ mP σ2 p ∧ ¬ gp_fix U V k (fun e => p e ≠ none ∨ e = w) (fun e => fx e = true) p))) := by
  refine gm_enterI RX4 (by decide +kernel) rfl rfl (Nat.le_of_ble_eq_true rfl) (gm_c1_ok rfl) ?_
  intro X hC hR
  show gm_G X E 9 0 [some (.ref (E.2.2 5)), some (.int (nI w)), some (.int (nI k)), none, none, none, none, none, none] [] σ
  have hFR : ∀ σ2 : gm_S, gm_fr σ σ2 (fun _ _ => False) (fun y => y = 10 ∨ y = 11 ∨ y = 13) → mE σ2 U V ∧ mP σ2 p ∧ mZ σ2 9 fx := fun σ2 h => ⟨fun e he => by rw [h.2 6 (by decide)]; exact hE e he, fun e he => by rw [h.2 8 (by decide)]; exact hp e he, fun e he => by rw [h.2 9 (by decide)]; exact hz9 e he⟩
  have hwG : ∀ f z, p z ≠ some f → wG p f z = gp_F p f := fun f z hz => gh_eq fun x => ⟨fun h => h.2.1, fun h => ⟨hd x (by rw [show p x = some f from h]; exact fun q => by cases q), h, fun e => hz (e ▸ h)⟩⟩
  have hLd : ∀ (L : List Nat) (pr : Nat → Nat), bf_ok U V p (fun e => fx e = true) w L pr → ∀ y, y ∈ L → p y ≠ none ∨ y = w := fun L pr h y hy => by
    obtain ⟨i, hi⟩ := List.getElem?_of_mem hy
    cases i with
    | zero => exact Or.inr (Option.some.inj (hi.symm.trans h.1))
    | succ j =>
      obtain ⟨i2, f, _, _, c3, _⟩ := h.2.2 j y hi
      exact Or.inl (by rw [c3]; exact fun q => by cases q)
  have LE : ∀ m e (L : List Nat) (pr : Nat → Nat) (h f z : Nat) (y : Int32) (S : Nat → Bool) (σ2 : gm_S), e + m = 24 → gm_fr σ σ2 (fun _ _ => False) (fun y => y = 10 ∨ y = 11 ∨ y = 13) → bq σ2 L pr → bf_ok U V p (fun e => fx e = true) w L pr → h < L.length → L[h]? = some z → bPR U V k p (fun e => fx e = true) L h → f < k → bm y S → (∀ x, S x = true → gp_F p f x) → (∀ x, S x = true → ¬ gh_in U V (fun v => gp_F p f v ∧ v ≠ x) z) → (∀ f2, f2 < f → bf_D U V p (fun e => fx e = true) L f2 z) → (∀ x, x < e → S x = true → fx x = true ∨ x ∈ L) → (∀ (σ3 : gm_S) (L3 : List Nat) (pr3 : Nat → Nat) (w8 : Option Value), gm_fr σ σ3 (fun _ _ => False) (fun y => y = 10 ∨ y = 11 ∨ y = 13) → bq σ3 L3 pr3 → bf_ok U V p (fun e => fx e = true) w L3 pr3 → h < L3.length → L3[h]? = some z → bPR U V k p (fun e => fx e = true) L3 h → (∀ f2, f2 < f → bf_D U V p (fun e => fx e = true) L3 f2 z) → (∀ x, S x = true → fx x = true ∨ x ∈ L3) → gm_G X E 9 172 [some (.ref (E.2.2 5)), some (.int (nI w)), some (.int (nI k)), some (.int (nI (h + 1))), some (.int (nI L3.length)), some (.int (nI z)), some (.int (nI f)), some (.int y), w8] [] σ3) → gm_G X E 9 107 [some (.ref (E.2.2 5)), some (.int (nI w)), some (.int (nI k)), some (.int (nI (h + 1))), some (.int (nI L.length)), some (.int (nI z)), some (.int (nI f)), some (.int y), some (.int (nI e))] [] σ2 := by
    intro m
    induction m with
    | zero =>
      intro e L pr h f z y S σ2 he0 hfr hbq hbf hhl hz hpr hf hy hS1 hS2 hD hx KK
      have he0 : e = 24 := by omega
      subst he0
      refine gi_ild hC dX4_place_107 rfl ?_
      refine gi_bipush hC (v := 24) dX4_place_109 (by decide) ?_
      refine gi_icmp_ge hC 172 dX4_place_111 (by decide) (fun h1 => ?_) (fun h1 => ?_)
      · exact KK σ2 L pr _ hfr hbq hbf hhl hz hpr hD (fun x hxS => hx x (hd x (by rw [show p x = some f from hS1 x hxS]; exact fun q => by cases q)) hxS)
      · exact absurd (Int32.le_refl _) h1
    | succ m ih =>
      intro e L pr h f z y S σ2 he0 hfr hbq hbf hhl hz hpr hf hy hS1 hS2 hD hx KK
      obtain ⟨hE2, hp2, hz2⟩ := hFR σ2 hfr
      have hze := hz2 e (by omega)
      have hce := hbq.2 e (by omega)
      have N : (S e = true → fx e = true ∨ e ∈ L) → gm_G X E 9 166 [some (.ref (E.2.2 5)), some (.int (nI w)), some (.int (nI k)), some (.int (nI (h + 1))), some (.int (nI L.length)), some (.int (nI z)), some (.int (nI f)), some (.int y), some (.int (nI e))] [] σ2 := by
        intro hN
        refine gi_iinc_8 hC dX4_place_166 (nI_1 e) (by decide) ?_
        refine gi_goto hC 107 dX4_place_169 (by decide) ?_
        exact ih (e + 1) L pr h f z y S σ2 (by omega) hfr hbq hbf hhl hz hpr hf hy hS1 hS2 hD (fun x hx2 hxS => by
          by_cases q : x = e
          · subst q; exact hN hxS
          · exact hx x (by omega) hxS) KK
      refine gi_ild hC dX4_place_107 rfl ?_
      refine gi_bipush hC (v := 24) dX4_place_109 (by decide) ?_
      refine gi_icmp_ge hC 172 dX4_place_111 (by decide) (fun h1 => ?_) (fun h1 => ?_)
      · exact absurd h1 (nI_ge (a := e) (b := 24) (by omega) (by omega))
      ·
        refine gi_ild hC dX4_place_114 rfl ?_
        refine gi_ild hC dX4_place_116 rfl ?_
        refine gi_ishr hC dX4_place_118 ?_
        refine gi_const hC (v := 1) dX4_place_119 (by decide) ?_
        refine gi_iand hC dX4_place_120 ?_
        refine gi_const hC (v := 1) dX4_place_121 (by decide) ?_
        rw [bm_tst hy (by omega)]
        refine gi_icmp_ne hC 166 dX4_place_122 (by decide) (fun h2 => ?_) (fun h2 => ?_)
        · exact N (fun q => absurd (by rw [if_pos q]) h2)
        ·
          have hSe : S e = true := by
            cases hb : S e
            · rw [hb] at h2; exact absurd h2 (by decide)
            · rfl
          refine gi_aldn hC dX4_place_125 rfl ?_
          refine gf_M_isFixed hC gw_321 dX4_place_126 ?_
          refine gi_ild hC dX4_place_129 rfl ?_
          refine gi_zald hC (gm_i9 E) (j := e) (by omega) rfl (by first | decide | omega) dX4_place_131 ?_
          rw [hze]
          refine gi_if_ne hC 166 dX4_place_132 (by decide) (fun h3 => ?_) (fun h3 => ?_)
          · exact N (fun _ => Or.inl (by
            cases hb : fx e
            · rw [hb] at h3; exact absurd rfl h3
            · rfl))
          ·
            have hfe : ¬ fx e = true := fun q => by rw [if_pos q] at h3; exact absurd h3 (by decide)
            refine gi_aldn hC dX4_place_135 rfl ?_
            refine gf_M_cameFrom hC gw_323 dX4_place_136 ?_
            refine gi_ild hC dX4_place_139 rfl ?_
            refine gi_iald hC (gm_i11 E) (j := e) (by omega) rfl (by first | decide | omega) dX4_place_141 ?_
            rw [hce]
            refine gi_if_ge hC 166 dX4_place_142 (by decide) (fun h4 => ?_) (fun h4 => ?_)
            · exact N (fun _ => Or.inr (Classical.byContradiction fun q => by rw [if_neg q] at h4; exact absurd h4 (by decide)))
            ·
              have heL : e ∉ L := fun q => by
                rw [if_pos q] at h4
                obtain ⟨i, hi⟩ := List.getElem?_of_mem q
                have h24 := (hbq.1 i e hi).2.1
                exact absurd (nI_pos' (n := pr e) (by omega)) h4
              have hall : ∀ x, x ∈ L ++ [e] → x < 24 := fun x hx => by
                rcases List.mem_append.mp hx with q | q
                · obtain ⟨i, hi⟩ := List.getElem?_of_mem q
                  exact (hbq.1 i x hi).1
                · have : x = e := by simpa using q
                  omega
              have hbf2 := bf_push (f := f) (z := z) (i := h) hbf heL hfe (hS1 e hSe) hz (hS2 e hSe) (fun i2 z2 a b => hpr i2 z2 a b f hf)
              have hlen : (L ++ [e]).length ≤ 24 := nd_le hbf2.2.1 hall
              have hlen2 : L.length < 24 := by simp at hlen; omega
              have hz24 := (hbq.1 h z hz).1
              refine gi_aldn hC dX4_place_145 rfl ?_
              refine gf_M_cameFrom hC gw_323 dX4_place_146 ?_
              refine gi_ild hC dX4_place_149 rfl ?_
              refine gi_ild hC dX4_place_151 rfl ?_
              refine gi_iast hC (gm_i11 E) (j := e) (by omega) rfl (by first | decide | omega) dX4_place_153 ?_
              refine gi_aldn hC dX4_place_154 rfl ?_
              refine gf_M_queue hC gw_322 dX4_place_155 ?_
              refine gi_ild hC dX4_place_158 rfl ?_
              refine gi_ild hC dX4_place_160 rfl ?_
              refine gi_iast hC (gm_i10 E) (j := L.length) hlen2 rfl (by first | decide | omega) dX4_place_162 ?_
              refine gi_iinc_4 hC dX4_place_163 (nI_1 L.length) (by decide) ?_
              refine gi_iinc_8 hC dX4_place_166 (nI_1 e) (by decide) ?_
              refine gi_goto hC 107 dX4_place_169 (by decide) ?_
              rw [show L.length + 1 = (L ++ [e]).length by simp]
              refine ih (e + 1) (L ++ [e]) (va_up pr e z) h f z y S _ (by omega) (gm_fr_tr hfr (gm_fr_tr (gm_fr_ar (Or.inr (Or.inl rfl))) (gm_fr_ar (Or.inl rfl)))) ⟨fun i x hi => ?_, fun x hx24 => ?_⟩ hbf2 (by simp; omega) (by rw [List.getElem?_append_left hhl]; exact hz) (bPR_mono (by omega) hpr) hf hy hS1 hS2 (fun f2 hf2 => bf_D_mono (hD f2 hf2) (fun x hx => List.mem_append_left _ hx)) (fun x hx2 hxS => ?_) KK
              · by_cases hil : i = L.length
                · subst hil
                  have hxe : e = x := by simpa using hi
                  subst hxe
                  exact ⟨by omega, by rw [va_up_self]; exact hz24, gm_ar_2 _ _ _ _⟩
                · have hi2 : L[i]? = some x := by
                    have := (List.getElem?_eq_some_iff.mp hi).1
                    simp at this
                    rwa [List.getElem?_append_left (by omega)] at hi
                  obtain ⟨c1, c2, c3⟩ := hbq.1 i x hi2
                  have hxe : x ≠ e := fun q => heL (q ▸ List.mem_of_getElem? hi2)
                  refine ⟨c1, by rw [va_up_ne _ _ hxe]; exact c2, ?_⟩
                  rw [gm_ar_n _ _ (fun q => hil q.2), gm_ar_r _ _ (by decide)]
                  exact c3
              · rw [gm_ar_r _ _ (by decide)]
                by_cases hxe : x = e
                · subst hxe
                  rw [gm_ar_2, if_pos (by simp), va_up_self]
                · rw [gm_ar_n _ _ (fun q => hxe q.2), hbq.2 x hx24, va_up_ne _ _ hxe]
                  have : (x ∈ L ++ [e]) ↔ x ∈ L := by simp [hxe]
                  by_cases q : x ∈ L
                  · rw [if_pos q, if_pos (this.mpr q)]
                  · rw [if_neg q, if_neg (fun q2 => q (this.mp q2))]
              · by_cases q : x = e
                · subst q; exact Or.inr (by simp)
                · exact (hx x (by omega) hxS).elim Or.inl (fun q2 => Or.inr (List.mem_append_left _ q2))
  have LF : ∀ m f (L : List Nat) (pr : Nat → Nat) (h z : Nat) (σ2 : gm_S) (w7 w8 : Option Value), f + m = k → gm_fr σ σ2 (fun _ _ => False) (fun y => y = 10 ∨ y = 11 ∨ y = 13) → bq σ2 L pr → bf_ok U V p (fun e => fx e = true) w L pr → h < L.length → L[h]? = some z → bPR U V k p (fun e => fx e = true) L h → (∀ f2, f2 < f → bf_D U V p (fun e => fx e = true) L f2 z) → (∀ (σ3 : gm_S) (L3 : List Nat) (pr3 : Nat → Nat) (w5 w6 w7 w8 : Option Value), gm_fr σ σ3 (fun _ _ => False) (fun y => y = 10 ∨ y = 11 ∨ y = 13) → bq σ3 L3 pr3 → bf_ok U V p (fun e => fx e = true) w L3 pr3 → h < L3.length → bPR U V k p (fun e => fx e = true) L3 (h + 1) → gm_G X E 9 40 [some (.ref (E.2.2 5)), some (.int (nI w)), some (.int (nI k)), some (.int (nI (h + 1))), some (.int (nI L3.length)), w5, w6, w7, w8] [] σ3) → gm_G X E 9 60 [some (.ref (E.2.2 5)), some (.int (nI w)), some (.int (nI k)), some (.int (nI (h + 1))), some (.int (nI L.length)), some (.int (nI z)), some (.int (nI f)), w7, w8] [] σ2 := by
    intro m
    induction m with
    | zero =>
      intro f L pr h z σ2 w7 w8 hf0 hfr hbq hbf hhl hz hpr hD KK
      have hf0 : f = k := by omega
      subst hf0
      refine gi_ild hC dX4_place_60 rfl ?_
      refine gi_ildn hC dX4_place_62 rfl ?_
      refine gi_icmp_ge hC 178 dX4_place_63 (by decide) (fun h1 => ?_) (fun h1 => ?_)
      ·
        refine gi_goto hC 40 dX4_place_178 (by decide) ?_
        refine KK σ2 L pr _ _ _ _ hfr hbq hbf hhl (fun i z2 hi hz2 f2 hf2 => ?_)
        by_cases q : i = h
        · subst q
          rw [Option.some.inj (hz2.symm.trans hz)]
          exact hD f2 hf2
        · exact hpr i z2 (by omega) hz2 f2 hf2
      · exact absurd (Int32.le_refl _) h1
    | succ m ih =>
      intro f L pr h z σ2 w7 w8 hf0 hfr hbq hbf hhl hz hpr hD KK
      obtain ⟨hE2, hp2, hz2⟩ := hFR σ2 hfr
      have hfk : f < k := by omega
      have hz24 := (hbq.1 h z hz).1
      have hzL : z ∈ L := List.mem_of_getElem? hz
      obtain ⟨p1, p3⟩ := hp2 z hz24
      have NX : ∀ (σ3 : gm_S) (L3 : List Nat) (pr3 : Nat → Nat) (w7 w8 : Option Value), gm_fr σ σ3 (fun _ _ => False) (fun y => y = 10 ∨ y = 11 ∨ y = 13) → bq σ3 L3 pr3 → bf_ok U V p (fun e => fx e = true) w L3 pr3 → h < L3.length → L3[h]? = some z → bPR U V k p (fun e => fx e = true) L3 h → (∀ f2, f2 < f + 1 → bf_D U V p (fun e => fx e = true) L3 f2 z) → gm_G X E 9 172 [some (.ref (E.2.2 5)), some (.int (nI w)), some (.int (nI k)), some (.int (nI (h + 1))), some (.int (nI L3.length)), some (.int (nI z)), some (.int (nI f)), w7, w8] [] σ3 := by
        intro σ3 L3 pr3 w7 w8 a1 a2 a3 a4 a5 a6 a7
        refine gi_iinc_6 hC dX4_place_172 (nI_1 f) (by decide) ?_
        refine gi_goto hC 60 dX4_place_175 (by decide) ?_
        exact ih (f + 1) L3 pr3 h z σ3 _ _ (by omega) a1 a2 a3 a4 a5 a6 a7 KK
      refine gi_ild hC dX4_place_60 rfl ?_
      refine gi_ildn hC dX4_place_62 rfl ?_
      refine gi_icmp_ge hC 178 dX4_place_63 (by decide) (fun h1 => ?_) (fun h1 => ?_)
      · exact absurd h1 (nI_ge (a := f) (b := k) hfk (by omega))
      ·
        refine gi_aldn hC dX4_place_66 rfl ?_
        refine gf_M_forestOf hC gw_320 dX4_place_67 ?_
        refine gi_ild hC dX4_place_70 rfl ?_
        refine gi_iald hC (gm_i8 E) hz24 rfl (by first | decide | omega) dX4_place_72 ?_
        rw [p1]
        refine gi_ild hC dX4_place_73 rfl ?_
        refine gi_icmp_eq hC 172 dX4_place_75 (by decide) (fun h2 => ?_) (fun h2 => ?_)
        ·
          have hpz : p z = some f := oI_inj (t := some f) (fun n hn => Nat.lt_of_lt_of_le (p3 n hn) (by decide)) (fun n hn => by cases hn; omega) h2
          refine NX σ2 L pr _ _ hfr hbq hbf hhl hz hpr (fun f2 hf2 => ?_)
          by_cases q : f2 = f
          · subst q
            exact gq_ed (X := fun x => gp_F p f2 x ∧ (x ∈ L ∨ fx x = true)) ⟨hpz, Or.inl hzL⟩
          · exact hD f2 (by omega)
        ·
          have hpz : p z ≠ some f := fun q => h2 (by rw [q]; rfl)
          have hgz := hwG f z hpz
          refine gi_aldn hC dX4_place_78 rfl ?_
          refine gi_ild hC dX4_place_79 rfl ?_
          refine gi_ild hC dX4_place_81 rfl ?_
          refine gk_VI (n := 2) hC (fun l => c_X4_wayIn l E σ2 U V hE2 p hp2 f z (by omega) hz24 (hne z (hLd L pr hbf z hzL)) (by rw [hgz]; exact hok.2 f hfk)) (gm_o4 E) rfl (gw_V gw_420 gw_422 gw_17 gw_28 gw_423) rfl ⟨rfl, rfl⟩ rfl (by decide +kernel) ⟨by decide, by decide⟩ (Nat.le_of_ble_eq_true rfl) dX4_place_83 (fun y σ3 h3 => ?_)
          obtain ⟨h3f, h3⟩ := h3
          rw [hgz] at h3
          have hfr3 : gm_fr σ σ3 (fun _ _ => False) (fun y => y = 10 ∨ y = 11 ∨ y = 13) := gm_fr_tr hfr (gm_fr_mono h3f (fun _ _ q => q) (fun x hx => Or.inr (Or.inr hx)))
          have hbq3 : bq σ3 L pr := ⟨fun i x hi => by rw [h3f.2 10 (by decide)]; exact hbq.1 i x hi, fun x hx => by rw [h3f.2 11 (by decide)]; exact hbq.2 x hx⟩
          rcases h3 with ⟨rfl, hno⟩ | ⟨S, hS, hy0, hS1, hS2, hS3⟩
          ·
            refine gi_ist_7 hC dX4_place_86 (by decide) ?_
            refine gi_ild hC dX4_place_88 rfl ?_
            refine gi_if_ne hC 104 dX4_place_90 (by decide) (fun h4 => ?_) (fun h4 => ?_)
            · exact absurd rfl h4
            ·
              obtain ⟨r, d1, d2, d3, d4, d5⟩ := bf_path hbf h z hz
              have hpth := d5 (gp_F p f) hno (fun i2 z2 a b => gq_mono (fun x hx => hx.1) (hpr i2 z2 a b f hfk))
              obtain ⟨c1, c2, c3⟩ := shp_ok r z p f hok hfk hpw d2 d3 hpth
              obtain ⟨hE3, hp3, hz3⟩ := hFR σ3 hfr3
              refine gi_aldn hC dX4_place_93 rfl ?_
              refine gi_ild hC dX4_place_94 rfl ?_
              refine gi_ild hC dX4_place_96 rfl ?_
              refine gi_ildn hC dX4_place_98 rfl ?_
              refine gk_VV (n := 3) hC (fun l => c_X4_shift l E σ3 p hp3 w f hw (by omega) pr z r d2 (fun x hx => (d1 x hx).elim (fun i2 q => ⟨(hbq3.1 i2 x q.2).1, (by rw [hbq3.2 x (hbq3.1 i2 x q.2).1, if_pos (List.mem_of_getElem? q.2)]), (hbq3.1 i2 x q.2).2.1⟩))) (gm_o4 E) rfl (gw_V gw_424 gw_426 gw_18 gw_28 gw_427) rfl ⟨rfl, rfl⟩ rfl (by decide +kernel) ⟨by decide, by decide⟩ (Nat.le_of_ble_eq_true rfl) dX4_place_99 (fun σ4 h5 => ?_)
              refine gi_const hC (v := 1) dX4_place_102 (by decide) ?_
              refine hR _ _ _ _ (by decide +kernel) ⟨gm_fr_tr (gm_fr_mono hfr3 (fun _ _ q => q) (fun x hx => Or.inr hx)) (gm_fr_mono h5.1 (fun _ _ q => q) (fun x hx => Or.inl hx)), Or.inl ⟨rfl, _, h5.2, c1, c2, fun e he => c3 e (fun hm => ?_)⟩⟩ dX4_place_103
              rcases d4 e hm with q | q
              · rw [q] at he; exact absurd hpw (hfx w he)
              · exact q.2 he
          ·
            refine gi_ist_7 hC dX4_place_86 (by decide) ?_
            refine gi_ild hC dX4_place_88 rfl ?_
            refine gi_if_ne hC 104 dX4_place_90 (by decide) (fun h4 => ?_) (fun h4 => ?_)
            ·
              refine gi_const hC (v := 0) dX4_place_104 (by decide) ?_
              refine gi_ist_8 hC dX4_place_105 (by decide) ?_
              refine LE 24 0 L pr h f z y S σ3 rfl hfr3 hbq3 hbf hhl hz hpr hfk hS hS1 hS3 hD (fun x hx => absurd hx (Nat.not_lt_zero x)) (fun σ4 L4 pr4 w8 b1 b2 b3 b4 b5 b6 b7 b8 => ?_)
              refine NX σ4 L4 pr4 _ _ b1 b2 b3 b4 b5 b6 (fun f2 hf2 => ?_)
              by_cases q : f2 = f
              · subst q
                exact gq_mono (fun x hx => ⟨hS1 x hx, (b8 x hx).symm⟩) hS2
              · exact b7 f2 (by omega)
            · exact absurd h4 hy0
  have LQ : ∀ m h (L : List Nat) (pr : Nat → Nat) (σ2 : gm_S) (w5 w6 w7 w8 : Option Value), h + m = 24 → gm_fr σ σ2 (fun _ _ => False) (fun y => y = 10 ∨ y = 11 ∨ y = 13) → bq σ2 L pr → bf_ok U V p (fun e => fx e = true) w L pr → h ≤ L.length → bPR U V k p (fun e => fx e = true) L h → gm_G X E 9 40 [some (.ref (E.2.2 5)), some (.int (nI w)), some (.int (nI k)), some (.int (nI h)), some (.int (nI L.length)), w5, w6, w7, w8] [] σ2 := by
    have EX : ∀ h (L : List Nat) (pr : Nat → Nat) (σ2 : gm_S) (w5 w6 w7 w8 : Option Value), gm_fr σ σ2 (fun _ _ => False) (fun y => y = 10 ∨ y = 11 ∨ y = 13) → bq σ2 L pr → bf_ok U V p (fun e => fx e = true) w L pr → h = L.length → bPR U V k p (fun e => fx e = true) L h → gm_G X E 9 40 [some (.ref (E.2.2 5)), some (.int (nI w)), some (.int (nI k)), some (.int (nI h)), some (.int (nI L.length)), w5, w6, w7, w8] [] σ2 := by
      intro h L pr σ2 w5 w6 w7 w8 hfr hbq hbf hh hpr
      obtain ⟨hE2, hp2, hz2⟩ := hFR σ2 hfr
      subst hh
      refine gi_ildn hC dX4_place_40 rfl ?_
      refine gi_ild hC dX4_place_41 rfl ?_
      refine gi_icmp_ge hC 181 dX4_place_43 (by decide) (fun h1 => ?_) (fun h1 => ?_)
      ·
        refine gi_const hC (v := 0) dX4_place_181 (by decide) ?_
        refine hR _ _ _ _ (by decide +kernel) ⟨gm_fr_mono hfr (fun _ _ q => q) (fun x hx => Or.inr hx), Or.inr ⟨rfl, hp2, ?_⟩⟩ dX4_place_182
        refine gp_closed (n := 10) (M := 24) hd hw (fun e he => ?_) hpw hok.1 (fun x => x ∈ L ∧ x ≠ w) (fun e he => (hLd L pr hbf e he.1).elim id (fun q => absurd q he.2)) hfx (fun z hz f hf => ?_)
        · have he24 : e < 24 := he.elim (hd e) (fun q => by rw [q]; exact hw)
          exact ⟨(hE e he24).2.2.1, (hE e he24).2.2.2⟩
        · have hzL : z ∈ L := by
            rcases hz with q | q
            · exact q.1
            · rw [q]; exact List.mem_of_getElem? hbf.1
          obtain ⟨i, hi⟩ := List.getElem?_of_mem hzL
          refine gq_mono (fun x hx => ⟨hx.1, ?_⟩) (hpr i z (List.getElem?_eq_some_iff.mp hi).1 hi f hf)
          rcases hx.2 with q | q
          · refine Or.inl ⟨q, fun e => ?_⟩
            have hx1 : p x = some f := hx.1
            rw [e, hpw] at hx1
            cases hx1
          · exact Or.inr q
      · exact absurd (Int32.le_refl _) h1
    intro m
    induction m with
    | zero =>
      intro h L pr σ2 w5 w6 w7 w8 hm hfr hbq hbf hhl hpr
      have hlen : L.length ≤ 24 := nd_le hbf.2.1 (fun x hx => by
        obtain ⟨i, hi⟩ := List.getElem?_of_mem hx
        exact (hbq.1 i x hi).1)
      exact EX h L pr σ2 _ _ _ _ hfr hbq hbf (by omega) hpr
    | succ m ih =>
      intro h L pr σ2 w5 w6 w7 w8 hm hfr hbq hbf hhl hpr
      have hlen : L.length ≤ 24 := nd_le hbf.2.1 (fun x hx => by
        obtain ⟨i, hi⟩ := List.getElem?_of_mem hx
        exact (hbq.1 i x hi).1)
      by_cases hh : h = L.length
      · exact EX h L pr σ2 _ _ _ _ hfr hbq hbf hh hpr
      ·
        have hhlt : h < L.length := by omega
        obtain ⟨z, hz⟩ : ∃ z, L[h]? = some z := ⟨_, List.getElem?_eq_getElem hhlt⟩
        have hqz := (hbq.1 h z hz).2.2
        refine gi_ildn hC dX4_place_40 rfl ?_
        refine gi_ild hC dX4_place_41 rfl ?_
        refine gi_icmp_ge hC 181 dX4_place_43 (by decide) (fun h1 => ?_) (fun h1 => ?_)
        · exact absurd h1 (nI_ge (a := h) (b := L.length) hhlt (by omega))
        ·
          refine gi_aldn hC dX4_place_46 rfl ?_
          refine gf_M_queue hC gw_322 dX4_place_47 ?_
          refine gi_ildn hC dX4_place_50 rfl ?_
          refine gi_iald hC (gm_i10 E) (j := h) (by omega) rfl (by first | decide | omega) dX4_place_51 ?_
          rw [hqz]
          refine gi_ist_5 hC dX4_place_52 (by decide) ?_
          refine gi_iinc_3 hC dX4_place_54 (nI_1 h) (by decide) ?_
          refine gi_const hC (v := 0) dX4_place_57 (by decide) ?_
          refine gi_ist_6 hC dX4_place_58 (by decide) ?_
          refine LF k 0 L pr h z σ2 _ _ (by omega) hfr hbq hbf hhlt hz hpr (fun f2 hf2 => absurd hf2 (Nat.not_lt_zero f2)) (fun σ3 L3 pr3 w5 w6 w7 w8 b1 b2 b3 b4 b5 => ?_)
          exact ih (h + 1) L3 pr3 σ3 _ _ _ _ (by omega) b1 b2 b3 (by omega) b5
  have L0 : ∀ m i (σ2 : gm_S) (w4 w5 w6 w7 w8 : Option Value), i + m = 24 → gm_fr σ σ2 (fun _ _ => False) (fun y => y = 10 ∨ y = 11 ∨ y = 13) → (∀ j, j < i → σ2.2 11 j = -1) → gm_G X E 9 2 [some (.ref (E.2.2 5)), some (.int (nI w)), some (.int (nI k)), some (.int (nI i)), w4, w5, w6, w7, w8] [] σ2 := by
    intro m
    induction m with
    | zero =>
      intro i σ2 w4 w5 w6 w7 w8 hi0 hfr hz
      have hi0 : i = 24 := by omega
      subst hi0
      refine gi_ildn hC dX4_place_2 rfl ?_
      refine gi_bipush hC (v := 24) dX4_place_3 (by decide) ?_
      refine gi_icmp_ge hC 21 dX4_place_5 (by decide) (fun h1 => ?_) (fun h1 => ?_)
      ·
        refine gi_const hC (v := 0) dX4_place_21 (by decide) ?_
        refine gi_istn_3 hC dX4_place_22 (by decide) ?_
        refine gi_const hC (v := 1) dX4_place_23 (by decide) ?_
        refine gi_ist_4 hC dX4_place_24 (by decide) ?_
        refine gi_aldn hC dX4_place_26 rfl ?_
        refine gf_M_queue hC gw_322 dX4_place_27 ?_
        refine gi_const hC (v := 0) dX4_place_30 (by decide) ?_
        refine gi_ildn hC dX4_place_31 rfl ?_
        refine gi_iast hC (gm_i10 E) (j := 0) (by omega) rfl (by first | decide | omega) dX4_place_32 ?_
        refine gi_aldn hC dX4_place_33 rfl ?_
        refine gf_M_cameFrom hC gw_323 dX4_place_34 ?_
        refine gi_ildn hC dX4_place_37 rfl ?_
        refine gi_ildn hC dX4_place_38 rfl ?_
        refine gi_iast hC (gm_i11 E) hw rfl (by first | decide | omega) dX4_place_39 ?_
        refine LQ 24 0 [w] (fun _ => w) _ _ _ _ _ rfl (gm_fr_tr hfr (gm_fr_tr (gm_fr_ar (Or.inl rfl)) (gm_fr_ar (Or.inr (Or.inl rfl))))) ⟨fun i y hi => ?_, fun y hy => ?_⟩ bf_init (Nat.zero_le _) (fun i z hi => absurd hi (Nat.not_lt_zero i))
        · cases i with
          | zero =>
            have : w = y := by simpa using hi
            subst this
            exact ⟨hw, hw, by rw [gm_ar_r _ _ (by decide), gm_ar_2]⟩
          | succ i => simp at hi
        · by_cases q : y = w
          · subst q; rw [gm_ar_2, if_pos (by simp)]
          · rw [gm_ar_n _ _ (fun z => q z.2), gm_ar_r _ _ (by decide), hz y hy, if_neg (by simpa using q)]
      · exact absurd (Int32.le_refl _) h1
    | succ m ih =>
      intro i σ2 w4 w5 w6 w7 w8 hi0 hfr hz
      refine gi_ildn hC dX4_place_2 rfl ?_
      refine gi_bipush hC (v := 24) dX4_place_3 (by decide) ?_
      refine gi_icmp_ge hC 21 dX4_place_5 (by decide) (fun h1 => ?_) (fun h1 => ?_)
      · exact absurd h1 (nI_ge (a := i) (b := 24) (by omega) (by omega))
      ·
        refine gi_aldn hC dX4_place_8 rfl ?_
        refine gf_M_cameFrom hC gw_323 dX4_place_9 ?_
        refine gi_ildn hC dX4_place_12 rfl ?_
        refine gi_const hC (v := -1) dX4_place_13 (by decide) ?_
        refine gi_iast hC (gm_i11 E) (j := i) (by omega) rfl (by first | decide | omega) dX4_place_14 ?_
        refine gi_iinc_3 hC dX4_place_15 (nI_1 i) (by decide) ?_
        refine gi_goto hC 2 dX4_place_18 (by decide) ?_
        exact ih (i + 1) _ _ _ _ _ _ (by omega) (gm_fr_tr hfr (gm_fr_ar (Or.inr (Or.inl rfl)))) (fun j hj => by
          by_cases q : j = i
          · subst q; exact gm_ar_2 _ _ _ _
          · rw [gm_ar_n _ _ (fun z => q z.2)]; exact hz j (by omega))
  refine gi_const hC (v := 0) dX4_place_0 (by decide) ?_
  refine gi_istn_3 hC dX4_place_1 (by decide) ?_
  exact L0 24 0 σ _ _ _ _ _ rfl gm_fr_rf (fun j hj => absurd hj (Nat.not_lt_zero j))
end
