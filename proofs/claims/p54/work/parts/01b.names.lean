def RX0 : String := "EvenTrees$Pool"
def TX0 : u_T := fun k => match k with
  | 0 => ("EvenTrees$Pool", "numbers", "[I", true)
  | 1 => ("EvenTrees$Pool", "lefts", "[I", true)
  | 2 => ("EvenTrees$Pool", "rights", "[I", true)
  | 3 => ("EvenTrees$Pool", "kept", "[I", true)
  | 4 => ("EvenTrees$Pool", "seen", "[I", true)
  | 5 => ("EvenTrees$Pool", "at", "[I", true)
  | 6 => ("EvenTrees$Pool", "next", "I", false)
  | 7 => ("EvenTrees$Pool", "free", "I", false)
  | 8 => ("EvenTrees$Pool", "made", "I", false)
  | _ => ("EvenTrees$Pool", "base", "I", false)
def tyX0 : Nat → FieldType := fun k => match k with
  | 0 => .array .int
  | 1 => .array .int
  | 2 => .array .int
  | 3 => .array .int
  | 4 => .array .int
  | 5 => .array .int
  | 6 => .int
  | 7 => .int
  | 8 => .int
  | _ => .int
abbrev wsX00 : List Cond := u_ws RX0 TX0 10
theorem nmX0 : ∀ a, a < 10 → ∀ b, b < 10 → a ≠ b → (TX0 a).2.1 ≠ (TX0 b).2.1 := by decide +kernel
theorem tyX0_ok : ∀ k, k < 10 → parseFieldDescriptor (TX0 k).2.2.1 = some (tyX0 k) := by decide +kernel
abbrev cX0_init : ByteArray := prog_2_method_1_code
def yX0_init : MethodName := ⟨RX0, "<init>", "()V"⟩
abbrev cX0_hasRoom : ByteArray := prog_2_method_2_code
def yX0_hasRoom : MethodName := ⟨RX0, "hasRoom", "()Z"⟩
abbrev cX0_forgetKept : ByteArray := prog_2_method_3_code
def yX0_forgetKept : MethodName := ⟨RX0, "forgetKept", "()V"⟩
abbrev cX0_keepAll : ByteArray := prog_2_method_4_code
def yX0_keepAll : MethodName := ⟨RX0, "keepAll", "(II)V"⟩
abbrev cX0_make : ByteArray := prog_2_method_5_code
def yX0_make : MethodName := ⟨RX0, "make", "(III)I"⟩
abbrev cX0_isNode : ByteArray := prog_2_method_6_code
def yX0_isNode : MethodName := ⟨RX0, "isNode", "(I)Z"⟩
abbrev cX0_numberOf : ByteArray := prog_2_method_7_code
def yX0_numberOf : MethodName := ⟨RX0, "numberOf", "(I)I"⟩
abbrev cX0_leftOf : ByteArray := prog_2_method_8_code
def yX0_leftOf : MethodName := ⟨RX0, "leftOf", "(I)I"⟩
abbrev cX0_rightOf : ByteArray := prog_2_method_9_code
def yX0_rightOf : MethodName := ⟨RX0, "rightOf", "(I)I"⟩
abbrev cX0_numberAt : ByteArray := prog_2_method_10_code
def yX0_numberAt : MethodName := ⟨RX0, "numberAt", "(II)I"⟩
abbrev cX0_spread : ByteArray := prog_2_method_11_code
def yX0_spread : MethodName := ⟨RX0, "spread", "(II)V"⟩
abbrev cX0_read : ByteArray := prog_2_method_12_code
def yX0_read : MethodName := ⟨RX0, "read", "(II[I)V"⟩
abbrev cX0_below : ByteArray := prog_2_method_13_code
def yX0_below : MethodName := ⟨RX0, "below", "(III)I"⟩
abbrev cX0_rootOf : ByteArray := prog_2_method_14_code
def yX0_rootOf : MethodName := ⟨RX0, "rootOf", "(I)I"⟩
abbrev cX0_changed : ByteArray := prog_2_method_16_code
def yX0_changed : MethodName := ⟨RX0, "changed", "(IILEvenTrees$Ways;[I)I"⟩
abbrev cX0_alike : ByteArray := prog_2_method_18_code
def yX0_alike : MethodName := ⟨RX0, "alike", "(II)I"⟩
abbrev cX0_forget : ByteArray := prog_2_method_19_code
def yX0_forget : MethodName := ⟨RX0, "forget", "()V"⟩
abbrev cX0_seeAt : ByteArray := prog_2_method_20_code
def yX0_seeAt : MethodName := ⟨RX0, "seeAt", "(II)I"⟩
abbrev cX0_seenOf : ByteArray := prog_2_method_22_code
def yX0_seenOf : MethodName := ⟨RX0, "seenOf", "(I)I"⟩
abbrev cX0_put : ByteArray := prog_2_method_23_code
def yX0_put : MethodName := ⟨RX0, "put", "(IIII)I"⟩
abbrev cX0_putAll : ByteArray := prog_2_method_24_code
def yX0_putAll : MethodName := ⟨RX0, "putAll", "(II[III)I"⟩
abbrev cX0_take : ByteArray := prog_2_method_25_code
def yX0_take : MethodName := ⟨RX0, "take", "(III)I"⟩
abbrev cX0_takeMany : ByteArray := prog_2_method_26_code
def yX0_takeMany : MethodName := ⟨RX0, "takeMany", "(IIII)I"⟩
abbrev cX0_popped : ByteArray := prog_2_method_27_code
def yX0_popped : MethodName := ⟨RX0, "popped", "(II)I"⟩
abbrev cX0_farLeft : ByteArray := prog_2_method_28_code
def yX0_farLeft : MethodName := ⟨RX0, "farLeft", "(I)I"⟩
abbrev cX0_fronted : ByteArray := prog_2_method_29_code
def yX0_fronted : MethodName := ⟨RX0, "fronted", "(LEvenTrees$Pool;III)I"⟩
abbrev cX0_backed : ByteArray := prog_2_method_30_code
def yX0_backed : MethodName := ⟨RX0, "backed", "(LEvenTrees$Pool;III)I"⟩
abbrev cX0_firstGone : ByteArray := prog_2_method_31_code
def yX0_firstGone : MethodName := ⟨RX0, "firstGone", "(LEvenTrees$Pool;II)I"⟩
abbrev cX0_lastGone : ByteArray := prog_2_method_32_code
def yX0_lastGone : MethodName := ⟨RX0, "lastGone", "(LEvenTrees$Pool;II)I"⟩
abbrev cX0_pushed : ByteArray := prog_2_method_33_code
def yX0_pushed : MethodName := ⟨RX0, "pushed", "(LEvenTrees$Pool;III)I"⟩
abbrev cX0_farLeftGone : ByteArray := prog_2_method_34_code
def yX0_farLeftGone : MethodName := ⟨RX0, "farLeftGone", "(LEvenTrees$Pool;II)I"⟩
abbrev cX0_sifted : ByteArray := prog_2_method_35_code
def yX0_sifted : MethodName := ⟨RX0, "sifted", "(LEvenTrees$Pool;IIII)I"⟩
def RX1 : String := "EvenTrees$Reader"
def TX1 : u_T := fun k => match k with
  | 0 => ("EvenTrees$Reader", "text", "LEvenTrees$Text;", true)
  | 1 => ("EvenTrees$Reader", "starts", "[I", true)
  | 2 => ("EvenTrees$Reader", "values", "[I", true)
  | 3 => ("EvenTrees$Reader", "parents", "[I", true)
  | 4 => ("EvenTrees$Reader", "sidesOfParents", "[I", true)
  | 5 => ("EvenTrees$Reader", "sidesRead", "[I", true)
  | 6 => ("EvenTrees$Reader", "leftSizes", "[I", true)
  | 7 => ("EvenTrees$Reader", "rightSizes", "[I", true)
  | 8 => ("EvenTrees$Reader", "indexes", "[I", true)
  | 9 => ("EvenTrees$Reader", "at", "I", false)
  | 10 => ("EvenTrees$Reader", "number", "I", false)
  | 11 => ("EvenTrees$Reader", "many", "I", false)
  | 12 => ("EvenTrees$Reader", "open", "I", false)
  | _ => ("EvenTrees$Reader", "whole", "Z", false)
def tyX1 : Nat → FieldType := fun k => match k with
  | 0 => .object "EvenTrees$Text"
  | 1 => .array .int
  | 2 => .array .int
  | 3 => .array .int
  | 4 => .array .int
  | 5 => .array .int
  | 6 => .array .int
  | 7 => .array .int
  | 8 => .array .int
  | 9 => .int
  | 10 => .int
  | 11 => .int
  | 12 => .int
  | _ => .boolean
abbrev wsX10 : List Cond := u_ws RX1 TX1 14
theorem nmX1 : ∀ a, a < 14 → ∀ b, b < 14 → a ≠ b → (TX1 a).2.1 ≠ (TX1 b).2.1 := by decide +kernel
theorem tyX1_ok : ∀ k, k < 14 → parseFieldDescriptor (TX1 k).2.2.1 = some (tyX1 k) := by decide +kernel
abbrev cX1_init : ByteArray := prog_3_method_1_code
def yX1_init : MethodName := ⟨RX1, "<init>", "()V"⟩
def RX2 : String := "EvenTrees$Row"
def TX2 : u_T := fun k => match k with
  | 0 => ("EvenTrees$Row", "numbers", "[J", true)
  | _ => ("EvenTrees$Row", "many", "I", false)
def tyX2 : Nat → FieldType := fun k => match k with
  | 0 => .array .long
  | _ => .int
abbrev wsX20 : List Cond := u_ws RX2 TX2 2
theorem nmX2 : ∀ a, a < 2 → ∀ b, b < 2 → a ≠ b → (TX2 a).2.1 ≠ (TX2 b).2.1 := by decide +kernel
theorem tyX2_ok : ∀ k, k < 2 → parseFieldDescriptor (TX2 k).2.2.1 = some (tyX2 k) := by decide +kernel
abbrev cX2_init : ByteArray := prog_4_method_1_code
def yX2_init : MethodName := ⟨RX2, "<init>", "()V"⟩
abbrev cX2_clear : ByteArray := prog_4_method_2_code
def yX2_clear : MethodName := ⟨RX2, "clear", "()V"⟩
abbrev cX2_add : ByteArray := prog_4_method_3_code
def yX2_add : MethodName := ⟨RX2, "add", "(J)V"⟩
abbrev cX2_tell : ByteArray := prog_4_method_4_code
def yX2_tell : MethodName := ⟨RX2, "tell", "(J)V"⟩
abbrev cX2_tell_ : ByteArray := prog_4_method_5_code
def yX2_tell_ : MethodName := ⟨RX2, "tell", "(JJ)V"⟩
def RX3 : String := "EvenTrees$Shape"
def TX3 : u_T := fun k => match k with
  | _ => ("", "", "", false)
def tyX3 : Nat → FieldType := fun k => match k with
  | _ => .int
abbrev wsX30 : List Cond := u_ws RX3 TX3 0
theorem nmX3 : ∀ a, a < 0 → ∀ b, b < 0 → a ≠ b → (TX3 a).2.1 ≠ (TX3 b).2.1 := by decide +kernel
theorem tyX3_ok : ∀ k, k < 0 → parseFieldDescriptor (TX3 k).2.2.1 = some (tyX3 k) := by decide +kernel
abbrev cX3_leftSize : ByteArray := prog_5_method_2_code
def yX3_leftSize : MethodName := ⟨RX3, "leftSize", "(I)I"⟩
abbrev cX3_rightSize : ByteArray := prog_5_method_3_code
def yX3_rightSize : MethodName := ⟨RX3, "rightSize", "(I)I"⟩
abbrev cX3_stride : ByteArray := prog_5_method_5_code
def yX3_stride : MethodName := ⟨RX3, "stride", "(I)I"⟩
abbrev cX3_depth : ByteArray := prog_5_method_6_code
def yX3_depth : MethodName := ⟨RX3, "depth", "(I)I"⟩
abbrev cX3_above : ByteArray := prog_5_method_7_code
def yX3_above : MethodName := ⟨RX3, "above", "(I)I"⟩
abbrev cX3_steps : ByteArray := prog_5_method_12_code
def yX3_steps : MethodName := ⟨RX3, "steps", "(I)I"⟩
abbrev cX3_stepsOfMore : ByteArray := prog_5_method_13_code
def yX3_stepsOfMore : MethodName := ⟨RX3, "stepsOfMore", "(II)I"⟩
def RX4 : String := "EvenTrees$Text"
def TX4 : u_T := fun k => match k with
  | 0 => ("EvenTrees$Text", "signs", "[I", true)
  | _ => ("EvenTrees$Text", "many", "I", false)
def tyX4 : Nat → FieldType := fun k => match k with
  | 0 => .array .int
  | _ => .int
abbrev wsX40 : List Cond := u_ws RX4 TX4 2
theorem nmX4 : ∀ a, a < 2 → ∀ b, b < 2 → a ≠ b → (TX4 a).2.1 ≠ (TX4 b).2.1 := by decide +kernel
theorem tyX4_ok : ∀ k, k < 2 → parseFieldDescriptor (TX4 k).2.2.1 = some (tyX4 k) := by decide +kernel
abbrev cX4_init : ByteArray := prog_6_method_1_code
def yX4_init : MethodName := ⟨RX4, "<init>", "()V"⟩
def RX5 : String := "EvenTrees$Ways"
def TX5 : u_T := fun k => match k with
  | 0 => ("EvenTrees$Ways", "on", "[I", true)
  | _ => ("EvenTrees$Ways", "total", "I", false)
def tyX5 : Nat → FieldType := fun k => match k with
  | 0 => .array .int
  | _ => .int
abbrev wsX50 : List Cond := u_ws RX5 TX5 2
theorem nmX5 : ∀ a, a < 2 → ∀ b, b < 2 → a ≠ b → (TX5 a).2.1 ≠ (TX5 b).2.1 := by decide +kernel
theorem tyX5_ok : ∀ k, k < 2 → parseFieldDescriptor (TX5 k).2.2.1 = some (tyX5 k) := by decide +kernel
abbrev cX5_init : ByteArray := prog_7_method_1_code
def yX5_init : MethodName := ⟨RX5, "<init>", "()V"⟩
abbrev cX5_clear : ByteArray := prog_7_method_2_code
def yX5_clear : MethodName := ⟨RX5, "clear", "()V"⟩
abbrev cX5_mark : ByteArray := prog_7_method_3_code
def yX5_mark : MethodName := ⟨RX5, "mark", "(I)V"⟩
abbrev cX5_has : ByteArray := prog_7_method_4_code
def yX5_has : MethodName := ⟨RX5, "has", "(I)Z"⟩
def RX6 : String := "EvenTrees$Writer"
def TX6 : u_T := fun k => match k with
  | 0 => ("EvenTrees$Writer", "wanted", "I", false)
  | 1 => ("EvenTrees$Writer", "found", "I", false)
  | _ => ("EvenTrees$Writer", "signs", "I", false)
def tyX6 : Nat → FieldType := fun k => match k with
  | 0 => .int
  | 1 => .int
  | _ => .int
abbrev wsX60 : List Cond := u_ws RX6 TX6 3
theorem nmX6 : ∀ a, a < 3 → ∀ b, b < 3 → a ≠ b → (TX6 a).2.1 ≠ (TX6 b).2.1 := by decide +kernel
theorem tyX6_ok : ∀ k, k < 3 → parseFieldDescriptor (TX6 k).2.2.1 = some (tyX6 k) := by decide +kernel
abbrev cX6_init : ByteArray := prog_8_method_1_code
def yX6_init : MethodName := ⟨RX6, "<init>", "()V"⟩
def RX7 : String := "EvenTrees"
def TX7 : u_T := fun k => match k with
  | 0 => ("EvenTrees", "pool", "LEvenTrees$Pool;", true)
  | 1 => ("EvenTrees", "told", "LEvenTrees$Row;", true)
  | 2 => ("EvenTrees", "reader", "LEvenTrees$Reader;", true)
  | 3 => ("EvenTrees", "text", "LEvenTrees$Text;", true)
  | 4 => ("EvenTrees", "writer", "LEvenTrees$Writer;", true)
  | 5 => ("EvenTrees", "marked", "LEvenTrees$Ways;", true)
  | 6 => ("EvenTrees", "trees", "[I", true)
  | 7 => ("EvenTrees", "sizes", "[I", true)
  | 8 => ("EvenTrees", "one", "[I", true)
  | 9 => ("EvenTrees", "other", "[I", true)
  | 10 => ("EvenTrees", "fresh", "[I", true)
  | _ => ("EvenTrees", "tally", "[I", true)
def tyX7 : Nat → FieldType := fun k => match k with
  | 0 => .object "EvenTrees$Pool"
  | 1 => .object "EvenTrees$Row"
  | 2 => .object "EvenTrees$Reader"
  | 3 => .object "EvenTrees$Text"
  | 4 => .object "EvenTrees$Writer"
  | 5 => .object "EvenTrees$Ways"
  | 6 => .array .int
  | 7 => .array .int
  | 8 => .array .int
  | 9 => .array .int
  | 10 => .array .int
  | _ => .array .int
abbrev wsX70 : List Cond := u_ws RX7 TX7 12
theorem nmX7 : ∀ a, a < 12 → ∀ b, b < 12 → a ≠ b → (TX7 a).2.1 ≠ (TX7 b).2.1 := by decide +kernel
theorem tyX7_ok : ∀ k, k < 12 → parseFieldDescriptor (TX7 k).2.2.1 = some (tyX7 k) := by decide +kernel
abbrev cX7_init : ByteArray := prog_1_method_1_code
def yX7_init : MethodName := ⟨RX7, "<init>", "()V"⟩
abbrev cX7_fills : ByteArray := prog_1_method_6_code
def yX7_fills : MethodName := ⟨RX7, "fills", "(III)I"⟩
abbrev cX7_sides : ByteArray := prog_1_method_8_code
def yX7_sides : MethodName := ⟨RX7, "sides", "(III)I"⟩
abbrev cX7_size : ByteArray := prog_1_method_10_code
def yX7_size : MethodName := ⟨RX7, "size", "(I)I"⟩
abbrev cX7_get : ByteArray := prog_1_method_11_code
def yX7_get : MethodName := ⟨RX7, "get", "(II)I"⟩
abbrev cX7_sets : ByteArray := prog_1_method_13_code
def yX7_sets : MethodName := ⟨RX7, "sets", "(IIII)I"⟩
abbrev cX7_front : ByteArray := prog_1_method_14_code
def yX7_front : MethodName := ⟨RX7, "front", "(III)I"⟩
abbrev cX7_back : ByteArray := prog_1_method_15_code
def yX7_back : MethodName := ⟨RX7, "back", "(III)I"⟩
abbrev cX7_first : ByteArray := prog_1_method_16_code
def yX7_first : MethodName := ⟨RX7, "first", "(II)I"⟩
abbrev cX7_last : ByteArray := prog_1_method_17_code
def yX7_last : MethodName := ⟨RX7, "last", "(II)I"⟩
abbrev cX7_adds : ByteArray := prog_1_method_18_code
def yX7_adds : MethodName := ⟨RX7, "adds", "(IIIII)I"⟩
abbrev cX7_appends : ByteArray := prog_1_method_19_code
def yX7_appends : MethodName := ⟨RX7, "appends", "(III)I"⟩
abbrev cX7_turned : ByteArray := prog_1_method_20_code
def yX7_turned : MethodName := ⟨RX7, "turned", "(III)I"⟩
abbrev cX7_keeps : ByteArray := prog_1_method_22_code
def yX7_keeps : MethodName := ⟨RX7, "keeps", "(III)I"⟩
abbrev cX7_skips : ByteArray := prog_1_method_23_code
def yX7_skips : MethodName := ⟨RX7, "skips", "(III)I"⟩
abbrev cX7_heap : ByteArray := prog_1_method_32_code
def yX7_heap : MethodName := ⟨RX7, "heap", "(I)I"⟩
abbrev cX7_pop : ByteArray := prog_1_method_34_code
def yX7_pop : MethodName := ⟨RX7, "pop", "(II)I"⟩
abbrev cX7_heaps : ByteArray := prog_1_method_35_code
def yX7_heaps : MethodName := ⟨RX7, "heaps", "(II)I"⟩
abbrev cX7_sum : ByteArray := prog_1_method_37_code
def yX7_sum : MethodName := ⟨RX7, "sum", "(III)I"⟩
abbrev cX7_same : ByteArray := prog_1_method_39_code
def yX7_same : MethodName := ⟨RX7, "same", "(II)I"⟩
abbrev cX7_nodes : ByteArray := prog_1_method_47_code
def yX7_nodes : MethodName := ⟨RX7, "nodes", "()I"⟩
abbrev cX7_own : ByteArray := prog_1_method_48_code
def yX7_own : MethodName := ⟨RX7, "own", "(I)I"⟩
abbrev cX7_count : ByteArray := prog_1_method_51_code
def yX7_count : MethodName := ⟨RX7, "count", "(I)I"⟩
abbrev cX7_row : ByteArray := prog_1_method_52_code
def yX7_row : MethodName := ⟨RX7, "row", "(I)J"⟩
abbrev cX7_isPlace : ByteArray := prog_1_method_53_code
def yX7_isPlace : MethodName := ⟨RX7, "isPlace", "(I)Z"⟩
abbrev cX7_isNumber : ByteArray := prog_1_method_54_code
def yX7_isNumber : MethodName := ⟨RX7, "isNumber", "(I)Z"⟩
abbrev cX7_isIndex : ByteArray := prog_1_method_55_code
def yX7_isIndex : MethodName := ⟨RX7, "isIndex", "(II)Z"⟩
abbrev cX7_isRange : ByteArray := prog_1_method_56_code
def yX7_isRange : MethodName := ⟨RX7, "isRange", "(III)Z"⟩
abbrev cX7_held : ByteArray := prog_1_method_57_code
def yX7_held : MethodName := ⟨RX7, "held", "(I)I"⟩
abbrev cX7_begin : ByteArray := prog_1_method_58_code
def yX7_begin : MethodName := ⟨RX7, "begin", "()I"⟩
abbrev cX7_keep : ByteArray := prog_1_method_59_code
def yX7_keep : MethodName := ⟨RX7, "keep", "(III)I"⟩
abbrev cX7_readBoth : ByteArray := prog_1_method_61_code
def yX7_readBoth : MethodName := ⟨RX7, "readBoth", "(II)V"⟩
abbrev cX7_putOne : ByteArray := prog_1_method_62_code
def yX7_putOne : MethodName := ⟨RX7, "putOne", "(IIII)I"⟩
abbrev cX7_takeOne : ByteArray := prog_1_method_63_code
def yX7_takeOne : MethodName := ⟨RX7, "takeOne", "(IIII)I"⟩
abbrev cX7_renew : ByteArray := prog_1_method_64_code
def yX7_renew : MethodName := ⟨RX7, "renew", "(II)I"⟩
abbrev cX7_markUnlike : ByteArray := prog_1_method_65_code
def yX7_markUnlike : MethodName := ⟨RX7, "markUnlike", "(I)I"⟩
abbrev cX7_seeAll : ByteArray := prog_1_method_69_code
def yX7_seeAll : MethodName := ⟨RX7, "seeAll", "(II)V"⟩
abbrev cX7_nodesInBoth : ByteArray := prog_1_method_70_code
def yX7_nodesInBoth : MethodName := ⟨RX7, "nodesInBoth", "(II)I"⟩
abbrev cX7_placesInUse : ByteArray := prog_1_method_71_code
def yX7_placesInUse : MethodName := ⟨RX7, "placesInUse", "()I"⟩
def RX8 : String := "EvenTreesModel"
def TX8 : u_T := fun k => match k with
  | _ => ("", "", "", false)
def tyX8 : Nat → FieldType := fun k => match k with
  | _ => .int
abbrev wsX80 : List Cond := u_ws RX8 TX8 0
theorem nmX8 : ∀ a, a < 0 → ∀ b, b < 0 → a ≠ b → (TX8 a).2.1 ≠ (TX8 b).2.1 := by decide +kernel
theorem tyX8_ok : ∀ k, k < 0 → parseFieldDescriptor (TX8 k).2.2.1 = some (tyX8 k) := by decide +kernel
def RJx145de : String := "java/io/Serializable"
def TJx145de : u_T := fun k => match k with
  | _ => ("", "", "", false)
def tyJx145de : Nat → FieldType := fun k => match k with
  | _ => .int
theorem nmJx145de : ∀ a, a < 0 → ∀ b, b < 0 → a ≠ b → (TJx145de a).2.1 ≠ (TJx145de b).2.1 := by decide +kernel
theorem tyJx145de_ok : ∀ k, k < 0 → parseFieldDescriptor (TJx145de k).2.2.1 = some (tyJx145de k) := by decide +kernel
def RJ6 : String := "java/lang/Integer"
def TJ6 : u_T := fun k => match k with
  | _ => ("", "", "", false)
def tyJ6 : Nat → FieldType := fun k => match k with
  | _ => .int
theorem nmJ6 : ∀ a, a < 0 → ∀ b, b < 0 → a ≠ b → (TJ6 a).2.1 ≠ (TJ6 b).2.1 := by decide +kernel
theorem tyJ6_ok : ∀ k, k < 0 → parseFieldDescriptor (TJ6 k).2.2.1 = some (tyJ6 k) := by decide +kernel
abbrev cJ6_bitCount_0f7a4 : ByteArray := prog_13_method_49_code
def yJ6_bitCount_0f7a4 : MethodName := ⟨RJ6, "bitCount", "(I)I"⟩
def RJ9 : String := "java/lang/Math"
def TJ9 : u_T := fun k => match k with
  | _ => ("", "", "", false)
def tyJ9 : Nat → FieldType := fun k => match k with
  | _ => .int
theorem nmJ9 : ∀ a, a < 0 → ∀ b, b < 0 → a ≠ b → (TJ9 a).2.1 ≠ (TJ9 b).2.1 := by decide +kernel
theorem tyJ9_ok : ∀ k, k < 0 → parseFieldDescriptor (TJ9 k).2.2.1 = some (tyJ9 k) := by decide +kernel
abbrev cJ9_max_7cf53 : ByteArray := prog_14_method_65_code
def yJ9_max_7cf53 : MethodName := ⟨RJ9, "max", "(II)I"⟩
abbrev cJ9_min_7cf53 : ByteArray := prog_14_method_69_code
def yJ9_min_7cf53 : MethodName := ⟨RJ9, "min", "(II)I"⟩
def RJ0 : String := "java/lang/String"
def TJ0 : u_T := fun k => match k with
  | _ => ("", "", "", false)
def tyJ0 : Nat → FieldType := fun k => match k with
  | _ => .int
theorem nmJ0 : ∀ a, a < 0 → ∀ b, b < 0 → a ≠ b → (TJ0 a).2.1 ≠ (TJ0 b).2.1 := by decide +kernel
theorem tyJ0_ok : ∀ k, k < 0 → parseFieldDescriptor (TJ0 k).2.2.1 = some (tyJ0 k) := by decide +kernel
def RJ7 : String := "java/util/Arrays"
def TJ7 : u_T := fun k => match k with
  | _ => ("", "", "", false)
def tyJ7 : Nat → FieldType := fun k => match k with
  | _ => .int
theorem nmJ7 : ∀ a, a < 0 → ∀ b, b < 0 → a ≠ b → (TJ7 a).2.1 ≠ (TJ7 b).2.1 := by decide +kernel
theorem tyJ7_ok : ∀ k, k < 0 → parseFieldDescriptor (TJ7 k).2.2.1 = some (tyJ7 k) := by decide +kernel
abbrev cJ7_fill_53178 : ByteArray := prog_18_method_103_code
def yJ7_fill_53178 : MethodName := ⟨RJ7, "fill", "([II)V"⟩
def RL : String := "EvenTreesLaw"
abbrev cL_cell : ByteArray := method_2_code
def yL_cell : MethodName := ⟨RL, "cell", "([II)I"⟩
abbrev cL_held : ByteArray := method_3_code
def yL_held : MethodName := ⟨RL, "held", "(I)I"⟩
abbrev cL_is : ByteArray := method_4_code
def yL_is : MethodName := ⟨RL, "is", "(LEvenTrees;I[II)Z"⟩
abbrev cL_law : ByteArray := code
def yL_law : MethodName := ⟨RL, "law", "([I)Z"⟩
abbrev vwCl : List vw_C := [(RX0, TX0, 10), (RX1, TX1, 14), (RX2, TX2, 2), (RX4, TX4, 2), (RX5, TX5, 2), (RX6, TX6, 3), (RX7, TX7, 12)]
