def RX0 : String := "CartPaths$Acts"
def TX0 : u_T := fun k => match k with
  | 0 => ("CartPaths$Acts", "kinds", "[I", true)
  | 1 => ("CartPaths$Acts", "whose", "[I", true)
  | 2 => ("CartPaths$Acts", "before", "[I", true)
  | _ => ("CartPaths$Acts", "kept", "I", false)
def tyX0 : Nat → FieldType := fun k => match k with
  | 0 => .array .int
  | 1 => .array .int
  | 2 => .array .int
  | _ => .int
abbrev wsX00 : List Cond := u_ws RX0 TX0 4
theorem nmX0 : ∀ a, a < 4 → ∀ b, b < 4 → a ≠ b → (TX0 a).2.1 ≠ (TX0 b).2.1 := by decide +kernel
theorem tyX0_ok : ∀ k, k < 4 → parseFieldDescriptor (TX0 k).2.2.1 = some (tyX0 k) := by decide +kernel
abbrev cX0_init : ByteArray := prog_2_method_1_code
def yX0_init : MethodName := ⟨RX0, "<init>", "()V"⟩
abbrev cX0_clear : ByteArray := prog_2_method_2_code
def yX0_clear : MethodName := ⟨RX0, "clear", "()V"⟩
abbrev cX0_keep : ByteArray := prog_2_method_3_code
def yX0_keep : MethodName := ⟨RX0, "keep", "(III)V"⟩
abbrev cX0_undoLatest : ByteArray := prog_2_method_4_code
def yX0_undoLatest : MethodName := ⟨RX0, "undoLatest", "(LCartPaths$Scene;)V"⟩
def RX1 : String := "CartPaths$Node"
def TX1 : u_T := fun k => match k with
  | 0 => ("CartPaths$Node", "number", "I", true)
  | 1 => ("CartPaths$Node", "parent", "LCartPaths$Node;", false)
  | 2 => ("CartPaths$Node", "cart", "I", false)
  | 3 => ("CartPaths$Node", "time", "I", false)
  | 4 => ("CartPaths$Node", "from", "I", false)
  | 5 => ("CartPaths$Node", "to", "I", false)
  | 6 => ("CartPaths$Node", "row", "[I", true)
  | 7 => ("CartPaths$Node", "cost", "I", false)
  | 8 => ("CartPaths$Node", "sum", "I", false)
  | 9 => ("CartPaths$Node", "clashes", "I", false)
  | 10 => ("CartPaths$Node", "forbidden", "I", false)
  | _ => ("CartPaths$Node", "isSplit", "Z", false)
def tyX1 : Nat → FieldType := fun k => match k with
  | 0 => .int
  | 1 => .object "CartPaths$Node"
  | 2 => .int
  | 3 => .int
  | 4 => .int
  | 5 => .int
  | 6 => .array .int
  | 7 => .int
  | 8 => .int
  | 9 => .int
  | 10 => .int
  | _ => .boolean
abbrev wsX10 : List Cond := u_ws RX1 TX1 12
theorem nmX1 : ∀ a, a < 12 → ∀ b, b < 12 → a ≠ b → (TX1 a).2.1 ≠ (TX1 b).2.1 := by decide +kernel
theorem tyX1_ok : ∀ k, k < 12 → parseFieldDescriptor (TX1 k).2.2.1 = some (tyX1 k) := by decide +kernel
abbrev cX1_init : ByteArray := prog_3_method_1_code
def yX1_init : MethodName := ⟨RX1, "<init>", "(I)V"⟩
def RX2 : String := "CartPaths$Scene"
def TX2 : u_T := fun k => match k with
  | 0 => ("CartPaths$Scene", "columns", "I", false)
  | 1 => ("CartPaths$Scene", "rows", "I", false)
  | 2 => ("CartPaths$Scene", "sorts", "[I", true)
  | 3 => ("CartPaths$Scene", "carts", "I", false)
  | 4 => ("CartPaths$Scene", "places", "[I", true)
  | 5 => ("CartPaths$Scene", "goals", "[I", true)
  | 6 => ("CartPaths$Scene", "letters", "[I", true)
  | 7 => ("CartPaths$Scene", "nameLengths", "[I", true)
  | _ => ("CartPaths$Scene", "leaving", "[J", true)
def tyX2 : Nat → FieldType := fun k => match k with
  | 0 => .int
  | 1 => .int
  | 2 => .array .int
  | 3 => .int
  | 4 => .array .int
  | 5 => .array .int
  | 6 => .array .int
  | 7 => .array .int
  | _ => .array .long
abbrev wsX20 : List Cond := u_ws RX2 TX2 9
theorem nmX2 : ∀ a, a < 9 → ∀ b, b < 9 → a ≠ b → (TX2 a).2.1 ≠ (TX2 b).2.1 := by decide +kernel
theorem tyX2_ok : ∀ k, k < 9 → parseFieldDescriptor (TX2 k).2.2.1 = some (tyX2 k) := by decide +kernel
abbrev cX2_init : ByteArray := prog_4_method_1_code
def yX2_init : MethodName := ⟨RX2, "<init>", "()V"⟩
abbrev cX2_empty : ByteArray := prog_4_method_2_code
def yX2_empty : MethodName := ⟨RX2, "empty", "()V"⟩
abbrev cX2_copyFrom : ByteArray := prog_4_method_3_code
def yX2_copyFrom : MethodName := ⟨RX2, "copyFrom", "(LCartPaths$Scene;)V"⟩
abbrev cX2_has : ByteArray := prog_4_method_4_code
def yX2_has : MethodName := ⟨RX2, "has", "(II)Z"⟩
abbrev cX2_isTaken : ByteArray := prog_4_method_5_code
def yX2_isTaken : MethodName := ⟨RX2, "isTaken", "(I)Z"⟩
abbrev cX2_swapGoals : ByteArray := prog_4_method_6_code
def yX2_swapGoals : MethodName := ⟨RX2, "swapGoals", "(II)V"⟩
abbrev cX2_countFree : ByteArray := prog_4_method_7_code
def yX2_countFree : MethodName := ⟨RX2, "countFree", "()I"⟩
abbrev cX2_refresh : ByteArray := prog_4_method_8_code
def yX2_refresh : MethodName := ⟨RX2, "refresh", "()V"⟩
abbrev cX2_lets : ByteArray := prog_4_method_9_code
def yX2_lets : MethodName := ⟨RX2, "lets", "(III)Z"⟩
abbrev cX2_reachedFrom : ByteArray := prog_4_method_10_code
def yX2_reachedFrom : MethodName := ⟨RX2, "reachedFrom", "(I)J"⟩
def RX3 : String := "CartPaths$Search"
def TX3 : u_T := fun k => match k with
  | 0 => ("CartPaths$Search", "cells", "[J", true)
  | 1 => ("CartPaths$Search", "moves", "[J", true)
  | _ => ("CartPaths$Search", "back", "[J", true)
def tyX3 : Nat → FieldType := fun k => match k with
  | 0 => .array .long
  | 1 => .array .long
  | _ => .array .long
abbrev wsX30 : List Cond := u_ws RX3 TX3 3
theorem nmX3 : ∀ a, a < 3 → ∀ b, b < 3 → a ≠ b → (TX3 a).2.1 ≠ (TX3 b).2.1 := by decide +kernel
theorem tyX3_ok : ∀ k, k < 3 → parseFieldDescriptor (TX3 k).2.2.1 = some (tyX3 k) := by decide +kernel
abbrev cX3_init : ByteArray := prog_5_method_1_code
def yX3_init : MethodName := ⟨RX3, "<init>", "()V"⟩
abbrev cX3_clear : ByteArray := prog_5_method_2_code
def yX3_clear : MethodName := ⟨RX3, "clear", "()V"⟩
abbrev cX3_forbidCell : ByteArray := prog_5_method_3_code
def yX3_forbidCell : MethodName := ⟨RX3, "forbidCell", "(II)V"⟩
abbrev cX3_forbidAlways : ByteArray := prog_5_method_4_code
def yX3_forbidAlways : MethodName := ⟨RX3, "forbidAlways", "(I)V"⟩
abbrev cX3_forbidMove : ByteArray := prog_5_method_5_code
def yX3_forbidMove : MethodName := ⟨RX3, "forbidMove", "(III)V"⟩
abbrev cX3_find : ByteArray := prog_5_method_6_code
def yX3_find : MethodName := ⟨RX3, "find", "(LCartPaths$Scene;I[II)I"⟩
abbrev cX3_leastCost : ByteArray := prog_5_method_7_code
def yX3_leastCost : MethodName := ⟨RX3, "leastCost", "(LCartPaths$Scene;II)I"⟩
abbrev cX3_freeFrom : ByteArray := prog_5_method_8_code
def yX3_freeFrom : MethodName := ⟨RX3, "freeFrom", "(I)I"⟩
abbrev cX3_lookBack : ByteArray := prog_5_method_9_code
def yX3_lookBack : MethodName := ⟨RX3, "lookBack", "(LCartPaths$Scene;II)V"⟩
abbrev cX3_leastStep : ByteArray := prog_5_method_10_code
def yX3_leastStep : MethodName := ⟨RX3, "leastStep", "(LCartPaths$Scene;II)I"⟩
def RX4 : String := "CartPaths$Stop"
def TX4 : u_T := fun k => match k with
  | 0 => ("CartPaths$Stop", "come", "[I", true)
  | _ => ("CartPaths$Stop", "left", "[I", true)
def tyX4 : Nat → FieldType := fun k => match k with
  | 0 => .array .int
  | _ => .array .int
abbrev wsX40 : List Cond := u_ws RX4 TX4 2
theorem nmX4 : ∀ a, a < 2 → ∀ b, b < 2 → a ≠ b → (TX4 a).2.1 ≠ (TX4 b).2.1 := by decide +kernel
theorem tyX4_ok : ∀ k, k < 2 → parseFieldDescriptor (TX4 k).2.2.1 = some (tyX4 k) := by decide +kernel
abbrev cX4_init : ByteArray := prog_6_method_1_code
def yX4_init : MethodName := ⟨RX4, "<init>", "()V"⟩
abbrev cX4_run : ByteArray := prog_6_method_2_code
def yX4_run : MethodName := ⟨RX4, "run", "(LCartPaths$Ways;III)V"⟩
abbrev cX4_waitForOthers : ByteArray := prog_6_method_3_code
def yX4_waitForOthers : MethodName := ⟨RX4, "waitForOthers", "(LCartPaths$Ways;I)V"⟩
abbrev cX4_leaveCells : ByteArray := prog_6_method_4_code
def yX4_leaveCells : MethodName := ⟨RX4, "leaveCells", "(LCartPaths$Ways;I)V"⟩
abbrev cX4_delay : ByteArray := prog_6_method_5_code
def yX4_delay : MethodName := ⟨RX4, "delay", "(LCartPaths$Ways;I)I"⟩
abbrev cX4_sumDelays : ByteArray := prog_6_method_6_code
def yX4_sumDelays : MethodName := ⟨RX4, "sumDelays", "(LCartPaths$Ways;)I"⟩
def RX5 : String := "CartPaths$TextReader"
def TX5 : u_T := fun k => match k with
  | 0 => ("CartPaths$TextReader", "text", "[I", true)
  | 1 => ("CartPaths$TextReader", "length", "I", false)
  | 2 => ("CartPaths$TextReader", "pos", "I", false)
  | 3 => ("CartPaths$TextReader", "fault", "I", false)
  | 4 => ("CartPaths$TextReader", "wordStart", "I", false)
  | _ => ("CartPaths$TextReader", "scene", "LCartPaths$Scene;", true)
def tyX5 : Nat → FieldType := fun k => match k with
  | 0 => .array .int
  | 1 => .int
  | 2 => .int
  | 3 => .int
  | 4 => .int
  | _ => .object "CartPaths$Scene"
abbrev wsX50 : List Cond := u_ws RX5 TX5 6
theorem nmX5 : ∀ a, a < 6 → ∀ b, b < 6 → a ≠ b → (TX5 a).2.1 ≠ (TX5 b).2.1 := by decide +kernel
theorem tyX5_ok : ∀ k, k < 6 → parseFieldDescriptor (TX5 k).2.2.1 = some (tyX5 k) := by decide +kernel
abbrev cX5_init : ByteArray := prog_7_method_1_code
def yX5_init : MethodName := ⟨RX5, "<init>", "()V"⟩
abbrev cX5_append : ByteArray := prog_7_method_2_code
def yX5_append : MethodName := ⟨RX5, "append", "(I)V"⟩
abbrev cX5_parse : ByteArray := prog_7_method_3_code
def yX5_parse : MethodName := ⟨RX5, "parse", "()V"⟩
abbrev cX5_failAt : ByteArray := prog_7_method_4_code
def yX5_failAt : MethodName := ⟨RX5, "failAt", "(I)Z"⟩
abbrev cX5_takeLine : ByteArray := prog_7_method_5_code
def yX5_takeLine : MethodName := ⟨RX5, "takeLine", "()Z"⟩
abbrev cX5_skipBlanks : ByteArray := prog_7_method_6_code
def yX5_skipBlanks : MethodName := ⟨RX5, "skipBlanks", "()V"⟩
abbrev cX5_takeWord : ByteArray := prog_7_method_7_code
def yX5_takeWord : MethodName := ⟨RX5, "takeWord", "()V"⟩
abbrev cX5_wordIs : ByteArray := prog_7_method_8_code
def yX5_wordIs : MethodName := ⟨RX5, "wordIs", "(Ljava/lang/String;)Z"⟩
abbrev cX5_takeGiven : ByteArray := prog_7_method_9_code
def yX5_takeGiven : MethodName := ⟨RX5, "takeGiven", "(Ljava/lang/String;)Z"⟩
abbrev cX5_takeSemicolon : ByteArray := prog_7_method_10_code
def yX5_takeSemicolon : MethodName := ⟨RX5, "takeSemicolon", "()Z"⟩
abbrev cX5_takeRow : ByteArray := prog_7_method_11_code
def yX5_takeRow : MethodName := ⟨RX5, "takeRow", "()Z"⟩
abbrev cX5_takeCart : ByteArray := prog_7_method_12_code
def yX5_takeCart : MethodName := ⟨RX5, "takeCart", "()Z"⟩
abbrev cX5_takeName : ByteArray := prog_7_method_13_code
def yX5_takeName : MethodName := ⟨RX5, "takeName", "(I)Z"⟩
abbrev cX5_isToldName : ByteArray := prog_7_method_14_code
def yX5_isToldName : MethodName := ⟨RX5, "isToldName", "()Z"⟩
abbrev cX5_takeCell : ByteArray := prog_7_method_15_code
def yX5_takeCell : MethodName := ⟨RX5, "takeCell", "([I)I"⟩
abbrev cX5_takeNumber : ByteArray := prog_7_method_16_code
def yX5_takeNumber : MethodName := ⟨RX5, "takeNumber", "(I)I"⟩
def RX6 : String := "CartPaths$Tree"
def TX6 : u_T := fun k => match k with
  | 0 => ("CartPaths$Tree", "nodes", "[LCartPaths$Node;", true)
  | 1 => ("CartPaths$Tree", "first", "LCartPaths$Ways;", true)
  | 2 => ("CartPaths$Tree", "ways", "LCartPaths$Ways;", true)
  | 3 => ("CartPaths$Tree", "spare", "[I", true)
  | 4 => ("CartPaths$Tree", "version", "I", false)
  | 5 => ("CartPaths$Tree", "nodeCount", "I", false)
  | 6 => ("CartPaths$Tree", "splits", "I", false)
  | 7 => ("CartPaths$Tree", "low", "I", false)
  | 8 => ("CartPaths$Tree", "planNode", "I", false)
  | _ => ("CartPaths$Tree", "isCut", "Z", false)
def tyX6 : Nat → FieldType := fun k => match k with
  | 0 => .array (.object "CartPaths$Node")
  | 1 => .object "CartPaths$Ways"
  | 2 => .object "CartPaths$Ways"
  | 3 => .array .int
  | 4 => .int
  | 5 => .int
  | 6 => .int
  | 7 => .int
  | 8 => .int
  | _ => .boolean
abbrev wsX60 : List Cond := u_ws RX6 TX6 10
theorem nmX6 : ∀ a, a < 10 → ∀ b, b < 10 → a ≠ b → (TX6 a).2.1 ≠ (TX6 b).2.1 := by decide +kernel
theorem tyX6_ok : ∀ k, k < 10 → parseFieldDescriptor (TX6 k).2.2.1 = some (tyX6 k) := by decide +kernel
abbrev cX6_init : ByteArray := prog_8_method_1_code
def yX6_init : MethodName := ⟨RX6, "<init>", "()V"⟩
abbrev cX6_build : ByteArray := prog_8_method_2_code
def yX6_build : MethodName := ⟨RX6, "build", "(LCartPaths$Scene;LCartPaths$Search;I)V"⟩
abbrev cX6_nextNode : ByteArray := prog_8_method_3_code
def yX6_nextNode : MethodName := ⟨RX6, "nextNode", "()LCartPaths$Node;"⟩
abbrev cX6_addRoot : ByteArray := prog_8_method_4_code
def yX6_addRoot : MethodName := ⟨RX6, "addRoot", "()V"⟩
abbrev cX6_choose : ByteArray := prog_8_method_5_code
def yX6_choose : MethodName := ⟨RX6, "choose", "(I)LCartPaths$Node;"⟩
abbrev cX6_leastWaiting : ByteArray := prog_8_method_6_code
def yX6_leastWaiting : MethodName := ⟨RX6, "leastWaiting", "()I"⟩
abbrev cX6_goOn : ByteArray := prog_8_method_7_code
def yX6_goOn : MethodName := ⟨RX6, "goOn", "(LCartPaths$Node;)Z"⟩
abbrev cX6_load : ByteArray := prog_8_method_8_code
def yX6_load : MethodName := ⟨RX6, "load", "(LCartPaths$Node;)V"⟩
abbrev cX6_grow : ByteArray := prog_8_method_9_code
def yX6_grow : MethodName := ⟨RX6, "grow", "(LCartPaths$Scene;LCartPaths$Search;LCartPaths$Node;I)V"⟩
abbrev cX6_forbidAll : ByteArray := prog_8_method_10_code
def yX6_forbidAll : MethodName := ⟨RX6, "forbidAll", "(LCartPaths$Search;LCartPaths$Node;)V"⟩
abbrev cX6_clashesWith : ByteArray := prog_8_method_11_code
def yX6_clashesWith : MethodName := ⟨RX6, "clashesWith", "(LCartPaths$Node;)I"⟩
def RX7 : String := "CartPaths$Turns"
def TX7 : u_T := fun k => match k with
  | 0 => ("CartPaths$Turns", "ways", "LCartPaths$Ways;", true)
  | 1 => ("CartPaths$Turns", "order", "[I", true)
  | 2 => ("CartPaths$Turns", "version", "I", false)
  | 3 => ("CartPaths$Turns", "number", "I", false)
  | 4 => ("CartPaths$Turns", "bestVersion", "I", false)
  | 5 => ("CartPaths$Turns", "bestNumber", "I", false)
  | _ => ("CartPaths$Turns", "bestSum", "I", false)
def tyX7 : Nat → FieldType := fun k => match k with
  | 0 => .object "CartPaths$Ways"
  | 1 => .array .int
  | 2 => .int
  | 3 => .int
  | 4 => .int
  | 5 => .int
  | _ => .int
abbrev wsX70 : List Cond := u_ws RX7 TX7 7
theorem nmX7 : ∀ a, a < 7 → ∀ b, b < 7 → a ≠ b → (TX7 a).2.1 ≠ (TX7 b).2.1 := by decide +kernel
theorem tyX7_ok : ∀ k, k < 7 → parseFieldDescriptor (TX7 k).2.2.1 = some (tyX7 k) := by decide +kernel
abbrev cX7_init : ByteArray := prog_9_method_1_code
def yX7_init : MethodName := ⟨RX7, "<init>", "()V"⟩
abbrev cX7_takeOrder : ByteArray := prog_9_method_2_code
def yX7_takeOrder : MethodName := ⟨RX7, "takeOrder", "(II)V"⟩
abbrev cX7_freeCart : ByteArray := prog_9_method_3_code
def yX7_freeCart : MethodName := ⟨RX7, "freeCart", "(II)I"⟩
abbrev cX7_goInOrder : ByteArray := prog_9_method_4_code
def yX7_goInOrder : MethodName := ⟨RX7, "goInOrder", "(LCartPaths$Scene;LCartPaths$Search;)V"⟩
abbrev cX7_forbidWay : ByteArray := prog_9_method_5_code
def yX7_forbidWay : MethodName := ⟨RX7, "forbidWay", "(LCartPaths$Search;I)V"⟩
def RX8 : String := "CartPaths$Ways"
def TX8 : u_T := fun k => match k with
  | 0 => ("CartPaths$Ways", "cells", "[I", true)
  | 1 => ("CartPaths$Ways", "costs", "[I", true)
  | 2 => ("CartPaths$Ways", "carts", "I", false)
  | 3 => ("CartPaths$Ways", "clashTime", "I", false)
  | 4 => ("CartPaths$Ways", "clashSort", "I", false)
  | 5 => ("CartPaths$Ways", "clashLesser", "I", false)
  | _ => ("CartPaths$Ways", "clashOther", "I", false)
def tyX8 : Nat → FieldType := fun k => match k with
  | 0 => .array .int
  | 1 => .array .int
  | 2 => .int
  | 3 => .int
  | 4 => .int
  | 5 => .int
  | _ => .int
abbrev wsX80 : List Cond := u_ws RX8 TX8 7
theorem nmX8 : ∀ a, a < 7 → ∀ b, b < 7 → a ≠ b → (TX8 a).2.1 ≠ (TX8 b).2.1 := by decide +kernel
theorem tyX8_ok : ∀ k, k < 7 → parseFieldDescriptor (TX8 k).2.2.1 = some (tyX8 k) := by decide +kernel
abbrev cX8_init : ByteArray := prog_10_method_1_code
def yX8_init : MethodName := ⟨RX8, "<init>", "()V"⟩
abbrev cX8_goAlone : ByteArray := prog_10_method_2_code
def yX8_goAlone : MethodName := ⟨RX8, "goAlone", "(LCartPaths$Scene;LCartPaths$Search;)V"⟩
abbrev cX8_put : ByteArray := prog_10_method_3_code
def yX8_put : MethodName := ⟨RX8, "put", "(I[III)V"⟩
abbrev cX8_allGo : ByteArray := prog_10_method_4_code
def yX8_allGo : MethodName := ⟨RX8, "allGo", "()Z"⟩
abbrev cX8_sumCosts : ByteArray := prog_10_method_5_code
def yX8_sumCosts : MethodName := ⟨RX8, "sumCosts", "()I"⟩
abbrev cX8_lastEnd : ByteArray := prog_10_method_6_code
def yX8_lastEnd : MethodName := ⟨RX8, "lastEnd", "()I"⟩
abbrev cX8_cellOf : ByteArray := prog_10_method_7_code
def yX8_cellOf : MethodName := ⟨RX8, "cellOf", "(II)I"⟩
abbrev cX8_comes : ByteArray := prog_10_method_8_code
def yX8_comes : MethodName := ⟨RX8, "comes", "(II)Z"⟩
abbrev cX8_moveOf : ByteArray := prog_10_method_9_code
def yX8_moveOf : MethodName := ⟨RX8, "moveOf", "(II)I"⟩
abbrev cX8_cartIn : ByteArray := prog_10_method_10_code
def yX8_cartIn : MethodName := ⟨RX8, "cartIn", "(II)I"⟩
abbrev cX8_visitedBy : ByteArray := prog_10_method_11_code
def yX8_visitedBy : MethodName := ⟨RX8, "visitedBy", "(I)J"⟩
abbrev cX8_countVisitors : ByteArray := prog_10_method_12_code
def yX8_countVisitors : MethodName := ⟨RX8, "countVisitors", "(I)I"⟩
abbrev cX8_countLeaving : ByteArray := prog_10_method_13_code
def yX8_countLeaving : MethodName := ⟨RX8, "countLeaving", "(I)I"⟩
abbrev cX8_countSteps : ByteArray := prog_10_method_14_code
def yX8_countSteps : MethodName := ⟨RX8, "countSteps", "(I)I"⟩
abbrev cX8_firstTimeIn : ByteArray := prog_10_method_15_code
def yX8_firstTimeIn : MethodName := ⟨RX8, "firstTimeIn", "(II)I"⟩
abbrev cX8_apart : ByteArray := prog_10_method_16_code
def yX8_apart : MethodName := ⟨RX8, "apart", "(III)I"⟩
abbrev cX8_countClashes : ByteArray := prog_10_method_17_code
def yX8_countClashes : MethodName := ⟨RX8, "countClashes", "()I"⟩
abbrev cX8_sortOfClash : ByteArray := prog_10_method_18_code
def yX8_sortOfClash : MethodName := ⟨RX8, "sortOfClash", "(III)I"⟩
abbrev cX8_findFirstClash : ByteArray := prog_10_method_19_code
def yX8_findFirstClash : MethodName := ⟨RX8, "findFirstClash", "()V"⟩
abbrev cX8_findClashAt : ByteArray := prog_10_method_20_code
def yX8_findClashAt : MethodName := ⟨RX8, "findClashAt", "(II)V"⟩
abbrev cX8_keepClash : ByteArray := prog_10_method_21_code
def yX8_keepClash : MethodName := ⟨RX8, "keepClash", "(IIII)V"⟩
def RX9 : String := "CartPaths"
def TX9 : u_T := fun k => match k with
  | 0 => ("CartPaths", "reader", "LCartPaths$TextReader;", true)
  | 1 => ("CartPaths", "scene", "LCartPaths$Scene;", true)
  | 2 => ("CartPaths", "draft", "LCartPaths$Scene;", true)
  | 3 => ("CartPaths", "acts", "LCartPaths$Acts;", true)
  | 4 => ("CartPaths", "search", "LCartPaths$Search;", true)
  | 5 => ("CartPaths", "aloneWays", "LCartPaths$Ways;", true)
  | 6 => ("CartPaths", "aloneVersion", "I", false)
  | 7 => ("CartPaths", "trees", "[LCartPaths$Tree;", true)
  | 8 => ("CartPaths", "supposed", "LCartPaths$Tree;", true)
  | 9 => ("CartPaths", "turns", "LCartPaths$Turns;", true)
  | 10 => ("CartPaths", "stop", "LCartPaths$Stop;", true)
  | 11 => ("CartPaths", "written", "[I", true)
  | 12 => ("CartPaths", "writtenLength", "I", false)
  | _ => ("CartPaths", "version", "I", false)
def tyX9 : Nat → FieldType := fun k => match k with
  | 0 => .object "CartPaths$TextReader"
  | 1 => .object "CartPaths$Scene"
  | 2 => .object "CartPaths$Scene"
  | 3 => .object "CartPaths$Acts"
  | 4 => .object "CartPaths$Search"
  | 5 => .object "CartPaths$Ways"
  | 6 => .int
  | 7 => .array (.object "CartPaths$Tree")
  | 8 => .object "CartPaths$Tree"
  | 9 => .object "CartPaths$Turns"
  | 10 => .object "CartPaths$Stop"
  | 11 => .array .int
  | 12 => .int
  | _ => .int
abbrev wsX90 : List Cond := u_ws RX9 TX9 14
theorem nmX9 : ∀ a, a < 14 → ∀ b, b < 14 → a ≠ b → (TX9 a).2.1 ≠ (TX9 b).2.1 := by decide +kernel
theorem tyX9_ok : ∀ k, k < 14 → parseFieldDescriptor (TX9 k).2.2.1 = some (tyX9 k) := by decide +kernel
abbrev cX9_init : ByteArray := prog_1_method_1_code
def yX9_init : MethodName := ⟨RX9, "<init>", "()V"⟩
abbrev cX9_feed : ByteArray := prog_1_method_2_code
def yX9_feed : MethodName := ⟨RX9, "feed", "(IIIII)I"⟩
abbrev cX9_end : ByteArray := prog_1_method_3_code
def yX9_end : MethodName := ⟨RX9, "end", "(I)Z"⟩
abbrev cX9_read : ByteArray := prog_1_method_4_code
def yX9_read : MethodName := ⟨RX9, "read", "()I"⟩
abbrev cX9_fault : ByteArray := prog_1_method_5_code
def yX9_fault : MethodName := ⟨RX9, "fault", "()I"⟩
abbrev cX9_sceneChanged : ByteArray := prog_1_method_6_code
def yX9_sceneChanged : MethodName := ⟨RX9, "sceneChanged", "()V"⟩
abbrev cX9_needCell : ByteArray := prog_1_method_7_code
def yX9_needCell : MethodName := ⟨RX9, "needCell", "(II)I"⟩
abbrev cX9_needCart : ByteArray := prog_1_method_8_code
def yX9_needCart : MethodName := ⟨RX9, "needCart", "(I)V"⟩
abbrev cX9_needTime : ByteArray := prog_1_method_9_code
def yX9_needTime : MethodName := ⟨RX9, "needTime", "(I)V"⟩
abbrev cX9_needStop : ByteArray := prog_1_method_10_code
def yX9_needStop : MethodName := ⟨RX9, "needStop", "(I)V"⟩
abbrev cX9_needTwo : ByteArray := prog_1_method_11_code
def yX9_needTwo : MethodName := ⟨RX9, "needTwo", "(II)V"⟩
abbrev cX9_cell : ByteArray := prog_1_method_12_code
def yX9_cell : MethodName := ⟨RX9, "cell", "(II)I"⟩
abbrev cX9_cart : ByteArray := prog_1_method_13_code
def yX9_cart : MethodName := ⟨RX9, "cart", "(II)I"⟩
abbrev cX9_name : ByteArray := prog_1_method_14_code
def yX9_name : MethodName := ⟨RX9, "name", "(II)I"⟩
abbrev cX9_tell : ByteArray := prog_1_method_15_code
def yX9_tell : MethodName := ⟨RX9, "tell", "(III)I"⟩
abbrev cX9_goal : ByteArray := prog_1_method_16_code
def yX9_goal : MethodName := ⟨RX9, "goal", "(III)I"⟩
abbrev cX9_change : ByteArray := prog_1_method_17_code
def yX9_change : MethodName := ⟨RX9, "change", "(II)V"⟩
abbrev cX9_undo : ByteArray := prog_1_method_18_code
def yX9_undo : MethodName := ⟨RX9, "undo", "()I"⟩
abbrev cX9_waysAlone : ByteArray := prog_1_method_19_code
def yX9_waysAlone : MethodName := ⟨RX9, "waysAlone", "()LCartPaths$Ways;"⟩
abbrev cX9_cost : ByteArray := prog_1_method_20_code
def yX9_cost : MethodName := ⟨RX9, "cost", "(I)I"⟩
abbrev cX9_alone : ByteArray := prog_1_method_21_code
def yX9_alone : MethodName := ⟨RX9, "alone", "(II)I"⟩
abbrev cX9_clash : ByteArray := prog_1_method_22_code
def yX9_clash : MethodName := ⟨RX9, "clash", "(I)I"⟩
abbrev cX9_reach : ByteArray := prog_1_method_23_code
def yX9_reach : MethodName := ⟨RX9, "reach", "(I)I"⟩
abbrev cX9_far : ByteArray := prog_1_method_24_code
def yX9_far : MethodName := ⟨RX9, "far", "(IIII)I"⟩
abbrev cX9_treeOf : ByteArray := prog_1_method_25_code
def yX9_treeOf : MethodName := ⟨RX9, "treeOf", "(I)LCartPaths$Tree;"⟩
abbrev cX9_planned : ByteArray := prog_1_method_26_code
def yX9_planned : MethodName := ⟨RX9, "planned", "(I)LCartPaths$Ways;"⟩
abbrev cX9_supposedSum : ByteArray := prog_1_method_27_code
def yX9_supposedSum : MethodName := ⟨RX9, "supposedSum", "(I)I"⟩
abbrev cX9_plan : ByteArray := prog_1_method_28_code
def yX9_plan : MethodName := ⟨RX9, "plan", "(II)I"⟩
abbrev cX9_node : ByteArray := prog_1_method_29_code
def yX9_node : MethodName := ⟨RX9, "node", "(III)I"⟩
abbrev cX9_at : ByteArray := prog_1_method_30_code
def yX9_at : MethodName := ⟨RX9, "at", "(III)I"⟩
abbrev cX9_move : ByteArray := prog_1_method_31_code
def yX9_move : MethodName := ⟨RX9, "move", "(III)I"⟩
abbrev cX9_used : ByteArray := prog_1_method_32_code
def yX9_used : MethodName := ⟨RX9, "used", "(IIIZ)I"⟩
abbrev cX9_busiest : ByteArray := prog_1_method_33_code
def yX9_busiest : MethodName := ⟨RX9, "busiest", "(I)I"⟩
abbrev cX9_waits : ByteArray := prog_1_method_34_code
def yX9_waits : MethodName := ⟨RX9, "waits", "(I)I"⟩
abbrev cX9_late : ByteArray := prog_1_method_35_code
def yX9_late : MethodName := ⟨RX9, "late", "(IIIII)I"⟩
abbrev cX9_worse : ByteArray := prog_1_method_36_code
def yX9_worse : MethodName := ⟨RX9, "worse", "(I)I"⟩
abbrev cX9_quotientBits : ByteArray := prog_1_method_37_code
def yX9_quotientBits : MethodName := ⟨RX9, "quotientBits", "(II)I"⟩
abbrev cX9_who : ByteArray := prog_1_method_38_code
def yX9_who : MethodName := ⟨RX9, "who", "(IIII)I"⟩
abbrev cX9_near : ByteArray := prog_1_method_39_code
def yX9_near : MethodName := ⟨RX9, "near", "(IIIZ)I"⟩
abbrev cX9_without : ByteArray := prog_1_method_40_code
def yX9_without : MethodName := ⟨RX9, "without", "(III)I"⟩
abbrev cX9_follows : ByteArray := prog_1_method_41_code
def yX9_follows : MethodName := ⟨RX9, "follows", "(III)I"⟩
abbrev cX9_shared : ByteArray := prog_1_method_42_code
def yX9_shared : MethodName := ⟨RX9, "shared", "(II)I"⟩
abbrev cX9_slack : ByteArray := prog_1_method_43_code
def yX9_slack : MethodName := ⟨RX9, "slack", "(III)I"⟩
abbrev cX9_critical : ByteArray := prog_1_method_44_code
def yX9_critical : MethodName := ⟨RX9, "critical", "(IIZ)I"⟩
abbrev cX9_ended : ByteArray := prog_1_method_45_code
def yX9_ended : MethodName := ⟨RX9, "ended", "(II)I"⟩
abbrev cX9_way : ByteArray := prog_1_method_46_code
def yX9_way : MethodName := ⟨RX9, "way", "(III)I"⟩
abbrev cX9_again : ByteArray := prog_1_method_47_code
def yX9_again : MethodName := ⟨RX9, "again", "(II)I"⟩
abbrev cX9_among : ByteArray := prog_1_method_48_code
def yX9_among : MethodName := ⟨RX9, "among", "(I)I"⟩
abbrev cX9_needOrder : ByteArray := prog_1_method_49_code
def yX9_needOrder : MethodName := ⟨RX9, "needOrder", "(I)V"⟩
abbrev cX9_waysByTurns : ByteArray := prog_1_method_50_code
def yX9_waysByTurns : MethodName := ⟨RX9, "waysByTurns", "(I)LCartPaths$Ways;"⟩
abbrev cX9_byTurns : ByteArray := prog_1_method_51_code
def yX9_byTurns : MethodName := ⟨RX9, "byTurns", "(I)I"⟩
abbrev cX9_turned : ByteArray := prog_1_method_52_code
def yX9_turned : MethodName := ⟨RX9, "turned", "(III)I"⟩
abbrev cX9_bestOrder : ByteArray := prog_1_method_53_code
def yX9_bestOrder : MethodName := ⟨RX9, "bestOrder", "(Z)I"⟩
abbrev cX9_findBestOrder : ByteArray := prog_1_method_54_code
def yX9_findBestOrder : MethodName := ⟨RX9, "findBestOrder", "()V"⟩
abbrev cX9_ordered : ByteArray := prog_1_method_55_code
def yX9_ordered : MethodName := ⟨RX9, "ordered", "(II)I"⟩
abbrev cX9_write : ByteArray := prog_1_method_56_code
def yX9_write : MethodName := ⟨RX9, "write", "(II)I"⟩
abbrev cX9_putWritten : ByteArray := prog_1_method_57_code
def yX9_putWritten : MethodName := ⟨RX9, "putWritten", "(I)V"⟩
abbrev cX9_octet : ByteArray := prog_1_method_58_code
def yX9_octet : MethodName := ⟨RX9, "octet", "(I)I"⟩
abbrev cX9_count : ByteArray := prog_1_method_59_code
def yX9_count : MethodName := ⟨RX9, "count", "(I)I"⟩
abbrev cX9_indexOf : ByteArray := prog_1_method_60_code
def yX9_indexOf : MethodName := ⟨RX9, "indexOf", "([III)I"⟩
def RX10 : String := "CartPathsModel"
def TX10 : u_T := fun k => match k with
  | 0 => ("CartPathsModel", "thrown", "I", false)
  | 1 => ("CartPathsModel", "tape", "[I", true)
  | 2 => ("CartPathsModel", "taped", "I", false)
  | 3 => ("CartPathsModel", "size", "I", false)
  | 4 => ("CartPathsModel", "at", "I", false)
  | 5 => ("CartPathsModel", "fault", "I", false)
  | 6 => ("CartPathsModel", "newColumns", "I", false)
  | 7 => ("CartPathsModel", "newRows", "I", false)
  | 8 => ("CartPathsModel", "newCarts", "I", false)
  | 9 => ("CartPathsModel", "newSort", "[I", true)
  | 10 => ("CartPathsModel", "newName", "[J", true)
  | 11 => ("CartPathsModel", "newPlace", "[I", true)
  | 12 => ("CartPathsModel", "newGoal", "[I", true)
  | 13 => ("CartPathsModel", "columns", "I", false)
  | 14 => ("CartPathsModel", "rows", "I", false)
  | 15 => ("CartPathsModel", "carts", "I", false)
  | 16 => ("CartPathsModel", "sort", "[I", true)
  | 17 => ("CartPathsModel", "name", "[J", true)
  | 18 => ("CartPathsModel", "place", "[I", true)
  | 19 => ("CartPathsModel", "goal", "[I", true)
  | 20 => ("CartPathsModel", "acts", "I", false)
  | 21 => ("CartPathsModel", "past", "[I", true)
  | 22 => ("CartPathsModel", "badCell", "[Z", true)
  | 23 => ("CartPathsModel", "badMove", "[Z", true)
  | 24 => ("CartPathsModel", "comes", "[Z", true)
  | 25 => ("CartPathsModel", "ends", "[Z", true)
  | 26 => ("CartPathsModel", "way", "[I", true)
  | 27 => ("CartPathsModel", "ways", "[I", true)
  | 28 => ("CartPathsModel", "firstTime", "I", false)
  | 29 => ("CartPathsModel", "firstSort", "I", false)
  | 30 => ("CartPathsModel", "firstCart", "I", false)
  | 31 => ("CartPathsModel", "firstOther", "I", false)
  | 32 => ("CartPathsModel", "off", "[I", true)
  | 33 => ("CartPathsModel", "laidBound", "I", false)
  | 34 => ("CartPathsModel", "nodes", "I", false)
  | 35 => ("CartPathsModel", "plan", "I", false)
  | 36 => ("CartPathsModel", "low", "I", false)
  | 37 => ("CartPathsModel", "splits", "I", false)
  | 38 => ("CartPathsModel", "isCut", "Z", false)
  | 39 => ("CartPathsModel", "ahead", "[I", true)
  | 40 => ("CartPathsModel", "sum", "[I", true)
  | 41 => ("CartPathsModel", "clashes", "[I", true)
  | 42 => ("CartPathsModel", "toCart", "[I", true)
  | 43 => ("CartPathsModel", "badSort", "[I", true)
  | 44 => ("CartPathsModel", "badFrom", "[I", true)
  | 45 => ("CartPathsModel", "badTo", "[I", true)
  | 46 => ("CartPathsModel", "badTime", "[I", true)
  | 47 => ("CartPathsModel", "isSplit", "[Z", true)
  | 48 => ("CartPathsModel", "visits", "[I", true)
  | 49 => ("CartPathsModel", "visit", "[I", true)
  | 50 => ("CartPathsModel", "told", "[I", true)
  | 51 => ("CartPathsModel", "then", "[I", true)
  | 52 => ("CartPathsModel", "places", "[I", true)
  | 53 => ("CartPathsModel", "order", "[I", true)
  | 54 => ("CartPathsModel", "written", "[I", true)
  | _ => ("CartPathsModel", "writtenMany", "I", false)
def tyX10 : Nat → FieldType := fun k => match k with
  | 0 => .int
  | 1 => .array .int
  | 2 => .int
  | 3 => .int
  | 4 => .int
  | 5 => .int
  | 6 => .int
  | 7 => .int
  | 8 => .int
  | 9 => .array .int
  | 10 => .array .long
  | 11 => .array .int
  | 12 => .array .int
  | 13 => .int
  | 14 => .int
  | 15 => .int
  | 16 => .array .int
  | 17 => .array .long
  | 18 => .array .int
  | 19 => .array .int
  | 20 => .int
  | 21 => .array .int
  | 22 => .array .boolean
  | 23 => .array .boolean
  | 24 => .array .boolean
  | 25 => .array .boolean
  | 26 => .array .int
  | 27 => .array .int
  | 28 => .int
  | 29 => .int
  | 30 => .int
  | 31 => .int
  | 32 => .array .int
  | 33 => .int
  | 34 => .int
  | 35 => .int
  | 36 => .int
  | 37 => .int
  | 38 => .boolean
  | 39 => .array .int
  | 40 => .array .int
  | 41 => .array .int
  | 42 => .array .int
  | 43 => .array .int
  | 44 => .array .int
  | 45 => .array .int
  | 46 => .array .int
  | 47 => .array .boolean
  | 48 => .array .int
  | 49 => .array .int
  | 50 => .array .int
  | 51 => .array .int
  | 52 => .array .int
  | 53 => .array .int
  | 54 => .array .int
  | _ => .int
abbrev wsX100 : List Cond := u_ws RX10 TX10 56
theorem nmX10 : ∀ a, a < 56 → ∀ b, b < 56 → a ≠ b → (TX10 a).2.1 ≠ (TX10 b).2.1 := by decide +kernel
theorem tyX10_ok : ∀ k, k < 56 → parseFieldDescriptor (TX10 k).2.2.1 = some (tyX10 k) := by decide +kernel
abbrev cX10_init : ByteArray := prog_12_method_1_code
def yX10_init : MethodName := ⟨RX10, "<init>", "()V"⟩
abbrev cX10_thrown : ByteArray := prog_12_method_2_code
def yX10_thrown : MethodName := ⟨RX10, "thrown", "()I"⟩
abbrev cX10_isIn : ByteArray := prog_12_method_3_code
def yX10_isIn : MethodName := ⟨RX10, "isIn", "(III)Z"⟩
abbrev cX10_feed : ByteArray := prog_12_method_4_code
def yX10_feed : MethodName := ⟨RX10, "feed", "(IIIII)I"⟩
abbrev cX10_end : ByteArray := prog_12_method_5_code
def yX10_end : MethodName := ⟨RX10, "end", "(I)Z"⟩
abbrev cX10_wrong : ByteArray := prog_12_method_6_code
def yX10_wrong : MethodName := ⟨RX10, "wrong", "()V"⟩
abbrev cX10_here : ByteArray := prog_12_method_7_code
def yX10_here : MethodName := ⟨RX10, "here", "()I"⟩
abbrev cX10_wordSize : ByteArray := prog_12_method_8_code
def yX10_wordSize : MethodName := ⟨RX10, "wordSize", "()I"⟩
abbrev cX10_is : ByteArray := prog_12_method_9_code
def yX10_is : MethodName := ⟨RX10, "is", "(Ljava/lang/String;)Z"⟩
abbrev cX10_takes : ByteArray := prog_12_method_10_code
def yX10_takes : MethodName := ⟨RX10, "takes", "(Ljava/lang/String;)Z"⟩
abbrev cX10_must : ByteArray := prog_12_method_11_code
def yX10_must : MethodName := ⟨RX10, "must", "(I)V"⟩
abbrev cX10_isName : ByteArray := prog_12_method_12_code
def yX10_isName : MethodName := ⟨RX10, "isName", "()Z"⟩
abbrev cX10_named : ByteArray := prog_12_method_13_code
def yX10_named : MethodName := ⟨RX10, "named", "()J"⟩
abbrev cX10_letters : ByteArray := prog_12_method_14_code
def yX10_letters : MethodName := ⟨RX10, "letters", "(J)I"⟩
abbrev cX10_letter : ByteArray := prog_12_method_15_code
def yX10_letter : MethodName := ⟨RX10, "letter", "(JI)I"⟩
abbrev cX10_isDigit : ByteArray := prog_12_method_16_code
def yX10_isDigit : MethodName := ⟨RX10, "isDigit", "(I)Z"⟩
abbrev cX10_digit : ByteArray := prog_12_method_17_code
def yX10_digit : MethodName := ⟨RX10, "digit", "(I)I"⟩
abbrev cX10_sortOf : ByteArray := prog_12_method_18_code
def yX10_sortOf : MethodName := ⟨RX10, "sortOf", "(I)I"⟩
abbrev cX10_signOf : ByteArray := prog_12_method_19_code
def yX10_signOf : MethodName := ⟨RX10, "signOf", "(I)I"⟩
abbrev cX10_rowLine : ByteArray := prog_12_method_20_code
def yX10_rowLine : MethodName := ⟨RX10, "rowLine", "()V"⟩
abbrev cX10_spot : ByteArray := prog_12_method_21_code
def yX10_spot : MethodName := ⟨RX10, "spot", "([I)I"⟩
abbrev cX10_cartLine : ByteArray := prog_12_method_22_code
def yX10_cartLine : MethodName := ⟨RX10, "cartLine", "()V"⟩
abbrev cX10_read : ByteArray := prog_12_method_23_code
def yX10_read : MethodName := ⟨RX10, "read", "()I"⟩
abbrev cX10_fault : ByteArray := prog_12_method_24_code
def yX10_fault : MethodName := ⟨RX10, "fault", "()I"⟩
abbrev cX10_isCell : ByteArray := prog_12_method_25_code
def yX10_isCell : MethodName := ⟨RX10, "isCell", "(II)Z"⟩
abbrev cX10_isCart : ByteArray := prog_12_method_26_code
def yX10_isCart : MethodName := ⟨RX10, "isCart", "(I)Z"⟩
abbrev cX10_next : ByteArray := prog_12_method_27_code
def yX10_next : MethodName := ⟨RX10, "next", "(II)I"⟩
abbrev cX10_cell : ByteArray := prog_12_method_28_code
def yX10_cell : MethodName := ⟨RX10, "cell", "(II)I"⟩
abbrev cX10_cart : ByteArray := prog_12_method_29_code
def yX10_cart : MethodName := ⟨RX10, "cart", "(II)I"⟩
abbrev cX10_name : ByteArray := prog_12_method_30_code
def yX10_name : MethodName := ⟨RX10, "name", "(II)I"⟩
abbrev cX10_remembers : ByteArray := prog_12_method_31_code
def yX10_remembers : MethodName := ⟨RX10, "remembers", "()V"⟩
abbrev cX10_isPlaceOrGoal : ByteArray := prog_12_method_32_code
def yX10_isPlaceOrGoal : MethodName := ⟨RX10, "isPlaceOrGoal", "(I)Z"⟩
abbrev cX10_tell : ByteArray := prog_12_method_33_code
def yX10_tell : MethodName := ⟨RX10, "tell", "(III)I"⟩
abbrev cX10_goal : ByteArray := prog_12_method_34_code
def yX10_goal : MethodName := ⟨RX10, "goal", "(III)I"⟩
abbrev cX10_change : ByteArray := prog_12_method_35_code
def yX10_change : MethodName := ⟨RX10, "change", "(II)V"⟩
abbrev cX10_undo : ByteArray := prog_12_method_36_code
def yX10_undo : MethodName := ⟨RX10, "undo", "()I"⟩
abbrev cX10_frees : ByteArray := prog_12_method_37_code
def yX10_frees : MethodName := ⟨RX10, "frees", "()V"⟩
abbrev cX10_mayGo : ByteArray := prog_12_method_38_code
def yX10_mayGo : MethodName := ⟨RX10, "mayGo", "(III)Z"⟩
abbrev cX10_laysWay : ByteArray := prog_12_method_39_code
def yX10_laysWay : MethodName := ⟨RX10, "laysWay", "(I)I"⟩
abbrev cX10_cost : ByteArray := prog_12_method_40_code
def yX10_cost : MethodName := ⟨RX10, "cost", "(I)I"⟩
abbrev cX10_alone : ByteArray := prog_12_method_41_code
def yX10_alone : MethodName := ⟨RX10, "alone", "(II)I"⟩
abbrev cX10_wayAt : ByteArray := prog_12_method_42_code
def yX10_wayAt : MethodName := ⟨RX10, "wayAt", "(III)I"⟩
abbrev cX10_keepsWay : ByteArray := prog_12_method_43_code
def yX10_keepsWay : MethodName := ⟨RX10, "keepsWay", "(II)V"⟩
abbrev cX10_costAt : ByteArray := prog_12_method_44_code
def yX10_costAt : MethodName := ⟨RX10, "costAt", "(II)I"⟩
abbrev cX10_isClash : ByteArray := prog_12_method_45_code
def yX10_isClash : MethodName := ⟨RX10, "isClash", "(IIIII)Z"⟩
abbrev cX10_laysClashes : ByteArray := prog_12_method_46_code
def yX10_laysClashes : MethodName := ⟨RX10, "laysClashes", "(I)I"⟩
abbrev cX10_laysAlone : ByteArray := prog_12_method_47_code
def yX10_laysAlone : MethodName := ⟨RX10, "laysAlone", "(I)Z"⟩
abbrev cX10_sumAt : ByteArray := prog_12_method_48_code
def yX10_sumAt : MethodName := ⟨RX10, "sumAt", "(I)I"⟩
abbrev cX10_clash : ByteArray := prog_12_method_49_code
def yX10_clash : MethodName := ⟨RX10, "clash", "(I)I"⟩
abbrev cX10_laysFar : ByteArray := prog_12_method_50_code
def yX10_laysFar : MethodName := ⟨RX10, "laysFar", "(I)V"⟩
abbrev cX10_reach : ByteArray := prog_12_method_51_code
def yX10_reach : MethodName := ⟨RX10, "reach", "(I)I"⟩
abbrev cX10_far : ByteArray := prog_12_method_52_code
def yX10_far : MethodName := ⟨RX10, "far", "(IIII)I"⟩
abbrev cX10_changes : ByteArray := prog_12_method_53_code
def yX10_changes : MethodName := ⟨RX10, "changes", "()V"⟩
abbrev cX10_moveOf : ByteArray := prog_12_method_54_code
def yX10_moveOf : MethodName := ⟨RX10, "moveOf", "(II)I"⟩
abbrev cX10_forbids : ByteArray := prog_12_method_55_code
def yX10_forbids : MethodName := ⟨RX10, "forbids", "(I)V"⟩
abbrev cX10_branches : ByteArray := prog_12_method_56_code
def yX10_branches : MethodName := ⟨RX10, "branches", "(IIII)V"⟩
abbrev cX10_chosen : ByteArray := prog_12_method_57_code
def yX10_chosen : MethodName := ⟨RX10, "chosen", "(I)I"⟩
abbrev cX10_lays : ByteArray := prog_12_method_58_code
def yX10_lays : MethodName := ⟨RX10, "lays", "(I)V"⟩
abbrev cX10_isBound : ByteArray := prog_12_method_59_code
def yX10_isBound : MethodName := ⟨RX10, "isBound", "(I)Z"⟩
abbrev cX10_plan : ByteArray := prog_12_method_60_code
def yX10_plan : MethodName := ⟨RX10, "plan", "(II)I"⟩
abbrev cX10_node : ByteArray := prog_12_method_61_code
def yX10_node : MethodName := ⟨RX10, "node", "(III)I"⟩
abbrev cX10_wrongPlan : ByteArray := prog_12_method_62_code
def yX10_wrongPlan : MethodName := ⟨RX10, "wrongPlan", "(ZIII)I"⟩
abbrev cX10_at : ByteArray := prog_12_method_63_code
def yX10_at : MethodName := ⟨RX10, "at", "(III)I"⟩
abbrev cX10_move : ByteArray := prog_12_method_64_code
def yX10_move : MethodName := ⟨RX10, "move", "(III)I"⟩
abbrev cX10_usedBy : ByteArray := prog_12_method_65_code
def yX10_usedBy : MethodName := ⟨RX10, "usedBy", "(I)I"⟩
abbrev cX10_used : ByteArray := prog_12_method_66_code
def yX10_used : MethodName := ⟨RX10, "used", "(IIIZ)I"⟩
abbrev cX10_busiest : ByteArray := prog_12_method_67_code
def yX10_busiest : MethodName := ⟨RX10, "busiest", "(I)I"⟩
abbrev cX10_waits : ByteArray := prog_12_method_68_code
def yX10_waits : MethodName := ⟨RX10, "waits", "(I)I"⟩
abbrev cX10_laysVisits : ByteArray := prog_12_method_69_code
def yX10_laysVisits : MethodName := ⟨RX10, "laysVisits", "()V"⟩
abbrev cX10_notSooner : ByteArray := prog_12_method_70_code
def yX10_notSooner : MethodName := ⟨RX10, "notSooner", "(II)Z"⟩
abbrev cX10_waitsFor : ByteArray := prog_12_method_71_code
def yX10_waitsFor : MethodName := ⟨RX10, "waitsFor", "(II)Z"⟩
abbrev cX10_late : ByteArray := prog_12_method_72_code
def yX10_late : MethodName := ⟨RX10, "late", "(IIIII)I"⟩
abbrev cX10_lateBy : ByteArray := prog_12_method_73_code
def yX10_lateBy : MethodName := ⟨RX10, "lateBy", "(I)I"⟩
abbrev cX10_laysStop : ByteArray := prog_12_method_74_code
def yX10_laysStop : MethodName := ⟨RX10, "laysStop", "(III)V"⟩
abbrev cX10_slack : ByteArray := prog_12_method_75_code
def yX10_slack : MethodName := ⟨RX10, "slack", "(III)I"⟩
abbrev cX10_critical : ByteArray := prog_12_method_76_code
def yX10_critical : MethodName := ⟨RX10, "critical", "(IIZ)I"⟩
abbrev cX10_follows : ByteArray := prog_12_method_77_code
def yX10_follows : MethodName := ⟨RX10, "follows", "(III)I"⟩
abbrev cX10_shared : ByteArray := prog_12_method_78_code
def yX10_shared : MethodName := ⟨RX10, "shared", "(II)I"⟩
abbrev cX10_ended : ByteArray := prog_12_method_79_code
def yX10_ended : MethodName := ⟨RX10, "ended", "(II)I"⟩
abbrev cX10_way : ByteArray := prog_12_method_80_code
def yX10_way : MethodName := ⟨RX10, "way", "(III)I"⟩
abbrev cX10_again : ByteArray := prog_12_method_81_code
def yX10_again : MethodName := ⟨RX10, "again", "(II)I"⟩
abbrev cX10_among : ByteArray := prog_12_method_82_code
def yX10_among : MethodName := ⟨RX10, "among", "(I)I"⟩
abbrev cX10_worse : ByteArray := prog_12_method_83_code
def yX10_worse : MethodName := ⟨RX10, "worse", "(I)I"⟩
abbrev cX10_who : ByteArray := prog_12_method_84_code
def yX10_who : MethodName := ⟨RX10, "who", "(IIII)I"⟩
abbrev cX10_apart : ByteArray := prog_12_method_85_code
def yX10_apart : MethodName := ⟨RX10, "apart", "(II)I"⟩
abbrev cX10_near : ByteArray := prog_12_method_86_code
def yX10_near : MethodName := ⟨RX10, "near", "(IIIZ)I"⟩
abbrev cX10_without : ByteArray := prog_12_method_87_code
def yX10_without : MethodName := ⟨RX10, "without", "(III)I"⟩
abbrev cX10_orders : ByteArray := prog_12_method_88_code
def yX10_orders : MethodName := ⟨RX10, "orders", "()I"⟩
abbrev cX10_laysOrder : ByteArray := prog_12_method_89_code
def yX10_laysOrder : MethodName := ⟨RX10, "laysOrder", "(I)V"⟩
abbrev cX10_forbidsAll : ByteArray := prog_12_method_90_code
def yX10_forbidsAll : MethodName := ⟨RX10, "forbidsAll", "(I)V"⟩
abbrev cX10_laysTurns : ByteArray := prog_12_method_91_code
def yX10_laysTurns : MethodName := ⟨RX10, "laysTurns", "(I)I"⟩
abbrev cX10_isOrder : ByteArray := prog_12_method_92_code
def yX10_isOrder : MethodName := ⟨RX10, "isOrder", "(I)Z"⟩
abbrev cX10_byTurns : ByteArray := prog_12_method_93_code
def yX10_byTurns : MethodName := ⟨RX10, "byTurns", "(I)I"⟩
abbrev cX10_turned : ByteArray := prog_12_method_94_code
def yX10_turned : MethodName := ⟨RX10, "turned", "(III)I"⟩
abbrev cX10_bestOrder : ByteArray := prog_12_method_95_code
def yX10_bestOrder : MethodName := ⟨RX10, "bestOrder", "(Z)I"⟩
abbrev cX10_ordered : ByteArray := prog_12_method_96_code
def yX10_ordered : MethodName := ⟨RX10, "ordered", "(II)I"⟩
abbrev cX10_write : ByteArray := prog_12_method_97_code
def yX10_write : MethodName := ⟨RX10, "write", "(II)I"⟩
abbrev cX10_octet : ByteArray := prog_12_method_98_code
def yX10_octet : MethodName := ⟨RX10, "octet", "(I)I"⟩
abbrev cX10_count : ByteArray := prog_12_method_99_code
def yX10_count : MethodName := ⟨RX10, "count", "(I)I"⟩
def RJx145de : String := "java/io/Serializable"
def TJx145de : u_T := fun k => match k with
  | _ => ("", "", "", false)
def tyJx145de : Nat → FieldType := fun k => match k with
  | _ => .int
abbrev wsJx145de0 : List Cond := u_ws RJx145de TJx145de 0
theorem nmJx145de : ∀ a, a < 0 → ∀ b, b < 0 → a ≠ b → (TJx145de a).2.1 ≠ (TJx145de b).2.1 := by decide +kernel
theorem tyJx145de_ok : ∀ k, k < 0 → parseFieldDescriptor (TJx145de k).2.2.1 = some (tyJx145de k) := by decide +kernel
def RJx9f9b0 : String := "java/lang/CharSequence"
def TJx9f9b0 : u_T := fun k => match k with
  | _ => ("", "", "", false)
def tyJx9f9b0 : Nat → FieldType := fun k => match k with
  | _ => .int
abbrev wsJx9f9b00 : List Cond := u_ws RJx9f9b0 TJx9f9b0 0
theorem nmJx9f9b0 : ∀ a, a < 0 → ∀ b, b < 0 → a ≠ b → (TJx9f9b0 a).2.1 ≠ (TJx9f9b0 b).2.1 := by decide +kernel
theorem tyJx9f9b0_ok : ∀ k, k < 0 → parseFieldDescriptor (TJx9f9b0 k).2.2.1 = some (tyJx9f9b0 k) := by decide +kernel
def RJ11 : String := "java/lang/Character"
def TJ11 : u_T := fun k => match k with
  | _ => ("", "", "", false)
def tyJ11 : Nat → FieldType := fun k => match k with
  | _ => .int
abbrev wsJ110 : List Cond := u_ws RJ11 TJ11 0
theorem nmJ11 : ∀ a, a < 0 → ∀ b, b < 0 → a ≠ b → (TJ11 a).2.1 ≠ (TJ11 b).2.1 := by decide +kernel
theorem tyJ11_ok : ∀ k, k < 0 → parseFieldDescriptor (TJ11 k).2.2.1 = some (tyJ11 k) := by decide +kernel
abbrev cJ11_isValidCodePoint_9a6ad : ByteArray := prog_15_method_11_code
def yJ11_isValidCodePoint_9a6ad : MethodName := ⟨RJ11, "isValidCodePoint", "(I)Z"⟩
abbrev cJ11_highSurrogate_5068e : ByteArray := prog_15_method_28_code
def yJ11_highSurrogate_5068e : MethodName := ⟨RJ11, "highSurrogate", "(I)C"⟩
abbrev cJ11_lowSurrogate_5068e : ByteArray := prog_15_method_29_code
def yJ11_lowSurrogate_5068e : MethodName := ⟨RJ11, "lowSurrogate", "(I)C"⟩
def RJxb160c : String := "java/lang/Comparable"
def TJxb160c : u_T := fun k => match k with
  | _ => ("", "", "", false)
def tyJxb160c : Nat → FieldType := fun k => match k with
  | _ => .int
abbrev wsJxb160c0 : List Cond := u_ws RJxb160c TJxb160c 0
theorem nmJxb160c : ∀ a, a < 0 → ∀ b, b < 0 → a ≠ b → (TJxb160c a).2.1 ≠ (TJxb160c b).2.1 := by decide +kernel
theorem tyJxb160c_ok : ∀ k, k < 0 → parseFieldDescriptor (TJxb160c k).2.2.1 = some (tyJxb160c k) := by decide +kernel
def RJxf58ca : String := "java/lang/Float"
def TJxf58ca : u_T := fun k => match k with
  | _ => ("", "", "", false)
def tyJxf58ca : Nat → FieldType := fun k => match k with
  | _ => .int
abbrev wsJxf58ca0 : List Cond := u_ws RJxf58ca TJxf58ca 0
theorem nmJxf58ca : ∀ a, a < 0 → ∀ b, b < 0 → a ≠ b → (TJxf58ca a).2.1 ≠ (TJxf58ca b).2.1 := by decide +kernel
theorem tyJxf58ca_ok : ∀ k, k < 0 → parseFieldDescriptor (TJxf58ca k).2.2.1 = some (tyJxf58ca k) := by decide +kernel
abbrev cJxf58ca_isNaN_12338 : ByteArray := prog_18_method_6_code
def yJxf58ca_isNaN_12338 : MethodName := ⟨RJxf58ca, "isNaN", "(F)Z"⟩
abbrev cJxf58ca_floatToIntBits_5c35a : ByteArray := prog_18_method_24_code
def yJxf58ca_floatToIntBits_5c35a : MethodName := ⟨RJxf58ca, "floatToIntBits", "(F)I"⟩
def RJ13 : String := "java/lang/Long"
def TJ13 : u_T := fun k => match k with
  | _ => ("", "", "", false)
def tyJ13 : Nat → FieldType := fun k => match k with
  | _ => .int
abbrev wsJ130 : List Cond := u_ws RJ13 TJ13 0
theorem nmJ13 : ∀ a, a < 0 → ∀ b, b < 0 → a ≠ b → (TJ13 a).2.1 ≠ (TJ13 b).2.1 := by decide +kernel
theorem tyJ13_ok : ∀ k, k < 0 → parseFieldDescriptor (TJ13 k).2.2.1 = some (tyJ13 k) := by decide +kernel
abbrev cJ13_bitCount_95d88 : ByteArray := prog_22_method_50_code
def yJ13_bitCount_95d88 : MethodName := ⟨RJ13, "bitCount", "(J)I"⟩
def RJ9 : String := "java/lang/Math"
def TJ9 : u_T := fun k => match k with
  | _ => ("", "", "", false)
def tyJ9 : Nat → FieldType := fun k => match k with
  | _ => .int
abbrev wsJ90 : List Cond := u_ws RJ9 TJ9 0
theorem nmJ9 : ∀ a, a < 0 → ∀ b, b < 0 → a ≠ b → (TJ9 a).2.1 ≠ (TJ9 b).2.1 := by decide +kernel
theorem tyJ9_ok : ∀ k, k < 0 → parseFieldDescriptor (TJ9 k).2.2.1 = some (tyJ9 k) := by decide +kernel
abbrev cJ9_abs_0f7a4 : ByteArray := prog_23_method_59_code
def yJ9_abs_0f7a4 : MethodName := ⟨RJ9, "abs", "(I)I"⟩
abbrev cJ9_max_7cf53 : ByteArray := prog_23_method_65_code
def yJ9_max_7cf53 : MethodName := ⟨RJ9, "max", "(II)I"⟩
abbrev cJ9_min_7cf53 : ByteArray := prog_23_method_69_code
def yJ9_min_7cf53 : MethodName := ⟨RJ9, "min", "(II)I"⟩
def RJxd2413 : String := "java/lang/Number"
def TJxd2413 : u_T := fun k => match k with
  | _ => ("", "", "", false)
def tyJxd2413 : Nat → FieldType := fun k => match k with
  | _ => .int
abbrev wsJxd24130 : List Cond := u_ws RJxd2413 TJxd2413 0
theorem nmJxd2413 : ∀ a, a < 0 → ∀ b, b < 0 → a ≠ b → (TJxd2413 a).2.1 ≠ (TJxd2413 b).2.1 := by decide +kernel
theorem tyJxd2413_ok : ∀ k, k < 0 → parseFieldDescriptor (TJxd2413 k).2.2.1 = some (tyJxd2413 k) := by decide +kernel
def RJ0 : String := "java/lang/String"
def TJ0 : u_T := fun k => match k with
  | _ => ("", "", "", false)
def tyJ0 : Nat → FieldType := fun k => match k with
  | _ => .int
abbrev wsJ00 : List Cond := u_ws RJ0 TJ0 0
theorem nmJ0 : ∀ a, a < 0 → ∀ b, b < 0 → a ≠ b → (TJ0 a).2.1 ≠ (TJ0 b).2.1 := by decide +kernel
theorem tyJ0_ok : ∀ k, k < 0 → parseFieldDescriptor (TJ0 k).2.2.1 = some (tyJ0 k) := by decide +kernel
abbrev cJ0_length_8abf5 : ByteArray := prog_26_method_54_code
def yJ0_length_8abf5 : MethodName := ⟨RJ0, "length", "()I"⟩
abbrev cJ0_charAt_5068e : ByteArray := prog_26_method_56_code
def yJ0_charAt_5068e : MethodName := ⟨RJ0, "charAt", "(I)C"⟩
abbrev cJ0_indexOf_0f7a4 : ByteArray := prog_26_method_79_code
def yJ0_indexOf_0f7a4 : MethodName := ⟨RJ0, "indexOf", "(I)I"⟩
abbrev cJ0_indexOf_7cf53 : ByteArray := prog_26_method_80_code
def yJ0_indexOf_7cf53 : MethodName := ⟨RJ0, "indexOf", "(II)I"⟩
abbrev cJ0_coder_7d493 : ByteArray := prog_26_method_152_code
def yJ0_coder_7d493 : MethodName := ⟨RJ0, "coder", "()B"⟩
abbrev cJ0_isLatin1_aae02 : ByteArray := prog_26_method_154_code
def yJ0_isLatin1_aae02 : MethodName := ⟨RJ0, "isLatin1", "()Z"⟩
abbrev cJ0_checkIndex_df160 : ByteArray := prog_26_method_155_code
def yJ0_checkIndex_df160 : MethodName := ⟨RJ0, "checkIndex", "(II)V"⟩
abbrev cJ0_checkBoundsBeginEnd_23922 : ByteArray := prog_26_method_158_code
def yJ0_checkBoundsBeginEnd_23922 : MethodName := ⟨RJ0, "checkBoundsBeginEnd", "(III)V"⟩
def RJ1 : String := "java/lang/StringLatin1"
def TJ1 : u_T := fun k => match k with
  | _ => ("", "", "", false)
def tyJ1 : Nat → FieldType := fun k => match k with
  | _ => .int
abbrev wsJ10 : List Cond := u_ws RJ1 TJ1 0
theorem nmJ1 : ∀ a, a < 0 → ∀ b, b < 0 → a ≠ b → (TJ1 a).2.1 ≠ (TJ1 b).2.1 := by decide +kernel
theorem tyJ1_ok : ∀ k, k < 0 → parseFieldDescriptor (TJ1 k).2.2.1 = some (tyJ1 k) := by decide +kernel
abbrev cJ1_charAt_3b067 : ByteArray := prog_27_method_2_code
def yJ1_charAt_3b067 : MethodName := ⟨RJ1, "charAt", "([BI)C"⟩
abbrev cJ1_canEncode_9a6ad : ByteArray := prog_27_method_4_code
def yJ1_canEncode_9a6ad : MethodName := ⟨RJ1, "canEncode", "(I)Z"⟩
abbrev cJ1_indexOf_4cfef : ByteArray := prog_27_method_22_code
def yJ1_indexOf_4cfef : MethodName := ⟨RJ1, "indexOf", "([BIII)I"⟩
abbrev cJ1_indexOfChar_4cfef : ByteArray := prog_27_method_23_code
def yJ1_indexOfChar_4cfef : MethodName := ⟨RJ1, "indexOfChar", "([BIII)I"⟩
def RJ2 : String := "java/lang/StringUTF16"
def TJ2 : u_T := fun k => match k with
  | _ => ("", "", "", false)
def tyJ2 : Nat → FieldType := fun k => match k with
  | _ => .int
abbrev wsJ20 : List Cond := u_ws RJ2 TJ2 0
theorem nmJ2 : ∀ a, a < 0 → ∀ b, b < 0 → a ≠ b → (TJ2 a).2.1 ≠ (TJ2 b).2.1 := by decide +kernel
theorem tyJ2_ok : ∀ k, k < 0 → parseFieldDescriptor (TJ2 k).2.2.1 = some (tyJ2 k) := by decide +kernel
abbrev cJ2_getChar_3b067 : ByteArray := prog_28_method_5_code
def yJ2_getChar_3b067 : MethodName := ⟨RJ2, "getChar", "([BI)C"⟩
abbrev cJ2_length_9d52b : ByteArray := prog_28_method_6_code
def yJ2_length_9d52b : MethodName := ⟨RJ2, "length", "([B)I"⟩
abbrev cJ2_indexOf_4cfef : ByteArray := prog_28_method_40_code
def yJ2_indexOf_4cfef : MethodName := ⟨RJ2, "indexOf", "([BIII)I"⟩
abbrev cJ2_indexOfChar_4cfef : ByteArray := prog_28_method_47_code
def yJ2_indexOfChar_4cfef : MethodName := ⟨RJ2, "indexOfChar", "([BIII)I"⟩
abbrev cJ2_indexOfCharUnsafe_4cfef : ByteArray := prog_28_method_48_code
def yJ2_indexOfCharUnsafe_4cfef : MethodName := ⟨RJ2, "indexOfCharUnsafe", "([BIII)I"⟩
abbrev cJ2_indexOfSupplementary_4cfef : ByteArray := prog_28_method_49_code
def yJ2_indexOfSupplementary_4cfef : MethodName := ⟨RJ2, "indexOfSupplementary", "([BIII)I"⟩
abbrev cJ2_charAt_3b067 : ByteArray := prog_28_method_83_code
def yJ2_charAt_3b067 : MethodName := ⟨RJ2, "charAt", "([BI)C"⟩
abbrev cJ2_checkIndex_2214a : ByteArray := prog_28_method_91_code
def yJ2_checkIndex_2214a : MethodName := ⟨RJ2, "checkIndex", "(I[B)V"⟩
abbrev cJ2_checkBoundsBeginEnd_d044e : ByteArray := prog_28_method_93_code
def yJ2_checkBoundsBeginEnd_d044e : MethodName := ⟨RJ2, "checkBoundsBeginEnd", "(II[B)V"⟩
def RJ10 : String := "java/lang/System"
def TJ10 : u_T := fun k => match k with
  | _ => ("", "", "", false)
def tyJ10 : Nat → FieldType := fun k => match k with
  | _ => .int
abbrev wsJ100 : List Cond := u_ws RJ10 TJ10 0
theorem nmJ10 : ∀ a, a < 0 → ∀ b, b < 0 → a ≠ b → (TJ10 a).2.1 ≠ (TJ10 b).2.1 := by decide +kernel
theorem tyJ10_ok : ∀ k, k < 0 → parseFieldDescriptor (TJ10 k).2.2.1 = some (tyJ10 k) := by decide +kernel
def RJxfd54e : String := "java/lang/constant/Constable"
def TJxfd54e : u_T := fun k => match k with
  | _ => ("", "", "", false)
def tyJxfd54e : Nat → FieldType := fun k => match k with
  | _ => .int
abbrev wsJxfd54e0 : List Cond := u_ws RJxfd54e TJxfd54e 0
theorem nmJxfd54e : ∀ a, a < 0 → ∀ b, b < 0 → a ≠ b → (TJxfd54e a).2.1 ≠ (TJxfd54e b).2.1 := by decide +kernel
theorem tyJxfd54e_ok : ∀ k, k < 0 → parseFieldDescriptor (TJxfd54e k).2.2.1 = some (tyJxfd54e k) := by decide +kernel
def RJx3cf43 : String := "java/lang/constant/ConstantDesc"
def TJx3cf43 : u_T := fun k => match k with
  | _ => ("", "", "", false)
def tyJx3cf43 : Nat → FieldType := fun k => match k with
  | _ => .int
abbrev wsJx3cf430 : List Cond := u_ws RJx3cf43 TJx3cf43 0
theorem nmJx3cf43 : ∀ a, a < 0 → ∀ b, b < 0 → a ≠ b → (TJx3cf43 a).2.1 ≠ (TJx3cf43 b).2.1 := by decide +kernel
theorem tyJx3cf43_ok : ∀ k, k < 0 → parseFieldDescriptor (TJx3cf43 k).2.2.1 = some (tyJx3cf43 k) := by decide +kernel
def RJ7 : String := "java/util/Arrays"
def TJ7 : u_T := fun k => match k with
  | _ => ("", "", "", false)
def tyJ7 : Nat → FieldType := fun k => match k with
  | _ => .int
abbrev wsJ70 : List Cond := u_ws RJ7 TJ7 0
theorem nmJ7 : ∀ a, a < 0 → ∀ b, b < 0 → a ≠ b → (TJ7 a).2.1 ≠ (TJ7 b).2.1 := by decide +kernel
theorem tyJ7_ok : ∀ k, k < 0 → parseFieldDescriptor (TJ7 k).2.2.1 = some (tyJ7 k) := by decide +kernel
abbrev cJ7_fill_d0a16 : ByteArray := prog_33_method_101_code
def yJ7_fill_d0a16 : MethodName := ⟨RJ7, "fill", "([JJ)V"⟩
abbrev cJ7_fill_53178 : ByteArray := prog_33_method_103_code
def yJ7_fill_53178 : MethodName := ⟨RJ7, "fill", "([II)V"⟩
def RJ3 : String := "jdk/internal/util/Preconditions"
def TJ3 : u_T := fun k => match k with
  | _ => ("", "", "", false)
def tyJ3 : Nat → FieldType := fun k => match k with
  | _ => .int
abbrev wsJ30 : List Cond := u_ws RJ3 TJ3 0
theorem nmJ3 : ∀ a, a < 0 → ∀ b, b < 0 → a ≠ b → (TJ3 a).2.1 ≠ (TJ3 b).2.1 := by decide +kernel
theorem tyJ3_ok : ∀ k, k < 0 → parseFieldDescriptor (TJ3 k).2.2.1 = some (tyJ3 k) := by decide +kernel
abbrev cJ3_checkIndex_8e157 : ByteArray := prog_35_method_11_code
def yJ3_checkIndex_8e157 : MethodName := ⟨RJ3, "checkIndex", "(IILjava/util/function/BiFunction;)I"⟩
abbrev cJ3_checkFromToIndex_8c36e : ByteArray := prog_35_method_12_code
def yJ3_checkFromToIndex_8c36e : MethodName := ⟨RJ3, "checkFromToIndex", "(IIILjava/util/function/BiFunction;)I"⟩
def RL : String := "CartPathsLaw"
abbrev cL_read : ByteArray := method_3_code
def yL_read : MethodName := ⟨RL, "read", "(LCartPaths;[J)I"⟩
abbrev cL_cell : ByteArray := method_4_code
def yL_cell : MethodName := ⟨RL, "cell", "(LCartPaths;II[J)I"⟩
abbrev cL_cart : ByteArray := method_5_code
def yL_cart : MethodName := ⟨RL, "cart", "(LCartPaths;II[J)I"⟩
abbrev cL_name : ByteArray := method_6_code
def yL_name : MethodName := ⟨RL, "name", "(LCartPaths;II[J)I"⟩
abbrev cL_tell : ByteArray := method_7_code
def yL_tell : MethodName := ⟨RL, "tell", "(LCartPaths;III[J)I"⟩
abbrev cL_goal : ByteArray := method_8_code
def yL_goal : MethodName := ⟨RL, "goal", "(LCartPaths;III[J)I"⟩
abbrev cL_change : ByteArray := method_9_code
def yL_change : MethodName := ⟨RL, "change", "(LCartPaths;II)I"⟩
abbrev cL_cost : ByteArray := method_10_code
def yL_cost : MethodName := ⟨RL, "cost", "(LCartPaths;I[J)I"⟩
abbrev cL_alone : ByteArray := method_11_code
def yL_alone : MethodName := ⟨RL, "alone", "(LCartPaths;II[J)I"⟩
abbrev cL_clash : ByteArray := method_12_code
def yL_clash : MethodName := ⟨RL, "clash", "(LCartPaths;I[J)I"⟩
abbrev cL_reach : ByteArray := method_13_code
def yL_reach : MethodName := ⟨RL, "reach", "(LCartPaths;I[J)I"⟩
abbrev cL_far : ByteArray := method_14_code
def yL_far : MethodName := ⟨RL, "far", "(LCartPaths;IIII[J)I"⟩
abbrev cL_plan : ByteArray := method_15_code
def yL_plan : MethodName := ⟨RL, "plan", "(LCartPaths;II[J)I"⟩
abbrev cL_node : ByteArray := method_16_code
def yL_node : MethodName := ⟨RL, "node", "(LCartPaths;III[J)I"⟩
abbrev cL_at : ByteArray := method_17_code
def yL_at : MethodName := ⟨RL, "at", "(LCartPaths;III[J)I"⟩
abbrev cL_move : ByteArray := method_18_code
def yL_move : MethodName := ⟨RL, "move", "(LCartPaths;III[J)I"⟩
abbrev cL_used : ByteArray := method_19_code
def yL_used : MethodName := ⟨RL, "used", "(LCartPaths;IIIZ[J)I"⟩
abbrev cL_busiest : ByteArray := method_20_code
def yL_busiest : MethodName := ⟨RL, "busiest", "(LCartPaths;I[J)I"⟩
abbrev cL_waits : ByteArray := method_21_code
def yL_waits : MethodName := ⟨RL, "waits", "(LCartPaths;I[J)I"⟩
abbrev cL_late : ByteArray := method_22_code
def yL_late : MethodName := ⟨RL, "late", "(LCartPaths;IIIII[J)I"⟩
abbrev cL_worse : ByteArray := method_23_code
def yL_worse : MethodName := ⟨RL, "worse", "(LCartPaths;I[J)I"⟩
abbrev cL_who : ByteArray := method_24_code
def yL_who : MethodName := ⟨RL, "who", "(LCartPaths;IIII[J)I"⟩
abbrev cL_near : ByteArray := method_25_code
def yL_near : MethodName := ⟨RL, "near", "(LCartPaths;IIIZ[J)I"⟩
abbrev cL_without : ByteArray := method_26_code
def yL_without : MethodName := ⟨RL, "without", "(LCartPaths;III[J)I"⟩
abbrev cL_follows : ByteArray := method_27_code
def yL_follows : MethodName := ⟨RL, "follows", "(LCartPaths;III[J)I"⟩
abbrev cL_shared : ByteArray := method_28_code
def yL_shared : MethodName := ⟨RL, "shared", "(LCartPaths;II[J)I"⟩
abbrev cL_slack : ByteArray := method_29_code
def yL_slack : MethodName := ⟨RL, "slack", "(LCartPaths;III[J)I"⟩
abbrev cL_critical : ByteArray := method_30_code
def yL_critical : MethodName := ⟨RL, "critical", "(LCartPaths;IIZ[J)I"⟩
abbrev cL_ended : ByteArray := method_31_code
def yL_ended : MethodName := ⟨RL, "ended", "(LCartPaths;II[J)I"⟩
abbrev cL_way : ByteArray := method_32_code
def yL_way : MethodName := ⟨RL, "way", "(LCartPaths;III[J)I"⟩
abbrev cL_again : ByteArray := method_33_code
def yL_again : MethodName := ⟨RL, "again", "(LCartPaths;II[J)I"⟩
abbrev cL_among : ByteArray := method_34_code
def yL_among : MethodName := ⟨RL, "among", "(LCartPaths;I[J)I"⟩
abbrev cL_byTurns : ByteArray := method_35_code
def yL_byTurns : MethodName := ⟨RL, "byTurns", "(LCartPaths;I[J)I"⟩
abbrev cL_turned : ByteArray := method_36_code
def yL_turned : MethodName := ⟨RL, "turned", "(LCartPaths;III[J)I"⟩
abbrev cL_ordered : ByteArray := method_37_code
def yL_ordered : MethodName := ⟨RL, "ordered", "(LCartPaths;II[J)I"⟩
abbrev cL_write : ByteArray := method_38_code
def yL_write : MethodName := ⟨RL, "write", "(LCartPaths;II[J)I"⟩
abbrev cL_law : ByteArray := code
def yL_law : MethodName := ⟨RL, "law", "([I)Z"⟩
abbrev vwCl : List vw_C := [(RX0, TX0, 4), (RX1, TX1, 12), (RX2, TX2, 9), (RX3, TX3, 3), (RX4, TX4, 2), (RX5, TX5, 6), (RX6, TX6, 10), (RX7, TX7, 7), (RX8, TX8, 7), (RX9, TX9, 14), (RX10, TX10, 56)]
/-! the words that hold in every warmed state: by their places in the tables -/
def gw_ok : Cond → Bool
  | .fieldLinkNest .. | .methodLinkNest .. | .arrayOver (.object _) | .declares _ | .castable .. => true
  | w => goodWord w
def GW : List Cond := lw_tbl.filter gw_ok
theorem gw_at {w : Cond} (i : Nat) (h : lw_tbl[i]? = some w) (hg : gw_ok w = true) : w ∈ GW := List.mem_filter.mpr ⟨List.mem_of_getElem? h, hg⟩
def Wd (s0 : State) (w : Cond) : Prop := ∀ (a : Array Value) (U : State), s0.WarmedH U.vm → w.before a U = true
theorem gw_all {s0 : State} {a : Array Value} (h : ∀ w ∈ lw_tbl, w.before a s0 = true) : ∀ w ∈ GW, Wd s0 w := by
  intro w hw a' U hW
  obtain ⟨h1, h2⟩ := List.mem_filter.mp hw
  have h3 := h w h1
  cases w
  case fieldLinkNest a i b n d hh => exact va_Nw.use rfl (va_Nw.warmF hW (va_Nw.of rfl h3))
  case methodLinkNest a i x hh => exact va_Nw.use rfl (va_Nw.warmM hW (va_Nw.of rfl h3))
  case declares x => exact va_Nw.use rfl (va_Nw.warmD hW (va_Nw.of rfl h3))
  case castable a b => exact va_tabs rfl (rfl : (s0.setVm U.vm).vm = U.vm) (by rw [Cond.castable_setVm hW.alike]; exact h3)
  case arrayOver t =>
    cases t
    case object C => exact va_AO.use (va_AO.moved hW.alike (va_AO.of h3))
    all_goals exact word_at hW (good_of_word h2) h3
  all_goals exact word_at hW (good_of_word h2) h3
theorem gw_in {w : Cond} (h : w ∈ lw_tbl) (hg : gw_ok w = true) : w ∈ GW := List.mem_filter.mpr ⟨h, hg⟩
theorem gw_t0 {w : Cond} (h : w ∈ tables_1) (hg : gw_ok w = true) : w ∈ GW := gw_in (List.mem_append_right _ h) hg
theorem gw_t1 {w : Cond} (i : Nat) (h : tables_1_1[i]? = some w) (hg : gw_ok w = true) : w ∈ GW := gw_t0 ((fun h => List.mem_append_left _ (h) : w ∈ tables_1_1 → w ∈ tables_1) (List.mem_of_getElem? h)) hg
theorem gw_t2 {w : Cond} (i : Nat) (h : tables_1_2[i]? = some w) (hg : gw_ok w = true) : w ∈ GW := gw_t0 ((fun h => List.mem_append_right _ (List.mem_append_left _ (h)) : w ∈ tables_1_2 → w ∈ tables_1) (List.mem_of_getElem? h)) hg
theorem gw_t3 {w : Cond} (i : Nat) (h : tables_1_3[i]? = some w) (hg : gw_ok w = true) : w ∈ GW := gw_t0 ((fun h => List.mem_append_right _ (List.mem_append_right _ (List.mem_append_left _ (h))) : w ∈ tables_1_3 → w ∈ tables_1) (List.mem_of_getElem? h)) hg
theorem gw_t4 {w : Cond} (i : Nat) (h : tables_1_4[i]? = some w) (hg : gw_ok w = true) : w ∈ GW := gw_t0 ((fun h => List.mem_append_right _ (List.mem_append_right _ (List.mem_append_right _ (List.mem_append_left _ (h)))) : w ∈ tables_1_4 → w ∈ tables_1) (List.mem_of_getElem? h)) hg
theorem gw_t5 {w : Cond} (i : Nat) (h : tables_1_5[i]? = some w) (hg : gw_ok w = true) : w ∈ GW := gw_t0 ((fun h => List.mem_append_right _ (List.mem_append_right _ (List.mem_append_right _ (List.mem_append_right _ (List.mem_append_left _ (h))))) : w ∈ tables_1_5 → w ∈ tables_1) (List.mem_of_getElem? h)) hg
theorem gw_t6 {w : Cond} (i : Nat) (h : tables_1_6[i]? = some w) (hg : gw_ok w = true) : w ∈ GW := gw_t0 ((fun h => List.mem_append_right _ (List.mem_append_right _ (List.mem_append_right _ (List.mem_append_right _ (List.mem_append_right _ (List.mem_append_left _ (h)))))) : w ∈ tables_1_6 → w ∈ tables_1) (List.mem_of_getElem? h)) hg
theorem gw_t7 {w : Cond} (i : Nat) (h : tables_1_7[i]? = some w) (hg : gw_ok w = true) : w ∈ GW := gw_t0 ((fun h => List.mem_append_right _ (List.mem_append_right _ (List.mem_append_right _ (List.mem_append_right _ (List.mem_append_right _ (List.mem_append_right _ (List.mem_append_left _ (h))))))) : w ∈ tables_1_7 → w ∈ tables_1) (List.mem_of_getElem? h)) hg
theorem gw_t8 {w : Cond} (i : Nat) (h : tables_1_8[i]? = some w) (hg : gw_ok w = true) : w ∈ GW := gw_t0 ((fun h => List.mem_append_right _ (List.mem_append_right _ (List.mem_append_right _ (List.mem_append_right _ (List.mem_append_right _ (List.mem_append_right _ (List.mem_append_right _ (List.mem_append_left _ (h)))))))) : w ∈ tables_1_8 → w ∈ tables_1) (List.mem_of_getElem? h)) hg
theorem gw_t9 {w : Cond} (i : Nat) (h : tables_1_9[i]? = some w) (hg : gw_ok w = true) : w ∈ GW := gw_t0 ((fun h => List.mem_append_right _ (List.mem_append_right _ (List.mem_append_right _ (List.mem_append_right _ (List.mem_append_right _ (List.mem_append_right _ (List.mem_append_right _ (List.mem_append_right _ (h)))))))) : w ∈ tables_1_9 → w ∈ tables_1) (List.mem_of_getElem? h)) hg
theorem gw_0 : (Cond.selects yX5_append.cls yX5_append yX5_append) ∈ GW := gw_at 0 (by decide +kernel) (by decide +kernel)
theorem gw_1 : (Cond.selects yX0_undoLatest.cls yX0_undoLatest yX0_undoLatest) ∈ GW := gw_at 1 (by decide +kernel) (by decide +kernel)
theorem gw_2 : (Cond.selects yX2_swapGoals.cls yX2_swapGoals yX2_swapGoals) ∈ GW := gw_at 2 (by decide +kernel) (by decide +kernel)
theorem gw_3 : (Cond.selects yX9_sceneChanged.cls yX9_sceneChanged yX9_sceneChanged) ∈ GW := gw_at 3 (by decide +kernel) (by decide +kernel)
theorem gw_4 : (Cond.selects yX2_refresh.cls yX2_refresh yX2_refresh) ∈ GW := gw_at 4 (by decide +kernel) (by decide +kernel)
theorem gw_5 : (Cond.selects yX2_lets.cls yX2_lets yX2_lets) ∈ GW := gw_at 5 (by decide +kernel) (by decide +kernel)
theorem gw_6 : (Cond.selects yX2_has.cls yX2_has yX2_has) ∈ GW := gw_at 6 (by decide +kernel) (by decide +kernel)
theorem gw_7 : (Cond.selects yX9_findBestOrder.cls yX9_findBestOrder yX9_findBestOrder) ∈ GW := gw_at 7 (by decide +kernel) (by decide +kernel)
theorem gw_8 : (Cond.selects yX9_waysByTurns.cls yX9_waysByTurns yX9_waysByTurns) ∈ GW := gw_at 8 (by decide +kernel) (by decide +kernel)
theorem gw_9 : (Cond.selects yX7_takeOrder.cls yX7_takeOrder yX7_takeOrder) ∈ GW := gw_at 9 (by decide +kernel) (by decide +kernel)
theorem gw_10 : (Cond.selects yX7_goInOrder.cls yX7_goInOrder yX7_goInOrder) ∈ GW := gw_at 10 (by decide +kernel) (by decide +kernel)
theorem gw_11 : (Cond.selects yX3_clear.cls yX3_clear yX3_clear) ∈ GW := gw_at 11 (by decide +kernel) (by decide +kernel)
theorem gw_12 : (Cond.selects yX3_find.cls yX3_find yX3_find) ∈ GW := gw_at 12 (by decide +kernel) (by decide +kernel)
theorem gw_13 : (Cond.selects yX3_leastCost.cls yX3_leastCost yX3_leastCost) ∈ GW := gw_at 13 (by decide +kernel) (by decide +kernel)
theorem gw_14 : (Cond.selects yX3_freeFrom.cls yX3_freeFrom yX3_freeFrom) ∈ GW := gw_at 14 (by decide +kernel) (by decide +kernel)
theorem gw_15 : (Cond.selects yX3_lookBack.cls yX3_lookBack yX3_lookBack) ∈ GW := gw_at 15 (by decide +kernel) (by decide +kernel)
theorem gw_16 : (Cond.selects yX3_leastStep.cls yX3_leastStep yX3_leastStep) ∈ GW := gw_at 16 (by decide +kernel) (by decide +kernel)
theorem gw_17 : (Cond.selects yX7_forbidWay.cls yX7_forbidWay yX7_forbidWay) ∈ GW := gw_at 17 (by decide +kernel) (by decide +kernel)
theorem gw_18 : (Cond.selects yX8_cellOf.cls yX8_cellOf yX8_cellOf) ∈ GW := gw_at 18 (by decide +kernel) (by decide +kernel)
theorem gw_19 : (Cond.selects yX3_forbidCell.cls yX3_forbidCell yX3_forbidCell) ∈ GW := gw_at 19 (by decide +kernel) (by decide +kernel)
theorem gw_20 : (Cond.selects yX8_comes.cls yX8_comes yX8_comes) ∈ GW := gw_at 20 (by decide +kernel) (by decide +kernel)
theorem gw_21 : (Cond.selects yX3_forbidMove.cls yX3_forbidMove yX3_forbidMove) ∈ GW := gw_at 21 (by decide +kernel) (by decide +kernel)
theorem gw_22 : (Cond.selects yX8_sumCosts.cls yX8_sumCosts yX8_sumCosts) ∈ GW := gw_at 22 (by decide +kernel) (by decide +kernel)
theorem gw_23 : (Cond.selects yX8_allGo.cls yX8_allGo yX8_allGo) ∈ GW := gw_at 23 (by decide +kernel) (by decide +kernel)
theorem gw_24 : (Cond.selects yX2_countFree.cls yX2_countFree yX2_countFree) ∈ GW := gw_at 24 (by decide +kernel) (by decide +kernel)
theorem gw_25 : (Cond.selects yX9_waysAlone.cls yX9_waysAlone yX9_waysAlone) ∈ GW := gw_at 25 (by decide +kernel) (by decide +kernel)
theorem gw_26 : (Cond.selects yX8_goAlone.cls yX8_goAlone yX8_goAlone) ∈ GW := gw_at 26 (by decide +kernel) (by decide +kernel)
theorem gw_27 : (Cond.selects yX5_parse.cls yX5_parse yX5_parse) ∈ GW := gw_at 27 (by decide +kernel) (by decide +kernel)
theorem gw_28 : (Cond.selects yX2_empty.cls yX2_empty yX2_empty) ∈ GW := gw_at 28 (by decide +kernel) (by decide +kernel)
theorem gw_29 : (Cond.selects yX5_takeLine.cls yX5_takeLine yX5_takeLine) ∈ GW := gw_at 29 (by decide +kernel) (by decide +kernel)
theorem gw_30 : (Cond.selects yX5_skipBlanks.cls yX5_skipBlanks yX5_skipBlanks) ∈ GW := gw_at 30 (by decide +kernel) (by decide +kernel)
theorem gw_31 : (Cond.selects yX5_takeWord.cls yX5_takeWord yX5_takeWord) ∈ GW := gw_at 31 (by decide +kernel) (by decide +kernel)
theorem gw_32 : (Cond.selects yX5_wordIs.cls yX5_wordIs yX5_wordIs) ∈ GW := gw_at 32 (by decide +kernel) (by decide +kernel)
theorem gw_33 : (Cond.selects yX5_takeRow.cls yX5_takeRow yX5_takeRow) ∈ GW := gw_at 33 (by decide +kernel) (by decide +kernel)
theorem gw_34 : (Cond.selects yX5_failAt.cls yX5_failAt yX5_failAt) ∈ GW := gw_at 34 (by decide +kernel) (by decide +kernel)
theorem gw_35 : (Cond.selects yX5_takeSemicolon.cls yX5_takeSemicolon yX5_takeSemicolon) ∈ GW := gw_at 35 (by decide +kernel) (by decide +kernel)
theorem gw_36 : (Cond.selects yX5_takeCart.cls yX5_takeCart yX5_takeCart) ∈ GW := gw_at 36 (by decide +kernel) (by decide +kernel)
theorem gw_37 : (Cond.selects yX5_takeName.cls yX5_takeName yX5_takeName) ∈ GW := gw_at 37 (by decide +kernel) (by decide +kernel)
theorem gw_38 : (Cond.selects yX5_isToldName.cls yX5_isToldName yX5_isToldName) ∈ GW := gw_at 38 (by decide +kernel) (by decide +kernel)
theorem gw_39 : (Cond.selects yX5_takeGiven.cls yX5_takeGiven yX5_takeGiven) ∈ GW := gw_at 39 (by decide +kernel) (by decide +kernel)
theorem gw_40 : (Cond.selects yX5_takeCell.cls yX5_takeCell yX5_takeCell) ∈ GW := gw_at 40 (by decide +kernel) (by decide +kernel)
theorem gw_41 : (Cond.selects yX5_takeNumber.cls yX5_takeNumber yX5_takeNumber) ∈ GW := gw_at 41 (by decide +kernel) (by decide +kernel)
theorem gw_43 : (Cond.selects yX2_copyFrom.cls yX2_copyFrom yX2_copyFrom) ∈ GW := gw_at 43 (by decide +kernel) (by decide +kernel)
theorem gw_44 : (Cond.selects yX0_clear.cls yX0_clear yX0_clear) ∈ GW := gw_at 44 (by decide +kernel) (by decide +kernel)
theorem gw_45 : (Cond.selects yX9_needCell.cls yX9_needCell yX9_needCell) ∈ GW := gw_at 45 (by decide +kernel) (by decide +kernel)
theorem gw_46 : (Cond.selects yX9_needCart.cls yX9_needCart yX9_needCart) ∈ GW := gw_at 46 (by decide +kernel) (by decide +kernel)
theorem gw_47 : (Cond.selects yX2_isTaken.cls yX2_isTaken yX2_isTaken) ∈ GW := gw_at 47 (by decide +kernel) (by decide +kernel)
theorem gw_48 : (Cond.selects yX0_keep.cls yX0_keep yX0_keep) ∈ GW := gw_at 48 (by decide +kernel) (by decide +kernel)
theorem gw_49 : (Cond.selects yX8_findFirstClash.cls yX8_findFirstClash yX8_findFirstClash) ∈ GW := gw_at 49 (by decide +kernel) (by decide +kernel)
theorem gw_50 : (Cond.selects yX8_keepClash.cls yX8_keepClash yX8_keepClash) ∈ GW := gw_at 50 (by decide +kernel) (by decide +kernel)
theorem gw_51 : (Cond.selects yX8_lastEnd.cls yX8_lastEnd yX8_lastEnd) ∈ GW := gw_at 51 (by decide +kernel) (by decide +kernel)
theorem gw_52 : (Cond.selects yX8_findClashAt.cls yX8_findClashAt yX8_findClashAt) ∈ GW := gw_at 52 (by decide +kernel) (by decide +kernel)
theorem gw_53 : (Cond.selects yX8_sortOfClash.cls yX8_sortOfClash yX8_sortOfClash) ∈ GW := gw_at 53 (by decide +kernel) (by decide +kernel)
theorem gw_54 : (Cond.selects yX8_countClashes.cls yX8_countClashes yX8_countClashes) ∈ GW := gw_at 54 (by decide +kernel) (by decide +kernel)
theorem gw_55 : (Cond.selects yX2_reachedFrom.cls yX2_reachedFrom yX2_reachedFrom) ∈ GW := gw_at 55 (by decide +kernel) (by decide +kernel)
theorem gw_56 : (Cond.selects yX9_treeOf.cls yX9_treeOf yX9_treeOf) ∈ GW := gw_at 56 (by decide +kernel) (by decide +kernel)
theorem gw_57 : (Cond.selects yX6_build.cls yX6_build yX6_build) ∈ GW := gw_at 57 (by decide +kernel) (by decide +kernel)
theorem gw_58 : (Cond.selects yX6_addRoot.cls yX6_addRoot yX6_addRoot) ∈ GW := gw_at 58 (by decide +kernel) (by decide +kernel)
theorem gw_59 : (Cond.selects yX6_nextNode.cls yX6_nextNode yX6_nextNode) ∈ GW := gw_at 59 (by decide +kernel) (by decide +kernel)
theorem gw_60 : (Cond.selects yX6_choose.cls yX6_choose yX6_choose) ∈ GW := gw_at 60 (by decide +kernel) (by decide +kernel)
theorem gw_61 : (Cond.selects yX6_leastWaiting.cls yX6_leastWaiting yX6_leastWaiting) ∈ GW := gw_at 61 (by decide +kernel) (by decide +kernel)
theorem gw_62 : (Cond.selects yX6_goOn.cls yX6_goOn yX6_goOn) ∈ GW := gw_at 62 (by decide +kernel) (by decide +kernel)
theorem gw_63 : (Cond.selects yX6_load.cls yX6_load yX6_load) ∈ GW := gw_at 63 (by decide +kernel) (by decide +kernel)
theorem gw_64 : (Cond.selects yX8_put.cls yX8_put yX8_put) ∈ GW := gw_at 64 (by decide +kernel) (by decide +kernel)
theorem gw_65 : (Cond.selects yX6_grow.cls yX6_grow yX6_grow) ∈ GW := gw_at 65 (by decide +kernel) (by decide +kernel)
theorem gw_66 : (Cond.selects yX6_clashesWith.cls yX6_clashesWith yX6_clashesWith) ∈ GW := gw_at 66 (by decide +kernel) (by decide +kernel)
theorem gw_67 : (Cond.selects yX9_planned.cls yX9_planned yX9_planned) ∈ GW := gw_at 67 (by decide +kernel) (by decide +kernel)
theorem gw_68 : (Cond.selects yX8_moveOf.cls yX8_moveOf yX8_moveOf) ∈ GW := gw_at 68 (by decide +kernel) (by decide +kernel)
theorem gw_69 : (Cond.selects yX8_countLeaving.cls yX8_countLeaving yX8_countLeaving) ∈ GW := gw_at 69 (by decide +kernel) (by decide +kernel)
theorem gw_70 : (Cond.selects yX8_countVisitors.cls yX8_countVisitors yX8_countVisitors) ∈ GW := gw_at 70 (by decide +kernel) (by decide +kernel)
theorem gw_71 : (Cond.selects yX8_firstTimeIn.cls yX8_firstTimeIn yX8_firstTimeIn) ∈ GW := gw_at 71 (by decide +kernel) (by decide +kernel)
theorem gw_72 : (Cond.selects yX8_countSteps.cls yX8_countSteps yX8_countSteps) ∈ GW := gw_at 72 (by decide +kernel) (by decide +kernel)
theorem gw_73 : (Cond.selects yX4_run.cls yX4_run yX4_run) ∈ GW := gw_at 73 (by decide +kernel) (by decide +kernel)
theorem gw_74 : (Cond.selects yX4_waitForOthers.cls yX4_waitForOthers yX4_waitForOthers) ∈ GW := gw_at 74 (by decide +kernel) (by decide +kernel)
theorem gw_75 : (Cond.selects yX8_cartIn.cls yX8_cartIn yX8_cartIn) ∈ GW := gw_at 75 (by decide +kernel) (by decide +kernel)
theorem gw_76 : (Cond.selects yX4_leaveCells.cls yX4_leaveCells yX4_leaveCells) ∈ GW := gw_at 76 (by decide +kernel) (by decide +kernel)
theorem gw_77 : (Cond.selects yX4_delay.cls yX4_delay yX4_delay) ∈ GW := gw_at 77 (by decide +kernel) (by decide +kernel)
theorem gw_78 : (Cond.selects yX8_apart.cls yX8_apart yX8_apart) ∈ GW := gw_at 78 (by decide +kernel) (by decide +kernel)
theorem gw_79 : (Cond.selects yX9_supposedSum.cls yX9_supposedSum yX9_supposedSum) ∈ GW := gw_at 79 (by decide +kernel) (by decide +kernel)
theorem gw_80 : (Cond.selects yX4_sumDelays.cls yX4_sumDelays yX4_sumDelays) ∈ GW := gw_at 80 (by decide +kernel) (by decide +kernel)
theorem gw_81 : (Cond.selects yX8_visitedBy.cls yX8_visitedBy yX8_visitedBy) ∈ GW := gw_at 81 (by decide +kernel) (by decide +kernel)
theorem gw_82 : (Cond.selects yX3_forbidAlways.cls yX3_forbidAlways yX3_forbidAlways) ∈ GW := gw_at 82 (by decide +kernel) (by decide +kernel)
theorem gw_83 : (Cond.selects yX9_needOrder.cls yX9_needOrder yX9_needOrder) ∈ GW := gw_at 83 (by decide +kernel) (by decide +kernel)
theorem gw_84 : (Cond.selects yX9_putWritten.cls yX9_putWritten yX9_putWritten) ∈ GW := gw_at 84 (by decide +kernel) (by decide +kernel)
theorem gw_85 : (Cond.selects yX10_here.cls yX10_here yX10_here) ∈ GW := gw_at 85 (by decide +kernel) (by decide +kernel)
theorem gw_86 : (Cond.selects yX10_is.cls yX10_is yX10_is) ∈ GW := gw_at 86 (by decide +kernel) (by decide +kernel)
theorem gw_87 : (Cond.selects yX10_wordSize.cls yX10_wordSize yX10_wordSize) ∈ GW := gw_at 87 (by decide +kernel) (by decide +kernel)
theorem gw_88 : (Cond.selects yX10_rowLine.cls yX10_rowLine yX10_rowLine) ∈ GW := gw_at 88 (by decide +kernel) (by decide +kernel)
theorem gw_89 : (Cond.selects yX10_wrong.cls yX10_wrong yX10_wrong) ∈ GW := gw_at 89 (by decide +kernel) (by decide +kernel)
theorem gw_90 : (Cond.selects yX10_cartLine.cls yX10_cartLine yX10_cartLine) ∈ GW := gw_at 90 (by decide +kernel) (by decide +kernel)
theorem gw_91 : (Cond.selects yX10_isName.cls yX10_isName yX10_isName) ∈ GW := gw_at 91 (by decide +kernel) (by decide +kernel)
theorem gw_92 : (Cond.selects yX10_named.cls yX10_named yX10_named) ∈ GW := gw_at 92 (by decide +kernel) (by decide +kernel)
theorem gw_93 : (Cond.selects yX10_takes.cls yX10_takes yX10_takes) ∈ GW := gw_at 93 (by decide +kernel) (by decide +kernel)
theorem gw_94 : (Cond.selects yX10_spot.cls yX10_spot yX10_spot) ∈ GW := gw_at 94 (by decide +kernel) (by decide +kernel)
theorem gw_95 : (Cond.selects yX10_digit.cls yX10_digit yX10_digit) ∈ GW := gw_at 95 (by decide +kernel) (by decide +kernel)
theorem gw_96 : (Cond.selects yX10_isDigit.cls yX10_isDigit yX10_isDigit) ∈ GW := gw_at 96 (by decide +kernel) (by decide +kernel)
theorem gw_97 : (Cond.selects yX10_must.cls yX10_must yX10_must) ∈ GW := gw_at 97 (by decide +kernel) (by decide +kernel)
theorem gw_98 : (Cond.selects yX10_changes.cls yX10_changes yX10_changes) ∈ GW := gw_at 98 (by decide +kernel) (by decide +kernel)
theorem gw_99 : (Cond.selects yX10_isCell.cls yX10_isCell yX10_isCell) ∈ GW := gw_at 99 (by decide +kernel) (by decide +kernel)
theorem gw_100 : (Cond.selects yX10_isCart.cls yX10_isCart yX10_isCart) ∈ GW := gw_at 100 (by decide +kernel) (by decide +kernel)
theorem gw_101 : (Cond.selects yX10_isPlaceOrGoal.cls yX10_isPlaceOrGoal yX10_isPlaceOrGoal) ∈ GW := gw_at 101 (by decide +kernel) (by decide +kernel)
theorem gw_102 : (Cond.selects yX10_remembers.cls yX10_remembers yX10_remembers) ∈ GW := gw_at 102 (by decide +kernel) (by decide +kernel)
theorem gw_103 : (Cond.selects yX10_frees.cls yX10_frees yX10_frees) ∈ GW := gw_at 103 (by decide +kernel) (by decide +kernel)
theorem gw_104 : (Cond.selects yX10_laysWay.cls yX10_laysWay yX10_laysWay) ∈ GW := gw_at 104 (by decide +kernel) (by decide +kernel)
theorem gw_105 : (Cond.selects yX10_mayGo.cls yX10_mayGo yX10_mayGo) ∈ GW := gw_at 105 (by decide +kernel) (by decide +kernel)
theorem gw_106 : (Cond.selects yX10_next.cls yX10_next yX10_next) ∈ GW := gw_at 106 (by decide +kernel) (by decide +kernel)
theorem gw_107 : (Cond.selects yX10_laysAlone.cls yX10_laysAlone yX10_laysAlone) ∈ GW := gw_at 107 (by decide +kernel) (by decide +kernel)
theorem gw_108 : (Cond.selects yX10_keepsWay.cls yX10_keepsWay yX10_keepsWay) ∈ GW := gw_at 108 (by decide +kernel) (by decide +kernel)
theorem gw_109 : (Cond.selects yX10_laysClashes.cls yX10_laysClashes yX10_laysClashes) ∈ GW := gw_at 109 (by decide +kernel) (by decide +kernel)
theorem gw_110 : (Cond.selects yX10_isClash.cls yX10_isClash yX10_isClash) ∈ GW := gw_at 110 (by decide +kernel) (by decide +kernel)
theorem gw_111 : (Cond.selects yX10_wayAt.cls yX10_wayAt yX10_wayAt) ∈ GW := gw_at 111 (by decide +kernel) (by decide +kernel)
theorem gw_112 : (Cond.selects yX10_laysFar.cls yX10_laysFar yX10_laysFar) ∈ GW := gw_at 112 (by decide +kernel) (by decide +kernel)
theorem gw_113 : (Cond.selects yX10_lays.cls yX10_lays yX10_lays) ∈ GW := gw_at 113 (by decide +kernel) (by decide +kernel)
theorem gw_114 : (Cond.selects yX10_sumAt.cls yX10_sumAt yX10_sumAt) ∈ GW := gw_at 114 (by decide +kernel) (by decide +kernel)
theorem gw_115 : (Cond.selects yX10_costAt.cls yX10_costAt yX10_costAt) ∈ GW := gw_at 115 (by decide +kernel) (by decide +kernel)
theorem gw_116 : (Cond.selects yX10_chosen.cls yX10_chosen yX10_chosen) ∈ GW := gw_at 116 (by decide +kernel) (by decide +kernel)
theorem gw_117 : (Cond.selects yX10_branches.cls yX10_branches yX10_branches) ∈ GW := gw_at 117 (by decide +kernel) (by decide +kernel)
theorem gw_118 : (Cond.selects yX10_forbids.cls yX10_forbids yX10_forbids) ∈ GW := gw_at 118 (by decide +kernel) (by decide +kernel)
theorem gw_119 : (Cond.selects yX10_moveOf.cls yX10_moveOf yX10_moveOf) ∈ GW := gw_at 119 (by decide +kernel) (by decide +kernel)
theorem gw_120 : (Cond.selects yX10_wrongPlan.cls yX10_wrongPlan yX10_wrongPlan) ∈ GW := gw_at 120 (by decide +kernel) (by decide +kernel)
theorem gw_121 : (Cond.selects yX10_usedBy.cls yX10_usedBy yX10_usedBy) ∈ GW := gw_at 121 (by decide +kernel) (by decide +kernel)
theorem gw_122 : (Cond.selects yX10_laysStop.cls yX10_laysStop yX10_laysStop) ∈ GW := gw_at 122 (by decide +kernel) (by decide +kernel)
theorem gw_123 : (Cond.selects yX10_laysVisits.cls yX10_laysVisits yX10_laysVisits) ∈ GW := gw_at 123 (by decide +kernel) (by decide +kernel)
theorem gw_124 : (Cond.selects yX10_notSooner.cls yX10_notSooner yX10_notSooner) ∈ GW := gw_at 124 (by decide +kernel) (by decide +kernel)
theorem gw_125 : (Cond.selects yX10_waitsFor.cls yX10_waitsFor yX10_waitsFor) ∈ GW := gw_at 125 (by decide +kernel) (by decide +kernel)
theorem gw_126 : (Cond.selects yX10_lateBy.cls yX10_lateBy yX10_lateBy) ∈ GW := gw_at 126 (by decide +kernel) (by decide +kernel)
theorem gw_127 : (Cond.selects yX10_isOrder.cls yX10_isOrder yX10_isOrder) ∈ GW := gw_at 127 (by decide +kernel) (by decide +kernel)
theorem gw_128 : (Cond.selects yX10_orders.cls yX10_orders yX10_orders) ∈ GW := gw_at 128 (by decide +kernel) (by decide +kernel)
theorem gw_129 : (Cond.selects yX10_laysTurns.cls yX10_laysTurns yX10_laysTurns) ∈ GW := gw_at 129 (by decide +kernel) (by decide +kernel)
theorem gw_130 : (Cond.selects yX10_laysOrder.cls yX10_laysOrder yX10_laysOrder) ∈ GW := gw_at 130 (by decide +kernel) (by decide +kernel)
theorem gw_131 : (Cond.selects yX10_forbidsAll.cls yX10_forbidsAll yX10_forbidsAll) ∈ GW := gw_at 131 (by decide +kernel) (by decide +kernel)
theorem gw_132 : (Cond.initialized "CartPathsLaw") ∈ GW := gw_t1 0 rfl rfl
theorem gw_133 : (Cond.initialized "CartPaths") ∈ GW := gw_t1 1 rfl rfl
theorem gw_134 : (Cond.initialized "CartPaths$TextReader") ∈ GW := gw_t1 2 rfl rfl
theorem gw_135 : (Cond.initialized "CartPaths$Scene") ∈ GW := gw_t1 3 rfl rfl
theorem gw_136 : (Cond.initialized "CartPaths$Acts") ∈ GW := gw_t1 4 rfl rfl
theorem gw_137 : (Cond.initialized "CartPaths$Search") ∈ GW := gw_t1 5 rfl rfl
theorem gw_138 : (Cond.initialized "CartPaths$Ways") ∈ GW := gw_t1 6 rfl rfl
theorem gw_139 : (Cond.initialized "CartPaths$Tree") ∈ GW := gw_t1 7 rfl rfl
theorem gw_140 : (Cond.initialized "CartPaths$Turns") ∈ GW := gw_t1 8 rfl rfl
theorem gw_141 : (Cond.initialized "CartPaths$Stop") ∈ GW := gw_t1 9 rfl rfl
theorem gw_142 : (Cond.initialized "CartPathsModel") ∈ GW := gw_t1 10 rfl rfl
theorem gw_153 : (Cond.initialized "java/lang/IllegalArgumentException") ∈ GW := gw_t1 21 rfl rfl
theorem gw_155 : (Cond.initialized "java/lang/IndexOutOfBoundsException") ∈ GW := gw_t1 23 rfl rfl
theorem gw_156 : (Cond.initialized "java/util/NoSuchElementException") ∈ GW := gw_t1 24 rfl rfl
theorem gw_157 : (Cond.initialized "java/lang/IllegalStateException") ∈ GW := gw_t1 25 rfl rfl
theorem gw_160 : (Cond.initialized "CartPaths$Node") ∈ GW := gw_t1 28 rfl rfl
theorem gw_162 : (Cond.classLink "CartPathsLaw" (8 : Nat) "CartPaths") ∈ GW := gw_t1 30 rfl rfl
theorem gw_163 : (Cond.instantiable "CartPaths" (14 : Nat)) ∈ GW := gw_t1 31 rfl rfl
theorem gw_164 : (Cond.methodLink "CartPathsLaw" (134 : Nat) ({ cls := "CartPaths", name := "<init>", desc := "()V" } : MethodName)) ∈ GW := gw_t1 32 rfl rfl
theorem gw_165 : (Cond.instanceMethod ({ cls := "CartPaths", name := "<init>", desc := "()V" } : MethodName)) ∈ GW := gw_t1 33 rfl rfl
theorem gw_166 : (Cond.code ({ cls := "CartPaths", name := "<init>", desc := "()V" } : MethodName) prog_1_method_1_code (1 : Nat) (Option.none : Option FieldType)) ∈ GW := gw_t1 34 rfl rfl
theorem gw_167 : (Cond.methodLink "CartPaths" (1 : Nat) ({ cls := "java/lang/Object", name := "<init>", desc := "()V" } : MethodName)) ∈ GW := gw_t1 35 rfl rfl
theorem gw_168 : (Cond.instanceMethod ({ cls := "java/lang/Object", name := "<init>", desc := "()V" } : MethodName)) ∈ GW := gw_t1 36 rfl rfl
theorem gw_169 : (Cond.code ({ cls := "java/lang/Object", name := "<init>", desc := "()V" } : MethodName) object_method_1_code (1 : Nat) (Option.none : Option FieldType)) ∈ GW := gw_t1 37 rfl rfl
theorem gw_170 : (Cond.classLink "CartPaths" (7 : Nat) "CartPaths$TextReader") ∈ GW := gw_t1 38 rfl rfl
theorem gw_171 : (Cond.instantiable "CartPaths$TextReader" (6 : Nat)) ∈ GW := gw_t1 39 rfl rfl
theorem gw_172 : (Cond.methodLinkNest "CartPaths" (9 : Nat) ({ cls := "CartPaths$TextReader", name := "<init>", desc := "()V" } : MethodName) "CartPaths") ∈ GW := gw_t1 40 rfl rfl
theorem gw_173 : (Cond.instanceMethod ({ cls := "CartPaths$TextReader", name := "<init>", desc := "()V" } : MethodName)) ∈ GW := gw_t1 41 rfl rfl
theorem gw_174 : (Cond.code ({ cls := "CartPaths$TextReader", name := "<init>", desc := "()V" } : MethodName) prog_7_method_1_code (1 : Nat) (Option.none : Option FieldType)) ∈ GW := gw_t1 42 rfl rfl
theorem gw_175 : (Cond.methodLink "CartPaths$TextReader" (3 : Nat) ({ cls := "java/lang/Object", name := "<init>", desc := "()V" } : MethodName)) ∈ GW := gw_t1 43 rfl rfl
theorem gw_176 : (Cond.classLink "CartPaths$TextReader" (28 : Nat) "CartPaths$Scene") ∈ GW := gw_t1 44 rfl rfl
theorem gw_177 : (Cond.instantiable "CartPaths$Scene" (9 : Nat)) ∈ GW := gw_t1 45 rfl rfl
theorem gw_178 : (Cond.methodLinkNest "CartPaths$TextReader" (30 : Nat) ({ cls := "CartPaths$Scene", name := "<init>", desc := "()V" } : MethodName) "CartPaths") ∈ GW := gw_t1 46 rfl rfl
theorem gw_179 : (Cond.instanceMethod ({ cls := "CartPaths$Scene", name := "<init>", desc := "()V" } : MethodName)) ∈ GW := gw_t1 47 rfl rfl
theorem gw_180 : (Cond.code ({ cls := "CartPaths$Scene", name := "<init>", desc := "()V" } : MethodName) prog_4_method_1_code (1 : Nat) (Option.none : Option FieldType)) ∈ GW := gw_t1 48 rfl rfl
theorem gw_181 : (Cond.methodLink "CartPaths$Scene" (3 : Nat) ({ cls := "java/lang/Object", name := "<init>", desc := "()V" } : MethodName)) ∈ GW := gw_t1 49 rfl rfl
theorem gw_182 : (Cond.fieldLink "CartPaths$Scene" (9 : Nat) "CartPaths$Scene" "columns" "I") ∈ GW := gw_t1 50 rfl rfl
theorem gw_183 : (Cond.fieldLinkNest "CartPaths$TextReader" (90 : Nat) "CartPaths$Scene" "columns" "I" "CartPaths") ∈ GW := gw_t1 51 rfl rfl
theorem gw_184 : (Cond.fieldLinkNest "CartPaths" (395 : Nat) "CartPaths$Scene" "columns" "I" "CartPaths") ∈ GW := gw_t1 52 rfl rfl
theorem gw_185 : (Cond.fieldLink "CartPaths$Scene" (15 : Nat) "CartPaths$Scene" "rows" "I") ∈ GW := gw_t1 53 rfl rfl
theorem gw_186 : (Cond.fieldLinkNest "CartPaths$TextReader" (42 : Nat) "CartPaths$Scene" "rows" "I" "CartPaths") ∈ GW := gw_t1 54 rfl rfl
theorem gw_187 : (Cond.fieldLinkNest "CartPaths" (392 : Nat) "CartPaths$Scene" "rows" "I" "CartPaths") ∈ GW := gw_t1 55 rfl rfl
theorem gw_188 : (Cond.fieldLink "CartPaths$Scene" (18 : Nat) "CartPaths$Scene" "sorts" "[I") ∈ GW := gw_t1 56 rfl rfl
theorem gw_189 : (Cond.fieldLinkNest "CartPaths$Acts" (31 : Nat) "CartPaths$Scene" "sorts" "[I" "CartPaths") ∈ GW := gw_t1 57 rfl rfl
theorem gw_190 : (Cond.fieldLinkNest "CartPaths$TextReader" (93 : Nat) "CartPaths$Scene" "sorts" "[I" "CartPaths") ∈ GW := gw_t1 58 rfl rfl
theorem gw_191 : (Cond.fieldLinkNest "CartPaths" (126 : Nat) "CartPaths$Scene" "sorts" "[I" "CartPaths") ∈ GW := gw_t1 59 rfl rfl
theorem gw_192 : (Cond.fieldLink "CartPaths$Scene" (22 : Nat) "CartPaths$Scene" "carts" "I") ∈ GW := gw_t1 60 rfl rfl
theorem gw_193 : (Cond.fieldLinkNest "CartPaths$Ways" (34 : Nat) "CartPaths$Scene" "carts" "I" "CartPaths") ∈ GW := gw_t1 61 rfl rfl
theorem gw_194 : (Cond.fieldLinkNest "CartPaths$Turns" (45 : Nat) "CartPaths$Scene" "carts" "I" "CartPaths") ∈ GW := gw_t1 62 rfl rfl
theorem gw_195 : (Cond.fieldLinkNest "CartPaths" (113 : Nat) "CartPaths$Scene" "carts" "I" "CartPaths") ∈ GW := gw_t1 63 rfl rfl
theorem gw_196 : (Cond.fieldLinkNest "CartPaths$TextReader" (57 : Nat) "CartPaths$Scene" "carts" "I" "CartPaths") ∈ GW := gw_t1 64 rfl rfl
theorem gw_197 : (Cond.fieldLink "CartPaths$Scene" (25 : Nat) "CartPaths$Scene" "places" "[I") ∈ GW := gw_t1 65 rfl rfl
theorem gw_198 : (Cond.fieldLinkNest "CartPaths$Search" (40 : Nat) "CartPaths$Scene" "places" "[I" "CartPaths") ∈ GW := gw_t1 66 rfl rfl
theorem gw_199 : (Cond.fieldLinkNest "CartPaths$TextReader" (104 : Nat) "CartPaths$Scene" "places" "[I" "CartPaths") ∈ GW := gw_t1 67 rfl rfl
theorem gw_200 : (Cond.fieldLinkNest "CartPaths" (136 : Nat) "CartPaths$Scene" "places" "[I" "CartPaths") ∈ GW := gw_t1 68 rfl rfl
theorem gw_201 : (Cond.fieldLink "CartPaths$Scene" (28 : Nat) "CartPaths$Scene" "goals" "[I") ∈ GW := gw_t1 69 rfl rfl
theorem gw_202 : (Cond.fieldLinkNest "CartPaths$Acts" (36 : Nat) "CartPaths$Scene" "goals" "[I" "CartPaths") ∈ GW := gw_t1 70 rfl rfl
theorem gw_203 : (Cond.fieldLinkNest "CartPaths$Search" (35 : Nat) "CartPaths$Scene" "goals" "[I" "CartPaths") ∈ GW := gw_t1 71 rfl rfl
theorem gw_204 : (Cond.fieldLinkNest "CartPaths$TextReader" (113 : Nat) "CartPaths$Scene" "goals" "[I" "CartPaths") ∈ GW := gw_t1 72 rfl rfl
theorem gw_205 : (Cond.fieldLinkNest "CartPaths" (139 : Nat) "CartPaths$Scene" "goals" "[I" "CartPaths") ∈ GW := gw_t1 73 rfl rfl
theorem gw_206 : (Cond.fieldLink "CartPaths$Scene" (31 : Nat) "CartPaths$Scene" "letters" "[I") ∈ GW := gw_t1 74 rfl rfl
theorem gw_207 : (Cond.fieldLinkNest "CartPaths$TextReader" (119 : Nat) "CartPaths$Scene" "letters" "[I" "CartPaths") ∈ GW := gw_t1 75 rfl rfl
theorem gw_208 : (Cond.fieldLinkNest "CartPaths" (148 : Nat) "CartPaths$Scene" "letters" "[I" "CartPaths") ∈ GW := gw_t1 76 rfl rfl
theorem gw_209 : (Cond.fieldLink "CartPaths$Scene" (34 : Nat) "CartPaths$Scene" "nameLengths" "[I") ∈ GW := gw_t1 77 rfl rfl
theorem gw_210 : (Cond.fieldLinkNest "CartPaths$TextReader" (122 : Nat) "CartPaths$Scene" "nameLengths" "[I" "CartPaths") ∈ GW := gw_t1 78 rfl rfl
theorem gw_211 : (Cond.fieldLinkNest "CartPaths" (145 : Nat) "CartPaths$Scene" "nameLengths" "[I" "CartPaths") ∈ GW := gw_t1 79 rfl rfl
theorem gw_212 : (Cond.fieldLink "CartPaths$Scene" (37 : Nat) "CartPaths$Scene" "leaving" "[J") ∈ GW := gw_t1 80 rfl rfl
theorem gw_213 : (Cond.fieldLinkNest "CartPaths$Search" (54 : Nat) "CartPaths$Scene" "leaving" "[J" "CartPaths") ∈ GW := gw_t1 81 rfl rfl
theorem gw_214 : (Cond.lays "CartPaths$Scene" "CartPaths$Scene" "columns" "I") ∈ GW := gw_t1 82 rfl rfl
theorem gw_216 : (Cond.lays "CartPaths$Scene" "CartPaths$Scene" "rows" "I") ∈ GW := gw_t1 84 rfl rfl
theorem gw_218 : (Cond.laysFinal "CartPaths$Scene" "CartPaths$Scene" "sorts" "[I") ∈ GW := gw_t1 86 rfl rfl
theorem gw_220 : (Cond.lays "CartPaths$Scene" "CartPaths$Scene" "carts" "I") ∈ GW := gw_t1 88 rfl rfl
theorem gw_222 : (Cond.laysFinal "CartPaths$Scene" "CartPaths$Scene" "places" "[I") ∈ GW := gw_t1 90 rfl rfl
theorem gw_224 : (Cond.laysFinal "CartPaths$Scene" "CartPaths$Scene" "goals" "[I") ∈ GW := gw_t1 92 rfl rfl
theorem gw_226 : (Cond.laysFinal "CartPaths$Scene" "CartPaths$Scene" "letters" "[I") ∈ GW := gw_t1 94 rfl rfl
theorem gw_228 : (Cond.laysFinal "CartPaths$Scene" "CartPaths$Scene" "nameLengths" "[I") ∈ GW := gw_t1 96 rfl rfl
theorem gw_230 : (Cond.laysFinal "CartPaths$Scene" "CartPaths$Scene" "leaving" "[J") ∈ GW := gw_t1 98 rfl rfl
theorem gw_233 : (Cond.arrayClass FieldType.int) ∈ GW := gw_t1 101 rfl rfl
theorem gw_234 : (Cond.arrayClass FieldType.long) ∈ GW := gw_t1 102 rfl rfl
theorem gw_235 : (Cond.fieldLink "CartPaths$TextReader" (9 : Nat) "CartPaths$TextReader" "text" "[I") ∈ GW := gw_t1 103 rfl rfl
theorem gw_236 : (Cond.fieldLink "CartPaths$TextReader" (15 : Nat) "CartPaths$TextReader" "length" "I") ∈ GW := gw_t1 104 rfl rfl
theorem gw_237 : (Cond.fieldLinkNest "CartPaths" (86 : Nat) "CartPaths$TextReader" "length" "I" "CartPaths") ∈ GW := gw_t1 105 rfl rfl
theorem gw_238 : (Cond.fieldLink "CartPaths$TextReader" (19 : Nat) "CartPaths$TextReader" "pos" "I") ∈ GW := gw_t1 106 rfl rfl
theorem gw_239 : (Cond.fieldLink "CartPaths$TextReader" (22 : Nat) "CartPaths$TextReader" "fault" "I") ∈ GW := gw_t1 107 rfl rfl
theorem gw_240 : (Cond.fieldLinkNest "CartPaths" (96 : Nat) "CartPaths$TextReader" "fault" "I" "CartPaths") ∈ GW := gw_t1 108 rfl rfl
theorem gw_241 : (Cond.fieldLink "CartPaths$TextReader" (25 : Nat) "CartPaths$TextReader" "wordStart" "I") ∈ GW := gw_t1 109 rfl rfl
theorem gw_242 : (Cond.fieldLink "CartPaths$TextReader" (31 : Nat) "CartPaths$TextReader" "scene" "LCartPaths$Scene;") ∈ GW := gw_t1 110 rfl rfl
theorem gw_243 : (Cond.fieldLinkNest "CartPaths" (102 : Nat) "CartPaths$TextReader" "scene" "LCartPaths$Scene;" "CartPaths") ∈ GW := gw_t1 111 rfl rfl
theorem gw_244 : (Cond.laysFinal "CartPaths$TextReader" "CartPaths$TextReader" "text" "[I") ∈ GW := gw_t1 112 rfl rfl
theorem gw_246 : (Cond.lays "CartPaths$TextReader" "CartPaths$TextReader" "length" "I") ∈ GW := gw_t1 114 rfl rfl
theorem gw_248 : (Cond.lays "CartPaths$TextReader" "CartPaths$TextReader" "pos" "I") ∈ GW := gw_t1 116 rfl rfl
theorem gw_250 : (Cond.lays "CartPaths$TextReader" "CartPaths$TextReader" "fault" "I") ∈ GW := gw_t1 118 rfl rfl
theorem gw_252 : (Cond.lays "CartPaths$TextReader" "CartPaths$TextReader" "wordStart" "I") ∈ GW := gw_t1 120 rfl rfl
theorem gw_254 : (Cond.laysFinal "CartPaths$TextReader" "CartPaths$TextReader" "scene" "LCartPaths$Scene;") ∈ GW := gw_t1 122 rfl rfl
theorem gw_257 : (Cond.classLink "CartPaths" (16 : Nat) "CartPaths$Scene") ∈ GW := gw_t1 125 rfl rfl
theorem gw_258 : (Cond.methodLinkNest "CartPaths" (18 : Nat) ({ cls := "CartPaths$Scene", name := "<init>", desc := "()V" } : MethodName) "CartPaths") ∈ GW := gw_t1 126 rfl rfl
theorem gw_259 : (Cond.classLink "CartPaths" (26 : Nat) "CartPaths$Acts") ∈ GW := gw_t1 127 rfl rfl
theorem gw_260 : (Cond.instantiable "CartPaths$Acts" (4 : Nat)) ∈ GW := gw_t1 128 rfl rfl
theorem gw_261 : (Cond.methodLinkNest "CartPaths" (28 : Nat) ({ cls := "CartPaths$Acts", name := "<init>", desc := "()V" } : MethodName) "CartPaths") ∈ GW := gw_t1 129 rfl rfl
theorem gw_262 : (Cond.instanceMethod ({ cls := "CartPaths$Acts", name := "<init>", desc := "()V" } : MethodName)) ∈ GW := gw_t1 130 rfl rfl
theorem gw_263 : (Cond.code ({ cls := "CartPaths$Acts", name := "<init>", desc := "()V" } : MethodName) prog_2_method_1_code (1 : Nat) (Option.none : Option FieldType)) ∈ GW := gw_t1 131 rfl rfl
theorem gw_264 : (Cond.methodLink "CartPaths$Acts" (3 : Nat) ({ cls := "java/lang/Object", name := "<init>", desc := "()V" } : MethodName)) ∈ GW := gw_t1 132 rfl rfl
theorem gw_265 : (Cond.fieldLink "CartPaths$Acts" (9 : Nat) "CartPaths$Acts" "kinds" "[I") ∈ GW := gw_t1 133 rfl rfl
theorem gw_266 : (Cond.fieldLink "CartPaths$Acts" (15 : Nat) "CartPaths$Acts" "whose" "[I") ∈ GW := gw_t1 134 rfl rfl
theorem gw_267 : (Cond.fieldLink "CartPaths$Acts" (18 : Nat) "CartPaths$Acts" "before" "[I") ∈ GW := gw_t1 135 rfl rfl
theorem gw_268 : (Cond.fieldLink "CartPaths$Acts" (21 : Nat) "CartPaths$Acts" "kept" "I") ∈ GW := gw_t1 136 rfl rfl
theorem gw_269 : (Cond.fieldLinkNest "CartPaths" (173 : Nat) "CartPaths$Acts" "kept" "I" "CartPaths") ∈ GW := gw_t1 137 rfl rfl
theorem gw_270 : (Cond.laysFinal "CartPaths$Acts" "CartPaths$Acts" "kinds" "[I") ∈ GW := gw_t1 138 rfl rfl
theorem gw_272 : (Cond.laysFinal "CartPaths$Acts" "CartPaths$Acts" "whose" "[I") ∈ GW := gw_t1 140 rfl rfl
theorem gw_274 : (Cond.laysFinal "CartPaths$Acts" "CartPaths$Acts" "before" "[I") ∈ GW := gw_t1 142 rfl rfl
theorem gw_276 : (Cond.lays "CartPaths$Acts" "CartPaths$Acts" "kept" "I") ∈ GW := gw_t1 144 rfl rfl
theorem gw_279 : (Cond.classLink "CartPaths" (33 : Nat) "CartPaths$Search") ∈ GW := gw_t1 147 rfl rfl
theorem gw_280 : (Cond.instantiable "CartPaths$Search" (3 : Nat)) ∈ GW := gw_t1 148 rfl rfl
theorem gw_281 : (Cond.methodLinkNest "CartPaths" (35 : Nat) ({ cls := "CartPaths$Search", name := "<init>", desc := "()V" } : MethodName) "CartPaths") ∈ GW := gw_t1 149 rfl rfl
theorem gw_282 : (Cond.instanceMethod ({ cls := "CartPaths$Search", name := "<init>", desc := "()V" } : MethodName)) ∈ GW := gw_t1 150 rfl rfl
theorem gw_283 : (Cond.code ({ cls := "CartPaths$Search", name := "<init>", desc := "()V" } : MethodName) prog_5_method_1_code (1 : Nat) (Option.none : Option FieldType)) ∈ GW := gw_t1 151 rfl rfl
theorem gw_284 : (Cond.methodLink "CartPaths$Search" (3 : Nat) ({ cls := "java/lang/Object", name := "<init>", desc := "()V" } : MethodName)) ∈ GW := gw_t1 152 rfl rfl
theorem gw_285 : (Cond.fieldLink "CartPaths$Search" (9 : Nat) "CartPaths$Search" "cells" "[J") ∈ GW := gw_t1 153 rfl rfl
theorem gw_286 : (Cond.fieldLink "CartPaths$Search" (15 : Nat) "CartPaths$Search" "moves" "[J") ∈ GW := gw_t1 154 rfl rfl
theorem gw_287 : (Cond.fieldLink "CartPaths$Search" (18 : Nat) "CartPaths$Search" "back" "[J") ∈ GW := gw_t1 155 rfl rfl
theorem gw_288 : (Cond.laysFinal "CartPaths$Search" "CartPaths$Search" "cells" "[J") ∈ GW := gw_t1 156 rfl rfl
theorem gw_290 : (Cond.laysFinal "CartPaths$Search" "CartPaths$Search" "moves" "[J") ∈ GW := gw_t1 158 rfl rfl
theorem gw_292 : (Cond.laysFinal "CartPaths$Search" "CartPaths$Search" "back" "[J") ∈ GW := gw_t1 160 rfl rfl
theorem gw_295 : (Cond.classLink "CartPaths" (40 : Nat) "CartPaths$Ways") ∈ GW := gw_t1 163 rfl rfl
theorem gw_296 : (Cond.instantiable "CartPaths$Ways" (7 : Nat)) ∈ GW := gw_t1 164 rfl rfl
theorem gw_297 : (Cond.methodLinkNest "CartPaths" (42 : Nat) ({ cls := "CartPaths$Ways", name := "<init>", desc := "()V" } : MethodName) "CartPaths") ∈ GW := gw_t1 165 rfl rfl
theorem gw_298 : (Cond.instanceMethod ({ cls := "CartPaths$Ways", name := "<init>", desc := "()V" } : MethodName)) ∈ GW := gw_t1 166 rfl rfl
theorem gw_299 : (Cond.code ({ cls := "CartPaths$Ways", name := "<init>", desc := "()V" } : MethodName) prog_10_method_1_code (1 : Nat) (Option.none : Option FieldType)) ∈ GW := gw_t1 167 rfl rfl
theorem gw_300 : (Cond.methodLink "CartPaths$Ways" (3 : Nat) ({ cls := "java/lang/Object", name := "<init>", desc := "()V" } : MethodName)) ∈ GW := gw_t1 168 rfl rfl
theorem gw_301 : (Cond.fieldLink "CartPaths$Ways" (9 : Nat) "CartPaths$Ways" "cells" "[I") ∈ GW := gw_t1 169 rfl rfl
theorem gw_302 : (Cond.fieldLinkNest "CartPaths$Turns" (59 : Nat) "CartPaths$Ways" "cells" "[I" "CartPaths") ∈ GW := gw_t1 170 rfl rfl
theorem gw_303 : (Cond.fieldLinkNest "CartPaths$Tree" (136 : Nat) "CartPaths$Ways" "cells" "[I" "CartPaths") ∈ GW := gw_t1 171 rfl rfl
theorem gw_304 : (Cond.fieldLink "CartPaths$Ways" (15 : Nat) "CartPaths$Ways" "costs" "[I") ∈ GW := gw_t1 172 rfl rfl
theorem gw_305 : (Cond.fieldLinkNest "CartPaths$Turns" (56 : Nat) "CartPaths$Ways" "costs" "[I" "CartPaths") ∈ GW := gw_t1 173 rfl rfl
theorem gw_306 : (Cond.fieldLinkNest "CartPaths$Stop" (53 : Nat) "CartPaths$Ways" "costs" "[I" "CartPaths") ∈ GW := gw_t1 174 rfl rfl
theorem gw_307 : (Cond.fieldLinkNest "CartPaths$Tree" (139 : Nat) "CartPaths$Ways" "costs" "[I" "CartPaths") ∈ GW := gw_t1 175 rfl rfl
theorem gw_308 : (Cond.fieldLinkNest "CartPaths" (187 : Nat) "CartPaths$Ways" "costs" "[I" "CartPaths") ∈ GW := gw_t1 176 rfl rfl
theorem gw_309 : (Cond.fieldLink "CartPaths$Ways" (18 : Nat) "CartPaths$Ways" "carts" "I") ∈ GW := gw_t1 177 rfl rfl
theorem gw_310 : (Cond.fieldLinkNest "CartPaths$Stop" (24 : Nat) "CartPaths$Ways" "carts" "I" "CartPaths") ∈ GW := gw_t1 178 rfl rfl
theorem gw_311 : (Cond.fieldLinkNest "CartPaths$Turns" (50 : Nat) "CartPaths$Ways" "carts" "I" "CartPaths") ∈ GW := gw_t1 179 rfl rfl
theorem gw_312 : (Cond.fieldLinkNest "CartPaths$Tree" (116 : Nat) "CartPaths$Ways" "carts" "I" "CartPaths") ∈ GW := gw_t1 180 rfl rfl
theorem gw_313 : (Cond.fieldLinkNest "CartPaths" (310 : Nat) "CartPaths$Ways" "carts" "I" "CartPaths") ∈ GW := gw_t1 181 rfl rfl
theorem gw_314 : (Cond.fieldLink "CartPaths$Ways" (22 : Nat) "CartPaths$Ways" "clashTime" "I") ∈ GW := gw_t1 182 rfl rfl
theorem gw_315 : (Cond.fieldLinkNest "CartPaths$Tree" (142 : Nat) "CartPaths$Ways" "clashTime" "I" "CartPaths") ∈ GW := gw_t1 183 rfl rfl
theorem gw_316 : (Cond.fieldLinkNest "CartPaths" (207 : Nat) "CartPaths$Ways" "clashTime" "I" "CartPaths") ∈ GW := gw_t1 184 rfl rfl
theorem gw_317 : (Cond.fieldLink "CartPaths$Ways" (25 : Nat) "CartPaths$Ways" "clashSort" "I") ∈ GW := gw_t1 185 rfl rfl
theorem gw_318 : (Cond.fieldLinkNest "CartPaths$Tree" (155 : Nat) "CartPaths$Ways" "clashSort" "I" "CartPaths") ∈ GW := gw_t1 186 rfl rfl
theorem gw_319 : (Cond.fieldLinkNest "CartPaths" (210 : Nat) "CartPaths$Ways" "clashSort" "I" "CartPaths") ∈ GW := gw_t1 187 rfl rfl
theorem gw_320 : (Cond.fieldLink "CartPaths$Ways" (28 : Nat) "CartPaths$Ways" "clashLesser" "I") ∈ GW := gw_t1 188 rfl rfl
theorem gw_321 : (Cond.fieldLinkNest "CartPaths$Tree" (73 : Nat) "CartPaths$Ways" "clashLesser" "I" "CartPaths") ∈ GW := gw_t1 189 rfl rfl
theorem gw_322 : (Cond.fieldLinkNest "CartPaths" (213 : Nat) "CartPaths$Ways" "clashLesser" "I" "CartPaths") ∈ GW := gw_t1 190 rfl rfl
theorem gw_323 : (Cond.fieldLink "CartPaths$Ways" (31 : Nat) "CartPaths$Ways" "clashOther" "I") ∈ GW := gw_t1 191 rfl rfl
theorem gw_324 : (Cond.fieldLinkNest "CartPaths$Tree" (80 : Nat) "CartPaths$Ways" "clashOther" "I" "CartPaths") ∈ GW := gw_t1 192 rfl rfl
theorem gw_325 : (Cond.fieldLinkNest "CartPaths" (216 : Nat) "CartPaths$Ways" "clashOther" "I" "CartPaths") ∈ GW := gw_t1 193 rfl rfl
theorem gw_326 : (Cond.laysFinal "CartPaths$Ways" "CartPaths$Ways" "cells" "[I") ∈ GW := gw_t1 194 rfl rfl
theorem gw_328 : (Cond.laysFinal "CartPaths$Ways" "CartPaths$Ways" "costs" "[I") ∈ GW := gw_t1 196 rfl rfl
theorem gw_330 : (Cond.lays "CartPaths$Ways" "CartPaths$Ways" "carts" "I") ∈ GW := gw_t1 198 rfl rfl
theorem gw_332 : (Cond.lays "CartPaths$Ways" "CartPaths$Ways" "clashTime" "I") ∈ GW := gw_t1 200 rfl rfl
theorem gw_334 : (Cond.lays "CartPaths$Ways" "CartPaths$Ways" "clashSort" "I") ∈ GW := gw_t1 202 rfl rfl
theorem gw_336 : (Cond.lays "CartPaths$Ways" "CartPaths$Ways" "clashLesser" "I") ∈ GW := gw_t1 204 rfl rfl
theorem gw_338 : (Cond.lays "CartPaths$Ways" "CartPaths$Ways" "clashOther" "I") ∈ GW := gw_t1 206 rfl rfl
theorem gw_341 : (Cond.classLink "CartPaths" (51 : Nat) "CartPaths$Tree") ∈ GW := gw_t1 209 rfl rfl
theorem gw_342 : (Cond.arrayOver (FieldType.object "CartPaths$Tree")) ∈ GW := gw_t1 210 rfl rfl
theorem gw_343 : (Cond.instantiable "CartPaths$Tree" (10 : Nat)) ∈ GW := gw_t1 211 rfl rfl
theorem gw_344 : (Cond.methodLinkNest "CartPaths" (57 : Nat) ({ cls := "CartPaths$Tree", name := "<init>", desc := "()V" } : MethodName) "CartPaths") ∈ GW := gw_t1 212 rfl rfl
theorem gw_345 : (Cond.instanceMethod ({ cls := "CartPaths$Tree", name := "<init>", desc := "()V" } : MethodName)) ∈ GW := gw_t1 213 rfl rfl
theorem gw_346 : (Cond.code ({ cls := "CartPaths$Tree", name := "<init>", desc := "()V" } : MethodName) prog_8_method_1_code (1 : Nat) (Option.none : Option FieldType)) ∈ GW := gw_t1 214 rfl rfl
theorem gw_347 : (Cond.methodLink "CartPaths$Tree" (3 : Nat) ({ cls := "java/lang/Object", name := "<init>", desc := "()V" } : MethodName)) ∈ GW := gw_t1 215 rfl rfl
theorem gw_348 : (Cond.classLink "CartPaths$Tree" (9 : Nat) "CartPaths$Node") ∈ GW := gw_t1 216 rfl rfl
theorem gw_349 : (Cond.arrayOver (FieldType.object "CartPaths$Node")) ∈ GW := gw_t1 217 rfl rfl
theorem gw_350 : (Cond.classLink "CartPaths$Tree" (17 : Nat) "CartPaths$Ways") ∈ GW := gw_t1 218 rfl rfl
theorem gw_351 : (Cond.methodLinkNest "CartPaths$Tree" (19 : Nat) ({ cls := "CartPaths$Ways", name := "<init>", desc := "()V" } : MethodName) "CartPaths") ∈ GW := gw_t1 219 rfl rfl
theorem gw_352 : (Cond.fieldLink "CartPaths$Tree" (11 : Nat) "CartPaths$Tree" "nodes" "[LCartPaths$Node;") ∈ GW := gw_t1 220 rfl rfl
theorem gw_353 : (Cond.fieldLinkNest "CartPaths" (268 : Nat) "CartPaths$Tree" "nodes" "[LCartPaths$Node;" "CartPaths") ∈ GW := gw_t1 221 rfl rfl
theorem gw_354 : (Cond.fieldLink "CartPaths$Tree" (20 : Nat) "CartPaths$Tree" "first" "LCartPaths$Ways;") ∈ GW := gw_t1 222 rfl rfl
theorem gw_355 : (Cond.fieldLink "CartPaths$Tree" (24 : Nat) "CartPaths$Tree" "ways" "LCartPaths$Ways;") ∈ GW := gw_t1 223 rfl rfl
theorem gw_356 : (Cond.fieldLinkNest "CartPaths" (246 : Nat) "CartPaths$Tree" "ways" "LCartPaths$Ways;" "CartPaths") ∈ GW := gw_t1 224 rfl rfl
theorem gw_357 : (Cond.fieldLink "CartPaths$Tree" (27 : Nat) "CartPaths$Tree" "spare" "[I") ∈ GW := gw_t1 225 rfl rfl
theorem gw_358 : (Cond.fieldLink "CartPaths$Tree" (31 : Nat) "CartPaths$Tree" "version" "I") ∈ GW := gw_t1 226 rfl rfl
theorem gw_359 : (Cond.fieldLinkNest "CartPaths" (234 : Nat) "CartPaths$Tree" "version" "I" "CartPaths") ∈ GW := gw_t1 227 rfl rfl
theorem gw_360 : (Cond.fieldLink "CartPaths$Tree" (35 : Nat) "CartPaths$Tree" "nodeCount" "I") ∈ GW := gw_t1 228 rfl rfl
theorem gw_361 : (Cond.fieldLinkNest "CartPaths" (256 : Nat) "CartPaths$Tree" "nodeCount" "I" "CartPaths") ∈ GW := gw_t1 229 rfl rfl
theorem gw_362 : (Cond.fieldLink "CartPaths$Tree" (38 : Nat) "CartPaths$Tree" "splits" "I") ∈ GW := gw_t1 230 rfl rfl
theorem gw_363 : (Cond.fieldLinkNest "CartPaths" (259 : Nat) "CartPaths$Tree" "splits" "I" "CartPaths") ∈ GW := gw_t1 231 rfl rfl
theorem gw_364 : (Cond.fieldLink "CartPaths$Tree" (41 : Nat) "CartPaths$Tree" "low" "I") ∈ GW := gw_t1 232 rfl rfl
theorem gw_365 : (Cond.fieldLinkNest "CartPaths" (265 : Nat) "CartPaths$Tree" "low" "I" "CartPaths") ∈ GW := gw_t1 233 rfl rfl
theorem gw_366 : (Cond.fieldLink "CartPaths$Tree" (44 : Nat) "CartPaths$Tree" "planNode" "I") ∈ GW := gw_t1 234 rfl rfl
theorem gw_367 : (Cond.fieldLinkNest "CartPaths" (243 : Nat) "CartPaths$Tree" "planNode" "I" "CartPaths") ∈ GW := gw_t1 235 rfl rfl
theorem gw_368 : (Cond.fieldLink "CartPaths$Tree" (47 : Nat) "CartPaths$Tree" "isCut" "Z") ∈ GW := gw_t1 236 rfl rfl
theorem gw_369 : (Cond.fieldLinkNest "CartPaths" (252 : Nat) "CartPaths$Tree" "isCut" "Z" "CartPaths") ∈ GW := gw_t1 237 rfl rfl
theorem gw_370 : (Cond.laysFinal "CartPaths$Tree" "CartPaths$Tree" "nodes" "[LCartPaths$Node;") ∈ GW := gw_t1 238 rfl rfl
theorem gw_372 : (Cond.laysFinal "CartPaths$Tree" "CartPaths$Tree" "first" "LCartPaths$Ways;") ∈ GW := gw_t2 0 rfl rfl
theorem gw_374 : (Cond.laysFinal "CartPaths$Tree" "CartPaths$Tree" "ways" "LCartPaths$Ways;") ∈ GW := gw_t2 2 rfl rfl
theorem gw_376 : (Cond.laysFinal "CartPaths$Tree" "CartPaths$Tree" "spare" "[I") ∈ GW := gw_t2 4 rfl rfl
theorem gw_378 : (Cond.lays "CartPaths$Tree" "CartPaths$Tree" "version" "I") ∈ GW := gw_t2 6 rfl rfl
theorem gw_380 : (Cond.lays "CartPaths$Tree" "CartPaths$Tree" "nodeCount" "I") ∈ GW := gw_t2 8 rfl rfl
theorem gw_382 : (Cond.lays "CartPaths$Tree" "CartPaths$Tree" "splits" "I") ∈ GW := gw_t2 10 rfl rfl
theorem gw_384 : (Cond.lays "CartPaths$Tree" "CartPaths$Tree" "low" "I") ∈ GW := gw_t2 12 rfl rfl
theorem gw_386 : (Cond.lays "CartPaths$Tree" "CartPaths$Tree" "planNode" "I") ∈ GW := gw_t2 14 rfl rfl
theorem gw_388 : (Cond.lays "CartPaths$Tree" "CartPaths$Tree" "isCut" "Z") ∈ GW := gw_t2 16 rfl rfl
theorem gw_391 : (Cond.classLink "CartPaths" (62 : Nat) "CartPaths$Turns") ∈ GW := gw_t2 19 rfl rfl
theorem gw_392 : (Cond.instantiable "CartPaths$Turns" (7 : Nat)) ∈ GW := gw_t2 20 rfl rfl
theorem gw_393 : (Cond.methodLinkNest "CartPaths" (64 : Nat) ({ cls := "CartPaths$Turns", name := "<init>", desc := "()V" } : MethodName) "CartPaths") ∈ GW := gw_t2 21 rfl rfl
theorem gw_394 : (Cond.instanceMethod ({ cls := "CartPaths$Turns", name := "<init>", desc := "()V" } : MethodName)) ∈ GW := gw_t2 22 rfl rfl
theorem gw_395 : (Cond.code ({ cls := "CartPaths$Turns", name := "<init>", desc := "()V" } : MethodName) prog_9_method_1_code (1 : Nat) (Option.none : Option FieldType)) ∈ GW := gw_t2 23 rfl rfl
theorem gw_396 : (Cond.methodLink "CartPaths$Turns" (3 : Nat) ({ cls := "java/lang/Object", name := "<init>", desc := "()V" } : MethodName)) ∈ GW := gw_t2 24 rfl rfl
theorem gw_397 : (Cond.classLink "CartPaths$Turns" (9 : Nat) "CartPaths$Ways") ∈ GW := gw_t2 25 rfl rfl
theorem gw_398 : (Cond.methodLinkNest "CartPaths$Turns" (11 : Nat) ({ cls := "CartPaths$Ways", name := "<init>", desc := "()V" } : MethodName) "CartPaths") ∈ GW := gw_t2 26 rfl rfl
theorem gw_399 : (Cond.fieldLink "CartPaths$Turns" (12 : Nat) "CartPaths$Turns" "ways" "LCartPaths$Ways;") ∈ GW := gw_t2 27 rfl rfl
theorem gw_400 : (Cond.fieldLinkNest "CartPaths" (370 : Nat) "CartPaths$Turns" "ways" "LCartPaths$Ways;" "CartPaths") ∈ GW := gw_t2 28 rfl rfl
theorem gw_401 : (Cond.fieldLink "CartPaths$Turns" (18 : Nat) "CartPaths$Turns" "order" "[I") ∈ GW := gw_t2 29 rfl rfl
theorem gw_402 : (Cond.fieldLinkNest "CartPaths" (389 : Nat) "CartPaths$Turns" "order" "[I" "CartPaths") ∈ GW := gw_t2 30 rfl rfl
theorem gw_403 : (Cond.fieldLink "CartPaths$Turns" (22 : Nat) "CartPaths$Turns" "version" "I") ∈ GW := gw_t2 31 rfl rfl
theorem gw_404 : (Cond.fieldLinkNest "CartPaths" (362 : Nat) "CartPaths$Turns" "version" "I" "CartPaths") ∈ GW := gw_t2 32 rfl rfl
theorem gw_405 : (Cond.fieldLink "CartPaths$Turns" (26 : Nat) "CartPaths$Turns" "number" "I") ∈ GW := gw_t2 33 rfl rfl
theorem gw_406 : (Cond.fieldLinkNest "CartPaths" (363 : Nat) "CartPaths$Turns" "number" "I" "CartPaths") ∈ GW := gw_t2 34 rfl rfl
theorem gw_407 : (Cond.fieldLink "CartPaths$Turns" (29 : Nat) "CartPaths$Turns" "bestVersion" "I") ∈ GW := gw_t2 35 rfl rfl
theorem gw_408 : (Cond.fieldLinkNest "CartPaths" (377 : Nat) "CartPaths$Turns" "bestVersion" "I" "CartPaths") ∈ GW := gw_t2 36 rfl rfl
theorem gw_409 : (Cond.fieldLink "CartPaths$Turns" (32 : Nat) "CartPaths$Turns" "bestNumber" "I") ∈ GW := gw_t2 37 rfl rfl
theorem gw_410 : (Cond.fieldLinkNest "CartPaths" (386 : Nat) "CartPaths$Turns" "bestNumber" "I" "CartPaths") ∈ GW := gw_t2 38 rfl rfl
theorem gw_411 : (Cond.fieldLink "CartPaths$Turns" (35 : Nat) "CartPaths$Turns" "bestSum" "I") ∈ GW := gw_t2 39 rfl rfl
theorem gw_412 : (Cond.fieldLinkNest "CartPaths" (383 : Nat) "CartPaths$Turns" "bestSum" "I" "CartPaths") ∈ GW := gw_t2 40 rfl rfl
theorem gw_413 : (Cond.laysFinal "CartPaths$Turns" "CartPaths$Turns" "ways" "LCartPaths$Ways;") ∈ GW := gw_t2 41 rfl rfl
theorem gw_415 : (Cond.laysFinal "CartPaths$Turns" "CartPaths$Turns" "order" "[I") ∈ GW := gw_t2 43 rfl rfl
theorem gw_417 : (Cond.lays "CartPaths$Turns" "CartPaths$Turns" "version" "I") ∈ GW := gw_t2 45 rfl rfl
theorem gw_419 : (Cond.lays "CartPaths$Turns" "CartPaths$Turns" "number" "I") ∈ GW := gw_t2 47 rfl rfl
theorem gw_421 : (Cond.lays "CartPaths$Turns" "CartPaths$Turns" "bestVersion" "I") ∈ GW := gw_t2 49 rfl rfl
theorem gw_423 : (Cond.lays "CartPaths$Turns" "CartPaths$Turns" "bestNumber" "I") ∈ GW := gw_t2 51 rfl rfl
theorem gw_425 : (Cond.lays "CartPaths$Turns" "CartPaths$Turns" "bestSum" "I") ∈ GW := gw_t2 53 rfl rfl
theorem gw_428 : (Cond.classLink "CartPaths" (69 : Nat) "CartPaths$Stop") ∈ GW := gw_t2 56 rfl rfl
theorem gw_429 : (Cond.instantiable "CartPaths$Stop" (2 : Nat)) ∈ GW := gw_t2 57 rfl rfl
theorem gw_430 : (Cond.methodLinkNest "CartPaths" (71 : Nat) ({ cls := "CartPaths$Stop", name := "<init>", desc := "()V" } : MethodName) "CartPaths") ∈ GW := gw_t2 58 rfl rfl
theorem gw_431 : (Cond.instanceMethod ({ cls := "CartPaths$Stop", name := "<init>", desc := "()V" } : MethodName)) ∈ GW := gw_t2 59 rfl rfl
theorem gw_432 : (Cond.code ({ cls := "CartPaths$Stop", name := "<init>", desc := "()V" } : MethodName) prog_6_method_1_code (1 : Nat) (Option.none : Option FieldType)) ∈ GW := gw_t2 60 rfl rfl
theorem gw_433 : (Cond.methodLink "CartPaths$Stop" (3 : Nat) ({ cls := "java/lang/Object", name := "<init>", desc := "()V" } : MethodName)) ∈ GW := gw_t2 61 rfl rfl
theorem gw_434 : (Cond.fieldLink "CartPaths$Stop" (9 : Nat) "CartPaths$Stop" "come" "[I") ∈ GW := gw_t2 62 rfl rfl
theorem gw_435 : (Cond.fieldLink "CartPaths$Stop" (15 : Nat) "CartPaths$Stop" "left" "[I") ∈ GW := gw_t2 63 rfl rfl
theorem gw_436 : (Cond.laysFinal "CartPaths$Stop" "CartPaths$Stop" "come" "[I") ∈ GW := gw_t2 64 rfl rfl
theorem gw_438 : (Cond.laysFinal "CartPaths$Stop" "CartPaths$Stop" "left" "[I") ∈ GW := gw_t2 66 rfl rfl
theorem gw_441 : (Cond.fieldLink "CartPaths" (10 : Nat) "CartPaths" "reader" "LCartPaths$TextReader;") ∈ GW := gw_t2 69 rfl rfl
theorem gw_442 : (Cond.fieldLink "CartPaths" (19 : Nat) "CartPaths" "scene" "LCartPaths$Scene;") ∈ GW := gw_t2 70 rfl rfl
theorem gw_443 : (Cond.fieldLink "CartPaths" (23 : Nat) "CartPaths" "draft" "LCartPaths$Scene;") ∈ GW := gw_t2 71 rfl rfl
theorem gw_444 : (Cond.fieldLink "CartPaths" (29 : Nat) "CartPaths" "acts" "LCartPaths$Acts;") ∈ GW := gw_t2 72 rfl rfl
theorem gw_445 : (Cond.fieldLink "CartPaths" (36 : Nat) "CartPaths" "search" "LCartPaths$Search;") ∈ GW := gw_t2 73 rfl rfl
theorem gw_446 : (Cond.fieldLink "CartPaths" (43 : Nat) "CartPaths" "aloneWays" "LCartPaths$Ways;") ∈ GW := gw_t2 74 rfl rfl
theorem gw_447 : (Cond.fieldLink "CartPaths" (47 : Nat) "CartPaths" "aloneVersion" "I") ∈ GW := gw_t2 75 rfl rfl
theorem gw_448 : (Cond.fieldLink "CartPaths" (53 : Nat) "CartPaths" "trees" "[LCartPaths$Tree;") ∈ GW := gw_t2 76 rfl rfl
theorem gw_449 : (Cond.fieldLink "CartPaths" (58 : Nat) "CartPaths" "supposed" "LCartPaths$Tree;") ∈ GW := gw_t2 77 rfl rfl
theorem gw_450 : (Cond.fieldLink "CartPaths" (65 : Nat) "CartPaths" "turns" "LCartPaths$Turns;") ∈ GW := gw_t2 78 rfl rfl
theorem gw_451 : (Cond.fieldLink "CartPaths" (72 : Nat) "CartPaths" "stop" "LCartPaths$Stop;") ∈ GW := gw_t2 79 rfl rfl
theorem gw_452 : (Cond.fieldLink "CartPaths" (76 : Nat) "CartPaths" "written" "[I") ∈ GW := gw_t2 80 rfl rfl
theorem gw_453 : (Cond.fieldLink "CartPaths" (80 : Nat) "CartPaths" "writtenLength" "I") ∈ GW := gw_t2 81 rfl rfl
theorem gw_454 : (Cond.fieldLink "CartPaths" (83 : Nat) "CartPaths" "version" "I") ∈ GW := gw_t2 82 rfl rfl
theorem gw_455 : (Cond.laysFinal "CartPaths" "CartPaths" "reader" "LCartPaths$TextReader;") ∈ GW := gw_t2 83 rfl rfl
theorem gw_457 : (Cond.laysFinal "CartPaths" "CartPaths" "scene" "LCartPaths$Scene;") ∈ GW := gw_t2 85 rfl rfl
theorem gw_459 : (Cond.laysFinal "CartPaths" "CartPaths" "draft" "LCartPaths$Scene;") ∈ GW := gw_t2 87 rfl rfl
theorem gw_461 : (Cond.laysFinal "CartPaths" "CartPaths" "acts" "LCartPaths$Acts;") ∈ GW := gw_t2 89 rfl rfl
theorem gw_463 : (Cond.laysFinal "CartPaths" "CartPaths" "search" "LCartPaths$Search;") ∈ GW := gw_t2 91 rfl rfl
theorem gw_465 : (Cond.laysFinal "CartPaths" "CartPaths" "aloneWays" "LCartPaths$Ways;") ∈ GW := gw_t2 93 rfl rfl
theorem gw_467 : (Cond.lays "CartPaths" "CartPaths" "aloneVersion" "I") ∈ GW := gw_t2 95 rfl rfl
theorem gw_469 : (Cond.laysFinal "CartPaths" "CartPaths" "trees" "[LCartPaths$Tree;") ∈ GW := gw_t2 97 rfl rfl
theorem gw_471 : (Cond.laysFinal "CartPaths" "CartPaths" "supposed" "LCartPaths$Tree;") ∈ GW := gw_t2 99 rfl rfl
theorem gw_473 : (Cond.laysFinal "CartPaths" "CartPaths" "turns" "LCartPaths$Turns;") ∈ GW := gw_t2 101 rfl rfl
theorem gw_475 : (Cond.laysFinal "CartPaths" "CartPaths" "stop" "LCartPaths$Stop;") ∈ GW := gw_t2 103 rfl rfl
theorem gw_477 : (Cond.laysFinal "CartPaths" "CartPaths" "written" "[I") ∈ GW := gw_t2 105 rfl rfl
theorem gw_479 : (Cond.lays "CartPaths" "CartPaths" "writtenLength" "I") ∈ GW := gw_t2 107 rfl rfl
theorem gw_481 : (Cond.lays "CartPaths" "CartPaths" "version" "I") ∈ GW := gw_t2 109 rfl rfl
theorem gw_484 : (Cond.methodLink "CartPathsLaw" (138 : Nat) ({ cls := "CartPaths", name := "feed", desc := "(IIIII)I" } : MethodName)) ∈ GW := gw_t2 112 rfl rfl
theorem gw_485 : (Cond.instanceMethod ({ cls := "CartPaths", name := "feed", desc := "(IIIII)I" } : MethodName)) ∈ GW := gw_t2 113 rfl rfl
theorem gw_486 : (Cond.selects "CartPaths" ({ cls := "CartPaths", name := "feed", desc := "(IIIII)I" } : MethodName) ({ cls := "CartPaths", name := "feed", desc := "(IIIII)I" } : MethodName)) ∈ GW := gw_t2 114 rfl rfl
theorem gw_487 : (Cond.code ({ cls := "CartPaths", name := "feed", desc := "(IIIII)I" } : MethodName) prog_1_method_2_code (6 : Nat) (Option.some FieldType.int)) ∈ GW := gw_t2 115 rfl rfl
theorem gw_488 : (Cond.methodLinkNest "CartPaths" (89 : Nat) ({ cls := "CartPaths$TextReader", name := "append", desc := "(I)V" } : MethodName) "CartPaths") ∈ GW := gw_t2 116 rfl rfl
theorem gw_490 : (Cond.instanceMethod ({ cls := "CartPaths$TextReader", name := "append", desc := "(I)V" } : MethodName)) ∈ GW := gw_t2 118 rfl rfl
theorem gw_491 : (Cond.code ({ cls := "CartPaths$TextReader", name := "append", desc := "(I)V" } : MethodName) prog_7_method_2_code (3 : Nat) (Option.none : Option FieldType)) ∈ GW := gw_t2 119 rfl rfl
theorem gw_492 : (Cond.methodLink "CartPathsLaw" (142 : Nat) ({ cls := "CartPaths", name := "end", desc := "(I)Z" } : MethodName)) ∈ GW := gw_t2 120 rfl rfl
theorem gw_493 : (Cond.instanceMethod ({ cls := "CartPaths", name := "end", desc := "(I)Z" } : MethodName)) ∈ GW := gw_t2 121 rfl rfl
theorem gw_494 : (Cond.selects "CartPaths" ({ cls := "CartPaths", name := "end", desc := "(I)Z" } : MethodName) ({ cls := "CartPaths", name := "end", desc := "(I)Z" } : MethodName)) ∈ GW := gw_t2 122 rfl rfl
theorem gw_495 : (Cond.code ({ cls := "CartPaths", name := "end", desc := "(I)Z" } : MethodName) prog_1_method_3_code (2 : Nat) (Option.some FieldType.boolean)) ∈ GW := gw_t2 123 rfl rfl
theorem gw_496 : (Cond.methodLink "CartPathsLaw" (156 : Nat) ({ cls := "CartPaths", name := "fault", desc := "()I" } : MethodName)) ∈ GW := gw_t2 124 rfl rfl
theorem gw_497 : (Cond.instanceMethod ({ cls := "CartPaths", name := "fault", desc := "()I" } : MethodName)) ∈ GW := gw_t2 125 rfl rfl
theorem gw_498 : (Cond.selects "CartPaths" ({ cls := "CartPaths", name := "fault", desc := "()I" } : MethodName) ({ cls := "CartPaths", name := "fault", desc := "()I" } : MethodName)) ∈ GW := gw_t2 126 rfl rfl
theorem gw_499 : (Cond.code ({ cls := "CartPaths", name := "fault", desc := "()I" } : MethodName) prog_1_method_5_code (1 : Nat) (Option.some FieldType.int)) ∈ GW := gw_t2 127 rfl rfl
theorem gw_500 : (Cond.methodLink "CartPathsLaw" (181 : Nat) ({ cls := "CartPaths", name := "undo", desc := "()I" } : MethodName)) ∈ GW := gw_t2 128 rfl rfl
theorem gw_501 : (Cond.instanceMethod ({ cls := "CartPaths", name := "undo", desc := "()I" } : MethodName)) ∈ GW := gw_t2 129 rfl rfl
theorem gw_502 : (Cond.selects "CartPaths" ({ cls := "CartPaths", name := "undo", desc := "()I" } : MethodName) ({ cls := "CartPaths", name := "undo", desc := "()I" } : MethodName)) ∈ GW := gw_t2 130 rfl rfl
theorem gw_503 : (Cond.code ({ cls := "CartPaths", name := "undo", desc := "()I" } : MethodName) prog_1_method_18_code (1 : Nat) (Option.some FieldType.int)) ∈ GW := gw_t2 131 rfl rfl
theorem gw_504 : (Cond.methodLinkNest "CartPaths" (176 : Nat) ({ cls := "CartPaths$Acts", name := "undoLatest", desc := "(LCartPaths$Scene;)V" } : MethodName) "CartPaths") ∈ GW := gw_t2 132 rfl rfl
theorem gw_506 : (Cond.instanceMethod ({ cls := "CartPaths$Acts", name := "undoLatest", desc := "(LCartPaths$Scene;)V" } : MethodName)) ∈ GW := gw_t2 134 rfl rfl
theorem gw_507 : (Cond.code ({ cls := "CartPaths$Acts", name := "undoLatest", desc := "(LCartPaths$Scene;)V" } : MethodName) prog_2_method_4_code (2 : Nat) (Option.none : Option FieldType)) ∈ GW := gw_t2 135 rfl rfl
theorem gw_508 : (Cond.methodLinkNest "CartPaths$Acts" (39 : Nat) ({ cls := "CartPaths$Scene", name := "swapGoals", desc := "(II)V" } : MethodName) "CartPaths") ∈ GW := gw_t2 136 rfl rfl
theorem gw_510 : (Cond.instanceMethod ({ cls := "CartPaths$Scene", name := "swapGoals", desc := "(II)V" } : MethodName)) ∈ GW := gw_t2 138 rfl rfl
theorem gw_511 : (Cond.code ({ cls := "CartPaths$Scene", name := "swapGoals", desc := "(II)V" } : MethodName) prog_4_method_6_code (4 : Nat) (Option.none : Option FieldType)) ∈ GW := gw_t2 139 rfl rfl
theorem gw_512 : (Cond.methodLink "CartPaths" (110 : Nat) ({ cls := "CartPaths", name := "sceneChanged", desc := "()V" } : MethodName)) ∈ GW := gw_t2 140 rfl rfl
theorem gw_514 : (Cond.instanceMethod ({ cls := "CartPaths", name := "sceneChanged", desc := "()V" } : MethodName)) ∈ GW := gw_t2 142 rfl rfl
theorem gw_515 : (Cond.code ({ cls := "CartPaths", name := "sceneChanged", desc := "()V" } : MethodName) prog_1_method_6_code (1 : Nat) (Option.none : Option FieldType)) ∈ GW := gw_t2 143 rfl rfl
theorem gw_516 : (Cond.methodLinkNest "CartPaths" (116 : Nat) ({ cls := "CartPaths$Scene", name := "refresh", desc := "()V" } : MethodName) "CartPaths") ∈ GW := gw_t2 144 rfl rfl
theorem gw_518 : (Cond.instanceMethod ({ cls := "CartPaths$Scene", name := "refresh", desc := "()V" } : MethodName)) ∈ GW := gw_t2 146 rfl rfl
theorem gw_519 : (Cond.code ({ cls := "CartPaths$Scene", name := "refresh", desc := "()V" } : MethodName) prog_4_method_8_code (6 : Nat) (Option.none : Option FieldType)) ∈ GW := gw_t2 147 rfl rfl
theorem gw_520 : (Cond.methodLink "CartPaths$Scene" (57 : Nat) ({ cls := "CartPaths$Scene", name := "lets", desc := "(III)Z" } : MethodName)) ∈ GW := gw_t2 148 rfl rfl
theorem gw_522 : (Cond.instanceMethod ({ cls := "CartPaths$Scene", name := "lets", desc := "(III)Z" } : MethodName)) ∈ GW := gw_t2 150 rfl rfl
theorem gw_523 : (Cond.code ({ cls := "CartPaths$Scene", name := "lets", desc := "(III)Z" } : MethodName) prog_4_method_9_code (8 : Nat) (Option.some FieldType.boolean)) ∈ GW := gw_t2 151 rfl rfl
theorem gw_528 : (Cond.methodLink "CartPaths$Scene" (67 : Nat) ({ cls := "CartPaths$Scene", name := "has", desc := "(II)Z" } : MethodName)) ∈ GW := gw_t2 156 rfl rfl
theorem gw_530 : (Cond.instanceMethod ({ cls := "CartPaths$Scene", name := "has", desc := "(II)Z" } : MethodName)) ∈ GW := gw_t2 158 rfl rfl
theorem gw_531 : (Cond.code ({ cls := "CartPaths$Scene", name := "has", desc := "(II)Z" } : MethodName) prog_4_method_4_code (3 : Nat) (Option.some FieldType.boolean)) ∈ GW := gw_t2 159 rfl rfl
theorem gw_532 : (Cond.methodLink "CartPathsLaw" (271 : Nat) ({ cls := "CartPaths", name := "bestOrder", desc := "(Z)I" } : MethodName)) ∈ GW := gw_t2 160 rfl rfl
theorem gw_533 : (Cond.instanceMethod ({ cls := "CartPaths", name := "bestOrder", desc := "(Z)I" } : MethodName)) ∈ GW := gw_t2 161 rfl rfl
theorem gw_534 : (Cond.selects "CartPaths" ({ cls := "CartPaths", name := "bestOrder", desc := "(Z)I" } : MethodName) ({ cls := "CartPaths", name := "bestOrder", desc := "(Z)I" } : MethodName)) ∈ GW := gw_t2 162 rfl rfl
theorem gw_535 : (Cond.code ({ cls := "CartPaths", name := "bestOrder", desc := "(Z)I" } : MethodName) prog_1_method_53_code (2 : Nat) (Option.some FieldType.int)) ∈ GW := gw_t2 163 rfl rfl
theorem gw_536 : (Cond.methodLink "CartPaths" (380 : Nat) ({ cls := "CartPaths", name := "findBestOrder", desc := "()V" } : MethodName)) ∈ GW := gw_t2 164 rfl rfl
theorem gw_538 : (Cond.instanceMethod ({ cls := "CartPaths", name := "findBestOrder", desc := "()V" } : MethodName)) ∈ GW := gw_t2 166 rfl rfl
theorem gw_539 : (Cond.code ({ cls := "CartPaths", name := "findBestOrder", desc := "()V" } : MethodName) prog_1_method_54_code (4 : Nat) (Option.none : Option FieldType)) ∈ GW := gw_t2 167 rfl rfl
theorem gw_542 : (Cond.methodLink "CartPaths" (374 : Nat) ({ cls := "CartPaths", name := "waysByTurns", desc := "(I)LCartPaths$Ways;" } : MethodName)) ∈ GW := gw_t2 170 rfl rfl
theorem gw_544 : (Cond.instanceMethod ({ cls := "CartPaths", name := "waysByTurns", desc := "(I)LCartPaths$Ways;" } : MethodName)) ∈ GW := gw_t2 172 rfl rfl
theorem gw_545 : (Cond.code ({ cls := "CartPaths", name := "waysByTurns", desc := "(I)LCartPaths$Ways;" } : MethodName) prog_1_method_50_code (2 : Nat) (Option.some (FieldType.object "CartPaths$Ways"))) ∈ GW := gw_t2 173 rfl rfl
theorem gw_546 : (Cond.methodLinkNest "CartPaths" (364 : Nat) ({ cls := "CartPaths$Turns", name := "takeOrder", desc := "(II)V" } : MethodName) "CartPaths") ∈ GW := gw_t2 174 rfl rfl
theorem gw_548 : (Cond.instanceMethod ({ cls := "CartPaths$Turns", name := "takeOrder", desc := "(II)V" } : MethodName)) ∈ GW := gw_t2 176 rfl rfl
theorem gw_549 : (Cond.code ({ cls := "CartPaths$Turns", name := "takeOrder", desc := "(II)V" } : MethodName) prog_9_method_2_code (8 : Nat) (Option.none : Option FieldType)) ∈ GW := gw_t2 177 rfl rfl
theorem gw_551 : (Cond.methodLink "CartPaths$Turns" (41 : Nat) ({ cls := "CartPaths$Turns", name := "freeCart", desc := "(II)I" } : MethodName)) ∈ GW := gw_t2 179 rfl rfl
theorem gw_552 : (Cond.static ({ cls := "CartPaths$Turns", name := "freeCart", desc := "(II)I" } : MethodName)) ∈ GW := gw_t2 180 rfl rfl
theorem gw_553 : (Cond.code ({ cls := "CartPaths$Turns", name := "freeCart", desc := "(II)I" } : MethodName) prog_9_method_3_code (4 : Nat) (Option.some FieldType.int)) ∈ GW := gw_t2 181 rfl rfl
theorem gw_554 : (Cond.methodLinkNest "CartPaths" (367 : Nat) ({ cls := "CartPaths$Turns", name := "goInOrder", desc := "(LCartPaths$Scene;LCartPaths$Search;)V" } : MethodName) "CartPaths") ∈ GW := gw_t2 182 rfl rfl
theorem gw_556 : (Cond.instanceMethod ({ cls := "CartPaths$Turns", name := "goInOrder", desc := "(LCartPaths$Scene;LCartPaths$Search;)V" } : MethodName)) ∈ GW := gw_t2 184 rfl rfl
theorem gw_557 : (Cond.code ({ cls := "CartPaths$Turns", name := "goInOrder", desc := "(LCartPaths$Scene;LCartPaths$Search;)V" } : MethodName) prog_9_method_4_code (6 : Nat) (Option.none : Option FieldType)) ∈ GW := gw_t2 185 rfl rfl
theorem gw_558 : (Cond.methodLinkNest "CartPaths$Turns" (51 : Nat) ({ cls := "CartPaths$Search", name := "clear", desc := "()V" } : MethodName) "CartPaths") ∈ GW := gw_t2 186 rfl rfl
theorem gw_560 : (Cond.instanceMethod ({ cls := "CartPaths$Search", name := "clear", desc := "()V" } : MethodName)) ∈ GW := gw_t2 188 rfl rfl
theorem gw_561 : (Cond.code ({ cls := "CartPaths$Search", name := "clear", desc := "()V" } : MethodName) prog_5_method_2_code (1 : Nat) (Option.none : Option FieldType)) ∈ GW := gw_t2 189 rfl rfl
theorem gw_565 : (Cond.methodLinkNest "CartPaths$Turns" (62 : Nat) ({ cls := "CartPaths$Search", name := "find", desc := "(LCartPaths$Scene;I[II)I" } : MethodName) "CartPaths") ∈ GW := gw_t2 193 rfl rfl
theorem gw_567 : (Cond.instanceMethod ({ cls := "CartPaths$Search", name := "find", desc := "(LCartPaths$Scene;I[II)I" } : MethodName)) ∈ GW := gw_t2 195 rfl rfl
theorem gw_568 : (Cond.code ({ cls := "CartPaths$Search", name := "find", desc := "(LCartPaths$Scene;I[II)I" } : MethodName) prog_5_method_6_code (8 : Nat) (Option.some FieldType.int)) ∈ GW := gw_t2 196 rfl rfl
theorem gw_569 : (Cond.methodLink "CartPaths$Search" (43 : Nat) ({ cls := "CartPaths$Search", name := "leastCost", desc := "(LCartPaths$Scene;II)I" } : MethodName)) ∈ GW := gw_t2 197 rfl rfl
theorem gw_571 : (Cond.instanceMethod ({ cls := "CartPaths$Search", name := "leastCost", desc := "(LCartPaths$Scene;II)I" } : MethodName)) ∈ GW := gw_t2 199 rfl rfl
theorem gw_572 : (Cond.code ({ cls := "CartPaths$Search", name := "leastCost", desc := "(LCartPaths$Scene;II)I" } : MethodName) prog_5_method_7_code (10 : Nat) (Option.some FieldType.int)) ∈ GW := gw_t2 200 rfl rfl
theorem gw_573 : (Cond.methodLink "CartPaths$Search" (57 : Nat) ({ cls := "CartPaths$Search", name := "freeFrom", desc := "(I)I" } : MethodName)) ∈ GW := gw_t2 201 rfl rfl
theorem gw_575 : (Cond.instanceMethod ({ cls := "CartPaths$Search", name := "freeFrom", desc := "(I)I" } : MethodName)) ∈ GW := gw_t2 203 rfl rfl
theorem gw_576 : (Cond.code ({ cls := "CartPaths$Search", name := "freeFrom", desc := "(I)I" } : MethodName) prog_5_method_8_code (3 : Nat) (Option.some FieldType.int)) ∈ GW := gw_t2 204 rfl rfl
theorem gw_577 : (Cond.constantLong "CartPaths$Search" (61 : Nat) (-1 : Int64)) ∈ GW := gw_t2 205 rfl rfl
theorem gw_578 : (Cond.methodLink "CartPaths$Search" (47 : Nat) ({ cls := "CartPaths$Search", name := "lookBack", desc := "(LCartPaths$Scene;II)V" } : MethodName)) ∈ GW := gw_t2 206 rfl rfl
theorem gw_580 : (Cond.instanceMethod ({ cls := "CartPaths$Search", name := "lookBack", desc := "(LCartPaths$Scene;II)V" } : MethodName)) ∈ GW := gw_t2 208 rfl rfl
theorem gw_581 : (Cond.code ({ cls := "CartPaths$Search", name := "lookBack", desc := "(LCartPaths$Scene;II)V" } : MethodName) prog_5_method_9_code (8 : Nat) (Option.none : Option FieldType)) ∈ GW := gw_t2 209 rfl rfl
theorem gw_582 : (Cond.methodLink "CartPaths$Search" (51 : Nat) ({ cls := "CartPaths$Search", name := "leastStep", desc := "(LCartPaths$Scene;II)I" } : MethodName)) ∈ GW := gw_t2 210 rfl rfl
theorem gw_584 : (Cond.instanceMethod ({ cls := "CartPaths$Search", name := "leastStep", desc := "(LCartPaths$Scene;II)I" } : MethodName)) ∈ GW := gw_t2 212 rfl rfl
theorem gw_585 : (Cond.code ({ cls := "CartPaths$Search", name := "leastStep", desc := "(LCartPaths$Scene;II)I" } : MethodName) prog_5_method_10_code (7 : Nat) (Option.some FieldType.int)) ∈ GW := gw_t2 213 rfl rfl
theorem gw_588 : (Cond.methodLink "CartPaths$Turns" (66 : Nat) ({ cls := "CartPaths$Turns", name := "forbidWay", desc := "(LCartPaths$Search;I)V" } : MethodName)) ∈ GW := gw_t2 216 rfl rfl
theorem gw_590 : (Cond.instanceMethod ({ cls := "CartPaths$Turns", name := "forbidWay", desc := "(LCartPaths$Search;I)V" } : MethodName)) ∈ GW := gw_t2 218 rfl rfl
theorem gw_591 : (Cond.code ({ cls := "CartPaths$Turns", name := "forbidWay", desc := "(LCartPaths$Search;I)V" } : MethodName) prog_9_method_5_code (4 : Nat) (Option.none : Option FieldType)) ∈ GW := gw_t2 219 rfl rfl
theorem gw_592 : (Cond.methodLinkNest "CartPaths$Turns" (70 : Nat) ({ cls := "CartPaths$Ways", name := "cellOf", desc := "(II)I" } : MethodName) "CartPaths") ∈ GW := gw_t2 220 rfl rfl
theorem gw_594 : (Cond.instanceMethod ({ cls := "CartPaths$Ways", name := "cellOf", desc := "(II)I" } : MethodName)) ∈ GW := gw_t2 222 rfl rfl
theorem gw_595 : (Cond.code ({ cls := "CartPaths$Ways", name := "cellOf", desc := "(II)I" } : MethodName) prog_10_method_7_code (3 : Nat) (Option.some FieldType.int)) ∈ GW := gw_t2 223 rfl rfl
theorem gw_596 : (Cond.methodLinkNest "CartPaths$Turns" (73 : Nat) ({ cls := "CartPaths$Search", name := "forbidCell", desc := "(II)V" } : MethodName) "CartPaths") ∈ GW := gw_t2 224 rfl rfl
theorem gw_598 : (Cond.instanceMethod ({ cls := "CartPaths$Search", name := "forbidCell", desc := "(II)V" } : MethodName)) ∈ GW := gw_t2 226 rfl rfl
theorem gw_599 : (Cond.code ({ cls := "CartPaths$Search", name := "forbidCell", desc := "(II)V" } : MethodName) prog_5_method_3_code (3 : Nat) (Option.none : Option FieldType)) ∈ GW := gw_t2 227 rfl rfl
theorem gw_600 : (Cond.methodLinkNest "CartPaths$Turns" (77 : Nat) ({ cls := "CartPaths$Ways", name := "comes", desc := "(II)Z" } : MethodName) "CartPaths") ∈ GW := gw_t2 228 rfl rfl
theorem gw_602 : (Cond.instanceMethod ({ cls := "CartPaths$Ways", name := "comes", desc := "(II)Z" } : MethodName)) ∈ GW := gw_t2 230 rfl rfl
theorem gw_603 : (Cond.code ({ cls := "CartPaths$Ways", name := "comes", desc := "(II)Z" } : MethodName) prog_10_method_8_code (3 : Nat) (Option.some FieldType.boolean)) ∈ GW := gw_t2 231 rfl rfl
theorem gw_604 : (Cond.methodLink "CartPaths$Ways" (56 : Nat) ({ cls := "CartPaths$Ways", name := "cellOf", desc := "(II)I" } : MethodName)) ∈ GW := gw_t2 232 rfl rfl
theorem gw_605 : (Cond.methodLinkNest "CartPaths$Turns" (81 : Nat) ({ cls := "CartPaths$Search", name := "forbidMove", desc := "(III)V" } : MethodName) "CartPaths") ∈ GW := gw_t2 233 rfl rfl
theorem gw_607 : (Cond.instanceMethod ({ cls := "CartPaths$Search", name := "forbidMove", desc := "(III)V" } : MethodName)) ∈ GW := gw_t2 235 rfl rfl
theorem gw_608 : (Cond.code ({ cls := "CartPaths$Search", name := "forbidMove", desc := "(III)V" } : MethodName) prog_5_method_5_code (5 : Nat) (Option.none : Option FieldType)) ∈ GW := gw_t2 236 rfl rfl
theorem gw_609 : (Cond.methodLinkNest "CartPaths" (249 : Nat) ({ cls := "CartPaths$Ways", name := "sumCosts", desc := "()I" } : MethodName) "CartPaths") ∈ GW := gw_t2 237 rfl rfl
theorem gw_611 : (Cond.instanceMethod ({ cls := "CartPaths$Ways", name := "sumCosts", desc := "()I" } : MethodName)) ∈ GW := gw_t2 239 rfl rfl
theorem gw_612 : (Cond.code ({ cls := "CartPaths$Ways", name := "sumCosts", desc := "()I" } : MethodName) prog_10_method_5_code (3 : Nat) (Option.some FieldType.int)) ∈ GW := gw_t3 0 rfl rfl
theorem gw_613 : (Cond.methodLinkNest "CartPaths" (196 : Nat) ({ cls := "CartPaths$Ways", name := "allGo", desc := "()Z" } : MethodName) "CartPaths") ∈ GW := gw_t3 1 rfl rfl
theorem gw_615 : (Cond.instanceMethod ({ cls := "CartPaths$Ways", name := "allGo", desc := "()Z" } : MethodName)) ∈ GW := gw_t3 3 rfl rfl
theorem gw_616 : (Cond.code ({ cls := "CartPaths$Ways", name := "allGo", desc := "()Z" } : MethodName) prog_10_method_4_code (1 : Nat) (Option.some FieldType.boolean)) ∈ GW := gw_t3 4 rfl rfl
theorem gw_617 : (Cond.methodLinkNest "CartPaths$Ways" (52 : Nat) ({ cls := "CartPaths", name := "indexOf", desc := "([III)I" } : MethodName) "CartPaths") ∈ GW := gw_t3 5 rfl rfl
theorem gw_618 : (Cond.static ({ cls := "CartPaths", name := "indexOf", desc := "([III)I" } : MethodName)) ∈ GW := gw_t3 6 rfl rfl
theorem gw_619 : (Cond.code ({ cls := "CartPaths", name := "indexOf", desc := "([III)I" } : MethodName) prog_1_method_60_code (4 : Nat) (Option.some FieldType.int)) ∈ GW := gw_t3 7 rfl rfl
theorem gw_620 : (Cond.methodLink "CartPathsLaw" (282 : Nat) ({ cls := "CartPaths", name := "octet", desc := "(I)I" } : MethodName)) ∈ GW := gw_t3 8 rfl rfl
theorem gw_621 : (Cond.instanceMethod ({ cls := "CartPaths", name := "octet", desc := "(I)I" } : MethodName)) ∈ GW := gw_t3 9 rfl rfl
theorem gw_622 : (Cond.selects "CartPaths" ({ cls := "CartPaths", name := "octet", desc := "(I)I" } : MethodName) ({ cls := "CartPaths", name := "octet", desc := "(I)I" } : MethodName)) ∈ GW := gw_t3 10 rfl rfl
theorem gw_623 : (Cond.code ({ cls := "CartPaths", name := "octet", desc := "(I)I" } : MethodName) prog_1_method_58_code (2 : Nat) (Option.some FieldType.int)) ∈ GW := gw_t3 11 rfl rfl
theorem gw_624 : (Cond.methodLink "CartPathsLaw" (286 : Nat) ({ cls := "CartPaths", name := "count", desc := "(I)I" } : MethodName)) ∈ GW := gw_t3 12 rfl rfl
theorem gw_625 : (Cond.instanceMethod ({ cls := "CartPaths", name := "count", desc := "(I)I" } : MethodName)) ∈ GW := gw_t3 13 rfl rfl
theorem gw_626 : (Cond.selects "CartPaths" ({ cls := "CartPaths", name := "count", desc := "(I)I" } : MethodName) ({ cls := "CartPaths", name := "count", desc := "(I)I" } : MethodName)) ∈ GW := gw_t3 14 rfl rfl
theorem gw_627 : (Cond.code ({ cls := "CartPaths", name := "count", desc := "(I)I" } : MethodName) prog_1_method_59_code (2 : Nat) (Option.some FieldType.int)) ∈ GW := gw_t3 15 rfl rfl
theorem gw_628 : (Cond.methodLinkNest "CartPaths" (409 : Nat) ({ cls := "CartPaths$Scene", name := "countFree", desc := "()I" } : MethodName) "CartPaths") ∈ GW := gw_t3 16 rfl rfl
theorem gw_630 : (Cond.instanceMethod ({ cls := "CartPaths$Scene", name := "countFree", desc := "()I" } : MethodName)) ∈ GW := gw_t3 18 rfl rfl
theorem gw_631 : (Cond.code ({ cls := "CartPaths$Scene", name := "countFree", desc := "()I" } : MethodName) prog_4_method_7_code (4 : Nat) (Option.some FieldType.int)) ∈ GW := gw_t3 19 rfl rfl
theorem gw_632 : (Cond.methodLink "CartPaths" (183 : Nat) ({ cls := "CartPaths", name := "waysAlone", desc := "()LCartPaths$Ways;" } : MethodName)) ∈ GW := gw_t3 20 rfl rfl
theorem gw_634 : (Cond.instanceMethod ({ cls := "CartPaths", name := "waysAlone", desc := "()LCartPaths$Ways;" } : MethodName)) ∈ GW := gw_t3 22 rfl rfl
theorem gw_635 : (Cond.code ({ cls := "CartPaths", name := "waysAlone", desc := "()LCartPaths$Ways;" } : MethodName) prog_1_method_19_code (1 : Nat) (Option.some (FieldType.object "CartPaths$Ways"))) ∈ GW := gw_t3 23 rfl rfl
theorem gw_636 : (Cond.methodLinkNest "CartPaths" (179 : Nat) ({ cls := "CartPaths$Ways", name := "goAlone", desc := "(LCartPaths$Scene;LCartPaths$Search;)V" } : MethodName) "CartPaths") ∈ GW := gw_t3 24 rfl rfl
theorem gw_638 : (Cond.instanceMethod ({ cls := "CartPaths$Ways", name := "goAlone", desc := "(LCartPaths$Scene;LCartPaths$Search;)V" } : MethodName)) ∈ GW := gw_t3 26 rfl rfl
theorem gw_639 : (Cond.code ({ cls := "CartPaths$Ways", name := "goAlone", desc := "(LCartPaths$Scene;LCartPaths$Search;)V" } : MethodName) prog_10_method_2_code (4 : Nat) (Option.none : Option FieldType)) ∈ GW := gw_t3 27 rfl rfl
theorem gw_640 : (Cond.methodLinkNest "CartPaths$Ways" (37 : Nat) ({ cls := "CartPaths$Search", name := "clear", desc := "()V" } : MethodName) "CartPaths") ∈ GW := gw_t3 28 rfl rfl
theorem gw_641 : (Cond.methodLinkNest "CartPaths$Ways" (42 : Nat) ({ cls := "CartPaths$Search", name := "find", desc := "(LCartPaths$Scene;I[II)I" } : MethodName) "CartPaths") ∈ GW := gw_t3 29 rfl rfl
theorem gw_642 : (Cond.methodLink "CartPathsLaw" (147 : Nat) ({ cls := "CartPathsLaw", name := "read", desc := "(LCartPaths;[J)I" } : MethodName)) ∈ GW := gw_t3 30 rfl rfl
theorem gw_643 : (Cond.static ({ cls := "CartPathsLaw", name := "read", desc := "(LCartPaths;[J)I" } : MethodName)) ∈ GW := gw_t3 31 rfl rfl
theorem gw_644 : (Cond.codeWith ({ cls := "CartPathsLaw", name := "read", desc := "(LCartPaths;[J)I" } : MethodName) method_3_code (3 : Nat) (Option.some FieldType.int) [((0 : Nat), (8 : Nat), (11 : Nat), (13 : Nat))]) ∈ GW := gw_t3 32 rfl rfl
theorem gw_646 : (Cond.methodLink "CartPathsLaw" (7 : Nat) ({ cls := "CartPaths", name := "read", desc := "()I" } : MethodName)) ∈ GW := gw_t3 34 rfl rfl
theorem gw_647 : (Cond.instanceMethod ({ cls := "CartPaths", name := "read", desc := "()I" } : MethodName)) ∈ GW := gw_t3 35 rfl rfl
theorem gw_648 : (Cond.selects "CartPaths" ({ cls := "CartPaths", name := "read", desc := "()I" } : MethodName) ({ cls := "CartPaths", name := "read", desc := "()I" } : MethodName)) ∈ GW := gw_t3 36 rfl rfl
theorem gw_649 : (Cond.code ({ cls := "CartPaths", name := "read", desc := "()I" } : MethodName) prog_1_method_4_code (1 : Nat) (Option.some FieldType.int)) ∈ GW := gw_t3 37 rfl rfl
theorem gw_650 : (Cond.methodLinkNest "CartPaths" (93 : Nat) ({ cls := "CartPaths$TextReader", name := "parse", desc := "()V" } : MethodName) "CartPaths") ∈ GW := gw_t3 38 rfl rfl
theorem gw_652 : (Cond.instanceMethod ({ cls := "CartPaths$TextReader", name := "parse", desc := "()V" } : MethodName)) ∈ GW := gw_t3 40 rfl rfl
theorem gw_653 : (Cond.code ({ cls := "CartPaths$TextReader", name := "parse", desc := "()V" } : MethodName) prog_7_method_3_code (3 : Nat) (Option.none : Option FieldType)) ∈ GW := gw_t3 41 rfl rfl
theorem gw_654 : (Cond.methodLinkNest "CartPaths$TextReader" (35 : Nat) ({ cls := "CartPaths$Scene", name := "empty", desc := "()V" } : MethodName) "CartPaths") ∈ GW := gw_t3 42 rfl rfl
theorem gw_656 : (Cond.instanceMethod ({ cls := "CartPaths$Scene", name := "empty", desc := "()V" } : MethodName)) ∈ GW := gw_t3 44 rfl rfl
theorem gw_657 : (Cond.code ({ cls := "CartPaths$Scene", name := "empty", desc := "()V" } : MethodName) prog_4_method_2_code (1 : Nat) (Option.none : Option FieldType)) ∈ GW := gw_t3 45 rfl rfl
theorem gw_661 : (Cond.methodLink "CartPaths$TextReader" (38 : Nat) ({ cls := "CartPaths$TextReader", name := "takeLine", desc := "()Z" } : MethodName)) ∈ GW := gw_t3 49 rfl rfl
theorem gw_663 : (Cond.instanceMethod ({ cls := "CartPaths$TextReader", name := "takeLine", desc := "()Z" } : MethodName)) ∈ GW := gw_t3 51 rfl rfl
theorem gw_664 : (Cond.code ({ cls := "CartPaths$TextReader", name := "takeLine", desc := "()Z" } : MethodName) prog_7_method_5_code (1 : Nat) (Option.some FieldType.boolean)) ∈ GW := gw_t3 52 rfl rfl
theorem gw_665 : (Cond.methodLink "CartPaths$TextReader" (45 : Nat) ({ cls := "CartPaths$TextReader", name := "skipBlanks", desc := "()V" } : MethodName)) ∈ GW := gw_t3 53 rfl rfl
theorem gw_667 : (Cond.instanceMethod ({ cls := "CartPaths$TextReader", name := "skipBlanks", desc := "()V" } : MethodName)) ∈ GW := gw_t3 55 rfl rfl
theorem gw_668 : (Cond.code ({ cls := "CartPaths$TextReader", name := "skipBlanks", desc := "()V" } : MethodName) prog_7_method_6_code (3 : Nat) (Option.none : Option FieldType)) ∈ GW := gw_t3 56 rfl rfl
theorem gw_669 : (Cond.methodLink "CartPaths$TextReader" (48 : Nat) ({ cls := "CartPaths$TextReader", name := "takeWord", desc := "()V" } : MethodName)) ∈ GW := gw_t3 57 rfl rfl
theorem gw_671 : (Cond.instanceMethod ({ cls := "CartPaths$TextReader", name := "takeWord", desc := "()V" } : MethodName)) ∈ GW := gw_t3 59 rfl rfl
theorem gw_672 : (Cond.code ({ cls := "CartPaths$TextReader", name := "takeWord", desc := "()V" } : MethodName) prog_7_method_7_code (2 : Nat) (Option.none : Option FieldType)) ∈ GW := gw_t3 60 rfl rfl
theorem gw_674 : (Cond.methodLink "CartPaths$TextReader" (53 : Nat) ({ cls := "CartPaths$TextReader", name := "wordIs", desc := "(Ljava/lang/String;)Z" } : MethodName)) ∈ GW := gw_t3 62 rfl rfl
theorem gw_676 : (Cond.instanceMethod ({ cls := "CartPaths$TextReader", name := "wordIs", desc := "(Ljava/lang/String;)Z" } : MethodName)) ∈ GW := gw_t3 64 rfl rfl
theorem gw_677 : (Cond.code ({ cls := "CartPaths$TextReader", name := "wordIs", desc := "(Ljava/lang/String;)Z" } : MethodName) prog_7_method_8_code (3 : Nat) (Option.some FieldType.boolean)) ∈ GW := gw_t3 65 rfl rfl
theorem gw_726 : (Cond.methodLink "CartPaths$TextReader" (60 : Nat) ({ cls := "CartPaths$TextReader", name := "takeRow", desc := "()Z" } : MethodName)) ∈ GW := gw_t3 114 rfl rfl
theorem gw_728 : (Cond.instanceMethod ({ cls := "CartPaths$TextReader", name := "takeRow", desc := "()Z" } : MethodName)) ∈ GW := gw_t3 116 rfl rfl
theorem gw_729 : (Cond.code ({ cls := "CartPaths$TextReader", name := "takeRow", desc := "()Z" } : MethodName) prog_7_method_11_code (4 : Nat) (Option.some FieldType.boolean)) ∈ GW := gw_t3 117 rfl rfl
theorem gw_790 : (Cond.methodLink "CartPaths$TextReader" (71 : Nat) ({ cls := "CartPaths$TextReader", name := "failAt", desc := "(I)Z" } : MethodName)) ∈ GW := gw_t3 178 rfl rfl
theorem gw_792 : (Cond.instanceMethod ({ cls := "CartPaths$TextReader", name := "failAt", desc := "(I)Z" } : MethodName)) ∈ GW := gw_t3 180 rfl rfl
theorem gw_793 : (Cond.code ({ cls := "CartPaths$TextReader", name := "failAt", desc := "(I)Z" } : MethodName) prog_7_method_4_code (2 : Nat) (Option.some FieldType.boolean)) ∈ GW := gw_t3 181 rfl rfl
theorem gw_794 : (Cond.methodLink "CartPaths$TextReader" (63 : Nat) ({ cls := "CartPaths$TextReader", name := "takeSemicolon", desc := "()Z" } : MethodName)) ∈ GW := gw_t3 182 rfl rfl
theorem gw_796 : (Cond.instanceMethod ({ cls := "CartPaths$TextReader", name := "takeSemicolon", desc := "()Z" } : MethodName)) ∈ GW := gw_t3 184 rfl rfl
theorem gw_797 : (Cond.code ({ cls := "CartPaths$TextReader", name := "takeSemicolon", desc := "()Z" } : MethodName) prog_7_method_10_code (1 : Nat) (Option.some FieldType.boolean)) ∈ GW := gw_t3 185 rfl rfl
theorem gw_799 : (Cond.methodLink "CartPaths$TextReader" (68 : Nat) ({ cls := "CartPaths$TextReader", name := "takeCart", desc := "()Z" } : MethodName)) ∈ GW := gw_t3 187 rfl rfl
theorem gw_801 : (Cond.instanceMethod ({ cls := "CartPaths$TextReader", name := "takeCart", desc := "()Z" } : MethodName)) ∈ GW := gw_t3 189 rfl rfl
theorem gw_802 : (Cond.code ({ cls := "CartPaths$TextReader", name := "takeCart", desc := "()Z" } : MethodName) prog_7_method_12_code (2 : Nat) (Option.some FieldType.boolean)) ∈ GW := gw_t3 190 rfl rfl
theorem gw_803 : (Cond.methodLink "CartPaths$TextReader" (96 : Nat) ({ cls := "CartPaths$TextReader", name := "takeName", desc := "(I)Z" } : MethodName)) ∈ GW := gw_t3 191 rfl rfl
theorem gw_805 : (Cond.instanceMethod ({ cls := "CartPaths$TextReader", name := "takeName", desc := "(I)Z" } : MethodName)) ∈ GW := gw_t3 193 rfl rfl
theorem gw_806 : (Cond.code ({ cls := "CartPaths$TextReader", name := "takeName", desc := "(I)Z" } : MethodName) prog_7_method_13_code (5 : Nat) (Option.some FieldType.boolean)) ∈ GW := gw_t3 194 rfl rfl
theorem gw_809 : (Cond.methodLink "CartPaths$TextReader" (116 : Nat) ({ cls := "CartPaths$TextReader", name := "isToldName", desc := "()Z" } : MethodName)) ∈ GW := gw_t3 197 rfl rfl
theorem gw_811 : (Cond.instanceMethod ({ cls := "CartPaths$TextReader", name := "isToldName", desc := "()Z" } : MethodName)) ∈ GW := gw_t3 199 rfl rfl
theorem gw_812 : (Cond.code ({ cls := "CartPaths$TextReader", name := "isToldName", desc := "()Z" } : MethodName) prog_7_method_14_code (4 : Nat) (Option.some FieldType.boolean)) ∈ GW := gw_t3 200 rfl rfl
theorem gw_813 : (Cond.methodLink "CartPaths$TextReader" (101 : Nat) ({ cls := "CartPaths$TextReader", name := "takeGiven", desc := "(Ljava/lang/String;)Z" } : MethodName)) ∈ GW := gw_t3 201 rfl rfl
theorem gw_815 : (Cond.instanceMethod ({ cls := "CartPaths$TextReader", name := "takeGiven", desc := "(Ljava/lang/String;)Z" } : MethodName)) ∈ GW := gw_t3 203 rfl rfl
theorem gw_816 : (Cond.code ({ cls := "CartPaths$TextReader", name := "takeGiven", desc := "(Ljava/lang/String;)Z" } : MethodName) prog_7_method_9_code (2 : Nat) (Option.some FieldType.boolean)) ∈ GW := gw_t3 204 rfl rfl
theorem gw_817 : (Cond.methodLink "CartPaths$TextReader" (107 : Nat) ({ cls := "CartPaths$TextReader", name := "takeCell", desc := "([I)I" } : MethodName)) ∈ GW := gw_t3 205 rfl rfl
theorem gw_819 : (Cond.instanceMethod ({ cls := "CartPaths$TextReader", name := "takeCell", desc := "([I)I" } : MethodName)) ∈ GW := gw_t3 207 rfl rfl
theorem gw_820 : (Cond.code ({ cls := "CartPaths$TextReader", name := "takeCell", desc := "([I)I" } : MethodName) prog_7_method_15_code (5 : Nat) (Option.some FieldType.int)) ∈ GW := gw_t3 208 rfl rfl
theorem gw_821 : (Cond.methodLink "CartPaths$TextReader" (125 : Nat) ({ cls := "CartPaths$TextReader", name := "takeNumber", desc := "(I)I" } : MethodName)) ∈ GW := gw_t3 209 rfl rfl
theorem gw_823 : (Cond.instanceMethod ({ cls := "CartPaths$TextReader", name := "takeNumber", desc := "(I)I" } : MethodName)) ∈ GW := gw_t3 211 rfl rfl
theorem gw_824 : (Cond.code ({ cls := "CartPaths$TextReader", name := "takeNumber", desc := "(I)I" } : MethodName) prog_7_method_16_code (4 : Nat) (Option.some FieldType.int)) ∈ GW := gw_t3 212 rfl rfl
theorem gw_825 : (Cond.methodLinkNest "CartPaths$TextReader" (128 : Nat) ({ cls := "CartPaths", name := "indexOf", desc := "([III)I" } : MethodName) "CartPaths") ∈ GW := gw_t3 213 rfl rfl
theorem gw_826 : (Cond.classLink "CartPaths" (99 : Nat) "java/lang/IllegalArgumentException") ∈ GW := gw_t3 214 rfl rfl
theorem gw_891 : (Cond.methodLinkNest "CartPaths" (103 : Nat) ({ cls := "CartPaths$Scene", name := "copyFrom", desc := "(LCartPaths$Scene;)V" } : MethodName) "CartPaths") ∈ GW := gw_t4 39 rfl rfl
theorem gw_893 : (Cond.instanceMethod ({ cls := "CartPaths$Scene", name := "copyFrom", desc := "(LCartPaths$Scene;)V" } : MethodName)) ∈ GW := gw_t4 41 rfl rfl
theorem gw_894 : (Cond.code ({ cls := "CartPaths$Scene", name := "copyFrom", desc := "(LCartPaths$Scene;)V" } : MethodName) prog_4_method_3_code (2 : Nat) (Option.none : Option FieldType)) ∈ GW := gw_t4 42 rfl rfl
theorem gw_898 : (Cond.methodLinkNest "CartPaths" (107 : Nat) ({ cls := "CartPaths$Acts", name := "clear", desc := "()V" } : MethodName) "CartPaths") ∈ GW := gw_t4 46 rfl rfl
theorem gw_900 : (Cond.instanceMethod ({ cls := "CartPaths$Acts", name := "clear", desc := "()V" } : MethodName)) ∈ GW := gw_t4 48 rfl rfl
theorem gw_901 : (Cond.code ({ cls := "CartPaths$Acts", name := "clear", desc := "()V" } : MethodName) prog_2_method_2_code (1 : Nat) (Option.none : Option FieldType)) ∈ GW := gw_t4 49 rfl rfl
theorem gw_902 : (Cond.methodLink "CartPathsLaw" (160 : Nat) ({ cls := "CartPathsLaw", name := "cell", desc := "(LCartPaths;II[J)I" } : MethodName)) ∈ GW := gw_t4 50 rfl rfl
theorem gw_903 : (Cond.static ({ cls := "CartPathsLaw", name := "cell", desc := "(LCartPaths;II[J)I" } : MethodName)) ∈ GW := gw_t4 51 rfl rfl
theorem gw_904 : (Cond.codeWith ({ cls := "CartPathsLaw", name := "cell", desc := "(LCartPaths;II[J)I" } : MethodName) method_4_code (5 : Nat) (Option.some FieldType.int) [((0 : Nat), (10 : Nat), (13 : Nat), (19 : Nat))]) ∈ GW := gw_t4 52 rfl rfl
theorem gw_906 : (Cond.methodLink "CartPathsLaw" (15 : Nat) ({ cls := "CartPaths", name := "cell", desc := "(II)I" } : MethodName)) ∈ GW := gw_t4 54 rfl rfl
theorem gw_907 : (Cond.instanceMethod ({ cls := "CartPaths", name := "cell", desc := "(II)I" } : MethodName)) ∈ GW := gw_t4 55 rfl rfl
theorem gw_908 : (Cond.selects "CartPaths" ({ cls := "CartPaths", name := "cell", desc := "(II)I" } : MethodName) ({ cls := "CartPaths", name := "cell", desc := "(II)I" } : MethodName)) ∈ GW := gw_t4 56 rfl rfl
theorem gw_909 : (Cond.code ({ cls := "CartPaths", name := "cell", desc := "(II)I" } : MethodName) prog_1_method_12_code (3 : Nat) (Option.some FieldType.int)) ∈ GW := gw_t4 57 rfl rfl
theorem gw_910 : (Cond.methodLink "CartPaths" (129 : Nat) ({ cls := "CartPaths", name := "needCell", desc := "(II)I" } : MethodName)) ∈ GW := gw_t4 58 rfl rfl
theorem gw_912 : (Cond.instanceMethod ({ cls := "CartPaths", name := "needCell", desc := "(II)I" } : MethodName)) ∈ GW := gw_t4 60 rfl rfl
theorem gw_913 : (Cond.code ({ cls := "CartPaths", name := "needCell", desc := "(II)I" } : MethodName) prog_1_method_7_code (3 : Nat) (Option.some FieldType.int)) ∈ GW := gw_t4 61 rfl rfl
theorem gw_914 : (Cond.methodLinkNest "CartPaths" (119 : Nat) ({ cls := "CartPaths$Scene", name := "has", desc := "(II)Z" } : MethodName) "CartPaths") ∈ GW := gw_t4 62 rfl rfl
theorem gw_915 : (Cond.classLink "CartPaths" (123 : Nat) "java/lang/IndexOutOfBoundsException") ∈ GW := gw_t4 63 rfl rfl
theorem gw_930 : (Cond.methodLink "CartPathsLaw" (164 : Nat) ({ cls := "CartPathsLaw", name := "cart", desc := "(LCartPaths;II[J)I" } : MethodName)) ∈ GW := gw_t4 78 rfl rfl
theorem gw_931 : (Cond.static ({ cls := "CartPathsLaw", name := "cart", desc := "(LCartPaths;II[J)I" } : MethodName)) ∈ GW := gw_t4 79 rfl rfl
theorem gw_932 : (Cond.codeWith ({ cls := "CartPathsLaw", name := "cart", desc := "(LCartPaths;II[J)I" } : MethodName) method_5_code (5 : Nat) (Option.some FieldType.int) [((0 : Nat), (10 : Nat), (13 : Nat), (19 : Nat)), ((0 : Nat), (10 : Nat), (17 : Nat), (24 : Nat))]) ∈ GW := gw_t4 80 rfl rfl
theorem gw_934 : (Cond.methodLink "CartPathsLaw" (21 : Nat) ({ cls := "CartPaths", name := "cart", desc := "(II)I" } : MethodName)) ∈ GW := gw_t4 82 rfl rfl
theorem gw_935 : (Cond.instanceMethod ({ cls := "CartPaths", name := "cart", desc := "(II)I" } : MethodName)) ∈ GW := gw_t4 83 rfl rfl
theorem gw_936 : (Cond.selects "CartPaths" ({ cls := "CartPaths", name := "cart", desc := "(II)I" } : MethodName) ({ cls := "CartPaths", name := "cart", desc := "(II)I" } : MethodName)) ∈ GW := gw_t4 84 rfl rfl
theorem gw_937 : (Cond.code ({ cls := "CartPaths", name := "cart", desc := "(II)I" } : MethodName) prog_1_method_13_code (3 : Nat) (Option.some FieldType.int)) ∈ GW := gw_t4 85 rfl rfl
theorem gw_938 : (Cond.methodLink "CartPaths" (133 : Nat) ({ cls := "CartPaths", name := "needCart", desc := "(I)V" } : MethodName)) ∈ GW := gw_t4 86 rfl rfl
theorem gw_940 : (Cond.instanceMethod ({ cls := "CartPaths", name := "needCart", desc := "(I)V" } : MethodName)) ∈ GW := gw_t4 88 rfl rfl
theorem gw_941 : (Cond.code ({ cls := "CartPaths", name := "needCart", desc := "(I)V" } : MethodName) prog_1_method_8_code (2 : Nat) (Option.none : Option FieldType)) ∈ GW := gw_t4 89 rfl rfl
theorem gw_942 : (Cond.classLink "CartPaths" (142 : Nat) "java/util/NoSuchElementException") ∈ GW := gw_t4 90 rfl rfl
theorem gw_957 : (Cond.methodLink "CartPathsLaw" (167 : Nat) ({ cls := "CartPathsLaw", name := "name", desc := "(LCartPaths;II[J)I" } : MethodName)) ∈ GW := gw_t4 105 rfl rfl
theorem gw_958 : (Cond.static ({ cls := "CartPathsLaw", name := "name", desc := "(LCartPaths;II[J)I" } : MethodName)) ∈ GW := gw_t4 106 rfl rfl
theorem gw_959 : (Cond.codeWith ({ cls := "CartPathsLaw", name := "name", desc := "(LCartPaths;II[J)I" } : MethodName) method_6_code (5 : Nat) (Option.some FieldType.int) [((0 : Nat), (10 : Nat), (13 : Nat), (19 : Nat))]) ∈ GW := gw_t4 107 rfl rfl
theorem gw_960 : (Cond.methodLink "CartPathsLaw" (26 : Nat) ({ cls := "CartPaths", name := "name", desc := "(II)I" } : MethodName)) ∈ GW := gw_t4 108 rfl rfl
theorem gw_961 : (Cond.instanceMethod ({ cls := "CartPaths", name := "name", desc := "(II)I" } : MethodName)) ∈ GW := gw_t4 109 rfl rfl
theorem gw_962 : (Cond.selects "CartPaths" ({ cls := "CartPaths", name := "name", desc := "(II)I" } : MethodName) ({ cls := "CartPaths", name := "name", desc := "(II)I" } : MethodName)) ∈ GW := gw_t4 110 rfl rfl
theorem gw_963 : (Cond.code ({ cls := "CartPaths", name := "name", desc := "(II)I" } : MethodName) prog_1_method_14_code (3 : Nat) (Option.some FieldType.int)) ∈ GW := gw_t4 111 rfl rfl
theorem gw_964 : (Cond.methodLink "CartPathsLaw" (170 : Nat) ({ cls := "CartPathsLaw", name := "tell", desc := "(LCartPaths;III[J)I" } : MethodName)) ∈ GW := gw_t4 112 rfl rfl
theorem gw_965 : (Cond.static ({ cls := "CartPathsLaw", name := "tell", desc := "(LCartPaths;III[J)I" } : MethodName)) ∈ GW := gw_t4 113 rfl rfl
theorem gw_966 : (Cond.codeWith ({ cls := "CartPathsLaw", name := "tell", desc := "(LCartPaths;III[J)I" } : MethodName) method_7_code (6 : Nat) (Option.some FieldType.int) [((0 : Nat), (12 : Nat), (15 : Nat), (19 : Nat)), ((0 : Nat), (12 : Nat), (19 : Nat), (13 : Nat)), ((0 : Nat), (12 : Nat), (23 : Nat), (33 : Nat))]) ∈ GW := gw_t4 114 rfl rfl
theorem gw_968 : (Cond.methodLink "CartPathsLaw" (29 : Nat) ({ cls := "CartPaths", name := "tell", desc := "(III)I" } : MethodName)) ∈ GW := gw_t4 116 rfl rfl
theorem gw_969 : (Cond.instanceMethod ({ cls := "CartPaths", name := "tell", desc := "(III)I" } : MethodName)) ∈ GW := gw_t4 117 rfl rfl
theorem gw_970 : (Cond.selects "CartPaths" ({ cls := "CartPaths", name := "tell", desc := "(III)I" } : MethodName) ({ cls := "CartPaths", name := "tell", desc := "(III)I" } : MethodName)) ∈ GW := gw_t4 118 rfl rfl
theorem gw_971 : (Cond.code ({ cls := "CartPaths", name := "tell", desc := "(III)I" } : MethodName) prog_1_method_15_code (6 : Nat) (Option.some FieldType.int)) ∈ GW := gw_t4 119 rfl rfl
theorem gw_972 : (Cond.methodLinkNest "CartPaths" (151 : Nat) ({ cls := "CartPaths$Scene", name := "isTaken", desc := "(I)Z" } : MethodName) "CartPaths") ∈ GW := gw_t4 120 rfl rfl
theorem gw_974 : (Cond.instanceMethod ({ cls := "CartPaths$Scene", name := "isTaken", desc := "(I)Z" } : MethodName)) ∈ GW := gw_t4 122 rfl rfl
theorem gw_975 : (Cond.code ({ cls := "CartPaths$Scene", name := "isTaken", desc := "(I)Z" } : MethodName) prog_4_method_5_code (2 : Nat) (Option.some FieldType.boolean)) ∈ GW := gw_t4 123 rfl rfl
theorem gw_976 : (Cond.methodLinkNest "CartPaths$Scene" (53 : Nat) ({ cls := "CartPaths", name := "indexOf", desc := "([III)I" } : MethodName) "CartPaths") ∈ GW := gw_t4 124 rfl rfl
theorem gw_977 : (Cond.classLink "CartPaths" (155 : Nat) "java/lang/IllegalStateException") ∈ GW := gw_t4 125 rfl rfl
theorem gw_992 : (Cond.methodLinkNest "CartPaths" (158 : Nat) ({ cls := "CartPaths$Acts", name := "keep", desc := "(III)V" } : MethodName) "CartPaths") ∈ GW := gw_t4 140 rfl rfl
theorem gw_994 : (Cond.instanceMethod ({ cls := "CartPaths$Acts", name := "keep", desc := "(III)V" } : MethodName)) ∈ GW := gw_t4 142 rfl rfl
theorem gw_995 : (Cond.code ({ cls := "CartPaths$Acts", name := "keep", desc := "(III)V" } : MethodName) prog_2_method_3_code (4 : Nat) (Option.none : Option FieldType)) ∈ GW := gw_t4 143 rfl rfl
theorem gw_997 : (Cond.methodLink "CartPathsLaw" (174 : Nat) ({ cls := "CartPathsLaw", name := "goal", desc := "(LCartPaths;III[J)I" } : MethodName)) ∈ GW := gw_t4 145 rfl rfl
theorem gw_998 : (Cond.static ({ cls := "CartPathsLaw", name := "goal", desc := "(LCartPaths;III[J)I" } : MethodName)) ∈ GW := gw_t4 146 rfl rfl
theorem gw_999 : (Cond.codeWith ({ cls := "CartPathsLaw", name := "goal", desc := "(LCartPaths;III[J)I" } : MethodName) method_8_code (6 : Nat) (Option.some FieldType.int) [((0 : Nat), (12 : Nat), (15 : Nat), (19 : Nat)), ((0 : Nat), (12 : Nat), (19 : Nat), (33 : Nat))]) ∈ GW := gw_t4 147 rfl rfl
theorem gw_1000 : (Cond.methodLink "CartPathsLaw" (35 : Nat) ({ cls := "CartPaths", name := "goal", desc := "(III)I" } : MethodName)) ∈ GW := gw_t4 148 rfl rfl
theorem gw_1001 : (Cond.instanceMethod ({ cls := "CartPaths", name := "goal", desc := "(III)I" } : MethodName)) ∈ GW := gw_t4 149 rfl rfl
theorem gw_1002 : (Cond.selects "CartPaths" ({ cls := "CartPaths", name := "goal", desc := "(III)I" } : MethodName) ({ cls := "CartPaths", name := "goal", desc := "(III)I" } : MethodName)) ∈ GW := gw_t4 150 rfl rfl
theorem gw_1003 : (Cond.code ({ cls := "CartPaths", name := "goal", desc := "(III)I" } : MethodName) prog_1_method_16_code (7 : Nat) (Option.some FieldType.int)) ∈ GW := gw_t4 151 rfl rfl
theorem gw_1004 : (Cond.methodLink "CartPaths" (162 : Nat) ({ cls := "CartPaths", name := "indexOf", desc := "([III)I" } : MethodName)) ∈ GW := gw_t4 152 rfl rfl
theorem gw_1005 : (Cond.methodLink "CartPathsLaw" (177 : Nat) ({ cls := "CartPathsLaw", name := "change", desc := "(LCartPaths;II)I" } : MethodName)) ∈ GW := gw_t4 153 rfl rfl
theorem gw_1006 : (Cond.static ({ cls := "CartPathsLaw", name := "change", desc := "(LCartPaths;II)I" } : MethodName)) ∈ GW := gw_t4 154 rfl rfl
theorem gw_1007 : (Cond.codeWith ({ cls := "CartPathsLaw", name := "change", desc := "(LCartPaths;II)I" } : MethodName) method_9_code (4 : Nat) (Option.some FieldType.int) [((0 : Nat), (6 : Nat), (9 : Nat), (19 : Nat)), ((0 : Nat), (6 : Nat), (12 : Nat), (13 : Nat))]) ∈ GW := gw_t4 155 rfl rfl
theorem gw_1008 : (Cond.methodLink "CartPathsLaw" (38 : Nat) ({ cls := "CartPaths", name := "change", desc := "(II)V" } : MethodName)) ∈ GW := gw_t4 156 rfl rfl
theorem gw_1009 : (Cond.instanceMethod ({ cls := "CartPaths", name := "change", desc := "(II)V" } : MethodName)) ∈ GW := gw_t4 157 rfl rfl
theorem gw_1010 : (Cond.selects "CartPaths" ({ cls := "CartPaths", name := "change", desc := "(II)V" } : MethodName) ({ cls := "CartPaths", name := "change", desc := "(II)V" } : MethodName)) ∈ GW := gw_t4 158 rfl rfl
theorem gw_1011 : (Cond.code ({ cls := "CartPaths", name := "change", desc := "(II)V" } : MethodName) prog_1_method_17_code (3 : Nat) (Option.none : Option FieldType)) ∈ GW := gw_t4 159 rfl rfl
theorem gw_1012 : (Cond.methodLink "CartPaths" (166 : Nat) ({ cls := "CartPaths", name := "needTwo", desc := "(II)V" } : MethodName)) ∈ GW := gw_t4 160 rfl rfl
theorem gw_1013 : (Cond.static ({ cls := "CartPaths", name := "needTwo", desc := "(II)V" } : MethodName)) ∈ GW := gw_t4 161 rfl rfl
theorem gw_1014 : (Cond.code ({ cls := "CartPaths", name := "needTwo", desc := "(II)V" } : MethodName) prog_1_method_11_code (2 : Nat) (Option.none : Option FieldType)) ∈ GW := gw_t4 162 rfl rfl
theorem gw_1015 : (Cond.methodLinkNest "CartPaths" (170 : Nat) ({ cls := "CartPaths$Scene", name := "swapGoals", desc := "(II)V" } : MethodName) "CartPaths") ∈ GW := gw_t4 163 rfl rfl
theorem gw_1016 : (Cond.methodLink "CartPathsLaw" (185 : Nat) ({ cls := "CartPathsLaw", name := "cost", desc := "(LCartPaths;I[J)I" } : MethodName)) ∈ GW := gw_t4 164 rfl rfl
theorem gw_1017 : (Cond.static ({ cls := "CartPathsLaw", name := "cost", desc := "(LCartPaths;I[J)I" } : MethodName)) ∈ GW := gw_t4 165 rfl rfl
theorem gw_1018 : (Cond.codeWith ({ cls := "CartPathsLaw", name := "cost", desc := "(LCartPaths;I[J)I" } : MethodName) method_10_code (4 : Nat) (Option.some FieldType.int) [((0 : Nat), (9 : Nat), (12 : Nat), (19 : Nat))]) ∈ GW := gw_t4 166 rfl rfl
theorem gw_1019 : (Cond.methodLink "CartPathsLaw" (42 : Nat) ({ cls := "CartPaths", name := "cost", desc := "(I)I" } : MethodName)) ∈ GW := gw_t4 167 rfl rfl
theorem gw_1020 : (Cond.instanceMethod ({ cls := "CartPaths", name := "cost", desc := "(I)I" } : MethodName)) ∈ GW := gw_t4 168 rfl rfl
theorem gw_1021 : (Cond.selects "CartPaths" ({ cls := "CartPaths", name := "cost", desc := "(I)I" } : MethodName) ({ cls := "CartPaths", name := "cost", desc := "(I)I" } : MethodName)) ∈ GW := gw_t4 169 rfl rfl
theorem gw_1022 : (Cond.code ({ cls := "CartPaths", name := "cost", desc := "(I)I" } : MethodName) prog_1_method_20_code (2 : Nat) (Option.some FieldType.int)) ∈ GW := gw_t4 170 rfl rfl
theorem gw_1023 : (Cond.methodLink "CartPathsLaw" (189 : Nat) ({ cls := "CartPathsLaw", name := "alone", desc := "(LCartPaths;II[J)I" } : MethodName)) ∈ GW := gw_t4 171 rfl rfl
theorem gw_1024 : (Cond.static ({ cls := "CartPathsLaw", name := "alone", desc := "(LCartPaths;II[J)I" } : MethodName)) ∈ GW := gw_t4 172 rfl rfl
theorem gw_1025 : (Cond.codeWith ({ cls := "CartPathsLaw", name := "alone", desc := "(LCartPaths;II[J)I" } : MethodName) method_11_code (5 : Nat) (Option.some FieldType.int) [((0 : Nat), (10 : Nat), (13 : Nat), (19 : Nat)), ((0 : Nat), (10 : Nat), (17 : Nat), (13 : Nat))]) ∈ GW := gw_t4 173 rfl rfl
theorem gw_1026 : (Cond.methodLink "CartPathsLaw" (46 : Nat) ({ cls := "CartPaths", name := "alone", desc := "(II)I" } : MethodName)) ∈ GW := gw_t4 174 rfl rfl
theorem gw_1027 : (Cond.instanceMethod ({ cls := "CartPaths", name := "alone", desc := "(II)I" } : MethodName)) ∈ GW := gw_t4 175 rfl rfl
theorem gw_1028 : (Cond.selects "CartPaths" ({ cls := "CartPaths", name := "alone", desc := "(II)I" } : MethodName) ({ cls := "CartPaths", name := "alone", desc := "(II)I" } : MethodName)) ∈ GW := gw_t4 176 rfl rfl
theorem gw_1029 : (Cond.code ({ cls := "CartPaths", name := "alone", desc := "(II)I" } : MethodName) prog_1_method_21_code (4 : Nat) (Option.some FieldType.int)) ∈ GW := gw_t4 177 rfl rfl
theorem gw_1030 : (Cond.methodLink "CartPaths" (190 : Nat) ({ cls := "CartPaths", name := "needTime", desc := "(I)V" } : MethodName)) ∈ GW := gw_t4 178 rfl rfl
theorem gw_1031 : (Cond.static ({ cls := "CartPaths", name := "needTime", desc := "(I)V" } : MethodName)) ∈ GW := gw_t4 179 rfl rfl
theorem gw_1032 : (Cond.code ({ cls := "CartPaths", name := "needTime", desc := "(I)V" } : MethodName) prog_1_method_9_code (1 : Nat) (Option.none : Option FieldType)) ∈ GW := gw_t4 180 rfl rfl
theorem gw_1033 : (Cond.methodLinkNest "CartPaths" (193 : Nat) ({ cls := "CartPaths$Ways", name := "cellOf", desc := "(II)I" } : MethodName) "CartPaths") ∈ GW := gw_t4 181 rfl rfl
theorem gw_1034 : (Cond.methodLink "CartPathsLaw" (192 : Nat) ({ cls := "CartPathsLaw", name := "clash", desc := "(LCartPaths;I[J)I" } : MethodName)) ∈ GW := gw_t4 182 rfl rfl
theorem gw_1035 : (Cond.static ({ cls := "CartPathsLaw", name := "clash", desc := "(LCartPaths;I[J)I" } : MethodName)) ∈ GW := gw_t4 183 rfl rfl
theorem gw_1036 : (Cond.codeWith ({ cls := "CartPathsLaw", name := "clash", desc := "(LCartPaths;I[J)I" } : MethodName) method_12_code (4 : Nat) (Option.some FieldType.int) [((0 : Nat), (9 : Nat), (12 : Nat), (24 : Nat)), ((0 : Nat), (9 : Nat), (15 : Nat), (33 : Nat))]) ∈ GW := gw_t4 184 rfl rfl
theorem gw_1037 : (Cond.methodLink "CartPathsLaw" (49 : Nat) ({ cls := "CartPaths", name := "clash", desc := "(I)I" } : MethodName)) ∈ GW := gw_t4 185 rfl rfl
theorem gw_1038 : (Cond.instanceMethod ({ cls := "CartPaths", name := "clash", desc := "(I)I" } : MethodName)) ∈ GW := gw_t4 186 rfl rfl
theorem gw_1039 : (Cond.selects "CartPaths" ({ cls := "CartPaths", name := "clash", desc := "(I)I" } : MethodName) ({ cls := "CartPaths", name := "clash", desc := "(I)I" } : MethodName)) ∈ GW := gw_t4 187 rfl rfl
theorem gw_1040 : (Cond.code ({ cls := "CartPaths", name := "clash", desc := "(I)I" } : MethodName) prog_1_method_22_code (3 : Nat) (Option.some FieldType.int)) ∈ GW := gw_t4 188 rfl rfl
theorem gw_1041 : (Cond.methodLinkNest "CartPaths" (200 : Nat) ({ cls := "CartPaths$Ways", name := "findFirstClash", desc := "()V" } : MethodName) "CartPaths") ∈ GW := gw_t4 189 rfl rfl
theorem gw_1043 : (Cond.instanceMethod ({ cls := "CartPaths$Ways", name := "findFirstClash", desc := "()V" } : MethodName)) ∈ GW := gw_t4 191 rfl rfl
theorem gw_1044 : (Cond.code ({ cls := "CartPaths$Ways", name := "findFirstClash", desc := "()V" } : MethodName) prog_10_method_19_code (3 : Nat) (Option.none : Option FieldType)) ∈ GW := gw_t4 192 rfl rfl
theorem gw_1045 : (Cond.methodLink "CartPaths$Ways" (84 : Nat) ({ cls := "CartPaths$Ways", name := "keepClash", desc := "(IIII)V" } : MethodName)) ∈ GW := gw_t4 193 rfl rfl
theorem gw_1047 : (Cond.instanceMethod ({ cls := "CartPaths$Ways", name := "keepClash", desc := "(IIII)V" } : MethodName)) ∈ GW := gw_t4 195 rfl rfl
theorem gw_1048 : (Cond.code ({ cls := "CartPaths$Ways", name := "keepClash", desc := "(IIII)V" } : MethodName) prog_10_method_21_code (5 : Nat) (Option.none : Option FieldType)) ∈ GW := gw_t4 196 rfl rfl
theorem gw_1049 : (Cond.methodLink "CartPaths$Ways" (76 : Nat) ({ cls := "CartPaths$Ways", name := "lastEnd", desc := "()I" } : MethodName)) ∈ GW := gw_t4 197 rfl rfl
theorem gw_1051 : (Cond.instanceMethod ({ cls := "CartPaths$Ways", name := "lastEnd", desc := "()I" } : MethodName)) ∈ GW := gw_t4 199 rfl rfl
theorem gw_1052 : (Cond.code ({ cls := "CartPaths$Ways", name := "lastEnd", desc := "()I" } : MethodName) prog_10_method_6_code (3 : Nat) (Option.some FieldType.int)) ∈ GW := gw_t4 200 rfl rfl
theorem gw_1053 : (Cond.methodLink "CartPaths$Ways" (88 : Nat) ({ cls := "CartPaths$Ways", name := "findClashAt", desc := "(II)V" } : MethodName)) ∈ GW := gw_t4 201 rfl rfl
theorem gw_1055 : (Cond.instanceMethod ({ cls := "CartPaths$Ways", name := "findClashAt", desc := "(II)V" } : MethodName)) ∈ GW := gw_t4 203 rfl rfl
theorem gw_1056 : (Cond.code ({ cls := "CartPaths$Ways", name := "findClashAt", desc := "(II)V" } : MethodName) prog_10_method_20_code (5 : Nat) (Option.none : Option FieldType)) ∈ GW := gw_t4 204 rfl rfl
theorem gw_1057 : (Cond.methodLink "CartPaths$Ways" (80 : Nat) ({ cls := "CartPaths$Ways", name := "sortOfClash", desc := "(III)I" } : MethodName)) ∈ GW := gw_t4 205 rfl rfl
theorem gw_1059 : (Cond.instanceMethod ({ cls := "CartPaths$Ways", name := "sortOfClash", desc := "(III)I" } : MethodName)) ∈ GW := gw_t4 207 rfl rfl
theorem gw_1060 : (Cond.code ({ cls := "CartPaths$Ways", name := "sortOfClash", desc := "(III)I" } : MethodName) prog_10_method_18_code (6 : Nat) (Option.some FieldType.int)) ∈ GW := gw_t4 208 rfl rfl
theorem gw_1061 : (Cond.methodLinkNest "CartPaths" (203 : Nat) ({ cls := "CartPaths$Ways", name := "countClashes", desc := "()I" } : MethodName) "CartPaths") ∈ GW := gw_t4 209 rfl rfl
theorem gw_1063 : (Cond.instanceMethod ({ cls := "CartPaths$Ways", name := "countClashes", desc := "()I" } : MethodName)) ∈ GW := gw_t4 211 rfl rfl
theorem gw_1064 : (Cond.code ({ cls := "CartPaths$Ways", name := "countClashes", desc := "()I" } : MethodName) prog_10_method_17_code (6 : Nat) (Option.some FieldType.int)) ∈ GW := gw_t4 212 rfl rfl
theorem gw_1065 : (Cond.methodLink "CartPathsLaw" (195 : Nat) ({ cls := "CartPathsLaw", name := "reach", desc := "(LCartPaths;I[J)I" } : MethodName)) ∈ GW := gw_t4 213 rfl rfl
theorem gw_1066 : (Cond.static ({ cls := "CartPathsLaw", name := "reach", desc := "(LCartPaths;I[J)I" } : MethodName)) ∈ GW := gw_t4 214 rfl rfl
theorem gw_1067 : (Cond.codeWith ({ cls := "CartPathsLaw", name := "reach", desc := "(LCartPaths;I[J)I" } : MethodName) method_13_code (4 : Nat) (Option.some FieldType.int) [((0 : Nat), (9 : Nat), (12 : Nat), (19 : Nat))]) ∈ GW := gw_t4 215 rfl rfl
theorem gw_1068 : (Cond.methodLink "CartPathsLaw" (52 : Nat) ({ cls := "CartPaths", name := "reach", desc := "(I)I" } : MethodName)) ∈ GW := gw_t4 216 rfl rfl
theorem gw_1069 : (Cond.instanceMethod ({ cls := "CartPaths", name := "reach", desc := "(I)I" } : MethodName)) ∈ GW := gw_t4 217 rfl rfl
theorem gw_1070 : (Cond.selects "CartPaths" ({ cls := "CartPaths", name := "reach", desc := "(I)I" } : MethodName) ({ cls := "CartPaths", name := "reach", desc := "(I)I" } : MethodName)) ∈ GW := gw_t4 218 rfl rfl
theorem gw_1071 : (Cond.code ({ cls := "CartPaths", name := "reach", desc := "(I)I" } : MethodName) prog_1_method_23_code (2 : Nat) (Option.some FieldType.int)) ∈ GW := gw_t4 219 rfl rfl
theorem gw_1072 : (Cond.methodLinkNest "CartPaths" (219 : Nat) ({ cls := "CartPaths$Scene", name := "reachedFrom", desc := "(I)J" } : MethodName) "CartPaths") ∈ GW := gw_t4 220 rfl rfl
theorem gw_1074 : (Cond.instanceMethod ({ cls := "CartPaths$Scene", name := "reachedFrom", desc := "(I)J" } : MethodName)) ∈ GW := gw_t4 222 rfl rfl
theorem gw_1075 : (Cond.code ({ cls := "CartPaths$Scene", name := "reachedFrom", desc := "(I)J" } : MethodName) prog_4_method_10_code (5 : Nat) (Option.some FieldType.long)) ∈ GW := gw_t4 223 rfl rfl
theorem gw_1082 : (Cond.methodLink "CartPathsLaw" (198 : Nat) ({ cls := "CartPathsLaw", name := "far", desc := "(LCartPaths;IIII[J)I" } : MethodName)) ∈ GW := gw_t4 230 rfl rfl
theorem gw_1083 : (Cond.static ({ cls := "CartPathsLaw", name := "far", desc := "(LCartPaths;IIII[J)I" } : MethodName)) ∈ GW := gw_t4 231 rfl rfl
theorem gw_1084 : (Cond.codeWith ({ cls := "CartPathsLaw", name := "far", desc := "(LCartPaths;IIII[J)I" } : MethodName) method_14_code (7 : Nat) (Option.some FieldType.int) [((0 : Nat), (14 : Nat), (17 : Nat), (19 : Nat))]) ∈ GW := gw_t4 232 rfl rfl
theorem gw_1085 : (Cond.methodLink "CartPathsLaw" (55 : Nat) ({ cls := "CartPaths", name := "far", desc := "(IIII)I" } : MethodName)) ∈ GW := gw_t4 233 rfl rfl
theorem gw_1086 : (Cond.instanceMethod ({ cls := "CartPaths", name := "far", desc := "(IIII)I" } : MethodName)) ∈ GW := gw_t4 234 rfl rfl
theorem gw_1087 : (Cond.selects "CartPaths" ({ cls := "CartPaths", name := "far", desc := "(IIII)I" } : MethodName) ({ cls := "CartPaths", name := "far", desc := "(IIII)I" } : MethodName)) ∈ GW := gw_t4 235 rfl rfl
theorem gw_1088 : (Cond.code ({ cls := "CartPaths", name := "far", desc := "(IIII)I" } : MethodName) prog_1_method_24_code (7 : Nat) (Option.some FieldType.int)) ∈ GW := gw_t4 236 rfl rfl
theorem gw_1089 : (Cond.methodLinkNest "CartPaths" (229 : Nat) ({ cls := "CartPaths$Search", name := "clear", desc := "()V" } : MethodName) "CartPaths") ∈ GW := gw_t4 237 rfl rfl
theorem gw_1090 : (Cond.methodLinkNest "CartPaths" (230 : Nat) ({ cls := "CartPaths$Search", name := "leastCost", desc := "(LCartPaths$Scene;II)I" } : MethodName) "CartPaths") ∈ GW := gw_t4 238 rfl rfl
theorem gw_1091 : (Cond.methodLink "CartPathsLaw" (202 : Nat) ({ cls := "CartPathsLaw", name := "plan", desc := "(LCartPaths;II[J)I" } : MethodName)) ∈ GW := gw_t4 239 rfl rfl
theorem gw_1092 : (Cond.static ({ cls := "CartPathsLaw", name := "plan", desc := "(LCartPaths;II[J)I" } : MethodName)) ∈ GW := gw_t5 0 rfl rfl
theorem gw_1093 : (Cond.codeWith ({ cls := "CartPathsLaw", name := "plan", desc := "(LCartPaths;II[J)I" } : MethodName) method_15_code (5 : Nat) (Option.some FieldType.int) [((0 : Nat), (10 : Nat), (13 : Nat), (13 : Nat)), ((0 : Nat), (10 : Nat), (17 : Nat), (24 : Nat))]) ∈ GW := gw_t5 1 rfl rfl
theorem gw_1094 : (Cond.methodLink "CartPathsLaw" (59 : Nat) ({ cls := "CartPaths", name := "plan", desc := "(II)I" } : MethodName)) ∈ GW := gw_t5 2 rfl rfl
theorem gw_1095 : (Cond.instanceMethod ({ cls := "CartPaths", name := "plan", desc := "(II)I" } : MethodName)) ∈ GW := gw_t5 3 rfl rfl
theorem gw_1096 : (Cond.selects "CartPaths" ({ cls := "CartPaths", name := "plan", desc := "(II)I" } : MethodName) ({ cls := "CartPaths", name := "plan", desc := "(II)I" } : MethodName)) ∈ GW := gw_t5 4 rfl rfl
theorem gw_1097 : (Cond.code ({ cls := "CartPaths", name := "plan", desc := "(II)I" } : MethodName) prog_1_method_28_code (5 : Nat) (Option.some FieldType.int)) ∈ GW := gw_t5 5 rfl rfl
theorem gw_1098 : (Cond.methodLink "CartPaths" (239 : Nat) ({ cls := "CartPaths", name := "treeOf", desc := "(I)LCartPaths$Tree;" } : MethodName)) ∈ GW := gw_t5 6 rfl rfl
theorem gw_1100 : (Cond.instanceMethod ({ cls := "CartPaths", name := "treeOf", desc := "(I)LCartPaths$Tree;" } : MethodName)) ∈ GW := gw_t5 8 rfl rfl
theorem gw_1101 : (Cond.code ({ cls := "CartPaths", name := "treeOf", desc := "(I)LCartPaths$Tree;" } : MethodName) prog_1_method_25_code (3 : Nat) (Option.some (FieldType.object "CartPaths$Tree"))) ∈ GW := gw_t5 9 rfl rfl
theorem gw_1102 : (Cond.methodLinkNest "CartPaths" (235 : Nat) ({ cls := "CartPaths$Tree", name := "build", desc := "(LCartPaths$Scene;LCartPaths$Search;I)V" } : MethodName) "CartPaths") ∈ GW := gw_t5 10 rfl rfl
theorem gw_1104 : (Cond.instanceMethod ({ cls := "CartPaths$Tree", name := "build", desc := "(LCartPaths$Scene;LCartPaths$Search;I)V" } : MethodName)) ∈ GW := gw_t5 12 rfl rfl
theorem gw_1105 : (Cond.code ({ cls := "CartPaths$Tree", name := "build", desc := "(LCartPaths$Scene;LCartPaths$Search;I)V" } : MethodName) prog_8_method_2_code (7 : Nat) (Option.none : Option FieldType)) ∈ GW := gw_t5 13 rfl rfl
theorem gw_1106 : (Cond.methodLinkNest "CartPaths$Tree" (51 : Nat) ({ cls := "CartPaths$Ways", name := "goAlone", desc := "(LCartPaths$Scene;LCartPaths$Search;)V" } : MethodName) "CartPaths") ∈ GW := gw_t5 14 rfl rfl
theorem gw_1107 : (Cond.methodLinkNest "CartPaths$Tree" (55 : Nat) ({ cls := "CartPaths$Ways", name := "allGo", desc := "()Z" } : MethodName) "CartPaths") ∈ GW := gw_t5 15 rfl rfl
theorem gw_1108 : (Cond.methodLink "CartPaths$Tree" (59 : Nat) ({ cls := "CartPaths$Tree", name := "addRoot", desc := "()V" } : MethodName)) ∈ GW := gw_t5 16 rfl rfl
theorem gw_1110 : (Cond.instanceMethod ({ cls := "CartPaths$Tree", name := "addRoot", desc := "()V" } : MethodName)) ∈ GW := gw_t5 18 rfl rfl
theorem gw_1111 : (Cond.code ({ cls := "CartPaths$Tree", name := "addRoot", desc := "()V" } : MethodName) prog_8_method_4_code (2 : Nat) (Option.none : Option FieldType)) ∈ GW := gw_t5 19 rfl rfl
theorem gw_1112 : (Cond.methodLink "CartPaths$Tree" (86 : Nat) ({ cls := "CartPaths$Tree", name := "nextNode", desc := "()LCartPaths$Node;" } : MethodName)) ∈ GW := gw_t5 20 rfl rfl
theorem gw_1114 : (Cond.instanceMethod ({ cls := "CartPaths$Tree", name := "nextNode", desc := "()LCartPaths$Node;" } : MethodName)) ∈ GW := gw_t5 22 rfl rfl
theorem gw_1115 : (Cond.code ({ cls := "CartPaths$Tree", name := "nextNode", desc := "()LCartPaths$Node;" } : MethodName) prog_8_method_3_code (1 : Nat) (Option.some (FieldType.object "CartPaths$Node"))) ∈ GW := gw_t5 23 rfl rfl
theorem gw_1116 : (Cond.instantiable "CartPaths$Node" (12 : Nat)) ∈ GW := gw_t5 24 rfl rfl
theorem gw_1117 : (Cond.methodLinkNest "CartPaths$Tree" (83 : Nat) ({ cls := "CartPaths$Node", name := "<init>", desc := "(I)V" } : MethodName) "CartPaths") ∈ GW := gw_t5 25 rfl rfl
theorem gw_1118 : (Cond.instanceMethod ({ cls := "CartPaths$Node", name := "<init>", desc := "(I)V" } : MethodName)) ∈ GW := gw_t5 26 rfl rfl
theorem gw_1119 : (Cond.code ({ cls := "CartPaths$Node", name := "<init>", desc := "(I)V" } : MethodName) prog_3_method_1_code (2 : Nat) (Option.none : Option FieldType)) ∈ GW := gw_t5 27 rfl rfl
theorem gw_1120 : (Cond.methodLink "CartPaths$Node" (3 : Nat) ({ cls := "java/lang/Object", name := "<init>", desc := "()V" } : MethodName)) ∈ GW := gw_t5 28 rfl rfl
theorem gw_1121 : (Cond.fieldLink "CartPaths$Node" (48 : Nat) "CartPaths$Node" "number" "I") ∈ GW := gw_t5 29 rfl rfl
theorem gw_1122 : (Cond.fieldLinkNest "CartPaths$Tree" (110 : Nat) "CartPaths$Node" "number" "I" "CartPaths") ∈ GW := gw_t5 30 rfl rfl
theorem gw_1123 : (Cond.fieldLinkNest "CartPaths" (278 : Nat) "CartPaths$Node" "number" "I" "CartPaths") ∈ GW := gw_t5 31 rfl rfl
theorem gw_1124 : (Cond.fieldLink "CartPaths$Node" (9 : Nat) "CartPaths$Node" "parent" "LCartPaths$Node;") ∈ GW := gw_t5 32 rfl rfl
theorem gw_1125 : (Cond.fieldLinkNest "CartPaths$Tree" (119 : Nat) "CartPaths$Node" "parent" "LCartPaths$Node;" "CartPaths") ∈ GW := gw_t5 33 rfl rfl
theorem gw_1126 : (Cond.fieldLinkNest "CartPaths" (272 : Nat) "CartPaths$Node" "parent" "LCartPaths$Node;" "CartPaths") ∈ GW := gw_t5 34 rfl rfl
theorem gw_1127 : (Cond.fieldLink "CartPaths$Node" (15 : Nat) "CartPaths$Node" "cart" "I") ∈ GW := gw_t5 35 rfl rfl
theorem gw_1128 : (Cond.fieldLinkNest "CartPaths$Tree" (123 : Nat) "CartPaths$Node" "cart" "I" "CartPaths") ∈ GW := gw_t5 36 rfl rfl
theorem gw_1129 : (Cond.fieldLinkNest "CartPaths" (287 : Nat) "CartPaths$Node" "cart" "I" "CartPaths") ∈ GW := gw_t5 37 rfl rfl
theorem gw_1130 : (Cond.fieldLink "CartPaths$Node" (19 : Nat) "CartPaths$Node" "time" "I") ∈ GW := gw_t5 38 rfl rfl
theorem gw_1131 : (Cond.fieldLinkNest "CartPaths$Tree" (145 : Nat) "CartPaths$Node" "time" "I" "CartPaths") ∈ GW := gw_t5 39 rfl rfl
theorem gw_1132 : (Cond.fieldLink "CartPaths$Node" (22 : Nat) "CartPaths$Node" "from" "I") ∈ GW := gw_t5 40 rfl rfl
theorem gw_1133 : (Cond.fieldLinkNest "CartPaths$Tree" (158 : Nat) "CartPaths$Node" "from" "I" "CartPaths") ∈ GW := gw_t5 41 rfl rfl
theorem gw_1134 : (Cond.fieldLink "CartPaths$Node" (25 : Nat) "CartPaths$Node" "to" "I") ∈ GW := gw_t5 42 rfl rfl
theorem gw_1135 : (Cond.fieldLinkNest "CartPaths$Tree" (152 : Nat) "CartPaths$Node" "to" "I" "CartPaths") ∈ GW := gw_t5 43 rfl rfl
theorem gw_1136 : (Cond.fieldLink "CartPaths$Node" (28 : Nat) "CartPaths$Node" "row" "[I") ∈ GW := gw_t5 44 rfl rfl
theorem gw_1137 : (Cond.fieldLinkNest "CartPaths$Tree" (126 : Nat) "CartPaths$Node" "row" "[I" "CartPaths") ∈ GW := gw_t5 45 rfl rfl
theorem gw_1138 : (Cond.fieldLink "CartPaths$Node" (32 : Nat) "CartPaths$Node" "cost" "I") ∈ GW := gw_t5 46 rfl rfl
theorem gw_1139 : (Cond.fieldLinkNest "CartPaths$Tree" (129 : Nat) "CartPaths$Node" "cost" "I" "CartPaths") ∈ GW := gw_t5 47 rfl rfl
theorem gw_1140 : (Cond.fieldLink "CartPaths$Node" (35 : Nat) "CartPaths$Node" "sum" "I") ∈ GW := gw_t5 48 rfl rfl
theorem gw_1141 : (Cond.fieldLinkNest "CartPaths$Tree" (94 : Nat) "CartPaths$Node" "sum" "I" "CartPaths") ∈ GW := gw_t5 49 rfl rfl
theorem gw_1142 : (Cond.fieldLinkNest "CartPaths" (281 : Nat) "CartPaths$Node" "sum" "I" "CartPaths") ∈ GW := gw_t5 50 rfl rfl
theorem gw_1143 : (Cond.fieldLink "CartPaths$Node" (38 : Nat) "CartPaths$Node" "clashes" "I") ∈ GW := gw_t5 51 rfl rfl
theorem gw_1144 : (Cond.fieldLinkNest "CartPaths$Tree" (100 : Nat) "CartPaths$Node" "clashes" "I" "CartPaths") ∈ GW := gw_t5 52 rfl rfl
theorem gw_1145 : (Cond.fieldLinkNest "CartPaths" (284 : Nat) "CartPaths$Node" "clashes" "I" "CartPaths") ∈ GW := gw_t5 53 rfl rfl
theorem gw_1146 : (Cond.fieldLink "CartPaths$Node" (41 : Nat) "CartPaths$Node" "forbidden" "I") ∈ GW := gw_t5 54 rfl rfl
theorem gw_1147 : (Cond.fieldLinkNest "CartPaths$Tree" (175 : Nat) "CartPaths$Node" "forbidden" "I" "CartPaths") ∈ GW := gw_t5 55 rfl rfl
theorem gw_1148 : (Cond.fieldLinkNest "CartPaths" (290 : Nat) "CartPaths$Node" "forbidden" "I" "CartPaths") ∈ GW := gw_t5 56 rfl rfl
theorem gw_1149 : (Cond.fieldLink "CartPaths$Node" (44 : Nat) "CartPaths$Node" "isSplit" "Z") ∈ GW := gw_t5 57 rfl rfl
theorem gw_1150 : (Cond.fieldLinkNest "CartPaths$Tree" (70 : Nat) "CartPaths$Node" "isSplit" "Z" "CartPaths") ∈ GW := gw_t5 58 rfl rfl
theorem gw_1151 : (Cond.fieldLinkNest "CartPaths" (293 : Nat) "CartPaths$Node" "isSplit" "Z" "CartPaths") ∈ GW := gw_t5 59 rfl rfl
theorem gw_1152 : (Cond.laysFinal "CartPaths$Node" "CartPaths$Node" "number" "I") ∈ GW := gw_t5 60 rfl rfl
theorem gw_1154 : (Cond.lays "CartPaths$Node" "CartPaths$Node" "parent" "LCartPaths$Node;") ∈ GW := gw_t5 62 rfl rfl
theorem gw_1156 : (Cond.lays "CartPaths$Node" "CartPaths$Node" "cart" "I") ∈ GW := gw_t5 64 rfl rfl
theorem gw_1158 : (Cond.lays "CartPaths$Node" "CartPaths$Node" "time" "I") ∈ GW := gw_t5 66 rfl rfl
theorem gw_1160 : (Cond.lays "CartPaths$Node" "CartPaths$Node" "from" "I") ∈ GW := gw_t5 68 rfl rfl
theorem gw_1162 : (Cond.lays "CartPaths$Node" "CartPaths$Node" "to" "I") ∈ GW := gw_t5 70 rfl rfl
theorem gw_1164 : (Cond.laysFinal "CartPaths$Node" "CartPaths$Node" "row" "[I") ∈ GW := gw_t5 72 rfl rfl
theorem gw_1166 : (Cond.lays "CartPaths$Node" "CartPaths$Node" "cost" "I") ∈ GW := gw_t5 74 rfl rfl
theorem gw_1168 : (Cond.lays "CartPaths$Node" "CartPaths$Node" "sum" "I") ∈ GW := gw_t5 76 rfl rfl
theorem gw_1170 : (Cond.lays "CartPaths$Node" "CartPaths$Node" "clashes" "I") ∈ GW := gw_t5 78 rfl rfl
theorem gw_1172 : (Cond.lays "CartPaths$Node" "CartPaths$Node" "forbidden" "I") ∈ GW := gw_t5 80 rfl rfl
theorem gw_1174 : (Cond.lays "CartPaths$Node" "CartPaths$Node" "isSplit" "Z") ∈ GW := gw_t5 82 rfl rfl
theorem gw_1177 : (Cond.methodLinkNest "CartPaths$Tree" (90 : Nat) ({ cls := "CartPaths$Ways", name := "sumCosts", desc := "()I" } : MethodName) "CartPaths") ∈ GW := gw_t5 85 rfl rfl
theorem gw_1178 : (Cond.methodLinkNest "CartPaths$Tree" (97 : Nat) ({ cls := "CartPaths$Ways", name := "countClashes", desc := "()I" } : MethodName) "CartPaths") ∈ GW := gw_t5 86 rfl rfl
theorem gw_1179 : (Cond.methodLink "CartPaths$Tree" (62 : Nat) ({ cls := "CartPaths$Tree", name := "choose", desc := "(I)LCartPaths$Node;" } : MethodName)) ∈ GW := gw_t5 87 rfl rfl
theorem gw_1181 : (Cond.instanceMethod ({ cls := "CartPaths$Tree", name := "choose", desc := "(I)LCartPaths$Node;" } : MethodName)) ∈ GW := gw_t5 89 rfl rfl
theorem gw_1182 : (Cond.code ({ cls := "CartPaths$Tree", name := "choose", desc := "(I)LCartPaths$Node;" } : MethodName) prog_8_method_5_code (7 : Nat) (Option.some (FieldType.object "CartPaths$Node"))) ∈ GW := gw_t5 90 rfl rfl
theorem gw_1183 : (Cond.methodLink "CartPaths$Tree" (103 : Nat) ({ cls := "CartPaths$Tree", name := "leastWaiting", desc := "()I" } : MethodName)) ∈ GW := gw_t5 91 rfl rfl
theorem gw_1185 : (Cond.instanceMethod ({ cls := "CartPaths$Tree", name := "leastWaiting", desc := "()I" } : MethodName)) ∈ GW := gw_t5 93 rfl rfl
theorem gw_1186 : (Cond.code ({ cls := "CartPaths$Tree", name := "leastWaiting", desc := "()I" } : MethodName) prog_8_method_6_code (4 : Nat) (Option.some FieldType.int)) ∈ GW := gw_t5 94 rfl rfl
theorem gw_1187 : (Cond.methodLink "CartPaths$Tree" (66 : Nat) ({ cls := "CartPaths$Tree", name := "goOn", desc := "(LCartPaths$Node;)Z" } : MethodName)) ∈ GW := gw_t5 95 rfl rfl
theorem gw_1189 : (Cond.instanceMethod ({ cls := "CartPaths$Tree", name := "goOn", desc := "(LCartPaths$Node;)Z" } : MethodName)) ∈ GW := gw_t5 97 rfl rfl
theorem gw_1190 : (Cond.code ({ cls := "CartPaths$Tree", name := "goOn", desc := "(LCartPaths$Node;)Z" } : MethodName) prog_8_method_7_code (2 : Nat) (Option.some FieldType.boolean)) ∈ GW := gw_t5 98 rfl rfl
theorem gw_1191 : (Cond.methodLink "CartPaths$Tree" (106 : Nat) ({ cls := "CartPaths$Tree", name := "load", desc := "(LCartPaths$Node;)V" } : MethodName)) ∈ GW := gw_t5 99 rfl rfl
theorem gw_1193 : (Cond.instanceMethod ({ cls := "CartPaths$Tree", name := "load", desc := "(LCartPaths$Node;)V" } : MethodName)) ∈ GW := gw_t5 101 rfl rfl
theorem gw_1194 : (Cond.code ({ cls := "CartPaths$Tree", name := "load", desc := "(LCartPaths$Node;)V" } : MethodName) prog_8_method_8_code (4 : Nat) (Option.none : Option FieldType)) ∈ GW := gw_t5 102 rfl rfl
theorem gw_1195 : (Cond.methodLinkNest "CartPaths$Tree" (132 : Nat) ({ cls := "CartPaths$Ways", name := "put", desc := "(I[III)V" } : MethodName) "CartPaths") ∈ GW := gw_t5 103 rfl rfl
theorem gw_1197 : (Cond.instanceMethod ({ cls := "CartPaths$Ways", name := "put", desc := "(I[III)V" } : MethodName)) ∈ GW := gw_t5 105 rfl rfl
theorem gw_1198 : (Cond.code ({ cls := "CartPaths$Ways", name := "put", desc := "(I[III)V" } : MethodName) prog_10_method_3_code (5 : Nat) (Option.none : Option FieldType)) ∈ GW := gw_t5 106 rfl rfl
theorem gw_1200 : (Cond.methodLinkNest "CartPaths$Tree" (113 : Nat) ({ cls := "CartPaths$Ways", name := "findFirstClash", desc := "()V" } : MethodName) "CartPaths") ∈ GW := gw_t5 108 rfl rfl
theorem gw_1201 : (Cond.methodLink "CartPaths$Tree" (76 : Nat) ({ cls := "CartPaths$Tree", name := "grow", desc := "(LCartPaths$Scene;LCartPaths$Search;LCartPaths$Node;I)V" } : MethodName)) ∈ GW := gw_t5 109 rfl rfl
theorem gw_1203 : (Cond.instanceMethod ({ cls := "CartPaths$Tree", name := "grow", desc := "(LCartPaths$Scene;LCartPaths$Search;LCartPaths$Node;I)V" } : MethodName)) ∈ GW := gw_t5 111 rfl rfl
theorem gw_1204 : (Cond.code ({ cls := "CartPaths$Tree", name := "grow", desc := "(LCartPaths$Scene;LCartPaths$Search;LCartPaths$Node;I)V" } : MethodName) prog_8_method_9_code (6 : Nat) (Option.none : Option FieldType)) ∈ GW := gw_t5 112 rfl rfl
theorem gw_1205 : (Cond.methodLinkNest "CartPaths$Tree" (148 : Nat) ({ cls := "CartPaths$Ways", name := "cellOf", desc := "(II)I" } : MethodName) "CartPaths") ∈ GW := gw_t5 113 rfl rfl
theorem gw_1206 : (Cond.methodLink "CartPaths$Tree" (161 : Nat) ({ cls := "CartPaths$Tree", name := "forbidAll", desc := "(LCartPaths$Search;LCartPaths$Node;)V" } : MethodName)) ∈ GW := gw_t5 114 rfl rfl
theorem gw_1207 : (Cond.static ({ cls := "CartPaths$Tree", name := "forbidAll", desc := "(LCartPaths$Search;LCartPaths$Node;)V" } : MethodName)) ∈ GW := gw_t5 115 rfl rfl
theorem gw_1208 : (Cond.code ({ cls := "CartPaths$Tree", name := "forbidAll", desc := "(LCartPaths$Search;LCartPaths$Node;)V" } : MethodName) prog_8_method_10_code (3 : Nat) (Option.none : Option FieldType)) ∈ GW := gw_t5 116 rfl rfl
theorem gw_1209 : (Cond.methodLinkNest "CartPaths$Tree" (178 : Nat) ({ cls := "CartPaths$Search", name := "clear", desc := "()V" } : MethodName) "CartPaths") ∈ GW := gw_t5 117 rfl rfl
theorem gw_1210 : (Cond.methodLinkNest "CartPaths$Tree" (181 : Nat) ({ cls := "CartPaths$Search", name := "forbidCell", desc := "(II)V" } : MethodName) "CartPaths") ∈ GW := gw_t5 118 rfl rfl
theorem gw_1211 : (Cond.methodLinkNest "CartPaths$Tree" (185 : Nat) ({ cls := "CartPaths$Search", name := "forbidMove", desc := "(III)V" } : MethodName) "CartPaths") ∈ GW := gw_t5 119 rfl rfl
theorem gw_1212 : (Cond.methodLinkNest "CartPaths$Tree" (165 : Nat) ({ cls := "CartPaths$Search", name := "find", desc := "(LCartPaths$Scene;I[II)I" } : MethodName) "CartPaths") ∈ GW := gw_t5 120 rfl rfl
theorem gw_1213 : (Cond.methodLink "CartPaths$Tree" (171 : Nat) ({ cls := "CartPaths$Tree", name := "clashesWith", desc := "(LCartPaths$Node;)I" } : MethodName)) ∈ GW := gw_t5 121 rfl rfl
theorem gw_1215 : (Cond.instanceMethod ({ cls := "CartPaths$Tree", name := "clashesWith", desc := "(LCartPaths$Node;)I" } : MethodName)) ∈ GW := gw_t5 123 rfl rfl
theorem gw_1216 : (Cond.code ({ cls := "CartPaths$Tree", name := "clashesWith", desc := "(LCartPaths$Node;)I" } : MethodName) prog_8_method_11_code (4 : Nat) (Option.some FieldType.int)) ∈ GW := gw_t5 124 rfl rfl
theorem gw_1218 : (Cond.methodLinkNest "CartPaths" (262 : Nat) ({ cls := "CartPaths$Ways", name := "lastEnd", desc := "()I" } : MethodName) "CartPaths") ∈ GW := gw_t5 126 rfl rfl
theorem gw_1219 : (Cond.methodLink "CartPathsLaw" (205 : Nat) ({ cls := "CartPathsLaw", name := "node", desc := "(LCartPaths;III[J)I" } : MethodName)) ∈ GW := gw_t5 127 rfl rfl
theorem gw_1220 : (Cond.static ({ cls := "CartPathsLaw", name := "node", desc := "(LCartPaths;III[J)I" } : MethodName)) ∈ GW := gw_t5 128 rfl rfl
theorem gw_1221 : (Cond.codeWith ({ cls := "CartPathsLaw", name := "node", desc := "(LCartPaths;III[J)I" } : MethodName) method_16_code (6 : Nat) (Option.some FieldType.int) [((0 : Nat), (12 : Nat), (15 : Nat), (13 : Nat)), ((0 : Nat), (12 : Nat), (19 : Nat), (24 : Nat))]) ∈ GW := gw_t5 129 rfl rfl
theorem gw_1222 : (Cond.methodLink "CartPathsLaw" (62 : Nat) ({ cls := "CartPaths", name := "node", desc := "(III)I" } : MethodName)) ∈ GW := gw_t5 130 rfl rfl
theorem gw_1223 : (Cond.instanceMethod ({ cls := "CartPaths", name := "node", desc := "(III)I" } : MethodName)) ∈ GW := gw_t5 131 rfl rfl
theorem gw_1224 : (Cond.selects "CartPaths" ({ cls := "CartPaths", name := "node", desc := "(III)I" } : MethodName) ({ cls := "CartPaths", name := "node", desc := "(III)I" } : MethodName)) ∈ GW := gw_t5 132 rfl rfl
theorem gw_1225 : (Cond.code ({ cls := "CartPaths", name := "node", desc := "(III)I" } : MethodName) prog_1_method_29_code (6 : Nat) (Option.some FieldType.int)) ∈ GW := gw_t5 133 rfl rfl
theorem gw_1226 : (Cond.methodLink "CartPathsLaw" (208 : Nat) ({ cls := "CartPathsLaw", name := "at", desc := "(LCartPaths;III[J)I" } : MethodName)) ∈ GW := gw_t5 134 rfl rfl
theorem gw_1227 : (Cond.static ({ cls := "CartPathsLaw", name := "at", desc := "(LCartPaths;III[J)I" } : MethodName)) ∈ GW := gw_t5 135 rfl rfl
theorem gw_1228 : (Cond.codeWith ({ cls := "CartPathsLaw", name := "at", desc := "(LCartPaths;III[J)I" } : MethodName) method_17_code (6 : Nat) (Option.some FieldType.int) [((0 : Nat), (12 : Nat), (15 : Nat), (19 : Nat)), ((0 : Nat), (12 : Nat), (19 : Nat), (13 : Nat)), ((0 : Nat), (12 : Nat), (23 : Nat), (33 : Nat))]) ∈ GW := gw_t5 136 rfl rfl
theorem gw_1229 : (Cond.methodLink "CartPathsLaw" (65 : Nat) ({ cls := "CartPaths", name := "at", desc := "(III)I" } : MethodName)) ∈ GW := gw_t5 137 rfl rfl
theorem gw_1230 : (Cond.instanceMethod ({ cls := "CartPaths", name := "at", desc := "(III)I" } : MethodName)) ∈ GW := gw_t5 138 rfl rfl
theorem gw_1231 : (Cond.selects "CartPaths" ({ cls := "CartPaths", name := "at", desc := "(III)I" } : MethodName) ({ cls := "CartPaths", name := "at", desc := "(III)I" } : MethodName)) ∈ GW := gw_t5 139 rfl rfl
theorem gw_1232 : (Cond.code ({ cls := "CartPaths", name := "at", desc := "(III)I" } : MethodName) prog_1_method_30_code (4 : Nat) (Option.some FieldType.int)) ∈ GW := gw_t5 140 rfl rfl
theorem gw_1233 : (Cond.methodLink "CartPaths" (296 : Nat) ({ cls := "CartPaths", name := "planned", desc := "(I)LCartPaths$Ways;" } : MethodName)) ∈ GW := gw_t5 141 rfl rfl
theorem gw_1235 : (Cond.instanceMethod ({ cls := "CartPaths", name := "planned", desc := "(I)LCartPaths$Ways;" } : MethodName)) ∈ GW := gw_t5 143 rfl rfl
theorem gw_1236 : (Cond.code ({ cls := "CartPaths", name := "planned", desc := "(I)LCartPaths$Ways;" } : MethodName) prog_1_method_26_code (3 : Nat) (Option.some (FieldType.object "CartPaths$Ways"))) ∈ GW := gw_t5 144 rfl rfl
theorem gw_1237 : (Cond.methodLink "CartPathsLaw" (211 : Nat) ({ cls := "CartPathsLaw", name := "move", desc := "(LCartPaths;III[J)I" } : MethodName)) ∈ GW := gw_t5 145 rfl rfl
theorem gw_1238 : (Cond.static ({ cls := "CartPathsLaw", name := "move", desc := "(LCartPaths;III[J)I" } : MethodName)) ∈ GW := gw_t5 146 rfl rfl
theorem gw_1239 : (Cond.codeWith ({ cls := "CartPathsLaw", name := "move", desc := "(LCartPaths;III[J)I" } : MethodName) method_18_code (6 : Nat) (Option.some FieldType.int) [((0 : Nat), (12 : Nat), (15 : Nat), (19 : Nat)), ((0 : Nat), (12 : Nat), (19 : Nat), (13 : Nat)), ((0 : Nat), (12 : Nat), (23 : Nat), (33 : Nat))]) ∈ GW := gw_t5 147 rfl rfl
theorem gw_1240 : (Cond.methodLink "CartPathsLaw" (68 : Nat) ({ cls := "CartPaths", name := "move", desc := "(III)I" } : MethodName)) ∈ GW := gw_t5 148 rfl rfl
theorem gw_1241 : (Cond.instanceMethod ({ cls := "CartPaths", name := "move", desc := "(III)I" } : MethodName)) ∈ GW := gw_t5 149 rfl rfl
theorem gw_1242 : (Cond.selects "CartPaths" ({ cls := "CartPaths", name := "move", desc := "(III)I" } : MethodName) ({ cls := "CartPaths", name := "move", desc := "(III)I" } : MethodName)) ∈ GW := gw_t5 150 rfl rfl
theorem gw_1243 : (Cond.code ({ cls := "CartPaths", name := "move", desc := "(III)I" } : MethodName) prog_1_method_31_code (4 : Nat) (Option.some FieldType.int)) ∈ GW := gw_t5 151 rfl rfl
theorem gw_1244 : (Cond.methodLinkNest "CartPaths" (300 : Nat) ({ cls := "CartPaths$Ways", name := "moveOf", desc := "(II)I" } : MethodName) "CartPaths") ∈ GW := gw_t5 152 rfl rfl
theorem gw_1246 : (Cond.instanceMethod ({ cls := "CartPaths$Ways", name := "moveOf", desc := "(II)I" } : MethodName)) ∈ GW := gw_t5 154 rfl rfl
theorem gw_1247 : (Cond.code ({ cls := "CartPaths$Ways", name := "moveOf", desc := "(II)I" } : MethodName) prog_10_method_9_code (5 : Nat) (Option.some FieldType.int)) ∈ GW := gw_t5 155 rfl rfl
theorem gw_1249 : (Cond.methodLink "CartPathsLaw" (214 : Nat) ({ cls := "CartPathsLaw", name := "used", desc := "(LCartPaths;IIIZ[J)I" } : MethodName)) ∈ GW := gw_t5 157 rfl rfl
theorem gw_1250 : (Cond.static ({ cls := "CartPathsLaw", name := "used", desc := "(LCartPaths;IIIZ[J)I" } : MethodName)) ∈ GW := gw_t5 158 rfl rfl
theorem gw_1251 : (Cond.codeWith ({ cls := "CartPathsLaw", name := "used", desc := "(LCartPaths;IIIZ[J)I" } : MethodName) method_19_code (7 : Nat) (Option.some FieldType.int) [((0 : Nat), (14 : Nat), (17 : Nat), (19 : Nat)), ((0 : Nat), (14 : Nat), (21 : Nat), (13 : Nat)), ((0 : Nat), (14 : Nat), (25 : Nat), (33 : Nat))]) ∈ GW := gw_t5 159 rfl rfl
theorem gw_1252 : (Cond.methodLink "CartPathsLaw" (71 : Nat) ({ cls := "CartPaths", name := "used", desc := "(IIIZ)I" } : MethodName)) ∈ GW := gw_t5 160 rfl rfl
theorem gw_1253 : (Cond.instanceMethod ({ cls := "CartPaths", name := "used", desc := "(IIIZ)I" } : MethodName)) ∈ GW := gw_t5 161 rfl rfl
theorem gw_1254 : (Cond.selects "CartPaths" ({ cls := "CartPaths", name := "used", desc := "(IIIZ)I" } : MethodName) ({ cls := "CartPaths", name := "used", desc := "(IIIZ)I" } : MethodName)) ∈ GW := gw_t5 162 rfl rfl
theorem gw_1255 : (Cond.code ({ cls := "CartPaths", name := "used", desc := "(IIIZ)I" } : MethodName) prog_1_method_32_code (7 : Nat) (Option.some FieldType.int)) ∈ GW := gw_t5 163 rfl rfl
theorem gw_1256 : (Cond.methodLinkNest "CartPaths" (303 : Nat) ({ cls := "CartPaths$Ways", name := "countLeaving", desc := "(I)I" } : MethodName) "CartPaths") ∈ GW := gw_t5 164 rfl rfl
theorem gw_1258 : (Cond.instanceMethod ({ cls := "CartPaths$Ways", name := "countLeaving", desc := "(I)I" } : MethodName)) ∈ GW := gw_t5 166 rfl rfl
theorem gw_1259 : (Cond.code ({ cls := "CartPaths$Ways", name := "countLeaving", desc := "(I)I" } : MethodName) prog_10_method_13_code (5 : Nat) (Option.some FieldType.int)) ∈ GW := gw_t5 167 rfl rfl
theorem gw_1260 : (Cond.methodLink "CartPaths$Ways" (66 : Nat) ({ cls := "CartPaths$Ways", name := "comes", desc := "(II)Z" } : MethodName)) ∈ GW := gw_t5 168 rfl rfl
theorem gw_1261 : (Cond.methodLinkNest "CartPaths" (307 : Nat) ({ cls := "CartPaths$Ways", name := "countVisitors", desc := "(I)I" } : MethodName) "CartPaths") ∈ GW := gw_t5 169 rfl rfl
theorem gw_1263 : (Cond.instanceMethod ({ cls := "CartPaths$Ways", name := "countVisitors", desc := "(I)I" } : MethodName)) ∈ GW := gw_t5 171 rfl rfl
theorem gw_1264 : (Cond.code ({ cls := "CartPaths$Ways", name := "countVisitors", desc := "(I)I" } : MethodName) prog_10_method_12_code (4 : Nat) (Option.some FieldType.int)) ∈ GW := gw_t5 172 rfl rfl
theorem gw_1265 : (Cond.methodLink "CartPaths$Ways" (63 : Nat) ({ cls := "CartPaths$Ways", name := "firstTimeIn", desc := "(II)I" } : MethodName)) ∈ GW := gw_t5 173 rfl rfl
theorem gw_1267 : (Cond.instanceMethod ({ cls := "CartPaths$Ways", name := "firstTimeIn", desc := "(II)I" } : MethodName)) ∈ GW := gw_t5 175 rfl rfl
theorem gw_1268 : (Cond.code ({ cls := "CartPaths$Ways", name := "firstTimeIn", desc := "(II)I" } : MethodName) prog_10_method_15_code (4 : Nat) (Option.some FieldType.int)) ∈ GW := gw_t5 176 rfl rfl
theorem gw_1269 : (Cond.methodLink "CartPathsLaw" (218 : Nat) ({ cls := "CartPathsLaw", name := "busiest", desc := "(LCartPaths;I[J)I" } : MethodName)) ∈ GW := gw_t5 177 rfl rfl
theorem gw_1270 : (Cond.static ({ cls := "CartPathsLaw", name := "busiest", desc := "(LCartPaths;I[J)I" } : MethodName)) ∈ GW := gw_t5 178 rfl rfl
theorem gw_1271 : (Cond.codeWith ({ cls := "CartPathsLaw", name := "busiest", desc := "(LCartPaths;I[J)I" } : MethodName) method_20_code (4 : Nat) (Option.some FieldType.int) [((0 : Nat), (9 : Nat), (12 : Nat), (13 : Nat)), ((0 : Nat), (9 : Nat), (15 : Nat), (33 : Nat))]) ∈ GW := gw_t5 179 rfl rfl
theorem gw_1272 : (Cond.methodLink "CartPathsLaw" (75 : Nat) ({ cls := "CartPaths", name := "busiest", desc := "(I)I" } : MethodName)) ∈ GW := gw_t5 180 rfl rfl
theorem gw_1273 : (Cond.instanceMethod ({ cls := "CartPaths", name := "busiest", desc := "(I)I" } : MethodName)) ∈ GW := gw_t5 181 rfl rfl
theorem gw_1274 : (Cond.selects "CartPaths" ({ cls := "CartPaths", name := "busiest", desc := "(I)I" } : MethodName) ({ cls := "CartPaths", name := "busiest", desc := "(I)I" } : MethodName)) ∈ GW := gw_t5 182 rfl rfl
theorem gw_1275 : (Cond.code ({ cls := "CartPaths", name := "busiest", desc := "(I)I" } : MethodName) prog_1_method_33_code (7 : Nat) (Option.some FieldType.int)) ∈ GW := gw_t5 183 rfl rfl
theorem gw_1276 : (Cond.methodLink "CartPathsLaw" (221 : Nat) ({ cls := "CartPathsLaw", name := "waits", desc := "(LCartPaths;I[J)I" } : MethodName)) ∈ GW := gw_t5 184 rfl rfl
theorem gw_1277 : (Cond.static ({ cls := "CartPathsLaw", name := "waits", desc := "(LCartPaths;I[J)I" } : MethodName)) ∈ GW := gw_t5 185 rfl rfl
theorem gw_1278 : (Cond.codeWith ({ cls := "CartPathsLaw", name := "waits", desc := "(LCartPaths;I[J)I" } : MethodName) method_21_code (4 : Nat) (Option.some FieldType.int) [((0 : Nat), (9 : Nat), (12 : Nat), (13 : Nat)), ((0 : Nat), (9 : Nat), (15 : Nat), (33 : Nat))]) ∈ GW := gw_t5 186 rfl rfl
theorem gw_1279 : (Cond.methodLink "CartPathsLaw" (78 : Nat) ({ cls := "CartPaths", name := "waits", desc := "(I)I" } : MethodName)) ∈ GW := gw_t5 187 rfl rfl
theorem gw_1280 : (Cond.instanceMethod ({ cls := "CartPaths", name := "waits", desc := "(I)I" } : MethodName)) ∈ GW := gw_t5 188 rfl rfl
theorem gw_1281 : (Cond.selects "CartPaths" ({ cls := "CartPaths", name := "waits", desc := "(I)I" } : MethodName) ({ cls := "CartPaths", name := "waits", desc := "(I)I" } : MethodName)) ∈ GW := gw_t5 189 rfl rfl
theorem gw_1282 : (Cond.code ({ cls := "CartPaths", name := "waits", desc := "(I)I" } : MethodName) prog_1_method_34_code (5 : Nat) (Option.some FieldType.int)) ∈ GW := gw_t5 190 rfl rfl
theorem gw_1283 : (Cond.methodLinkNest "CartPaths" (311 : Nat) ({ cls := "CartPaths$Ways", name := "countSteps", desc := "(I)I" } : MethodName) "CartPaths") ∈ GW := gw_t5 191 rfl rfl
theorem gw_1285 : (Cond.instanceMethod ({ cls := "CartPaths$Ways", name := "countSteps", desc := "(I)I" } : MethodName)) ∈ GW := gw_t5 193 rfl rfl
theorem gw_1286 : (Cond.code ({ cls := "CartPaths$Ways", name := "countSteps", desc := "(I)I" } : MethodName) prog_10_method_14_code (4 : Nat) (Option.some FieldType.int)) ∈ GW := gw_t5 194 rfl rfl
theorem gw_1287 : (Cond.methodLink "CartPathsLaw" (224 : Nat) ({ cls := "CartPathsLaw", name := "late", desc := "(LCartPaths;IIIII[J)I" } : MethodName)) ∈ GW := gw_t5 195 rfl rfl
theorem gw_1288 : (Cond.static ({ cls := "CartPathsLaw", name := "late", desc := "(LCartPaths;IIIII[J)I" } : MethodName)) ∈ GW := gw_t5 196 rfl rfl
theorem gw_1289 : (Cond.codeWith ({ cls := "CartPathsLaw", name := "late", desc := "(LCartPaths;IIIII[J)I" } : MethodName) method_22_code (8 : Nat) (Option.some FieldType.int) [((0 : Nat), (16 : Nat), (19 : Nat), (19 : Nat)), ((0 : Nat), (16 : Nat), (23 : Nat), (13 : Nat)), ((0 : Nat), (16 : Nat), (27 : Nat), (33 : Nat))]) ∈ GW := gw_t5 197 rfl rfl
theorem gw_1290 : (Cond.methodLink "CartPathsLaw" (81 : Nat) ({ cls := "CartPaths", name := "late", desc := "(IIIII)I" } : MethodName)) ∈ GW := gw_t5 198 rfl rfl
theorem gw_1291 : (Cond.instanceMethod ({ cls := "CartPaths", name := "late", desc := "(IIIII)I" } : MethodName)) ∈ GW := gw_t5 199 rfl rfl
theorem gw_1292 : (Cond.selects "CartPaths" ({ cls := "CartPaths", name := "late", desc := "(IIIII)I" } : MethodName) ({ cls := "CartPaths", name := "late", desc := "(IIIII)I" } : MethodName)) ∈ GW := gw_t5 200 rfl rfl
theorem gw_1293 : (Cond.code ({ cls := "CartPaths", name := "late", desc := "(IIIII)I" } : MethodName) prog_1_method_35_code (7 : Nat) (Option.some FieldType.int)) ∈ GW := gw_t5 201 rfl rfl
theorem gw_1294 : (Cond.methodLink "CartPaths" (314 : Nat) ({ cls := "CartPaths", name := "needStop", desc := "(I)V" } : MethodName)) ∈ GW := gw_t5 202 rfl rfl
theorem gw_1295 : (Cond.static ({ cls := "CartPaths", name := "needStop", desc := "(I)V" } : MethodName)) ∈ GW := gw_t5 203 rfl rfl
theorem gw_1296 : (Cond.code ({ cls := "CartPaths", name := "needStop", desc := "(I)V" } : MethodName) prog_1_method_10_code (1 : Nat) (Option.none : Option FieldType)) ∈ GW := gw_t5 204 rfl rfl
theorem gw_1297 : (Cond.methodLinkNest "CartPaths" (317 : Nat) ({ cls := "CartPaths$Stop", name := "run", desc := "(LCartPaths$Ways;III)V" } : MethodName) "CartPaths") ∈ GW := gw_t5 205 rfl rfl
theorem gw_1299 : (Cond.instanceMethod ({ cls := "CartPaths$Stop", name := "run", desc := "(LCartPaths$Ways;III)V" } : MethodName)) ∈ GW := gw_t5 207 rfl rfl
theorem gw_1300 : (Cond.code ({ cls := "CartPaths$Stop", name := "run", desc := "(LCartPaths$Ways;III)V" } : MethodName) prog_6_method_2_code (8 : Nat) (Option.none : Option FieldType)) ∈ GW := gw_t5 208 rfl rfl
theorem gw_1302 : (Cond.methodLinkNest "CartPaths$Stop" (30 : Nat) ({ cls := "CartPaths$Ways", name := "comes", desc := "(II)Z" } : MethodName) "CartPaths") ∈ GW := gw_t5 210 rfl rfl
theorem gw_1304 : (Cond.methodLink "CartPaths$Stop" (40 : Nat) ({ cls := "CartPaths$Stop", name := "waitForOthers", desc := "(LCartPaths$Ways;I)V" } : MethodName)) ∈ GW := gw_t5 212 rfl rfl
theorem gw_1306 : (Cond.instanceMethod ({ cls := "CartPaths$Stop", name := "waitForOthers", desc := "(LCartPaths$Ways;I)V" } : MethodName)) ∈ GW := gw_t5 214 rfl rfl
theorem gw_1307 : (Cond.code ({ cls := "CartPaths$Stop", name := "waitForOthers", desc := "(LCartPaths$Ways;I)V" } : MethodName) prog_6_method_3_code (8 : Nat) (Option.none : Option FieldType)) ∈ GW := gw_t5 215 rfl rfl
theorem gw_1308 : (Cond.methodLinkNest "CartPaths$Stop" (47 : Nat) ({ cls := "CartPaths$Ways", name := "cellOf", desc := "(II)I" } : MethodName) "CartPaths") ∈ GW := gw_t5 216 rfl rfl
theorem gw_1309 : (Cond.methodLinkNest "CartPaths$Stop" (50 : Nat) ({ cls := "CartPaths$Ways", name := "cartIn", desc := "(II)I" } : MethodName) "CartPaths") ∈ GW := gw_t5 217 rfl rfl
theorem gw_1311 : (Cond.instanceMethod ({ cls := "CartPaths$Ways", name := "cartIn", desc := "(II)I" } : MethodName)) ∈ GW := gw_t5 219 rfl rfl
theorem gw_1312 : (Cond.code ({ cls := "CartPaths$Ways", name := "cartIn", desc := "(II)I" } : MethodName) prog_10_method_10_code (4 : Nat) (Option.some FieldType.int)) ∈ GW := gw_t5 220 rfl rfl
theorem gw_1313 : (Cond.methodLink "CartPaths$Stop" (44 : Nat) ({ cls := "CartPaths$Stop", name := "leaveCells", desc := "(LCartPaths$Ways;I)V" } : MethodName)) ∈ GW := gw_t5 221 rfl rfl
theorem gw_1315 : (Cond.instanceMethod ({ cls := "CartPaths$Stop", name := "leaveCells", desc := "(LCartPaths$Ways;I)V" } : MethodName)) ∈ GW := gw_t5 223 rfl rfl
theorem gw_1316 : (Cond.code ({ cls := "CartPaths$Stop", name := "leaveCells", desc := "(LCartPaths$Ways;I)V" } : MethodName) prog_6_method_4_code (4 : Nat) (Option.none : Option FieldType)) ∈ GW := gw_t5 224 rfl rfl
theorem gw_1317 : (Cond.methodLinkNest "CartPaths" (321 : Nat) ({ cls := "CartPaths$Stop", name := "delay", desc := "(LCartPaths$Ways;I)I" } : MethodName) "CartPaths") ∈ GW := gw_t5 225 rfl rfl
theorem gw_1319 : (Cond.instanceMethod ({ cls := "CartPaths$Stop", name := "delay", desc := "(LCartPaths$Ways;I)I" } : MethodName)) ∈ GW := gw_t5 227 rfl rfl
theorem gw_1320 : (Cond.code ({ cls := "CartPaths$Stop", name := "delay", desc := "(LCartPaths$Ways;I)I" } : MethodName) prog_6_method_5_code (3 : Nat) (Option.some FieldType.int)) ∈ GW := gw_t5 228 rfl rfl
theorem gw_1321 : (Cond.methodLink "CartPathsLaw" (228 : Nat) ({ cls := "CartPathsLaw", name := "worse", desc := "(LCartPaths;I[J)I" } : MethodName)) ∈ GW := gw_t5 229 rfl rfl
theorem gw_1322 : (Cond.static ({ cls := "CartPathsLaw", name := "worse", desc := "(LCartPaths;I[J)I" } : MethodName)) ∈ GW := gw_t5 230 rfl rfl
theorem gw_1323 : (Cond.codeWith ({ cls := "CartPathsLaw", name := "worse", desc := "(LCartPaths;I[J)I" } : MethodName) method_23_code (4 : Nat) (Option.some FieldType.int) [((0 : Nat), (9 : Nat), (12 : Nat), (13 : Nat)), ((0 : Nat), (9 : Nat), (15 : Nat), (33 : Nat))]) ∈ GW := gw_t5 231 rfl rfl
theorem gw_1324 : (Cond.methodLink "CartPathsLaw" (85 : Nat) ({ cls := "CartPaths", name := "worse", desc := "(I)I" } : MethodName)) ∈ GW := gw_t5 232 rfl rfl
theorem gw_1325 : (Cond.instanceMethod ({ cls := "CartPaths", name := "worse", desc := "(I)I" } : MethodName)) ∈ GW := gw_t5 233 rfl rfl
theorem gw_1326 : (Cond.selects "CartPaths" ({ cls := "CartPaths", name := "worse", desc := "(I)I" } : MethodName) ({ cls := "CartPaths", name := "worse", desc := "(I)I" } : MethodName)) ∈ GW := gw_t5 234 rfl rfl
theorem gw_1327 : (Cond.code ({ cls := "CartPaths", name := "worse", desc := "(I)I" } : MethodName) prog_1_method_36_code (4 : Nat) (Option.some FieldType.int)) ∈ GW := gw_t5 235 rfl rfl
theorem gw_1328 : (Cond.methodLink "CartPaths" (325 : Nat) ({ cls := "CartPaths", name := "quotientBits", desc := "(II)I" } : MethodName)) ∈ GW := gw_t5 236 rfl rfl
theorem gw_1329 : (Cond.static ({ cls := "CartPaths", name := "quotientBits", desc := "(II)I" } : MethodName)) ∈ GW := gw_t5 237 rfl rfl
theorem gw_1330 : (Cond.code ({ cls := "CartPaths", name := "quotientBits", desc := "(II)I" } : MethodName) prog_1_method_37_code (9 : Nat) (Option.some FieldType.int)) ∈ GW := gw_t5 238 rfl rfl
theorem gw_1331 : (Cond.constant "CartPaths" (328 : Nat) (1065353216 : Int32)) ∈ GW := gw_t5 239 rfl rfl
theorem gw_1332 : (Cond.constantLong "CartPaths" (329 : Nat) (2 : Int64)) ∈ GW := gw_t6 0 rfl rfl
theorem gw_1333 : (Cond.constantLong "CartPaths" (331 : Nat) (8388608 : Int64)) ∈ GW := gw_t6 1 rfl rfl
theorem gw_1334 : (Cond.methodLink "CartPathsLaw" (231 : Nat) ({ cls := "CartPathsLaw", name := "who", desc := "(LCartPaths;IIII[J)I" } : MethodName)) ∈ GW := gw_t6 2 rfl rfl
theorem gw_1335 : (Cond.static ({ cls := "CartPathsLaw", name := "who", desc := "(LCartPaths;IIII[J)I" } : MethodName)) ∈ GW := gw_t6 3 rfl rfl
theorem gw_1336 : (Cond.codeWith ({ cls := "CartPathsLaw", name := "who", desc := "(LCartPaths;IIII[J)I" } : MethodName) method_24_code (7 : Nat) (Option.some FieldType.int) [((0 : Nat), (14 : Nat), (17 : Nat), (19 : Nat)), ((0 : Nat), (14 : Nat), (21 : Nat), (13 : Nat)), ((0 : Nat), (14 : Nat), (25 : Nat), (33 : Nat))]) ∈ GW := gw_t6 4 rfl rfl
theorem gw_1337 : (Cond.methodLink "CartPathsLaw" (88 : Nat) ({ cls := "CartPaths", name := "who", desc := "(IIII)I" } : MethodName)) ∈ GW := gw_t6 5 rfl rfl
theorem gw_1338 : (Cond.instanceMethod ({ cls := "CartPaths", name := "who", desc := "(IIII)I" } : MethodName)) ∈ GW := gw_t6 6 rfl rfl
theorem gw_1339 : (Cond.selects "CartPaths" ({ cls := "CartPaths", name := "who", desc := "(IIII)I" } : MethodName) ({ cls := "CartPaths", name := "who", desc := "(IIII)I" } : MethodName)) ∈ GW := gw_t6 7 rfl rfl
theorem gw_1340 : (Cond.code ({ cls := "CartPaths", name := "who", desc := "(IIII)I" } : MethodName) prog_1_method_38_code (6 : Nat) (Option.some FieldType.int)) ∈ GW := gw_t6 8 rfl rfl
theorem gw_1341 : (Cond.methodLinkNest "CartPaths" (333 : Nat) ({ cls := "CartPaths$Ways", name := "cartIn", desc := "(II)I" } : MethodName) "CartPaths") ∈ GW := gw_t6 9 rfl rfl
theorem gw_1342 : (Cond.methodLink "CartPathsLaw" (234 : Nat) ({ cls := "CartPathsLaw", name := "near", desc := "(LCartPaths;IIIZ[J)I" } : MethodName)) ∈ GW := gw_t6 10 rfl rfl
theorem gw_1343 : (Cond.static ({ cls := "CartPathsLaw", name := "near", desc := "(LCartPaths;IIIZ[J)I" } : MethodName)) ∈ GW := gw_t6 11 rfl rfl
theorem gw_1344 : (Cond.codeWith ({ cls := "CartPathsLaw", name := "near", desc := "(LCartPaths;IIIZ[J)I" } : MethodName) method_25_code (7 : Nat) (Option.some FieldType.int) [((0 : Nat), (14 : Nat), (17 : Nat), (19 : Nat)), ((0 : Nat), (14 : Nat), (21 : Nat), (13 : Nat)), ((0 : Nat), (14 : Nat), (25 : Nat), (33 : Nat))]) ∈ GW := gw_t6 12 rfl rfl
theorem gw_1345 : (Cond.methodLink "CartPathsLaw" (91 : Nat) ({ cls := "CartPaths", name := "near", desc := "(IIIZ)I" } : MethodName)) ∈ GW := gw_t6 13 rfl rfl
theorem gw_1346 : (Cond.instanceMethod ({ cls := "CartPaths", name := "near", desc := "(IIIZ)I" } : MethodName)) ∈ GW := gw_t6 14 rfl rfl
theorem gw_1347 : (Cond.selects "CartPaths" ({ cls := "CartPaths", name := "near", desc := "(IIIZ)I" } : MethodName) ({ cls := "CartPaths", name := "near", desc := "(IIIZ)I" } : MethodName)) ∈ GW := gw_t6 15 rfl rfl
theorem gw_1348 : (Cond.code ({ cls := "CartPaths", name := "near", desc := "(IIIZ)I" } : MethodName) prog_1_method_39_code (10 : Nat) (Option.some FieldType.int)) ∈ GW := gw_t6 16 rfl rfl
theorem gw_1349 : (Cond.methodLinkNest "CartPaths" (336 : Nat) ({ cls := "CartPaths$Ways", name := "apart", desc := "(III)I" } : MethodName) "CartPaths") ∈ GW := gw_t6 17 rfl rfl
theorem gw_1351 : (Cond.instanceMethod ({ cls := "CartPaths$Ways", name := "apart", desc := "(III)I" } : MethodName)) ∈ GW := gw_t6 19 rfl rfl
theorem gw_1352 : (Cond.code ({ cls := "CartPaths$Ways", name := "apart", desc := "(III)I" } : MethodName) prog_10_method_16_code (6 : Nat) (Option.some FieldType.int)) ∈ GW := gw_t6 20 rfl rfl
theorem gw_1356 : (Cond.methodLink "CartPathsLaw" (237 : Nat) ({ cls := "CartPathsLaw", name := "without", desc := "(LCartPaths;III[J)I" } : MethodName)) ∈ GW := gw_t6 24 rfl rfl
theorem gw_1357 : (Cond.static ({ cls := "CartPathsLaw", name := "without", desc := "(LCartPaths;III[J)I" } : MethodName)) ∈ GW := gw_t6 25 rfl rfl
theorem gw_1358 : (Cond.codeWith ({ cls := "CartPathsLaw", name := "without", desc := "(LCartPaths;III[J)I" } : MethodName) method_26_code (6 : Nat) (Option.some FieldType.int) [((0 : Nat), (12 : Nat), (15 : Nat), (19 : Nat)), ((0 : Nat), (12 : Nat), (19 : Nat), (13 : Nat)), ((0 : Nat), (12 : Nat), (23 : Nat), (33 : Nat))]) ∈ GW := gw_t6 26 rfl rfl
theorem gw_1359 : (Cond.methodLink "CartPathsLaw" (94 : Nat) ({ cls := "CartPaths", name := "without", desc := "(III)I" } : MethodName)) ∈ GW := gw_t6 27 rfl rfl
theorem gw_1360 : (Cond.instanceMethod ({ cls := "CartPaths", name := "without", desc := "(III)I" } : MethodName)) ∈ GW := gw_t6 28 rfl rfl
theorem gw_1361 : (Cond.selects "CartPaths" ({ cls := "CartPaths", name := "without", desc := "(III)I" } : MethodName) ({ cls := "CartPaths", name := "without", desc := "(III)I" } : MethodName)) ∈ GW := gw_t6 29 rfl rfl
theorem gw_1362 : (Cond.code ({ cls := "CartPaths", name := "without", desc := "(III)I" } : MethodName) prog_1_method_40_code (7 : Nat) (Option.some FieldType.int)) ∈ GW := gw_t6 30 rfl rfl
theorem gw_1363 : (Cond.methodLink "CartPaths" (340 : Nat) ({ cls := "CartPaths", name := "supposedSum", desc := "(I)I" } : MethodName)) ∈ GW := gw_t6 31 rfl rfl
theorem gw_1365 : (Cond.instanceMethod ({ cls := "CartPaths", name := "supposedSum", desc := "(I)I" } : MethodName)) ∈ GW := gw_t6 33 rfl rfl
theorem gw_1366 : (Cond.code ({ cls := "CartPaths", name := "supposedSum", desc := "(I)I" } : MethodName) prog_1_method_27_code (2 : Nat) (Option.some FieldType.int)) ∈ GW := gw_t6 34 rfl rfl
theorem gw_1367 : (Cond.methodLink "CartPathsLaw" (240 : Nat) ({ cls := "CartPathsLaw", name := "follows", desc := "(LCartPaths;III[J)I" } : MethodName)) ∈ GW := gw_t6 35 rfl rfl
theorem gw_1368 : (Cond.static ({ cls := "CartPathsLaw", name := "follows", desc := "(LCartPaths;III[J)I" } : MethodName)) ∈ GW := gw_t6 36 rfl rfl
theorem gw_1369 : (Cond.codeWith ({ cls := "CartPathsLaw", name := "follows", desc := "(LCartPaths;III[J)I" } : MethodName) method_27_code (6 : Nat) (Option.some FieldType.int) [((0 : Nat), (12 : Nat), (15 : Nat), (19 : Nat)), ((0 : Nat), (12 : Nat), (19 : Nat), (13 : Nat)), ((0 : Nat), (12 : Nat), (23 : Nat), (33 : Nat))]) ∈ GW := gw_t6 37 rfl rfl
theorem gw_1370 : (Cond.methodLink "CartPathsLaw" (97 : Nat) ({ cls := "CartPaths", name := "follows", desc := "(III)I" } : MethodName)) ∈ GW := gw_t6 38 rfl rfl
theorem gw_1371 : (Cond.instanceMethod ({ cls := "CartPaths", name := "follows", desc := "(III)I" } : MethodName)) ∈ GW := gw_t6 39 rfl rfl
theorem gw_1372 : (Cond.selects "CartPaths" ({ cls := "CartPaths", name := "follows", desc := "(III)I" } : MethodName) ({ cls := "CartPaths", name := "follows", desc := "(III)I" } : MethodName)) ∈ GW := gw_t6 40 rfl rfl
theorem gw_1373 : (Cond.code ({ cls := "CartPaths", name := "follows", desc := "(III)I" } : MethodName) prog_1_method_41_code (8 : Nat) (Option.some FieldType.int)) ∈ GW := gw_t6 41 rfl rfl
theorem gw_1374 : (Cond.methodLinkNest "CartPaths" (343 : Nat) ({ cls := "CartPaths$Ways", name := "comes", desc := "(II)Z" } : MethodName) "CartPaths") ∈ GW := gw_t6 42 rfl rfl
theorem gw_1375 : (Cond.methodLink "CartPathsLaw" (243 : Nat) ({ cls := "CartPathsLaw", name := "shared", desc := "(LCartPaths;II[J)I" } : MethodName)) ∈ GW := gw_t6 43 rfl rfl
theorem gw_1376 : (Cond.static ({ cls := "CartPathsLaw", name := "shared", desc := "(LCartPaths;II[J)I" } : MethodName)) ∈ GW := gw_t6 44 rfl rfl
theorem gw_1377 : (Cond.codeWith ({ cls := "CartPathsLaw", name := "shared", desc := "(LCartPaths;II[J)I" } : MethodName) method_28_code (5 : Nat) (Option.some FieldType.int) [((0 : Nat), (10 : Nat), (13 : Nat), (13 : Nat)), ((0 : Nat), (10 : Nat), (17 : Nat), (33 : Nat))]) ∈ GW := gw_t6 45 rfl rfl
theorem gw_1378 : (Cond.methodLink "CartPathsLaw" (100 : Nat) ({ cls := "CartPaths", name := "shared", desc := "(II)I" } : MethodName)) ∈ GW := gw_t6 46 rfl rfl
theorem gw_1379 : (Cond.instanceMethod ({ cls := "CartPaths", name := "shared", desc := "(II)I" } : MethodName)) ∈ GW := gw_t6 47 rfl rfl
theorem gw_1380 : (Cond.selects "CartPaths" ({ cls := "CartPaths", name := "shared", desc := "(II)I" } : MethodName) ({ cls := "CartPaths", name := "shared", desc := "(II)I" } : MethodName)) ∈ GW := gw_t6 48 rfl rfl
theorem gw_1381 : (Cond.code ({ cls := "CartPaths", name := "shared", desc := "(II)I" } : MethodName) prog_1_method_42_code (6 : Nat) (Option.some FieldType.int)) ∈ GW := gw_t6 49 rfl rfl
theorem gw_1382 : (Cond.methodLink "CartPathsLaw" (246 : Nat) ({ cls := "CartPathsLaw", name := "slack", desc := "(LCartPaths;III[J)I" } : MethodName)) ∈ GW := gw_t6 50 rfl rfl
theorem gw_1383 : (Cond.static ({ cls := "CartPathsLaw", name := "slack", desc := "(LCartPaths;III[J)I" } : MethodName)) ∈ GW := gw_t6 51 rfl rfl
theorem gw_1384 : (Cond.codeWith ({ cls := "CartPathsLaw", name := "slack", desc := "(LCartPaths;III[J)I" } : MethodName) method_29_code (6 : Nat) (Option.some FieldType.int) [((0 : Nat), (12 : Nat), (15 : Nat), (19 : Nat)), ((0 : Nat), (12 : Nat), (19 : Nat), (13 : Nat)), ((0 : Nat), (12 : Nat), (23 : Nat), (33 : Nat))]) ∈ GW := gw_t6 52 rfl rfl
theorem gw_1385 : (Cond.methodLink "CartPathsLaw" (103 : Nat) ({ cls := "CartPaths", name := "slack", desc := "(III)I" } : MethodName)) ∈ GW := gw_t6 53 rfl rfl
theorem gw_1386 : (Cond.instanceMethod ({ cls := "CartPaths", name := "slack", desc := "(III)I" } : MethodName)) ∈ GW := gw_t6 54 rfl rfl
theorem gw_1387 : (Cond.selects "CartPaths" ({ cls := "CartPaths", name := "slack", desc := "(III)I" } : MethodName) ({ cls := "CartPaths", name := "slack", desc := "(III)I" } : MethodName)) ∈ GW := gw_t6 55 rfl rfl
theorem gw_1388 : (Cond.code ({ cls := "CartPaths", name := "slack", desc := "(III)I" } : MethodName) prog_1_method_43_code (6 : Nat) (Option.some FieldType.int)) ∈ GW := gw_t6 56 rfl rfl
theorem gw_1389 : (Cond.methodLinkNest "CartPaths" (346 : Nat) ({ cls := "CartPaths$Stop", name := "sumDelays", desc := "(LCartPaths$Ways;)I" } : MethodName) "CartPaths") ∈ GW := gw_t6 57 rfl rfl
theorem gw_1391 : (Cond.instanceMethod ({ cls := "CartPaths$Stop", name := "sumDelays", desc := "(LCartPaths$Ways;)I" } : MethodName)) ∈ GW := gw_t6 59 rfl rfl
theorem gw_1392 : (Cond.code ({ cls := "CartPaths$Stop", name := "sumDelays", desc := "(LCartPaths$Ways;)I" } : MethodName) prog_6_method_6_code (4 : Nat) (Option.some FieldType.int)) ∈ GW := gw_t6 60 rfl rfl
theorem gw_1393 : (Cond.methodLink "CartPaths$Stop" (56 : Nat) ({ cls := "CartPaths$Stop", name := "delay", desc := "(LCartPaths$Ways;I)I" } : MethodName)) ∈ GW := gw_t6 61 rfl rfl
theorem gw_1394 : (Cond.methodLink "CartPathsLaw" (249 : Nat) ({ cls := "CartPathsLaw", name := "critical", desc := "(LCartPaths;IIZ[J)I" } : MethodName)) ∈ GW := gw_t6 62 rfl rfl
theorem gw_1395 : (Cond.static ({ cls := "CartPathsLaw", name := "critical", desc := "(LCartPaths;IIZ[J)I" } : MethodName)) ∈ GW := gw_t6 63 rfl rfl
theorem gw_1396 : (Cond.codeWith ({ cls := "CartPathsLaw", name := "critical", desc := "(LCartPaths;IIZ[J)I" } : MethodName) method_30_code (6 : Nat) (Option.some FieldType.int) [((0 : Nat), (12 : Nat), (15 : Nat), (13 : Nat)), ((0 : Nat), (12 : Nat), (19 : Nat), (33 : Nat))]) ∈ GW := gw_t6 64 rfl rfl
theorem gw_1397 : (Cond.methodLink "CartPathsLaw" (106 : Nat) ({ cls := "CartPaths", name := "critical", desc := "(IIZ)I" } : MethodName)) ∈ GW := gw_t6 65 rfl rfl
theorem gw_1398 : (Cond.instanceMethod ({ cls := "CartPaths", name := "critical", desc := "(IIZ)I" } : MethodName)) ∈ GW := gw_t6 66 rfl rfl
theorem gw_1399 : (Cond.selects "CartPaths" ({ cls := "CartPaths", name := "critical", desc := "(IIZ)I" } : MethodName) ({ cls := "CartPaths", name := "critical", desc := "(IIZ)I" } : MethodName)) ∈ GW := gw_t6 67 rfl rfl
theorem gw_1400 : (Cond.code ({ cls := "CartPaths", name := "critical", desc := "(IIZ)I" } : MethodName) prog_1_method_44_code (9 : Nat) (Option.some FieldType.int)) ∈ GW := gw_t6 68 rfl rfl
theorem gw_1401 : (Cond.methodLink "CartPathsLaw" (253 : Nat) ({ cls := "CartPathsLaw", name := "ended", desc := "(LCartPaths;II[J)I" } : MethodName)) ∈ GW := gw_t6 69 rfl rfl
theorem gw_1402 : (Cond.static ({ cls := "CartPathsLaw", name := "ended", desc := "(LCartPaths;II[J)I" } : MethodName)) ∈ GW := gw_t6 70 rfl rfl
theorem gw_1403 : (Cond.codeWith ({ cls := "CartPathsLaw", name := "ended", desc := "(LCartPaths;II[J)I" } : MethodName) method_31_code (5 : Nat) (Option.some FieldType.int) [((0 : Nat), (10 : Nat), (13 : Nat), (13 : Nat)), ((0 : Nat), (10 : Nat), (17 : Nat), (33 : Nat))]) ∈ GW := gw_t6 71 rfl rfl
theorem gw_1404 : (Cond.methodLink "CartPathsLaw" (110 : Nat) ({ cls := "CartPaths", name := "ended", desc := "(II)I" } : MethodName)) ∈ GW := gw_t6 72 rfl rfl
theorem gw_1405 : (Cond.instanceMethod ({ cls := "CartPaths", name := "ended", desc := "(II)I" } : MethodName)) ∈ GW := gw_t6 73 rfl rfl
theorem gw_1406 : (Cond.selects "CartPaths" ({ cls := "CartPaths", name := "ended", desc := "(II)I" } : MethodName) ({ cls := "CartPaths", name := "ended", desc := "(II)I" } : MethodName)) ∈ GW := gw_t6 74 rfl rfl
theorem gw_1407 : (Cond.code ({ cls := "CartPaths", name := "ended", desc := "(II)I" } : MethodName) prog_1_method_45_code (6 : Nat) (Option.some FieldType.int)) ∈ GW := gw_t6 75 rfl rfl
theorem gw_1408 : (Cond.methodLink "CartPathsLaw" (256 : Nat) ({ cls := "CartPathsLaw", name := "way", desc := "(LCartPaths;III[J)I" } : MethodName)) ∈ GW := gw_t6 76 rfl rfl
theorem gw_1409 : (Cond.static ({ cls := "CartPathsLaw", name := "way", desc := "(LCartPaths;III[J)I" } : MethodName)) ∈ GW := gw_t6 77 rfl rfl
theorem gw_1410 : (Cond.codeWith ({ cls := "CartPathsLaw", name := "way", desc := "(LCartPaths;III[J)I" } : MethodName) method_32_code (6 : Nat) (Option.some FieldType.int) [((0 : Nat), (12 : Nat), (15 : Nat), (19 : Nat)), ((0 : Nat), (12 : Nat), (19 : Nat), (13 : Nat)), ((0 : Nat), (12 : Nat), (23 : Nat), (33 : Nat)), ((0 : Nat), (12 : Nat), (27 : Nat), (24 : Nat))]) ∈ GW := gw_t6 78 rfl rfl
theorem gw_1411 : (Cond.methodLink "CartPathsLaw" (113 : Nat) ({ cls := "CartPaths", name := "way", desc := "(III)I" } : MethodName)) ∈ GW := gw_t6 79 rfl rfl
theorem gw_1412 : (Cond.instanceMethod ({ cls := "CartPaths", name := "way", desc := "(III)I" } : MethodName)) ∈ GW := gw_t6 80 rfl rfl
theorem gw_1413 : (Cond.selects "CartPaths" ({ cls := "CartPaths", name := "way", desc := "(III)I" } : MethodName) ({ cls := "CartPaths", name := "way", desc := "(III)I" } : MethodName)) ∈ GW := gw_t6 81 rfl rfl
theorem gw_1414 : (Cond.code ({ cls := "CartPaths", name := "way", desc := "(III)I" } : MethodName) prog_1_method_46_code (5 : Nat) (Option.some FieldType.int)) ∈ GW := gw_t6 82 rfl rfl
theorem gw_1415 : (Cond.methodLinkNest "CartPaths" (350 : Nat) ({ cls := "CartPaths$Ways", name := "visitedBy", desc := "(I)J" } : MethodName) "CartPaths") ∈ GW := gw_t6 83 rfl rfl
theorem gw_1417 : (Cond.instanceMethod ({ cls := "CartPaths$Ways", name := "visitedBy", desc := "(I)J" } : MethodName)) ∈ GW := gw_t6 85 rfl rfl
theorem gw_1418 : (Cond.code ({ cls := "CartPaths$Ways", name := "visitedBy", desc := "(I)J" } : MethodName) prog_10_method_11_code (5 : Nat) (Option.some FieldType.long)) ∈ GW := gw_t6 86 rfl rfl
theorem gw_1419 : (Cond.methodLinkNest "CartPaths" (353 : Nat) ({ cls := "CartPaths$Ways", name := "firstTimeIn", desc := "(II)I" } : MethodName) "CartPaths") ∈ GW := gw_t6 87 rfl rfl
theorem gw_1420 : (Cond.methodLink "CartPathsLaw" (259 : Nat) ({ cls := "CartPathsLaw", name := "again", desc := "(LCartPaths;II[J)I" } : MethodName)) ∈ GW := gw_t6 88 rfl rfl
theorem gw_1421 : (Cond.static ({ cls := "CartPathsLaw", name := "again", desc := "(LCartPaths;II[J)I" } : MethodName)) ∈ GW := gw_t6 89 rfl rfl
theorem gw_1422 : (Cond.codeWith ({ cls := "CartPathsLaw", name := "again", desc := "(LCartPaths;II[J)I" } : MethodName) method_33_code (5 : Nat) (Option.some FieldType.int) [((0 : Nat), (10 : Nat), (13 : Nat), (13 : Nat)), ((0 : Nat), (10 : Nat), (17 : Nat), (33 : Nat))]) ∈ GW := gw_t6 90 rfl rfl
theorem gw_1423 : (Cond.methodLink "CartPathsLaw" (116 : Nat) ({ cls := "CartPaths", name := "again", desc := "(II)I" } : MethodName)) ∈ GW := gw_t6 91 rfl rfl
theorem gw_1424 : (Cond.instanceMethod ({ cls := "CartPaths", name := "again", desc := "(II)I" } : MethodName)) ∈ GW := gw_t6 92 rfl rfl
theorem gw_1425 : (Cond.selects "CartPaths" ({ cls := "CartPaths", name := "again", desc := "(II)I" } : MethodName) ({ cls := "CartPaths", name := "again", desc := "(II)I" } : MethodName)) ∈ GW := gw_t6 93 rfl rfl
theorem gw_1426 : (Cond.code ({ cls := "CartPaths", name := "again", desc := "(II)I" } : MethodName) prog_1_method_47_code (5 : Nat) (Option.some FieldType.int)) ∈ GW := gw_t6 94 rfl rfl
theorem gw_1427 : (Cond.methodLink "CartPathsLaw" (262 : Nat) ({ cls := "CartPathsLaw", name := "among", desc := "(LCartPaths;I[J)I" } : MethodName)) ∈ GW := gw_t6 95 rfl rfl
theorem gw_1428 : (Cond.static ({ cls := "CartPathsLaw", name := "among", desc := "(LCartPaths;I[J)I" } : MethodName)) ∈ GW := gw_t6 96 rfl rfl
theorem gw_1429 : (Cond.codeWith ({ cls := "CartPathsLaw", name := "among", desc := "(LCartPaths;I[J)I" } : MethodName) method_34_code (4 : Nat) (Option.some FieldType.int) [((0 : Nat), (9 : Nat), (12 : Nat), (19 : Nat))]) ∈ GW := gw_t6 97 rfl rfl
theorem gw_1430 : (Cond.methodLink "CartPathsLaw" (119 : Nat) ({ cls := "CartPaths", name := "among", desc := "(I)I" } : MethodName)) ∈ GW := gw_t6 98 rfl rfl
theorem gw_1431 : (Cond.instanceMethod ({ cls := "CartPaths", name := "among", desc := "(I)I" } : MethodName)) ∈ GW := gw_t6 99 rfl rfl
theorem gw_1432 : (Cond.selects "CartPaths" ({ cls := "CartPaths", name := "among", desc := "(I)I" } : MethodName) ({ cls := "CartPaths", name := "among", desc := "(I)I" } : MethodName)) ∈ GW := gw_t6 100 rfl rfl
theorem gw_1433 : (Cond.code ({ cls := "CartPaths", name := "among", desc := "(I)I" } : MethodName) prog_1_method_48_code (3 : Nat) (Option.some FieldType.int)) ∈ GW := gw_t6 101 rfl rfl
theorem gw_1434 : (Cond.methodLinkNest "CartPaths" (356 : Nat) ({ cls := "CartPaths$Search", name := "forbidAlways", desc := "(I)V" } : MethodName) "CartPaths") ∈ GW := gw_t6 102 rfl rfl
theorem gw_1436 : (Cond.instanceMethod ({ cls := "CartPaths$Search", name := "forbidAlways", desc := "(I)V" } : MethodName)) ∈ GW := gw_t6 104 rfl rfl
theorem gw_1437 : (Cond.code ({ cls := "CartPaths$Search", name := "forbidAlways", desc := "(I)V" } : MethodName) prog_5_method_4_code (3 : Nat) (Option.none : Option FieldType)) ∈ GW := gw_t6 105 rfl rfl
theorem gw_1438 : (Cond.methodLink "CartPaths$Search" (27 : Nat) ({ cls := "CartPaths$Search", name := "forbidCell", desc := "(II)V" } : MethodName)) ∈ GW := gw_t6 106 rfl rfl
theorem gw_1439 : (Cond.methodLink "CartPathsLaw" (265 : Nat) ({ cls := "CartPathsLaw", name := "byTurns", desc := "(LCartPaths;I[J)I" } : MethodName)) ∈ GW := gw_t6 107 rfl rfl
theorem gw_1440 : (Cond.static ({ cls := "CartPathsLaw", name := "byTurns", desc := "(LCartPaths;I[J)I" } : MethodName)) ∈ GW := gw_t6 108 rfl rfl
theorem gw_1441 : (Cond.codeWith ({ cls := "CartPathsLaw", name := "byTurns", desc := "(LCartPaths;I[J)I" } : MethodName) method_35_code (4 : Nat) (Option.some FieldType.int) [((0 : Nat), (9 : Nat), (12 : Nat), (24 : Nat))]) ∈ GW := gw_t6 109 rfl rfl
theorem gw_1442 : (Cond.methodLink "CartPathsLaw" (122 : Nat) ({ cls := "CartPaths", name := "byTurns", desc := "(I)I" } : MethodName)) ∈ GW := gw_t6 110 rfl rfl
theorem gw_1443 : (Cond.instanceMethod ({ cls := "CartPaths", name := "byTurns", desc := "(I)I" } : MethodName)) ∈ GW := gw_t6 111 rfl rfl
theorem gw_1444 : (Cond.selects "CartPaths" ({ cls := "CartPaths", name := "byTurns", desc := "(I)I" } : MethodName) ({ cls := "CartPaths", name := "byTurns", desc := "(I)I" } : MethodName)) ∈ GW := gw_t6 112 rfl rfl
theorem gw_1445 : (Cond.code ({ cls := "CartPaths", name := "byTurns", desc := "(I)I" } : MethodName) prog_1_method_51_code (3 : Nat) (Option.some FieldType.int)) ∈ GW := gw_t6 113 rfl rfl
theorem gw_1446 : (Cond.methodLink "CartPaths" (371 : Nat) ({ cls := "CartPaths", name := "needOrder", desc := "(I)V" } : MethodName)) ∈ GW := gw_t6 114 rfl rfl
theorem gw_1448 : (Cond.instanceMethod ({ cls := "CartPaths", name := "needOrder", desc := "(I)V" } : MethodName)) ∈ GW := gw_t6 116 rfl rfl
theorem gw_1449 : (Cond.code ({ cls := "CartPaths", name := "needOrder", desc := "(I)V" } : MethodName) prog_1_method_49_code (2 : Nat) (Option.none : Option FieldType)) ∈ GW := gw_t6 117 rfl rfl
theorem gw_1450 : (Cond.methodLink "CartPathsLaw" (268 : Nat) ({ cls := "CartPathsLaw", name := "turned", desc := "(LCartPaths;III[J)I" } : MethodName)) ∈ GW := gw_t6 118 rfl rfl
theorem gw_1451 : (Cond.static ({ cls := "CartPathsLaw", name := "turned", desc := "(LCartPaths;III[J)I" } : MethodName)) ∈ GW := gw_t6 119 rfl rfl
theorem gw_1452 : (Cond.codeWith ({ cls := "CartPathsLaw", name := "turned", desc := "(LCartPaths;III[J)I" } : MethodName) method_36_code (6 : Nat) (Option.some FieldType.int) [((0 : Nat), (12 : Nat), (15 : Nat), (19 : Nat)), ((0 : Nat), (12 : Nat), (19 : Nat), (24 : Nat)), ((0 : Nat), (12 : Nat), (23 : Nat), (13 : Nat)), ((0 : Nat), (12 : Nat), (27 : Nat), (33 : Nat))]) ∈ GW := gw_t6 120 rfl rfl
theorem gw_1453 : (Cond.methodLink "CartPathsLaw" (125 : Nat) ({ cls := "CartPaths", name := "turned", desc := "(III)I" } : MethodName)) ∈ GW := gw_t6 121 rfl rfl
theorem gw_1454 : (Cond.instanceMethod ({ cls := "CartPaths", name := "turned", desc := "(III)I" } : MethodName)) ∈ GW := gw_t6 122 rfl rfl
theorem gw_1455 : (Cond.selects "CartPaths" ({ cls := "CartPaths", name := "turned", desc := "(III)I" } : MethodName) ({ cls := "CartPaths", name := "turned", desc := "(III)I" } : MethodName)) ∈ GW := gw_t6 123 rfl rfl
theorem gw_1456 : (Cond.code ({ cls := "CartPaths", name := "turned", desc := "(III)I" } : MethodName) prog_1_method_52_code (5 : Nat) (Option.some FieldType.int)) ∈ GW := gw_t6 124 rfl rfl
theorem gw_1457 : (Cond.methodLink "CartPathsLaw" (276 : Nat) ({ cls := "CartPathsLaw", name := "ordered", desc := "(LCartPaths;II[J)I" } : MethodName)) ∈ GW := gw_t6 125 rfl rfl
theorem gw_1458 : (Cond.static ({ cls := "CartPathsLaw", name := "ordered", desc := "(LCartPaths;II[J)I" } : MethodName)) ∈ GW := gw_t6 126 rfl rfl
theorem gw_1459 : (Cond.codeWith ({ cls := "CartPathsLaw", name := "ordered", desc := "(LCartPaths;II[J)I" } : MethodName) method_37_code (5 : Nat) (Option.some FieldType.int) [((0 : Nat), (10 : Nat), (13 : Nat), (24 : Nat))]) ∈ GW := gw_t6 127 rfl rfl
theorem gw_1460 : (Cond.methodLink "CartPathsLaw" (128 : Nat) ({ cls := "CartPaths", name := "ordered", desc := "(II)I" } : MethodName)) ∈ GW := gw_t6 128 rfl rfl
theorem gw_1461 : (Cond.instanceMethod ({ cls := "CartPaths", name := "ordered", desc := "(II)I" } : MethodName)) ∈ GW := gw_t6 129 rfl rfl
theorem gw_1462 : (Cond.selects "CartPaths" ({ cls := "CartPaths", name := "ordered", desc := "(II)I" } : MethodName) ({ cls := "CartPaths", name := "ordered", desc := "(II)I" } : MethodName)) ∈ GW := gw_t6 130 rfl rfl
theorem gw_1463 : (Cond.code ({ cls := "CartPaths", name := "ordered", desc := "(II)I" } : MethodName) prog_1_method_55_code (3 : Nat) (Option.some FieldType.int)) ∈ GW := gw_t6 131 rfl rfl
theorem gw_1464 : (Cond.methodLink "CartPathsLaw" (279 : Nat) ({ cls := "CartPathsLaw", name := "write", desc := "(LCartPaths;II[J)I" } : MethodName)) ∈ GW := gw_t6 132 rfl rfl
theorem gw_1465 : (Cond.static ({ cls := "CartPathsLaw", name := "write", desc := "(LCartPaths;II[J)I" } : MethodName)) ∈ GW := gw_t6 133 rfl rfl
theorem gw_1466 : (Cond.codeWith ({ cls := "CartPathsLaw", name := "write", desc := "(LCartPaths;II[J)I" } : MethodName) method_38_code (5 : Nat) (Option.some FieldType.int) [((0 : Nat), (10 : Nat), (13 : Nat), (13 : Nat)), ((0 : Nat), (10 : Nat), (17 : Nat), (33 : Nat))]) ∈ GW := gw_t6 134 rfl rfl
theorem gw_1467 : (Cond.methodLink "CartPathsLaw" (131 : Nat) ({ cls := "CartPaths", name := "write", desc := "(II)I" } : MethodName)) ∈ GW := gw_t6 135 rfl rfl
theorem gw_1468 : (Cond.instanceMethod ({ cls := "CartPaths", name := "write", desc := "(II)I" } : MethodName)) ∈ GW := gw_t6 136 rfl rfl
theorem gw_1469 : (Cond.selects "CartPaths" ({ cls := "CartPaths", name := "write", desc := "(II)I" } : MethodName) ({ cls := "CartPaths", name := "write", desc := "(II)I" } : MethodName)) ∈ GW := gw_t6 137 rfl rfl
theorem gw_1470 : (Cond.code ({ cls := "CartPaths", name := "write", desc := "(II)I" } : MethodName) prog_1_method_56_code (8 : Nat) (Option.some FieldType.int)) ∈ GW := gw_t6 138 rfl rfl
theorem gw_1473 : (Cond.methodLink "CartPaths" (406 : Nat) ({ cls := "CartPaths", name := "putWritten", desc := "(I)V" } : MethodName)) ∈ GW := gw_t6 141 rfl rfl
theorem gw_1475 : (Cond.instanceMethod ({ cls := "CartPaths", name := "putWritten", desc := "(I)V" } : MethodName)) ∈ GW := gw_t6 143 rfl rfl
theorem gw_1476 : (Cond.code ({ cls := "CartPaths", name := "putWritten", desc := "(I)V" } : MethodName) prog_1_method_57_code (2 : Nat) (Option.none : Option FieldType)) ∈ GW := gw_t6 144 rfl rfl
theorem gw_1477 : (Cond.classLink "CartPathsLaw" (135 : Nat) "CartPathsModel") ∈ GW := gw_t6 145 rfl rfl
theorem gw_1478 : (Cond.instantiable "CartPathsModel" (56 : Nat)) ∈ GW := gw_t6 146 rfl rfl
theorem gw_1479 : (Cond.methodLink "CartPathsLaw" (137 : Nat) ({ cls := "CartPathsModel", name := "<init>", desc := "()V" } : MethodName)) ∈ GW := gw_t6 147 rfl rfl
theorem gw_1480 : (Cond.instanceMethod ({ cls := "CartPathsModel", name := "<init>", desc := "()V" } : MethodName)) ∈ GW := gw_t6 148 rfl rfl
theorem gw_1481 : (Cond.code ({ cls := "CartPathsModel", name := "<init>", desc := "()V" } : MethodName) prog_12_method_1_code (1 : Nat) (Option.none : Option FieldType)) ∈ GW := gw_t6 149 rfl rfl
theorem gw_1482 : (Cond.methodLink "CartPathsModel" (1 : Nat) ({ cls := "java/lang/Object", name := "<init>", desc := "()V" } : MethodName)) ∈ GW := gw_t6 150 rfl rfl
theorem gw_1483 : (Cond.constant "CartPathsModel" (61 : Nat) (62115 : Int32)) ∈ GW := gw_t6 151 rfl rfl
theorem gw_1484 : (Cond.fieldLink "CartPathsModel" (122 : Nat) "CartPathsModel" "thrown" "I") ∈ GW := gw_t6 152 rfl rfl
theorem gw_1485 : (Cond.fieldLink "CartPathsModel" (7 : Nat) "CartPathsModel" "tape" "[I") ∈ GW := gw_t6 153 rfl rfl
theorem gw_1486 : (Cond.fieldLink "CartPathsModel" (119 : Nat) "CartPathsModel" "taped" "I") ∈ GW := gw_t6 154 rfl rfl
theorem gw_1487 : (Cond.fieldLink "CartPathsModel" (128 : Nat) "CartPathsModel" "size" "I") ∈ GW := gw_t6 155 rfl rfl
theorem gw_1488 : (Cond.fieldLink "CartPathsModel" (125 : Nat) "CartPathsModel" "at" "I") ∈ GW := gw_t6 156 rfl rfl
theorem gw_1489 : (Cond.fieldLink "CartPathsModel" (13 : Nat) "CartPathsModel" "fault" "I") ∈ GW := gw_t6 157 rfl rfl
theorem gw_1490 : (Cond.fieldLink "CartPathsModel" (183 : Nat) "CartPathsModel" "newColumns" "I") ∈ GW := gw_t6 158 rfl rfl
theorem gw_1491 : (Cond.fieldLink "CartPathsModel" (173 : Nat) "CartPathsModel" "newRows" "I") ∈ GW := gw_t6 159 rfl rfl
theorem gw_1492 : (Cond.fieldLink "CartPathsModel" (176 : Nat) "CartPathsModel" "newCarts" "I") ∈ GW := gw_t6 160 rfl rfl
theorem gw_1493 : (Cond.fieldLink "CartPathsModel" (17 : Nat) "CartPathsModel" "newSort" "[I") ∈ GW := gw_t6 161 rfl rfl
theorem gw_1494 : (Cond.fieldLink "CartPathsModel" (20 : Nat) "CartPathsModel" "newName" "[J") ∈ GW := gw_t6 162 rfl rfl
theorem gw_1495 : (Cond.fieldLink "CartPathsModel" (24 : Nat) "CartPathsModel" "newPlace" "[I") ∈ GW := gw_t6 163 rfl rfl
theorem gw_1496 : (Cond.fieldLink "CartPathsModel" (27 : Nat) "CartPathsModel" "newGoal" "[I") ∈ GW := gw_t6 164 rfl rfl
theorem gw_1497 : (Cond.fieldLink "CartPathsModel" (214 : Nat) "CartPathsModel" "columns" "I") ∈ GW := gw_t6 165 rfl rfl
theorem gw_1498 : (Cond.fieldLink "CartPathsModel" (217 : Nat) "CartPathsModel" "rows" "I") ∈ GW := gw_t6 166 rfl rfl
theorem gw_1499 : (Cond.fieldLink "CartPathsModel" (220 : Nat) "CartPathsModel" "carts" "I") ∈ GW := gw_t6 167 rfl rfl
theorem gw_1500 : (Cond.fieldLink "CartPathsModel" (30 : Nat) "CartPathsModel" "sort" "[I") ∈ GW := gw_t6 168 rfl rfl
theorem gw_1501 : (Cond.fieldLink "CartPathsModel" (33 : Nat) "CartPathsModel" "name" "[J") ∈ GW := gw_t6 169 rfl rfl
theorem gw_1502 : (Cond.fieldLink "CartPathsModel" (36 : Nat) "CartPathsModel" "place" "[I") ∈ GW := gw_t6 170 rfl rfl
theorem gw_1503 : (Cond.fieldLink "CartPathsModel" (39 : Nat) "CartPathsModel" "goal" "[I") ∈ GW := gw_t6 171 rfl rfl
theorem gw_1504 : (Cond.fieldLink "CartPathsModel" (223 : Nat) "CartPathsModel" "acts" "I") ∈ GW := gw_t6 172 rfl rfl
theorem gw_1505 : (Cond.fieldLink "CartPathsModel" (42 : Nat) "CartPathsModel" "past" "[I") ∈ GW := gw_t6 173 rfl rfl
theorem gw_1506 : (Cond.fieldLink "CartPathsModel" (45 : Nat) "CartPathsModel" "badCell" "[Z") ∈ GW := gw_t6 174 rfl rfl
theorem gw_1507 : (Cond.fieldLink "CartPathsModel" (49 : Nat) "CartPathsModel" "badMove" "[Z") ∈ GW := gw_t6 175 rfl rfl
theorem gw_1508 : (Cond.fieldLink "CartPathsModel" (52 : Nat) "CartPathsModel" "comes" "[Z") ∈ GW := gw_t6 176 rfl rfl
theorem gw_1509 : (Cond.fieldLink "CartPathsModel" (55 : Nat) "CartPathsModel" "ends" "[Z") ∈ GW := gw_t6 177 rfl rfl
theorem gw_1510 : (Cond.fieldLink "CartPathsModel" (58 : Nat) "CartPathsModel" "way" "[I") ∈ GW := gw_t6 178 rfl rfl
theorem gw_1511 : (Cond.fieldLink "CartPathsModel" (62 : Nat) "CartPathsModel" "ways" "[I") ∈ GW := gw_t6 179 rfl rfl
theorem gw_1512 : (Cond.fieldLink "CartPathsModel" (271 : Nat) "CartPathsModel" "firstTime" "I") ∈ GW := gw_t6 180 rfl rfl
theorem gw_1513 : (Cond.fieldLink "CartPathsModel" (274 : Nat) "CartPathsModel" "firstSort" "I") ∈ GW := gw_t6 181 rfl rfl
theorem gw_1514 : (Cond.fieldLink "CartPathsModel" (277 : Nat) "CartPathsModel" "firstCart" "I") ∈ GW := gw_t6 182 rfl rfl
theorem gw_1515 : (Cond.fieldLink "CartPathsModel" (280 : Nat) "CartPathsModel" "firstOther" "I") ∈ GW := gw_t6 183 rfl rfl
theorem gw_1516 : (Cond.fieldLink "CartPathsModel" (65 : Nat) "CartPathsModel" "off" "[I") ∈ GW := gw_t6 184 rfl rfl
theorem gw_1517 : (Cond.fieldLink "CartPathsModel" (68 : Nat) "CartPathsModel" "laidBound" "I") ∈ GW := gw_t6 185 rfl rfl
theorem gw_1518 : (Cond.fieldLink "CartPathsModel" (302 : Nat) "CartPathsModel" "nodes" "I") ∈ GW := gw_t6 186 rfl rfl
theorem gw_1519 : (Cond.fieldLink "CartPathsModel" (314 : Nat) "CartPathsModel" "plan" "I") ∈ GW := gw_t6 187 rfl rfl
theorem gw_1520 : (Cond.fieldLink "CartPathsModel" (311 : Nat) "CartPathsModel" "low" "I") ∈ GW := gw_t6 188 rfl rfl
theorem gw_1521 : (Cond.fieldLink "CartPathsModel" (317 : Nat) "CartPathsModel" "splits" "I") ∈ GW := gw_t6 189 rfl rfl
theorem gw_1522 : (Cond.fieldLink "CartPathsModel" (320 : Nat) "CartPathsModel" "isCut" "Z") ∈ GW := gw_t6 190 rfl rfl
theorem gw_1523 : (Cond.fieldLink "CartPathsModel" (71 : Nat) "CartPathsModel" "ahead" "[I") ∈ GW := gw_t6 191 rfl rfl
theorem gw_1524 : (Cond.fieldLink "CartPathsModel" (74 : Nat) "CartPathsModel" "sum" "[I") ∈ GW := gw_t6 192 rfl rfl
theorem gw_1525 : (Cond.fieldLink "CartPathsModel" (77 : Nat) "CartPathsModel" "clashes" "[I") ∈ GW := gw_t6 193 rfl rfl
theorem gw_1526 : (Cond.fieldLink "CartPathsModel" (80 : Nat) "CartPathsModel" "toCart" "[I") ∈ GW := gw_t6 194 rfl rfl
theorem gw_1527 : (Cond.fieldLink "CartPathsModel" (83 : Nat) "CartPathsModel" "badSort" "[I") ∈ GW := gw_t6 195 rfl rfl
theorem gw_1528 : (Cond.fieldLink "CartPathsModel" (86 : Nat) "CartPathsModel" "badFrom" "[I") ∈ GW := gw_t6 196 rfl rfl
theorem gw_1529 : (Cond.fieldLink "CartPathsModel" (89 : Nat) "CartPathsModel" "badTo" "[I") ∈ GW := gw_t6 197 rfl rfl
theorem gw_1530 : (Cond.fieldLink "CartPathsModel" (92 : Nat) "CartPathsModel" "badTime" "[I") ∈ GW := gw_t6 198 rfl rfl
theorem gw_1531 : (Cond.fieldLink "CartPathsModel" (95 : Nat) "CartPathsModel" "isSplit" "[Z") ∈ GW := gw_t6 199 rfl rfl
theorem gw_1532 : (Cond.fieldLink "CartPathsModel" (98 : Nat) "CartPathsModel" "visits" "[I") ∈ GW := gw_t6 200 rfl rfl
theorem gw_1533 : (Cond.fieldLink "CartPathsModel" (101 : Nat) "CartPathsModel" "visit" "[I") ∈ GW := gw_t6 201 rfl rfl
theorem gw_1534 : (Cond.fieldLink "CartPathsModel" (104 : Nat) "CartPathsModel" "told" "[I") ∈ GW := gw_t6 202 rfl rfl
theorem gw_1535 : (Cond.fieldLink "CartPathsModel" (107 : Nat) "CartPathsModel" "then" "[I") ∈ GW := gw_t6 203 rfl rfl
theorem gw_1536 : (Cond.fieldLink "CartPathsModel" (110 : Nat) "CartPathsModel" "places" "[I") ∈ GW := gw_t6 204 rfl rfl
theorem gw_1537 : (Cond.fieldLink "CartPathsModel" (113 : Nat) "CartPathsModel" "order" "[I") ∈ GW := gw_t6 205 rfl rfl
theorem gw_1538 : (Cond.fieldLink "CartPathsModel" (116 : Nat) "CartPathsModel" "written" "[I") ∈ GW := gw_t6 206 rfl rfl
theorem gw_1539 : (Cond.fieldLink "CartPathsModel" (384 : Nat) "CartPathsModel" "writtenMany" "I") ∈ GW := gw_t6 207 rfl rfl
theorem gw_1540 : (Cond.lays "CartPathsModel" "CartPathsModel" "thrown" "I") ∈ GW := gw_t6 208 rfl rfl
theorem gw_1542 : (Cond.laysFinal "CartPathsModel" "CartPathsModel" "tape" "[I") ∈ GW := gw_t6 210 rfl rfl
theorem gw_1544 : (Cond.lays "CartPathsModel" "CartPathsModel" "taped" "I") ∈ GW := gw_t6 212 rfl rfl
theorem gw_1546 : (Cond.lays "CartPathsModel" "CartPathsModel" "size" "I") ∈ GW := gw_t6 214 rfl rfl
theorem gw_1548 : (Cond.lays "CartPathsModel" "CartPathsModel" "at" "I") ∈ GW := gw_t6 216 rfl rfl
theorem gw_1550 : (Cond.lays "CartPathsModel" "CartPathsModel" "fault" "I") ∈ GW := gw_t6 218 rfl rfl
theorem gw_1552 : (Cond.lays "CartPathsModel" "CartPathsModel" "newColumns" "I") ∈ GW := gw_t6 220 rfl rfl
theorem gw_1554 : (Cond.lays "CartPathsModel" "CartPathsModel" "newRows" "I") ∈ GW := gw_t6 222 rfl rfl
theorem gw_1556 : (Cond.lays "CartPathsModel" "CartPathsModel" "newCarts" "I") ∈ GW := gw_t6 224 rfl rfl
theorem gw_1558 : (Cond.laysFinal "CartPathsModel" "CartPathsModel" "newSort" "[I") ∈ GW := gw_t6 226 rfl rfl
theorem gw_1560 : (Cond.laysFinal "CartPathsModel" "CartPathsModel" "newName" "[J") ∈ GW := gw_t6 228 rfl rfl
theorem gw_1562 : (Cond.laysFinal "CartPathsModel" "CartPathsModel" "newPlace" "[I") ∈ GW := gw_t6 230 rfl rfl
theorem gw_1564 : (Cond.laysFinal "CartPathsModel" "CartPathsModel" "newGoal" "[I") ∈ GW := gw_t6 232 rfl rfl
theorem gw_1566 : (Cond.lays "CartPathsModel" "CartPathsModel" "columns" "I") ∈ GW := gw_t6 234 rfl rfl
theorem gw_1568 : (Cond.lays "CartPathsModel" "CartPathsModel" "rows" "I") ∈ GW := gw_t6 236 rfl rfl
theorem gw_1570 : (Cond.lays "CartPathsModel" "CartPathsModel" "carts" "I") ∈ GW := gw_t6 238 rfl rfl
theorem gw_1572 : (Cond.laysFinal "CartPathsModel" "CartPathsModel" "sort" "[I") ∈ GW := gw_t7 0 rfl rfl
theorem gw_1574 : (Cond.laysFinal "CartPathsModel" "CartPathsModel" "name" "[J") ∈ GW := gw_t7 2 rfl rfl
theorem gw_1576 : (Cond.laysFinal "CartPathsModel" "CartPathsModel" "place" "[I") ∈ GW := gw_t7 4 rfl rfl
theorem gw_1578 : (Cond.laysFinal "CartPathsModel" "CartPathsModel" "goal" "[I") ∈ GW := gw_t7 6 rfl rfl
theorem gw_1580 : (Cond.lays "CartPathsModel" "CartPathsModel" "acts" "I") ∈ GW := gw_t7 8 rfl rfl
theorem gw_1582 : (Cond.laysFinal "CartPathsModel" "CartPathsModel" "past" "[I") ∈ GW := gw_t7 10 rfl rfl
theorem gw_1584 : (Cond.laysFinal "CartPathsModel" "CartPathsModel" "badCell" "[Z") ∈ GW := gw_t7 12 rfl rfl
theorem gw_1586 : (Cond.laysFinal "CartPathsModel" "CartPathsModel" "badMove" "[Z") ∈ GW := gw_t7 14 rfl rfl
theorem gw_1588 : (Cond.laysFinal "CartPathsModel" "CartPathsModel" "comes" "[Z") ∈ GW := gw_t7 16 rfl rfl
theorem gw_1590 : (Cond.laysFinal "CartPathsModel" "CartPathsModel" "ends" "[Z") ∈ GW := gw_t7 18 rfl rfl
theorem gw_1592 : (Cond.laysFinal "CartPathsModel" "CartPathsModel" "way" "[I") ∈ GW := gw_t7 20 rfl rfl
theorem gw_1594 : (Cond.laysFinal "CartPathsModel" "CartPathsModel" "ways" "[I") ∈ GW := gw_t7 22 rfl rfl
theorem gw_1596 : (Cond.lays "CartPathsModel" "CartPathsModel" "firstTime" "I") ∈ GW := gw_t7 24 rfl rfl
theorem gw_1598 : (Cond.lays "CartPathsModel" "CartPathsModel" "firstSort" "I") ∈ GW := gw_t7 26 rfl rfl
theorem gw_1600 : (Cond.lays "CartPathsModel" "CartPathsModel" "firstCart" "I") ∈ GW := gw_t7 28 rfl rfl
theorem gw_1602 : (Cond.lays "CartPathsModel" "CartPathsModel" "firstOther" "I") ∈ GW := gw_t7 30 rfl rfl
theorem gw_1604 : (Cond.laysFinal "CartPathsModel" "CartPathsModel" "off" "[I") ∈ GW := gw_t7 32 rfl rfl
theorem gw_1606 : (Cond.lays "CartPathsModel" "CartPathsModel" "laidBound" "I") ∈ GW := gw_t7 34 rfl rfl
theorem gw_1608 : (Cond.lays "CartPathsModel" "CartPathsModel" "nodes" "I") ∈ GW := gw_t7 36 rfl rfl
theorem gw_1610 : (Cond.lays "CartPathsModel" "CartPathsModel" "plan" "I") ∈ GW := gw_t7 38 rfl rfl
theorem gw_1612 : (Cond.lays "CartPathsModel" "CartPathsModel" "low" "I") ∈ GW := gw_t7 40 rfl rfl
theorem gw_1614 : (Cond.lays "CartPathsModel" "CartPathsModel" "splits" "I") ∈ GW := gw_t7 42 rfl rfl
theorem gw_1616 : (Cond.lays "CartPathsModel" "CartPathsModel" "isCut" "Z") ∈ GW := gw_t7 44 rfl rfl
theorem gw_1618 : (Cond.laysFinal "CartPathsModel" "CartPathsModel" "ahead" "[I") ∈ GW := gw_t7 46 rfl rfl
theorem gw_1620 : (Cond.laysFinal "CartPathsModel" "CartPathsModel" "sum" "[I") ∈ GW := gw_t7 48 rfl rfl
theorem gw_1622 : (Cond.laysFinal "CartPathsModel" "CartPathsModel" "clashes" "[I") ∈ GW := gw_t7 50 rfl rfl
theorem gw_1624 : (Cond.laysFinal "CartPathsModel" "CartPathsModel" "toCart" "[I") ∈ GW := gw_t7 52 rfl rfl
theorem gw_1626 : (Cond.laysFinal "CartPathsModel" "CartPathsModel" "badSort" "[I") ∈ GW := gw_t7 54 rfl rfl
theorem gw_1628 : (Cond.laysFinal "CartPathsModel" "CartPathsModel" "badFrom" "[I") ∈ GW := gw_t7 56 rfl rfl
theorem gw_1630 : (Cond.laysFinal "CartPathsModel" "CartPathsModel" "badTo" "[I") ∈ GW := gw_t7 58 rfl rfl
theorem gw_1632 : (Cond.laysFinal "CartPathsModel" "CartPathsModel" "badTime" "[I") ∈ GW := gw_t7 60 rfl rfl
theorem gw_1634 : (Cond.laysFinal "CartPathsModel" "CartPathsModel" "isSplit" "[Z") ∈ GW := gw_t7 62 rfl rfl
theorem gw_1636 : (Cond.laysFinal "CartPathsModel" "CartPathsModel" "visits" "[I") ∈ GW := gw_t7 64 rfl rfl
theorem gw_1638 : (Cond.laysFinal "CartPathsModel" "CartPathsModel" "visit" "[I") ∈ GW := gw_t7 66 rfl rfl
theorem gw_1640 : (Cond.laysFinal "CartPathsModel" "CartPathsModel" "told" "[I") ∈ GW := gw_t7 68 rfl rfl
theorem gw_1642 : (Cond.laysFinal "CartPathsModel" "CartPathsModel" "then" "[I") ∈ GW := gw_t7 70 rfl rfl
theorem gw_1644 : (Cond.laysFinal "CartPathsModel" "CartPathsModel" "places" "[I") ∈ GW := gw_t7 72 rfl rfl
theorem gw_1646 : (Cond.laysFinal "CartPathsModel" "CartPathsModel" "order" "[I") ∈ GW := gw_t7 74 rfl rfl
theorem gw_1648 : (Cond.laysFinal "CartPathsModel" "CartPathsModel" "written" "[I") ∈ GW := gw_t7 76 rfl rfl
theorem gw_1650 : (Cond.lays "CartPathsModel" "CartPathsModel" "writtenMany" "I") ∈ GW := gw_t7 78 rfl rfl
theorem gw_1653 : (Cond.arrayClass FieldType.boolean) ∈ GW := gw_t7 81 rfl rfl
theorem gw_1654 : (Cond.methodLink "CartPathsLaw" (153 : Nat) ({ cls := "CartPathsModel", name := "thrown", desc := "()I" } : MethodName)) ∈ GW := gw_t7 82 rfl rfl
theorem gw_1655 : (Cond.instanceMethod ({ cls := "CartPathsModel", name := "thrown", desc := "()I" } : MethodName)) ∈ GW := gw_t7 83 rfl rfl
theorem gw_1656 : (Cond.selects "CartPathsModel" ({ cls := "CartPathsModel", name := "thrown", desc := "()I" } : MethodName) ({ cls := "CartPathsModel", name := "thrown", desc := "()I" } : MethodName)) ∈ GW := gw_t7 84 rfl rfl
theorem gw_1657 : (Cond.code ({ cls := "CartPathsModel", name := "thrown", desc := "()I" } : MethodName) prog_12_method_2_code (1 : Nat) (Option.some FieldType.int)) ∈ GW := gw_t7 85 rfl rfl
theorem gw_1658 : (Cond.methodLink "CartPathsLaw" (141 : Nat) ({ cls := "CartPathsModel", name := "feed", desc := "(IIIII)I" } : MethodName)) ∈ GW := gw_t7 86 rfl rfl
theorem gw_1659 : (Cond.instanceMethod ({ cls := "CartPathsModel", name := "feed", desc := "(IIIII)I" } : MethodName)) ∈ GW := gw_t7 87 rfl rfl
theorem gw_1660 : (Cond.selects "CartPathsModel" ({ cls := "CartPathsModel", name := "feed", desc := "(IIIII)I" } : MethodName) ({ cls := "CartPathsModel", name := "feed", desc := "(IIIII)I" } : MethodName)) ∈ GW := gw_t7 88 rfl rfl
theorem gw_1661 : (Cond.code ({ cls := "CartPathsModel", name := "feed", desc := "(IIIII)I" } : MethodName) prog_12_method_4_code (8 : Nat) (Option.some FieldType.int)) ∈ GW := gw_t7 89 rfl rfl
theorem gw_1662 : (Cond.methodLink "CartPathsLaw" (146 : Nat) ({ cls := "CartPathsModel", name := "end", desc := "(I)Z" } : MethodName)) ∈ GW := gw_t7 90 rfl rfl
theorem gw_1663 : (Cond.instanceMethod ({ cls := "CartPathsModel", name := "end", desc := "(I)Z" } : MethodName)) ∈ GW := gw_t7 91 rfl rfl
theorem gw_1664 : (Cond.selects "CartPathsModel" ({ cls := "CartPathsModel", name := "end", desc := "(I)Z" } : MethodName) ({ cls := "CartPathsModel", name := "end", desc := "(I)Z" } : MethodName)) ∈ GW := gw_t7 92 rfl rfl
theorem gw_1665 : (Cond.code ({ cls := "CartPathsModel", name := "end", desc := "(I)Z" } : MethodName) prog_12_method_5_code (2 : Nat) (Option.some FieldType.boolean)) ∈ GW := gw_t7 93 rfl rfl
theorem gw_1666 : (Cond.methodLink "CartPathsLaw" (152 : Nat) ({ cls := "CartPathsModel", name := "read", desc := "()I" } : MethodName)) ∈ GW := gw_t7 94 rfl rfl
theorem gw_1667 : (Cond.instanceMethod ({ cls := "CartPathsModel", name := "read", desc := "()I" } : MethodName)) ∈ GW := gw_t7 95 rfl rfl
theorem gw_1668 : (Cond.selects "CartPathsModel" ({ cls := "CartPathsModel", name := "read", desc := "()I" } : MethodName) ({ cls := "CartPathsModel", name := "read", desc := "()I" } : MethodName)) ∈ GW := gw_t7 96 rfl rfl
theorem gw_1669 : (Cond.code ({ cls := "CartPathsModel", name := "read", desc := "()I" } : MethodName) prog_12_method_23_code (2 : Nat) (Option.some FieldType.int)) ∈ GW := gw_t7 97 rfl rfl
theorem gw_1670 : (Cond.methodLink "CartPathsModel" (131 : Nat) ({ cls := "CartPathsModel", name := "here", desc := "()I" } : MethodName)) ∈ GW := gw_t7 98 rfl rfl
theorem gw_1672 : (Cond.instanceMethod ({ cls := "CartPathsModel", name := "here", desc := "()I" } : MethodName)) ∈ GW := gw_t7 100 rfl rfl
theorem gw_1673 : (Cond.code ({ cls := "CartPathsModel", name := "here", desc := "()I" } : MethodName) prog_12_method_7_code (1 : Nat) (Option.some FieldType.int)) ∈ GW := gw_t7 101 rfl rfl
theorem gw_1675 : (Cond.methodLink "CartPathsModel" (147 : Nat) ({ cls := "CartPathsModel", name := "is", desc := "(Ljava/lang/String;)Z" } : MethodName)) ∈ GW := gw_t7 103 rfl rfl
theorem gw_1677 : (Cond.instanceMethod ({ cls := "CartPathsModel", name := "is", desc := "(Ljava/lang/String;)Z" } : MethodName)) ∈ GW := gw_t7 105 rfl rfl
theorem gw_1678 : (Cond.code ({ cls := "CartPathsModel", name := "is", desc := "(Ljava/lang/String;)Z" } : MethodName) prog_12_method_9_code (3 : Nat) (Option.some FieldType.boolean)) ∈ GW := gw_t7 106 rfl rfl
theorem gw_1679 : (Cond.methodLink "CartPathsModel" (135 : Nat) ({ cls := "CartPathsModel", name := "wordSize", desc := "()I" } : MethodName)) ∈ GW := gw_t7 107 rfl rfl
theorem gw_1681 : (Cond.instanceMethod ({ cls := "CartPathsModel", name := "wordSize", desc := "()I" } : MethodName)) ∈ GW := gw_t7 109 rfl rfl
theorem gw_1682 : (Cond.code ({ cls := "CartPathsModel", name := "wordSize", desc := "()I" } : MethodName) prog_12_method_8_code (3 : Nat) (Option.some FieldType.int)) ∈ GW := gw_t7 110 rfl rfl
theorem gw_1685 : (Cond.methodLink "CartPathsModel" (204 : Nat) ({ cls := "CartPathsModel", name := "rowLine", desc := "()V" } : MethodName)) ∈ GW := gw_t7 113 rfl rfl
theorem gw_1687 : (Cond.instanceMethod ({ cls := "CartPathsModel", name := "rowLine", desc := "()V" } : MethodName)) ∈ GW := gw_t7 115 rfl rfl
theorem gw_1688 : (Cond.code ({ cls := "CartPathsModel", name := "rowLine", desc := "()V" } : MethodName) prog_12_method_20_code (4 : Nat) (Option.none : Option FieldType)) ∈ GW := gw_t7 116 rfl rfl
theorem gw_1689 : (Cond.methodLink "CartPathsModel" (151 : Nat) ({ cls := "CartPathsModel", name := "wrong", desc := "()V" } : MethodName)) ∈ GW := gw_t7 117 rfl rfl
theorem gw_1691 : (Cond.instanceMethod ({ cls := "CartPathsModel", name := "wrong", desc := "()V" } : MethodName)) ∈ GW := gw_t7 119 rfl rfl
theorem gw_1692 : (Cond.code ({ cls := "CartPathsModel", name := "wrong", desc := "()V" } : MethodName) prog_12_method_6_code (1 : Nat) (Option.none : Option FieldType)) ∈ GW := gw_t7 120 rfl rfl
theorem gw_1693 : (Cond.methodLink "CartPathsModel" (179 : Nat) ({ cls := "CartPathsModel", name := "sortOf", desc := "(I)I" } : MethodName)) ∈ GW := gw_t7 121 rfl rfl
theorem gw_1694 : (Cond.static ({ cls := "CartPathsModel", name := "sortOf", desc := "(I)I" } : MethodName)) ∈ GW := gw_t7 122 rfl rfl
theorem gw_1695 : (Cond.code ({ cls := "CartPathsModel", name := "sortOf", desc := "(I)I" } : MethodName) prog_12_method_18_code (1 : Nat) (Option.some FieldType.int)) ∈ GW := gw_t7 123 rfl rfl
theorem gw_1697 : (Cond.methodLink "CartPathsModel" (207 : Nat) ({ cls := "CartPathsModel", name := "cartLine", desc := "()V" } : MethodName)) ∈ GW := gw_t7 125 rfl rfl
theorem gw_1699 : (Cond.instanceMethod ({ cls := "CartPathsModel", name := "cartLine", desc := "()V" } : MethodName)) ∈ GW := gw_t7 127 rfl rfl
theorem gw_1700 : (Cond.code ({ cls := "CartPathsModel", name := "cartLine", desc := "()V" } : MethodName) prog_12_method_22_code (2 : Nat) (Option.none : Option FieldType)) ∈ GW := gw_t7 128 rfl rfl
theorem gw_1701 : (Cond.methodLink "CartPathsModel" (189 : Nat) ({ cls := "CartPathsModel", name := "isName", desc := "()Z" } : MethodName)) ∈ GW := gw_t7 129 rfl rfl
theorem gw_1703 : (Cond.instanceMethod ({ cls := "CartPathsModel", name := "isName", desc := "()Z" } : MethodName)) ∈ GW := gw_t7 131 rfl rfl
theorem gw_1704 : (Cond.code ({ cls := "CartPathsModel", name := "isName", desc := "()Z" } : MethodName) prog_12_method_12_code (2 : Nat) (Option.some FieldType.boolean)) ∈ GW := gw_t7 132 rfl rfl
theorem gw_1707 : (Cond.methodLink "CartPathsModel" (193 : Nat) ({ cls := "CartPathsModel", name := "named", desc := "()J" } : MethodName)) ∈ GW := gw_t7 135 rfl rfl
theorem gw_1709 : (Cond.instanceMethod ({ cls := "CartPathsModel", name := "named", desc := "()J" } : MethodName)) ∈ GW := gw_t7 137 rfl rfl
theorem gw_1710 : (Cond.code ({ cls := "CartPathsModel", name := "named", desc := "()J" } : MethodName) prog_12_method_13_code (5 : Nat) (Option.some FieldType.long)) ∈ GW := gw_t7 138 rfl rfl
theorem gw_1711 : (Cond.constantLong "CartPathsModel" (161 : Nat) (32 : Int64)) ∈ GW := gw_t7 139 rfl rfl
theorem gw_1712 : (Cond.constantLong "CartPathsModel" (163 : Nat) (97 : Int64)) ∈ GW := gw_t7 140 rfl rfl
theorem gw_1713 : (Cond.methodLink "CartPathsModel" (197 : Nat) ({ cls := "CartPathsModel", name := "takes", desc := "(Ljava/lang/String;)Z" } : MethodName)) ∈ GW := gw_t7 141 rfl rfl
theorem gw_1715 : (Cond.instanceMethod ({ cls := "CartPathsModel", name := "takes", desc := "(Ljava/lang/String;)Z" } : MethodName)) ∈ GW := gw_t7 143 rfl rfl
theorem gw_1716 : (Cond.code ({ cls := "CartPathsModel", name := "takes", desc := "(Ljava/lang/String;)Z" } : MethodName) prog_12_method_10_code (2 : Nat) (Option.some FieldType.boolean)) ∈ GW := gw_t7 144 rfl rfl
theorem gw_1717 : (Cond.methodLink "CartPathsModel" (200 : Nat) ({ cls := "CartPathsModel", name := "spot", desc := "([I)I" } : MethodName)) ∈ GW := gw_t7 145 rfl rfl
theorem gw_1719 : (Cond.instanceMethod ({ cls := "CartPathsModel", name := "spot", desc := "([I)I" } : MethodName)) ∈ GW := gw_t7 147 rfl rfl
theorem gw_1720 : (Cond.code ({ cls := "CartPathsModel", name := "spot", desc := "([I)I" } : MethodName) prog_12_method_21_code (9 : Nat) (Option.some FieldType.int)) ∈ GW := gw_t7 148 rfl rfl
theorem gw_1721 : (Cond.methodLink "CartPathsModel" (186 : Nat) ({ cls := "CartPathsModel", name := "digit", desc := "(I)I" } : MethodName)) ∈ GW := gw_t7 149 rfl rfl
theorem gw_1723 : (Cond.instanceMethod ({ cls := "CartPathsModel", name := "digit", desc := "(I)I" } : MethodName)) ∈ GW := gw_t7 151 rfl rfl
theorem gw_1724 : (Cond.code ({ cls := "CartPathsModel", name := "digit", desc := "(I)I" } : MethodName) prog_12_method_17_code (3 : Nat) (Option.some FieldType.int)) ∈ GW := gw_t7 152 rfl rfl
theorem gw_1725 : (Cond.methodLink "CartPathsModel" (169 : Nat) ({ cls := "CartPathsModel", name := "isDigit", desc := "(I)Z" } : MethodName)) ∈ GW := gw_t7 153 rfl rfl
theorem gw_1727 : (Cond.instanceMethod ({ cls := "CartPathsModel", name := "isDigit", desc := "(I)Z" } : MethodName)) ∈ GW := gw_t7 155 rfl rfl
theorem gw_1728 : (Cond.code ({ cls := "CartPathsModel", name := "isDigit", desc := "(I)Z" } : MethodName) prog_12_method_16_code (2 : Nat) (Option.some FieldType.boolean)) ∈ GW := gw_t7 156 rfl rfl
theorem gw_1729 : (Cond.methodLink "CartPathsModel" (210 : Nat) ({ cls := "CartPathsModel", name := "must", desc := "(I)V" } : MethodName)) ∈ GW := gw_t7 157 rfl rfl
theorem gw_1731 : (Cond.instanceMethod ({ cls := "CartPathsModel", name := "must", desc := "(I)V" } : MethodName)) ∈ GW := gw_t7 159 rfl rfl
theorem gw_1732 : (Cond.code ({ cls := "CartPathsModel", name := "must", desc := "(I)V" } : MethodName) prog_12_method_11_code (2 : Nat) (Option.none : Option FieldType)) ∈ GW := gw_t7 160 rfl rfl
theorem gw_1733 : (Cond.methodLink "CartPathsModel" (226 : Nat) ({ cls := "CartPathsModel", name := "changes", desc := "()V" } : MethodName)) ∈ GW := gw_t7 161 rfl rfl
theorem gw_1735 : (Cond.instanceMethod ({ cls := "CartPathsModel", name := "changes", desc := "()V" } : MethodName)) ∈ GW := gw_t7 163 rfl rfl
theorem gw_1736 : (Cond.code ({ cls := "CartPathsModel", name := "changes", desc := "()V" } : MethodName) prog_12_method_53_code (1 : Nat) (Option.none : Option FieldType)) ∈ GW := gw_t7 164 rfl rfl
theorem gw_1737 : (Cond.methodLink "CartPathsLaw" (159 : Nat) ({ cls := "CartPathsModel", name := "fault", desc := "()I" } : MethodName)) ∈ GW := gw_t7 165 rfl rfl
theorem gw_1738 : (Cond.instanceMethod ({ cls := "CartPathsModel", name := "fault", desc := "()I" } : MethodName)) ∈ GW := gw_t7 166 rfl rfl
theorem gw_1739 : (Cond.selects "CartPathsModel" ({ cls := "CartPathsModel", name := "fault", desc := "()I" } : MethodName) ({ cls := "CartPathsModel", name := "fault", desc := "()I" } : MethodName)) ∈ GW := gw_t7 167 rfl rfl
theorem gw_1740 : (Cond.code ({ cls := "CartPathsModel", name := "fault", desc := "()I" } : MethodName) prog_12_method_24_code (1 : Nat) (Option.some FieldType.int)) ∈ GW := gw_t7 168 rfl rfl
theorem gw_1741 : (Cond.methodLink "CartPathsLaw" (163 : Nat) ({ cls := "CartPathsModel", name := "cell", desc := "(II)I" } : MethodName)) ∈ GW := gw_t7 169 rfl rfl
theorem gw_1742 : (Cond.instanceMethod ({ cls := "CartPathsModel", name := "cell", desc := "(II)I" } : MethodName)) ∈ GW := gw_t7 170 rfl rfl
theorem gw_1743 : (Cond.selects "CartPathsModel" ({ cls := "CartPathsModel", name := "cell", desc := "(II)I" } : MethodName) ({ cls := "CartPathsModel", name := "cell", desc := "(II)I" } : MethodName)) ∈ GW := gw_t7 171 rfl rfl
theorem gw_1744 : (Cond.code ({ cls := "CartPathsModel", name := "cell", desc := "(II)I" } : MethodName) prog_12_method_28_code (3 : Nat) (Option.some FieldType.int)) ∈ GW := gw_t7 172 rfl rfl
theorem gw_1745 : (Cond.methodLink "CartPathsModel" (233 : Nat) ({ cls := "CartPathsModel", name := "isCell", desc := "(II)Z" } : MethodName)) ∈ GW := gw_t7 173 rfl rfl
theorem gw_1747 : (Cond.instanceMethod ({ cls := "CartPathsModel", name := "isCell", desc := "(II)Z" } : MethodName)) ∈ GW := gw_t7 175 rfl rfl
theorem gw_1748 : (Cond.code ({ cls := "CartPathsModel", name := "isCell", desc := "(II)Z" } : MethodName) prog_12_method_25_code (3 : Nat) (Option.some FieldType.boolean)) ∈ GW := gw_t7 176 rfl rfl
theorem gw_1749 : (Cond.methodLink "CartPathsModel" (229 : Nat) ({ cls := "CartPathsModel", name := "isIn", desc := "(III)Z" } : MethodName)) ∈ GW := gw_t7 177 rfl rfl
theorem gw_1750 : (Cond.static ({ cls := "CartPathsModel", name := "isIn", desc := "(III)Z" } : MethodName)) ∈ GW := gw_t7 178 rfl rfl
theorem gw_1751 : (Cond.code ({ cls := "CartPathsModel", name := "isIn", desc := "(III)Z" } : MethodName) prog_12_method_3_code (3 : Nat) (Option.some FieldType.boolean)) ∈ GW := gw_t7 179 rfl rfl
theorem gw_1752 : (Cond.methodLink "CartPathsLaw" (166 : Nat) ({ cls := "CartPathsModel", name := "cart", desc := "(II)I" } : MethodName)) ∈ GW := gw_t7 180 rfl rfl
theorem gw_1753 : (Cond.instanceMethod ({ cls := "CartPathsModel", name := "cart", desc := "(II)I" } : MethodName)) ∈ GW := gw_t7 181 rfl rfl
theorem gw_1754 : (Cond.selects "CartPathsModel" ({ cls := "CartPathsModel", name := "cart", desc := "(II)I" } : MethodName) ({ cls := "CartPathsModel", name := "cart", desc := "(II)I" } : MethodName)) ∈ GW := gw_t7 182 rfl rfl
theorem gw_1755 : (Cond.code ({ cls := "CartPathsModel", name := "cart", desc := "(II)I" } : MethodName) prog_12_method_29_code (3 : Nat) (Option.some FieldType.int)) ∈ GW := gw_t7 183 rfl rfl
theorem gw_1756 : (Cond.methodLink "CartPathsModel" (237 : Nat) ({ cls := "CartPathsModel", name := "isCart", desc := "(I)Z" } : MethodName)) ∈ GW := gw_t7 184 rfl rfl
theorem gw_1758 : (Cond.instanceMethod ({ cls := "CartPathsModel", name := "isCart", desc := "(I)Z" } : MethodName)) ∈ GW := gw_t7 186 rfl rfl
theorem gw_1759 : (Cond.code ({ cls := "CartPathsModel", name := "isCart", desc := "(I)Z" } : MethodName) prog_12_method_26_code (2 : Nat) (Option.some FieldType.boolean)) ∈ GW := gw_t7 187 rfl rfl
theorem gw_1760 : (Cond.methodLink "CartPathsLaw" (169 : Nat) ({ cls := "CartPathsModel", name := "name", desc := "(II)I" } : MethodName)) ∈ GW := gw_t7 188 rfl rfl
theorem gw_1761 : (Cond.instanceMethod ({ cls := "CartPathsModel", name := "name", desc := "(II)I" } : MethodName)) ∈ GW := gw_t7 189 rfl rfl
theorem gw_1762 : (Cond.selects "CartPathsModel" ({ cls := "CartPathsModel", name := "name", desc := "(II)I" } : MethodName) ({ cls := "CartPathsModel", name := "name", desc := "(II)I" } : MethodName)) ∈ GW := gw_t7 190 rfl rfl
theorem gw_1763 : (Cond.code ({ cls := "CartPathsModel", name := "name", desc := "(II)I" } : MethodName) prog_12_method_30_code (3 : Nat) (Option.some FieldType.int)) ∈ GW := gw_t7 191 rfl rfl
theorem gw_1764 : (Cond.methodLink "CartPathsModel" (165 : Nat) ({ cls := "CartPathsModel", name := "letters", desc := "(J)I" } : MethodName)) ∈ GW := gw_t7 192 rfl rfl
theorem gw_1765 : (Cond.static ({ cls := "CartPathsModel", name := "letters", desc := "(J)I" } : MethodName)) ∈ GW := gw_t7 193 rfl rfl
theorem gw_1766 : (Cond.code ({ cls := "CartPathsModel", name := "letters", desc := "(J)I" } : MethodName) prog_12_method_14_code (5 : Nat) (Option.some FieldType.int)) ∈ GW := gw_t7 194 rfl rfl
theorem gw_1767 : (Cond.methodLink "CartPathsModel" (240 : Nat) ({ cls := "CartPathsModel", name := "letter", desc := "(JI)I" } : MethodName)) ∈ GW := gw_t7 195 rfl rfl
theorem gw_1768 : (Cond.static ({ cls := "CartPathsModel", name := "letter", desc := "(JI)I" } : MethodName)) ∈ GW := gw_t7 196 rfl rfl
theorem gw_1769 : (Cond.code ({ cls := "CartPathsModel", name := "letter", desc := "(JI)I" } : MethodName) prog_12_method_15_code (6 : Nat) (Option.some FieldType.int)) ∈ GW := gw_t7 197 rfl rfl
theorem gw_1770 : (Cond.methodLink "CartPathsLaw" (173 : Nat) ({ cls := "CartPathsModel", name := "tell", desc := "(III)I" } : MethodName)) ∈ GW := gw_t7 198 rfl rfl
theorem gw_1771 : (Cond.instanceMethod ({ cls := "CartPathsModel", name := "tell", desc := "(III)I" } : MethodName)) ∈ GW := gw_t7 199 rfl rfl
theorem gw_1772 : (Cond.selects "CartPathsModel" ({ cls := "CartPathsModel", name := "tell", desc := "(III)I" } : MethodName) ({ cls := "CartPathsModel", name := "tell", desc := "(III)I" } : MethodName)) ∈ GW := gw_t7 200 rfl rfl
theorem gw_1773 : (Cond.code ({ cls := "CartPathsModel", name := "tell", desc := "(III)I" } : MethodName) prog_12_method_33_code (5 : Nat) (Option.some FieldType.int)) ∈ GW := gw_t7 201 rfl rfl
theorem gw_1774 : (Cond.methodLink "CartPathsModel" (244 : Nat) ({ cls := "CartPathsModel", name := "isPlaceOrGoal", desc := "(I)Z" } : MethodName)) ∈ GW := gw_t7 202 rfl rfl
theorem gw_1776 : (Cond.instanceMethod ({ cls := "CartPathsModel", name := "isPlaceOrGoal", desc := "(I)Z" } : MethodName)) ∈ GW := gw_t7 204 rfl rfl
theorem gw_1777 : (Cond.code ({ cls := "CartPathsModel", name := "isPlaceOrGoal", desc := "(I)Z" } : MethodName) prog_12_method_32_code (3 : Nat) (Option.some FieldType.boolean)) ∈ GW := gw_t7 205 rfl rfl
theorem gw_1778 : (Cond.methodLink "CartPathsModel" (247 : Nat) ({ cls := "CartPathsModel", name := "remembers", desc := "()V" } : MethodName)) ∈ GW := gw_t7 206 rfl rfl
theorem gw_1780 : (Cond.instanceMethod ({ cls := "CartPathsModel", name := "remembers", desc := "()V" } : MethodName)) ∈ GW := gw_t7 208 rfl rfl
theorem gw_1781 : (Cond.code ({ cls := "CartPathsModel", name := "remembers", desc := "()V" } : MethodName) prog_12_method_31_code (2 : Nat) (Option.none : Option FieldType)) ∈ GW := gw_t7 209 rfl rfl
theorem gw_1782 : (Cond.methodLink "CartPathsLaw" (176 : Nat) ({ cls := "CartPathsModel", name := "goal", desc := "(III)I" } : MethodName)) ∈ GW := gw_t7 210 rfl rfl
theorem gw_1783 : (Cond.instanceMethod ({ cls := "CartPathsModel", name := "goal", desc := "(III)I" } : MethodName)) ∈ GW := gw_t7 211 rfl rfl
theorem gw_1784 : (Cond.selects "CartPathsModel" ({ cls := "CartPathsModel", name := "goal", desc := "(III)I" } : MethodName) ({ cls := "CartPathsModel", name := "goal", desc := "(III)I" } : MethodName)) ∈ GW := gw_t7 212 rfl rfl
theorem gw_1785 : (Cond.code ({ cls := "CartPathsModel", name := "goal", desc := "(III)I" } : MethodName) prog_12_method_34_code (5 : Nat) (Option.some FieldType.int)) ∈ GW := gw_t7 213 rfl rfl
theorem gw_1786 : (Cond.methodLink "CartPathsLaw" (180 : Nat) ({ cls := "CartPathsModel", name := "change", desc := "(II)V" } : MethodName)) ∈ GW := gw_t7 214 rfl rfl
theorem gw_1787 : (Cond.instanceMethod ({ cls := "CartPathsModel", name := "change", desc := "(II)V" } : MethodName)) ∈ GW := gw_t7 215 rfl rfl
theorem gw_1788 : (Cond.selects "CartPathsModel" ({ cls := "CartPathsModel", name := "change", desc := "(II)V" } : MethodName) ({ cls := "CartPathsModel", name := "change", desc := "(II)V" } : MethodName)) ∈ GW := gw_t7 216 rfl rfl
theorem gw_1789 : (Cond.code ({ cls := "CartPathsModel", name := "change", desc := "(II)V" } : MethodName) prog_12_method_35_code (4 : Nat) (Option.none : Option FieldType)) ∈ GW := gw_t7 217 rfl rfl
theorem gw_1790 : (Cond.methodLink "CartPathsLaw" (184 : Nat) ({ cls := "CartPathsModel", name := "undo", desc := "()I" } : MethodName)) ∈ GW := gw_t7 218 rfl rfl
theorem gw_1791 : (Cond.instanceMethod ({ cls := "CartPathsModel", name := "undo", desc := "()I" } : MethodName)) ∈ GW := gw_t7 219 rfl rfl
theorem gw_1792 : (Cond.selects "CartPathsModel" ({ cls := "CartPathsModel", name := "undo", desc := "()I" } : MethodName) ({ cls := "CartPathsModel", name := "undo", desc := "()I" } : MethodName)) ∈ GW := gw_t7 220 rfl rfl
theorem gw_1793 : (Cond.code ({ cls := "CartPathsModel", name := "undo", desc := "()I" } : MethodName) prog_12_method_36_code (2 : Nat) (Option.some FieldType.int)) ∈ GW := gw_t7 221 rfl rfl
theorem gw_1794 : (Cond.methodLink "CartPathsLaw" (188 : Nat) ({ cls := "CartPathsModel", name := "cost", desc := "(I)I" } : MethodName)) ∈ GW := gw_t7 222 rfl rfl
theorem gw_1795 : (Cond.instanceMethod ({ cls := "CartPathsModel", name := "cost", desc := "(I)I" } : MethodName)) ∈ GW := gw_t7 223 rfl rfl
theorem gw_1796 : (Cond.selects "CartPathsModel" ({ cls := "CartPathsModel", name := "cost", desc := "(I)I" } : MethodName) ({ cls := "CartPathsModel", name := "cost", desc := "(I)I" } : MethodName)) ∈ GW := gw_t7 224 rfl rfl
theorem gw_1797 : (Cond.code ({ cls := "CartPathsModel", name := "cost", desc := "(I)I" } : MethodName) prog_12_method_40_code (2 : Nat) (Option.some FieldType.int)) ∈ GW := gw_t7 225 rfl rfl
theorem gw_1798 : (Cond.methodLink "CartPathsModel" (257 : Nat) ({ cls := "CartPathsModel", name := "frees", desc := "()V" } : MethodName)) ∈ GW := gw_t7 226 rfl rfl
theorem gw_1800 : (Cond.instanceMethod ({ cls := "CartPathsModel", name := "frees", desc := "()V" } : MethodName)) ∈ GW := gw_t7 228 rfl rfl
theorem gw_1801 : (Cond.code ({ cls := "CartPathsModel", name := "frees", desc := "()V" } : MethodName) prog_12_method_37_code (2 : Nat) (Option.none : Option FieldType)) ∈ GW := gw_t7 229 rfl rfl
theorem gw_1802 : (Cond.methodLink "CartPathsModel" (260 : Nat) ({ cls := "CartPathsModel", name := "laysWay", desc := "(I)I" } : MethodName)) ∈ GW := gw_t7 230 rfl rfl
theorem gw_1804 : (Cond.instanceMethod ({ cls := "CartPathsModel", name := "laysWay", desc := "(I)I" } : MethodName)) ∈ GW := gw_t7 232 rfl rfl
theorem gw_1805 : (Cond.code ({ cls := "CartPathsModel", name := "laysWay", desc := "(I)I" } : MethodName) prog_12_method_39_code (6 : Nat) (Option.some FieldType.int)) ∈ GW := gw_t7 233 rfl rfl
theorem gw_1806 : (Cond.methodLink "CartPathsModel" (254 : Nat) ({ cls := "CartPathsModel", name := "mayGo", desc := "(III)Z" } : MethodName)) ∈ GW := gw_t7 234 rfl rfl
theorem gw_1808 : (Cond.instanceMethod ({ cls := "CartPathsModel", name := "mayGo", desc := "(III)Z" } : MethodName)) ∈ GW := gw_t7 236 rfl rfl
theorem gw_1809 : (Cond.code ({ cls := "CartPathsModel", name := "mayGo", desc := "(III)Z" } : MethodName) prog_12_method_38_code (5 : Nat) (Option.some FieldType.boolean)) ∈ GW := gw_t7 237 rfl rfl
theorem gw_1810 : (Cond.methodLink "CartPathsModel" (250 : Nat) ({ cls := "CartPathsModel", name := "next", desc := "(II)I" } : MethodName)) ∈ GW := gw_t7 238 rfl rfl
theorem gw_1812 : (Cond.instanceMethod ({ cls := "CartPathsModel", name := "next", desc := "(II)I" } : MethodName)) ∈ GW := gw_t8 0 rfl rfl
theorem gw_1813 : (Cond.code ({ cls := "CartPathsModel", name := "next", desc := "(II)I" } : MethodName) prog_12_method_27_code (6 : Nat) (Option.some FieldType.int)) ∈ GW := gw_t8 1 rfl rfl
theorem gw_1814 : (Cond.methodLink "CartPathsLaw" (191 : Nat) ({ cls := "CartPathsModel", name := "alone", desc := "(II)I" } : MethodName)) ∈ GW := gw_t8 2 rfl rfl
theorem gw_1815 : (Cond.instanceMethod ({ cls := "CartPathsModel", name := "alone", desc := "(II)I" } : MethodName)) ∈ GW := gw_t8 3 rfl rfl
theorem gw_1816 : (Cond.selects "CartPathsModel" ({ cls := "CartPathsModel", name := "alone", desc := "(II)I" } : MethodName) ({ cls := "CartPathsModel", name := "alone", desc := "(II)I" } : MethodName)) ∈ GW := gw_t8 4 rfl rfl
theorem gw_1817 : (Cond.code ({ cls := "CartPathsModel", name := "alone", desc := "(II)I" } : MethodName) prog_12_method_41_code (3 : Nat) (Option.some FieldType.int)) ∈ GW := gw_t8 5 rfl rfl
theorem gw_1818 : (Cond.methodLink "CartPathsLaw" (194 : Nat) ({ cls := "CartPathsModel", name := "clash", desc := "(I)I" } : MethodName)) ∈ GW := gw_t8 6 rfl rfl
theorem gw_1819 : (Cond.instanceMethod ({ cls := "CartPathsModel", name := "clash", desc := "(I)I" } : MethodName)) ∈ GW := gw_t8 7 rfl rfl
theorem gw_1820 : (Cond.selects "CartPathsModel" ({ cls := "CartPathsModel", name := "clash", desc := "(I)I" } : MethodName) ({ cls := "CartPathsModel", name := "clash", desc := "(I)I" } : MethodName)) ∈ GW := gw_t8 8 rfl rfl
theorem gw_1821 : (Cond.code ({ cls := "CartPathsModel", name := "clash", desc := "(I)I" } : MethodName) prog_12_method_49_code (3 : Nat) (Option.some FieldType.int)) ∈ GW := gw_t8 9 rfl rfl
theorem gw_1822 : (Cond.methodLink "CartPathsModel" (290 : Nat) ({ cls := "CartPathsModel", name := "laysAlone", desc := "(I)Z" } : MethodName)) ∈ GW := gw_t8 10 rfl rfl
theorem gw_1824 : (Cond.instanceMethod ({ cls := "CartPathsModel", name := "laysAlone", desc := "(I)Z" } : MethodName)) ∈ GW := gw_t8 12 rfl rfl
theorem gw_1825 : (Cond.code ({ cls := "CartPathsModel", name := "laysAlone", desc := "(I)Z" } : MethodName) prog_12_method_47_code (3 : Nat) (Option.some FieldType.boolean)) ∈ GW := gw_t8 13 rfl rfl
theorem gw_1826 : (Cond.methodLink "CartPathsModel" (283 : Nat) ({ cls := "CartPathsModel", name := "keepsWay", desc := "(II)V" } : MethodName)) ∈ GW := gw_t8 14 rfl rfl
theorem gw_1828 : (Cond.instanceMethod ({ cls := "CartPathsModel", name := "keepsWay", desc := "(II)V" } : MethodName)) ∈ GW := gw_t8 16 rfl rfl
theorem gw_1829 : (Cond.code ({ cls := "CartPathsModel", name := "keepsWay", desc := "(II)V" } : MethodName) prog_12_method_43_code (4 : Nat) (Option.none : Option FieldType)) ∈ GW := gw_t8 17 rfl rfl
theorem gw_1830 : (Cond.methodLink "CartPathsModel" (293 : Nat) ({ cls := "CartPathsModel", name := "laysClashes", desc := "(I)I" } : MethodName)) ∈ GW := gw_t8 18 rfl rfl
theorem gw_1832 : (Cond.instanceMethod ({ cls := "CartPathsModel", name := "laysClashes", desc := "(I)I" } : MethodName)) ∈ GW := gw_t8 20 rfl rfl
theorem gw_1833 : (Cond.code ({ cls := "CartPathsModel", name := "laysClashes", desc := "(I)I" } : MethodName) prog_12_method_46_code (7 : Nat) (Option.some FieldType.int)) ∈ GW := gw_t8 21 rfl rfl
theorem gw_1834 : (Cond.methodLink "CartPathsModel" (267 : Nat) ({ cls := "CartPathsModel", name := "isClash", desc := "(IIIII)Z" } : MethodName)) ∈ GW := gw_t8 22 rfl rfl
theorem gw_1836 : (Cond.instanceMethod ({ cls := "CartPathsModel", name := "isClash", desc := "(IIIII)Z" } : MethodName)) ∈ GW := gw_t8 24 rfl rfl
theorem gw_1837 : (Cond.code ({ cls := "CartPathsModel", name := "isClash", desc := "(IIIII)Z" } : MethodName) prog_12_method_45_code (6 : Nat) (Option.some FieldType.boolean)) ∈ GW := gw_t8 25 rfl rfl
theorem gw_1838 : (Cond.methodLink "CartPathsModel" (263 : Nat) ({ cls := "CartPathsModel", name := "wayAt", desc := "(III)I" } : MethodName)) ∈ GW := gw_t8 26 rfl rfl
theorem gw_1840 : (Cond.instanceMethod ({ cls := "CartPathsModel", name := "wayAt", desc := "(III)I" } : MethodName)) ∈ GW := gw_t8 28 rfl rfl
theorem gw_1841 : (Cond.code ({ cls := "CartPathsModel", name := "wayAt", desc := "(III)I" } : MethodName) prog_12_method_42_code (4 : Nat) (Option.some FieldType.int)) ∈ GW := gw_t8 29 rfl rfl
theorem gw_1842 : (Cond.methodLink "CartPathsLaw" (197 : Nat) ({ cls := "CartPathsModel", name := "reach", desc := "(I)I" } : MethodName)) ∈ GW := gw_t8 30 rfl rfl
theorem gw_1843 : (Cond.instanceMethod ({ cls := "CartPathsModel", name := "reach", desc := "(I)I" } : MethodName)) ∈ GW := gw_t8 31 rfl rfl
theorem gw_1844 : (Cond.selects "CartPathsModel" ({ cls := "CartPathsModel", name := "reach", desc := "(I)I" } : MethodName) ({ cls := "CartPathsModel", name := "reach", desc := "(I)I" } : MethodName)) ∈ GW := gw_t8 32 rfl rfl
theorem gw_1845 : (Cond.code ({ cls := "CartPathsModel", name := "reach", desc := "(I)I" } : MethodName) prog_12_method_51_code (4 : Nat) (Option.some FieldType.int)) ∈ GW := gw_t8 33 rfl rfl
theorem gw_1846 : (Cond.methodLink "CartPathsModel" (296 : Nat) ({ cls := "CartPathsModel", name := "laysFar", desc := "(I)V" } : MethodName)) ∈ GW := gw_t8 34 rfl rfl
theorem gw_1848 : (Cond.instanceMethod ({ cls := "CartPathsModel", name := "laysFar", desc := "(I)V" } : MethodName)) ∈ GW := gw_t8 36 rfl rfl
theorem gw_1849 : (Cond.code ({ cls := "CartPathsModel", name := "laysFar", desc := "(I)V" } : MethodName) prog_12_method_50_code (5 : Nat) (Option.none : Option FieldType)) ∈ GW := gw_t8 37 rfl rfl
theorem gw_1850 : (Cond.methodLink "CartPathsLaw" (201 : Nat) ({ cls := "CartPathsModel", name := "far", desc := "(IIII)I" } : MethodName)) ∈ GW := gw_t8 38 rfl rfl
theorem gw_1851 : (Cond.instanceMethod ({ cls := "CartPathsModel", name := "far", desc := "(IIII)I" } : MethodName)) ∈ GW := gw_t8 39 rfl rfl
theorem gw_1852 : (Cond.selects "CartPathsModel" ({ cls := "CartPathsModel", name := "far", desc := "(IIII)I" } : MethodName) ({ cls := "CartPathsModel", name := "far", desc := "(IIII)I" } : MethodName)) ∈ GW := gw_t8 40 rfl rfl
theorem gw_1853 : (Cond.code ({ cls := "CartPathsModel", name := "far", desc := "(IIII)I" } : MethodName) prog_12_method_52_code (5 : Nat) (Option.some FieldType.int)) ∈ GW := gw_t8 41 rfl rfl
theorem gw_1854 : (Cond.methodLink "CartPathsLaw" (204 : Nat) ({ cls := "CartPathsModel", name := "plan", desc := "(II)I" } : MethodName)) ∈ GW := gw_t8 42 rfl rfl
theorem gw_1855 : (Cond.instanceMethod ({ cls := "CartPathsModel", name := "plan", desc := "(II)I" } : MethodName)) ∈ GW := gw_t8 43 rfl rfl
theorem gw_1856 : (Cond.selects "CartPathsModel" ({ cls := "CartPathsModel", name := "plan", desc := "(II)I" } : MethodName) ({ cls := "CartPathsModel", name := "plan", desc := "(II)I" } : MethodName)) ∈ GW := gw_t8 44 rfl rfl
theorem gw_1857 : (Cond.code ({ cls := "CartPathsModel", name := "plan", desc := "(II)I" } : MethodName) prog_12_method_60_code (5 : Nat) (Option.some FieldType.int)) ∈ GW := gw_t8 45 rfl rfl
theorem gw_1858 : (Cond.methodLink "CartPathsModel" (331 : Nat) ({ cls := "CartPathsModel", name := "isBound", desc := "(I)Z" } : MethodName)) ∈ GW := gw_t8 46 rfl rfl
theorem gw_1859 : (Cond.static ({ cls := "CartPathsModel", name := "isBound", desc := "(I)Z" } : MethodName)) ∈ GW := gw_t8 47 rfl rfl
theorem gw_1860 : (Cond.code ({ cls := "CartPathsModel", name := "isBound", desc := "(I)Z" } : MethodName) prog_12_method_59_code (1 : Nat) (Option.some FieldType.boolean)) ∈ GW := gw_t8 48 rfl rfl
theorem gw_1861 : (Cond.methodLink "CartPathsModel" (334 : Nat) ({ cls := "CartPathsModel", name := "lays", desc := "(I)V" } : MethodName)) ∈ GW := gw_t8 49 rfl rfl
theorem gw_1863 : (Cond.instanceMethod ({ cls := "CartPathsModel", name := "lays", desc := "(I)V" } : MethodName)) ∈ GW := gw_t8 51 rfl rfl
theorem gw_1864 : (Cond.code ({ cls := "CartPathsModel", name := "lays", desc := "(I)V" } : MethodName) prog_12_method_58_code (8 : Nat) (Option.none : Option FieldType)) ∈ GW := gw_t8 52 rfl rfl
theorem gw_1865 : (Cond.methodLink "CartPathsModel" (308 : Nat) ({ cls := "CartPathsModel", name := "sumAt", desc := "(I)I" } : MethodName)) ∈ GW := gw_t8 53 rfl rfl
theorem gw_1867 : (Cond.instanceMethod ({ cls := "CartPathsModel", name := "sumAt", desc := "(I)I" } : MethodName)) ∈ GW := gw_t8 55 rfl rfl
theorem gw_1868 : (Cond.code ({ cls := "CartPathsModel", name := "sumAt", desc := "(I)I" } : MethodName) prog_12_method_48_code (4 : Nat) (Option.some FieldType.int)) ∈ GW := gw_t8 56 rfl rfl
theorem gw_1869 : (Cond.methodLink "CartPathsModel" (287 : Nat) ({ cls := "CartPathsModel", name := "costAt", desc := "(II)I" } : MethodName)) ∈ GW := gw_t8 57 rfl rfl
theorem gw_1871 : (Cond.instanceMethod ({ cls := "CartPathsModel", name := "costAt", desc := "(II)I" } : MethodName)) ∈ GW := gw_t8 59 rfl rfl
theorem gw_1872 : (Cond.code ({ cls := "CartPathsModel", name := "costAt", desc := "(II)I" } : MethodName) prog_12_method_44_code (4 : Nat) (Option.some FieldType.int)) ∈ GW := gw_t8 60 rfl rfl
theorem gw_1873 : (Cond.methodLink "CartPathsModel" (324 : Nat) ({ cls := "CartPathsModel", name := "chosen", desc := "(I)I" } : MethodName)) ∈ GW := gw_t8 61 rfl rfl
theorem gw_1875 : (Cond.instanceMethod ({ cls := "CartPathsModel", name := "chosen", desc := "(I)I" } : MethodName)) ∈ GW := gw_t8 63 rfl rfl
theorem gw_1876 : (Cond.code ({ cls := "CartPathsModel", name := "chosen", desc := "(I)I" } : MethodName) prog_12_method_57_code (5 : Nat) (Option.some FieldType.int)) ∈ GW := gw_t8 64 rfl rfl
theorem gw_1877 : (Cond.methodLink "CartPathsModel" (327 : Nat) ({ cls := "CartPathsModel", name := "branches", desc := "(IIII)V" } : MethodName)) ∈ GW := gw_t8 65 rfl rfl
theorem gw_1879 : (Cond.instanceMethod ({ cls := "CartPathsModel", name := "branches", desc := "(IIII)V" } : MethodName)) ∈ GW := gw_t8 67 rfl rfl
theorem gw_1880 : (Cond.code ({ cls := "CartPathsModel", name := "branches", desc := "(IIII)V" } : MethodName) prog_12_method_56_code (7 : Nat) (Option.none : Option FieldType)) ∈ GW := gw_t8 68 rfl rfl
theorem gw_1881 : (Cond.methodLink "CartPathsModel" (305 : Nat) ({ cls := "CartPathsModel", name := "forbids", desc := "(I)V" } : MethodName)) ∈ GW := gw_t8 69 rfl rfl
theorem gw_1883 : (Cond.instanceMethod ({ cls := "CartPathsModel", name := "forbids", desc := "(I)V" } : MethodName)) ∈ GW := gw_t8 71 rfl rfl
theorem gw_1884 : (Cond.code ({ cls := "CartPathsModel", name := "forbids", desc := "(I)V" } : MethodName) prog_12_method_55_code (3 : Nat) (Option.none : Option FieldType)) ∈ GW := gw_t8 72 rfl rfl
theorem gw_1885 : (Cond.methodLink "CartPathsModel" (299 : Nat) ({ cls := "CartPathsModel", name := "moveOf", desc := "(II)I" } : MethodName)) ∈ GW := gw_t8 73 rfl rfl
theorem gw_1887 : (Cond.instanceMethod ({ cls := "CartPathsModel", name := "moveOf", desc := "(II)I" } : MethodName)) ∈ GW := gw_t8 75 rfl rfl
theorem gw_1888 : (Cond.code ({ cls := "CartPathsModel", name := "moveOf", desc := "(II)I" } : MethodName) prog_12_method_54_code (4 : Nat) (Option.some FieldType.int)) ∈ GW := gw_t8 76 rfl rfl
theorem gw_1889 : (Cond.methodLink "CartPathsLaw" (207 : Nat) ({ cls := "CartPathsModel", name := "node", desc := "(III)I" } : MethodName)) ∈ GW := gw_t8 77 rfl rfl
theorem gw_1890 : (Cond.instanceMethod ({ cls := "CartPathsModel", name := "node", desc := "(III)I" } : MethodName)) ∈ GW := gw_t8 78 rfl rfl
theorem gw_1891 : (Cond.selects "CartPathsModel" ({ cls := "CartPathsModel", name := "node", desc := "(III)I" } : MethodName) ({ cls := "CartPathsModel", name := "node", desc := "(III)I" } : MethodName)) ∈ GW := gw_t8 79 rfl rfl
theorem gw_1892 : (Cond.code ({ cls := "CartPathsModel", name := "node", desc := "(III)I" } : MethodName) prog_12_method_61_code (6 : Nat) (Option.some FieldType.int)) ∈ GW := gw_t8 80 rfl rfl
theorem gw_1893 : (Cond.methodLink "CartPathsLaw" (210 : Nat) ({ cls := "CartPathsModel", name := "at", desc := "(III)I" } : MethodName)) ∈ GW := gw_t8 81 rfl rfl
theorem gw_1894 : (Cond.instanceMethod ({ cls := "CartPathsModel", name := "at", desc := "(III)I" } : MethodName)) ∈ GW := gw_t8 82 rfl rfl
theorem gw_1895 : (Cond.selects "CartPathsModel" ({ cls := "CartPathsModel", name := "at", desc := "(III)I" } : MethodName) ({ cls := "CartPathsModel", name := "at", desc := "(III)I" } : MethodName)) ∈ GW := gw_t8 83 rfl rfl
theorem gw_1896 : (Cond.code ({ cls := "CartPathsModel", name := "at", desc := "(III)I" } : MethodName) prog_12_method_63_code (4 : Nat) (Option.some FieldType.int)) ∈ GW := gw_t8 84 rfl rfl
theorem gw_1897 : (Cond.methodLink "CartPathsModel" (337 : Nat) ({ cls := "CartPathsModel", name := "wrongPlan", desc := "(ZIII)I" } : MethodName)) ∈ GW := gw_t8 85 rfl rfl
theorem gw_1899 : (Cond.instanceMethod ({ cls := "CartPathsModel", name := "wrongPlan", desc := "(ZIII)I" } : MethodName)) ∈ GW := gw_t8 87 rfl rfl
theorem gw_1900 : (Cond.code ({ cls := "CartPathsModel", name := "wrongPlan", desc := "(ZIII)I" } : MethodName) prog_12_method_62_code (5 : Nat) (Option.some FieldType.int)) ∈ GW := gw_t8 88 rfl rfl
theorem gw_1901 : (Cond.methodLink "CartPathsLaw" (213 : Nat) ({ cls := "CartPathsModel", name := "move", desc := "(III)I" } : MethodName)) ∈ GW := gw_t8 89 rfl rfl
theorem gw_1902 : (Cond.instanceMethod ({ cls := "CartPathsModel", name := "move", desc := "(III)I" } : MethodName)) ∈ GW := gw_t8 90 rfl rfl
theorem gw_1903 : (Cond.selects "CartPathsModel" ({ cls := "CartPathsModel", name := "move", desc := "(III)I" } : MethodName) ({ cls := "CartPathsModel", name := "move", desc := "(III)I" } : MethodName)) ∈ GW := gw_t8 91 rfl rfl
theorem gw_1904 : (Cond.code ({ cls := "CartPathsModel", name := "move", desc := "(III)I" } : MethodName) prog_12_method_64_code (6 : Nat) (Option.some FieldType.int)) ∈ GW := gw_t8 92 rfl rfl
theorem gw_1905 : (Cond.methodLink "CartPathsLaw" (217 : Nat) ({ cls := "CartPathsModel", name := "used", desc := "(IIIZ)I" } : MethodName)) ∈ GW := gw_t8 93 rfl rfl
theorem gw_1906 : (Cond.instanceMethod ({ cls := "CartPathsModel", name := "used", desc := "(IIIZ)I" } : MethodName)) ∈ GW := gw_t8 94 rfl rfl
theorem gw_1907 : (Cond.selects "CartPathsModel" ({ cls := "CartPathsModel", name := "used", desc := "(IIIZ)I" } : MethodName) ({ cls := "CartPathsModel", name := "used", desc := "(IIIZ)I" } : MethodName)) ∈ GW := gw_t8 95 rfl rfl
theorem gw_1908 : (Cond.code ({ cls := "CartPathsModel", name := "used", desc := "(IIIZ)I" } : MethodName) prog_12_method_66_code (9 : Nat) (Option.some FieldType.int)) ∈ GW := gw_t8 96 rfl rfl
theorem gw_1909 : (Cond.methodLink "CartPathsModel" (341 : Nat) ({ cls := "CartPathsModel", name := "usedBy", desc := "(I)I" } : MethodName)) ∈ GW := gw_t8 97 rfl rfl
theorem gw_1911 : (Cond.instanceMethod ({ cls := "CartPathsModel", name := "usedBy", desc := "(I)I" } : MethodName)) ∈ GW := gw_t8 99 rfl rfl
theorem gw_1912 : (Cond.code ({ cls := "CartPathsModel", name := "usedBy", desc := "(I)I" } : MethodName) prog_12_method_65_code (6 : Nat) (Option.some FieldType.int)) ∈ GW := gw_t8 100 rfl rfl
theorem gw_1913 : (Cond.methodLink "CartPathsLaw" (220 : Nat) ({ cls := "CartPathsModel", name := "busiest", desc := "(I)I" } : MethodName)) ∈ GW := gw_t8 101 rfl rfl
theorem gw_1914 : (Cond.instanceMethod ({ cls := "CartPathsModel", name := "busiest", desc := "(I)I" } : MethodName)) ∈ GW := gw_t8 102 rfl rfl
theorem gw_1915 : (Cond.selects "CartPathsModel" ({ cls := "CartPathsModel", name := "busiest", desc := "(I)I" } : MethodName) ({ cls := "CartPathsModel", name := "busiest", desc := "(I)I" } : MethodName)) ∈ GW := gw_t8 103 rfl rfl
theorem gw_1916 : (Cond.code ({ cls := "CartPathsModel", name := "busiest", desc := "(I)I" } : MethodName) prog_12_method_67_code (6 : Nat) (Option.some FieldType.int)) ∈ GW := gw_t8 104 rfl rfl
theorem gw_1917 : (Cond.methodLink "CartPathsLaw" (223 : Nat) ({ cls := "CartPathsModel", name := "waits", desc := "(I)I" } : MethodName)) ∈ GW := gw_t8 105 rfl rfl
theorem gw_1918 : (Cond.instanceMethod ({ cls := "CartPathsModel", name := "waits", desc := "(I)I" } : MethodName)) ∈ GW := gw_t8 106 rfl rfl
theorem gw_1919 : (Cond.selects "CartPathsModel" ({ cls := "CartPathsModel", name := "waits", desc := "(I)I" } : MethodName) ({ cls := "CartPathsModel", name := "waits", desc := "(I)I" } : MethodName)) ∈ GW := gw_t8 107 rfl rfl
theorem gw_1920 : (Cond.code ({ cls := "CartPathsModel", name := "waits", desc := "(I)I" } : MethodName) prog_12_method_68_code (5 : Nat) (Option.some FieldType.int)) ∈ GW := gw_t8 108 rfl rfl
theorem gw_1921 : (Cond.methodLink "CartPathsLaw" (227 : Nat) ({ cls := "CartPathsModel", name := "late", desc := "(IIIII)I" } : MethodName)) ∈ GW := gw_t8 109 rfl rfl
theorem gw_1922 : (Cond.instanceMethod ({ cls := "CartPathsModel", name := "late", desc := "(IIIII)I" } : MethodName)) ∈ GW := gw_t8 110 rfl rfl
theorem gw_1923 : (Cond.selects "CartPathsModel" ({ cls := "CartPathsModel", name := "late", desc := "(IIIII)I" } : MethodName) ({ cls := "CartPathsModel", name := "late", desc := "(IIIII)I" } : MethodName)) ∈ GW := gw_t8 111 rfl rfl
theorem gw_1924 : (Cond.code ({ cls := "CartPathsModel", name := "late", desc := "(IIIII)I" } : MethodName) prog_12_method_72_code (6 : Nat) (Option.some FieldType.int)) ∈ GW := gw_t8 112 rfl rfl
theorem gw_1925 : (Cond.methodLink "CartPathsModel" (347 : Nat) ({ cls := "CartPathsModel", name := "laysStop", desc := "(III)V" } : MethodName)) ∈ GW := gw_t8 113 rfl rfl
theorem gw_1927 : (Cond.instanceMethod ({ cls := "CartPathsModel", name := "laysStop", desc := "(III)V" } : MethodName)) ∈ GW := gw_t8 115 rfl rfl
theorem gw_1928 : (Cond.code ({ cls := "CartPathsModel", name := "laysStop", desc := "(III)V" } : MethodName) prog_12_method_74_code (8 : Nat) (Option.none : Option FieldType)) ∈ GW := gw_t8 116 rfl rfl
theorem gw_1929 : (Cond.methodLink "CartPathsModel" (354 : Nat) ({ cls := "CartPathsModel", name := "laysVisits", desc := "()V" } : MethodName)) ∈ GW := gw_t8 117 rfl rfl
theorem gw_1931 : (Cond.instanceMethod ({ cls := "CartPathsModel", name := "laysVisits", desc := "()V" } : MethodName)) ∈ GW := gw_t8 119 rfl rfl
theorem gw_1932 : (Cond.code ({ cls := "CartPathsModel", name := "laysVisits", desc := "()V" } : MethodName) prog_12_method_69_code (4 : Nat) (Option.none : Option FieldType)) ∈ GW := gw_t8 120 rfl rfl
theorem gw_1933 : (Cond.methodLink "CartPathsModel" (344 : Nat) ({ cls := "CartPathsModel", name := "notSooner", desc := "(II)Z" } : MethodName)) ∈ GW := gw_t8 121 rfl rfl
theorem gw_1935 : (Cond.instanceMethod ({ cls := "CartPathsModel", name := "notSooner", desc := "(II)Z" } : MethodName)) ∈ GW := gw_t8 123 rfl rfl
theorem gw_1936 : (Cond.code ({ cls := "CartPathsModel", name := "notSooner", desc := "(II)Z" } : MethodName) prog_12_method_70_code (3 : Nat) (Option.some FieldType.boolean)) ∈ GW := gw_t8 124 rfl rfl
theorem gw_1937 : (Cond.methodLink "CartPathsModel" (357 : Nat) ({ cls := "CartPathsModel", name := "waitsFor", desc := "(II)Z" } : MethodName)) ∈ GW := gw_t8 125 rfl rfl
theorem gw_1939 : (Cond.instanceMethod ({ cls := "CartPathsModel", name := "waitsFor", desc := "(II)Z" } : MethodName)) ∈ GW := gw_t8 127 rfl rfl
theorem gw_1940 : (Cond.code ({ cls := "CartPathsModel", name := "waitsFor", desc := "(II)Z" } : MethodName) prog_12_method_71_code (8 : Nat) (Option.some FieldType.boolean)) ∈ GW := gw_t8 128 rfl rfl
theorem gw_1941 : (Cond.methodLink "CartPathsModel" (351 : Nat) ({ cls := "CartPathsModel", name := "lateBy", desc := "(I)I" } : MethodName)) ∈ GW := gw_t8 129 rfl rfl
theorem gw_1943 : (Cond.instanceMethod ({ cls := "CartPathsModel", name := "lateBy", desc := "(I)I" } : MethodName)) ∈ GW := gw_t8 131 rfl rfl
theorem gw_1944 : (Cond.code ({ cls := "CartPathsModel", name := "lateBy", desc := "(I)I" } : MethodName) prog_12_method_73_code (3 : Nat) (Option.some FieldType.int)) ∈ GW := gw_t8 132 rfl rfl
theorem gw_1945 : (Cond.methodLink "CartPathsLaw" (248 : Nat) ({ cls := "CartPathsModel", name := "slack", desc := "(III)I" } : MethodName)) ∈ GW := gw_t8 133 rfl rfl
theorem gw_1946 : (Cond.instanceMethod ({ cls := "CartPathsModel", name := "slack", desc := "(III)I" } : MethodName)) ∈ GW := gw_t8 134 rfl rfl
theorem gw_1947 : (Cond.selects "CartPathsModel" ({ cls := "CartPathsModel", name := "slack", desc := "(III)I" } : MethodName) ({ cls := "CartPathsModel", name := "slack", desc := "(III)I" } : MethodName)) ∈ GW := gw_t8 135 rfl rfl
theorem gw_1948 : (Cond.code ({ cls := "CartPathsModel", name := "slack", desc := "(III)I" } : MethodName) prog_12_method_75_code (6 : Nat) (Option.some FieldType.int)) ∈ GW := gw_t8 136 rfl rfl
theorem gw_1949 : (Cond.methodLink "CartPathsLaw" (252 : Nat) ({ cls := "CartPathsModel", name := "critical", desc := "(IIZ)I" } : MethodName)) ∈ GW := gw_t8 137 rfl rfl
theorem gw_1950 : (Cond.instanceMethod ({ cls := "CartPathsModel", name := "critical", desc := "(IIZ)I" } : MethodName)) ∈ GW := gw_t8 138 rfl rfl
theorem gw_1951 : (Cond.selects "CartPathsModel" ({ cls := "CartPathsModel", name := "critical", desc := "(IIZ)I" } : MethodName) ({ cls := "CartPathsModel", name := "critical", desc := "(IIZ)I" } : MethodName)) ∈ GW := gw_t8 139 rfl rfl
theorem gw_1952 : (Cond.code ({ cls := "CartPathsModel", name := "critical", desc := "(IIZ)I" } : MethodName) prog_12_method_76_code (9 : Nat) (Option.some FieldType.int)) ∈ GW := gw_t8 140 rfl rfl
theorem gw_1953 : (Cond.methodLink "CartPathsLaw" (242 : Nat) ({ cls := "CartPathsModel", name := "follows", desc := "(III)I" } : MethodName)) ∈ GW := gw_t8 141 rfl rfl
theorem gw_1954 : (Cond.instanceMethod ({ cls := "CartPathsModel", name := "follows", desc := "(III)I" } : MethodName)) ∈ GW := gw_t8 142 rfl rfl
theorem gw_1955 : (Cond.selects "CartPathsModel" ({ cls := "CartPathsModel", name := "follows", desc := "(III)I" } : MethodName) ({ cls := "CartPathsModel", name := "follows", desc := "(III)I" } : MethodName)) ∈ GW := gw_t8 143 rfl rfl
theorem gw_1956 : (Cond.code ({ cls := "CartPathsModel", name := "follows", desc := "(III)I" } : MethodName) prog_12_method_77_code (7 : Nat) (Option.some FieldType.int)) ∈ GW := gw_t8 144 rfl rfl
theorem gw_1957 : (Cond.methodLink "CartPathsLaw" (245 : Nat) ({ cls := "CartPathsModel", name := "shared", desc := "(II)I" } : MethodName)) ∈ GW := gw_t8 145 rfl rfl
theorem gw_1958 : (Cond.instanceMethod ({ cls := "CartPathsModel", name := "shared", desc := "(II)I" } : MethodName)) ∈ GW := gw_t8 146 rfl rfl
theorem gw_1959 : (Cond.selects "CartPathsModel" ({ cls := "CartPathsModel", name := "shared", desc := "(II)I" } : MethodName) ({ cls := "CartPathsModel", name := "shared", desc := "(II)I" } : MethodName)) ∈ GW := gw_t8 147 rfl rfl
theorem gw_1960 : (Cond.code ({ cls := "CartPathsModel", name := "shared", desc := "(II)I" } : MethodName) prog_12_method_78_code (5 : Nat) (Option.some FieldType.int)) ∈ GW := gw_t8 148 rfl rfl
theorem gw_1961 : (Cond.methodLink "CartPathsLaw" (255 : Nat) ({ cls := "CartPathsModel", name := "ended", desc := "(II)I" } : MethodName)) ∈ GW := gw_t8 149 rfl rfl
theorem gw_1962 : (Cond.instanceMethod ({ cls := "CartPathsModel", name := "ended", desc := "(II)I" } : MethodName)) ∈ GW := gw_t8 150 rfl rfl
theorem gw_1963 : (Cond.selects "CartPathsModel" ({ cls := "CartPathsModel", name := "ended", desc := "(II)I" } : MethodName) ({ cls := "CartPathsModel", name := "ended", desc := "(II)I" } : MethodName)) ∈ GW := gw_t8 151 rfl rfl
theorem gw_1964 : (Cond.code ({ cls := "CartPathsModel", name := "ended", desc := "(II)I" } : MethodName) prog_12_method_79_code (5 : Nat) (Option.some FieldType.int)) ∈ GW := gw_t8 152 rfl rfl
theorem gw_1965 : (Cond.methodLink "CartPathsLaw" (258 : Nat) ({ cls := "CartPathsModel", name := "way", desc := "(III)I" } : MethodName)) ∈ GW := gw_t8 153 rfl rfl
theorem gw_1966 : (Cond.instanceMethod ({ cls := "CartPathsModel", name := "way", desc := "(III)I" } : MethodName)) ∈ GW := gw_t8 154 rfl rfl
theorem gw_1967 : (Cond.selects "CartPathsModel" ({ cls := "CartPathsModel", name := "way", desc := "(III)I" } : MethodName) ({ cls := "CartPathsModel", name := "way", desc := "(III)I" } : MethodName)) ∈ GW := gw_t8 155 rfl rfl
theorem gw_1968 : (Cond.code ({ cls := "CartPathsModel", name := "way", desc := "(III)I" } : MethodName) prog_12_method_80_code (11 : Nat) (Option.some FieldType.int)) ∈ GW := gw_t8 156 rfl rfl
theorem gw_1969 : (Cond.methodLink "CartPathsLaw" (261 : Nat) ({ cls := "CartPathsModel", name := "again", desc := "(II)I" } : MethodName)) ∈ GW := gw_t8 157 rfl rfl
theorem gw_1970 : (Cond.instanceMethod ({ cls := "CartPathsModel", name := "again", desc := "(II)I" } : MethodName)) ∈ GW := gw_t8 158 rfl rfl
theorem gw_1971 : (Cond.selects "CartPathsModel" ({ cls := "CartPathsModel", name := "again", desc := "(II)I" } : MethodName) ({ cls := "CartPathsModel", name := "again", desc := "(II)I" } : MethodName)) ∈ GW := gw_t8 159 rfl rfl
theorem gw_1972 : (Cond.code ({ cls := "CartPathsModel", name := "again", desc := "(II)I" } : MethodName) prog_12_method_81_code (5 : Nat) (Option.some FieldType.int)) ∈ GW := gw_t8 160 rfl rfl
theorem gw_1973 : (Cond.methodLink "CartPathsLaw" (264 : Nat) ({ cls := "CartPathsModel", name := "among", desc := "(I)I" } : MethodName)) ∈ GW := gw_t8 161 rfl rfl
theorem gw_1974 : (Cond.instanceMethod ({ cls := "CartPathsModel", name := "among", desc := "(I)I" } : MethodName)) ∈ GW := gw_t8 162 rfl rfl
theorem gw_1975 : (Cond.selects "CartPathsModel" ({ cls := "CartPathsModel", name := "among", desc := "(I)I" } : MethodName) ({ cls := "CartPathsModel", name := "among", desc := "(I)I" } : MethodName)) ∈ GW := gw_t8 163 rfl rfl
theorem gw_1976 : (Cond.code ({ cls := "CartPathsModel", name := "among", desc := "(I)I" } : MethodName) prog_12_method_82_code (4 : Nat) (Option.some FieldType.int)) ∈ GW := gw_t8 164 rfl rfl
theorem gw_1977 : (Cond.methodLink "CartPathsLaw" (230 : Nat) ({ cls := "CartPathsModel", name := "worse", desc := "(I)I" } : MethodName)) ∈ GW := gw_t8 165 rfl rfl
theorem gw_1978 : (Cond.instanceMethod ({ cls := "CartPathsModel", name := "worse", desc := "(I)I" } : MethodName)) ∈ GW := gw_t8 166 rfl rfl
theorem gw_1979 : (Cond.selects "CartPathsModel" ({ cls := "CartPathsModel", name := "worse", desc := "(I)I" } : MethodName) ({ cls := "CartPathsModel", name := "worse", desc := "(I)I" } : MethodName)) ∈ GW := gw_t8 167 rfl rfl
theorem gw_1980 : (Cond.code ({ cls := "CartPathsModel", name := "worse", desc := "(I)I" } : MethodName) prog_12_method_83_code (2 : Nat) (Option.some FieldType.int)) ∈ GW := gw_t8 168 rfl rfl
theorem gw_1991 : (Cond.methodLink "CartPathsLaw" (233 : Nat) ({ cls := "CartPathsModel", name := "who", desc := "(IIII)I" } : MethodName)) ∈ GW := gw_t8 179 rfl rfl
theorem gw_1992 : (Cond.instanceMethod ({ cls := "CartPathsModel", name := "who", desc := "(IIII)I" } : MethodName)) ∈ GW := gw_t8 180 rfl rfl
theorem gw_1993 : (Cond.selects "CartPathsModel" ({ cls := "CartPathsModel", name := "who", desc := "(IIII)I" } : MethodName) ({ cls := "CartPathsModel", name := "who", desc := "(IIII)I" } : MethodName)) ∈ GW := gw_t8 181 rfl rfl
theorem gw_1994 : (Cond.code ({ cls := "CartPathsModel", name := "who", desc := "(IIII)I" } : MethodName) prog_12_method_84_code (6 : Nat) (Option.some FieldType.int)) ∈ GW := gw_t8 182 rfl rfl
theorem gw_1995 : (Cond.methodLink "CartPathsLaw" (236 : Nat) ({ cls := "CartPathsModel", name := "near", desc := "(IIIZ)I" } : MethodName)) ∈ GW := gw_t8 183 rfl rfl
theorem gw_1996 : (Cond.instanceMethod ({ cls := "CartPathsModel", name := "near", desc := "(IIIZ)I" } : MethodName)) ∈ GW := gw_t8 184 rfl rfl
theorem gw_1997 : (Cond.selects "CartPathsModel" ({ cls := "CartPathsModel", name := "near", desc := "(IIIZ)I" } : MethodName) ({ cls := "CartPathsModel", name := "near", desc := "(IIIZ)I" } : MethodName)) ∈ GW := gw_t8 185 rfl rfl
theorem gw_1998 : (Cond.code ({ cls := "CartPathsModel", name := "near", desc := "(IIIZ)I" } : MethodName) prog_12_method_86_code (11 : Nat) (Option.some FieldType.int)) ∈ GW := gw_t8 186 rfl rfl
theorem gw_1999 : (Cond.methodLink "CartPathsModel" (366 : Nat) ({ cls := "CartPathsModel", name := "apart", desc := "(II)I" } : MethodName)) ∈ GW := gw_t8 187 rfl rfl
theorem gw_2000 : (Cond.static ({ cls := "CartPathsModel", name := "apart", desc := "(II)I" } : MethodName)) ∈ GW := gw_t8 188 rfl rfl
theorem gw_2001 : (Cond.code ({ cls := "CartPathsModel", name := "apart", desc := "(II)I" } : MethodName) prog_12_method_85_code (2 : Nat) (Option.some FieldType.int)) ∈ GW := gw_t8 189 rfl rfl
theorem gw_2002 : (Cond.methodLink "CartPathsLaw" (239 : Nat) ({ cls := "CartPathsModel", name := "without", desc := "(III)I" } : MethodName)) ∈ GW := gw_t8 190 rfl rfl
theorem gw_2003 : (Cond.instanceMethod ({ cls := "CartPathsModel", name := "without", desc := "(III)I" } : MethodName)) ∈ GW := gw_t8 191 rfl rfl
theorem gw_2004 : (Cond.selects "CartPathsModel" ({ cls := "CartPathsModel", name := "without", desc := "(III)I" } : MethodName) ({ cls := "CartPathsModel", name := "without", desc := "(III)I" } : MethodName)) ∈ GW := gw_t8 192 rfl rfl
theorem gw_2005 : (Cond.code ({ cls := "CartPathsModel", name := "without", desc := "(III)I" } : MethodName) prog_12_method_87_code (7 : Nat) (Option.some FieldType.int)) ∈ GW := gw_t8 193 rfl rfl
theorem gw_2006 : (Cond.methodLink "CartPathsLaw" (267 : Nat) ({ cls := "CartPathsModel", name := "byTurns", desc := "(I)I" } : MethodName)) ∈ GW := gw_t8 194 rfl rfl
theorem gw_2007 : (Cond.instanceMethod ({ cls := "CartPathsModel", name := "byTurns", desc := "(I)I" } : MethodName)) ∈ GW := gw_t8 195 rfl rfl
theorem gw_2008 : (Cond.selects "CartPathsModel" ({ cls := "CartPathsModel", name := "byTurns", desc := "(I)I" } : MethodName) ({ cls := "CartPathsModel", name := "byTurns", desc := "(I)I" } : MethodName)) ∈ GW := gw_t8 196 rfl rfl
theorem gw_2009 : (Cond.code ({ cls := "CartPathsModel", name := "byTurns", desc := "(I)I" } : MethodName) prog_12_method_93_code (2 : Nat) (Option.some FieldType.int)) ∈ GW := gw_t8 197 rfl rfl
theorem gw_2010 : (Cond.methodLink "CartPathsModel" (378 : Nat) ({ cls := "CartPathsModel", name := "isOrder", desc := "(I)Z" } : MethodName)) ∈ GW := gw_t8 198 rfl rfl
theorem gw_2012 : (Cond.instanceMethod ({ cls := "CartPathsModel", name := "isOrder", desc := "(I)Z" } : MethodName)) ∈ GW := gw_t8 200 rfl rfl
theorem gw_2013 : (Cond.code ({ cls := "CartPathsModel", name := "isOrder", desc := "(I)Z" } : MethodName) prog_12_method_92_code (2 : Nat) (Option.some FieldType.boolean)) ∈ GW := gw_t8 201 rfl rfl
theorem gw_2014 : (Cond.methodLink "CartPathsModel" (369 : Nat) ({ cls := "CartPathsModel", name := "orders", desc := "()I" } : MethodName)) ∈ GW := gw_t8 202 rfl rfl
theorem gw_2016 : (Cond.instanceMethod ({ cls := "CartPathsModel", name := "orders", desc := "()I" } : MethodName)) ∈ GW := gw_t8 204 rfl rfl
theorem gw_2017 : (Cond.code ({ cls := "CartPathsModel", name := "orders", desc := "()I" } : MethodName) prog_12_method_88_code (3 : Nat) (Option.some FieldType.int)) ∈ GW := gw_t8 205 rfl rfl
theorem gw_2018 : (Cond.methodLink "CartPathsModel" (381 : Nat) ({ cls := "CartPathsModel", name := "laysTurns", desc := "(I)I" } : MethodName)) ∈ GW := gw_t8 206 rfl rfl
theorem gw_2020 : (Cond.instanceMethod ({ cls := "CartPathsModel", name := "laysTurns", desc := "(I)I" } : MethodName)) ∈ GW := gw_t8 208 rfl rfl
theorem gw_2021 : (Cond.code ({ cls := "CartPathsModel", name := "laysTurns", desc := "(I)I" } : MethodName) prog_12_method_91_code (5 : Nat) (Option.some FieldType.int)) ∈ GW := gw_t8 209 rfl rfl
theorem gw_2022 : (Cond.methodLink "CartPathsModel" (372 : Nat) ({ cls := "CartPathsModel", name := "laysOrder", desc := "(I)V" } : MethodName)) ∈ GW := gw_t8 210 rfl rfl
theorem gw_2024 : (Cond.instanceMethod ({ cls := "CartPathsModel", name := "laysOrder", desc := "(I)V" } : MethodName)) ∈ GW := gw_t8 212 rfl rfl
theorem gw_2025 : (Cond.code ({ cls := "CartPathsModel", name := "laysOrder", desc := "(I)V" } : MethodName) prog_12_method_89_code (8 : Nat) (Option.none : Option FieldType)) ∈ GW := gw_t8 213 rfl rfl
theorem gw_2026 : (Cond.methodLink "CartPathsModel" (375 : Nat) ({ cls := "CartPathsModel", name := "forbidsAll", desc := "(I)V" } : MethodName)) ∈ GW := gw_t8 214 rfl rfl
theorem gw_2028 : (Cond.instanceMethod ({ cls := "CartPathsModel", name := "forbidsAll", desc := "(I)V" } : MethodName)) ∈ GW := gw_t8 216 rfl rfl
theorem gw_2029 : (Cond.code ({ cls := "CartPathsModel", name := "forbidsAll", desc := "(I)V" } : MethodName) prog_12_method_90_code (5 : Nat) (Option.none : Option FieldType)) ∈ GW := gw_t8 217 rfl rfl
theorem gw_2030 : (Cond.methodLink "CartPathsLaw" (270 : Nat) ({ cls := "CartPathsModel", name := "turned", desc := "(III)I" } : MethodName)) ∈ GW := gw_t8 218 rfl rfl
theorem gw_2031 : (Cond.instanceMethod ({ cls := "CartPathsModel", name := "turned", desc := "(III)I" } : MethodName)) ∈ GW := gw_t8 219 rfl rfl
theorem gw_2032 : (Cond.selects "CartPathsModel" ({ cls := "CartPathsModel", name := "turned", desc := "(III)I" } : MethodName) ({ cls := "CartPathsModel", name := "turned", desc := "(III)I" } : MethodName)) ∈ GW := gw_t8 220 rfl rfl
theorem gw_2033 : (Cond.code ({ cls := "CartPathsModel", name := "turned", desc := "(III)I" } : MethodName) prog_12_method_94_code (4 : Nat) (Option.some FieldType.int)) ∈ GW := gw_t8 221 rfl rfl
theorem gw_2034 : (Cond.methodLink "CartPathsLaw" (275 : Nat) ({ cls := "CartPathsModel", name := "bestOrder", desc := "(Z)I" } : MethodName)) ∈ GW := gw_t8 222 rfl rfl
theorem gw_2035 : (Cond.instanceMethod ({ cls := "CartPathsModel", name := "bestOrder", desc := "(Z)I" } : MethodName)) ∈ GW := gw_t8 223 rfl rfl
theorem gw_2036 : (Cond.selects "CartPathsModel" ({ cls := "CartPathsModel", name := "bestOrder", desc := "(Z)I" } : MethodName) ({ cls := "CartPathsModel", name := "bestOrder", desc := "(Z)I" } : MethodName)) ∈ GW := gw_t8 224 rfl rfl
theorem gw_2037 : (Cond.code ({ cls := "CartPathsModel", name := "bestOrder", desc := "(Z)I" } : MethodName) prog_12_method_95_code (6 : Nat) (Option.some FieldType.int)) ∈ GW := gw_t8 225 rfl rfl
theorem gw_2038 : (Cond.methodLink "CartPathsLaw" (278 : Nat) ({ cls := "CartPathsModel", name := "ordered", desc := "(II)I" } : MethodName)) ∈ GW := gw_t8 226 rfl rfl
theorem gw_2039 : (Cond.instanceMethod ({ cls := "CartPathsModel", name := "ordered", desc := "(II)I" } : MethodName)) ∈ GW := gw_t8 227 rfl rfl
theorem gw_2040 : (Cond.selects "CartPathsModel" ({ cls := "CartPathsModel", name := "ordered", desc := "(II)I" } : MethodName) ({ cls := "CartPathsModel", name := "ordered", desc := "(II)I" } : MethodName)) ∈ GW := gw_t8 228 rfl rfl
theorem gw_2041 : (Cond.code ({ cls := "CartPathsModel", name := "ordered", desc := "(II)I" } : MethodName) prog_12_method_96_code (3 : Nat) (Option.some FieldType.int)) ∈ GW := gw_t8 229 rfl rfl
theorem gw_2042 : (Cond.methodLink "CartPathsLaw" (281 : Nat) ({ cls := "CartPathsModel", name := "write", desc := "(II)I" } : MethodName)) ∈ GW := gw_t8 230 rfl rfl
theorem gw_2043 : (Cond.instanceMethod ({ cls := "CartPathsModel", name := "write", desc := "(II)I" } : MethodName)) ∈ GW := gw_t8 231 rfl rfl
theorem gw_2044 : (Cond.selects "CartPathsModel" ({ cls := "CartPathsModel", name := "write", desc := "(II)I" } : MethodName) ({ cls := "CartPathsModel", name := "write", desc := "(II)I" } : MethodName)) ∈ GW := gw_t8 232 rfl rfl
theorem gw_2045 : (Cond.code ({ cls := "CartPathsModel", name := "write", desc := "(II)I" } : MethodName) prog_12_method_97_code (7 : Nat) (Option.some FieldType.int)) ∈ GW := gw_t8 233 rfl rfl
theorem gw_2046 : (Cond.methodLink "CartPathsModel" (387 : Nat) ({ cls := "CartPathsModel", name := "signOf", desc := "(I)I" } : MethodName)) ∈ GW := gw_t8 234 rfl rfl
theorem gw_2047 : (Cond.static ({ cls := "CartPathsModel", name := "signOf", desc := "(I)I" } : MethodName)) ∈ GW := gw_t8 235 rfl rfl
theorem gw_2048 : (Cond.code ({ cls := "CartPathsModel", name := "signOf", desc := "(I)I" } : MethodName) prog_12_method_19_code (1 : Nat) (Option.some FieldType.int)) ∈ GW := gw_t8 236 rfl rfl
theorem gw_2049 : (Cond.methodLink "CartPathsLaw" (285 : Nat) ({ cls := "CartPathsModel", name := "octet", desc := "(I)I" } : MethodName)) ∈ GW := gw_t8 237 rfl rfl
theorem gw_2050 : (Cond.instanceMethod ({ cls := "CartPathsModel", name := "octet", desc := "(I)I" } : MethodName)) ∈ GW := gw_t8 238 rfl rfl
theorem gw_2051 : (Cond.selects "CartPathsModel" ({ cls := "CartPathsModel", name := "octet", desc := "(I)I" } : MethodName) ({ cls := "CartPathsModel", name := "octet", desc := "(I)I" } : MethodName)) ∈ GW := gw_t8 239 rfl rfl
theorem gw_2052 : (Cond.code ({ cls := "CartPathsModel", name := "octet", desc := "(I)I" } : MethodName) prog_12_method_98_code (2 : Nat) (Option.some FieldType.int)) ∈ GW := gw_t9 0 rfl rfl
theorem gw_2053 : (Cond.methodLink "CartPathsLaw" (289 : Nat) ({ cls := "CartPathsModel", name := "count", desc := "(I)I" } : MethodName)) ∈ GW := gw_t9 1 rfl rfl
theorem gw_2054 : (Cond.instanceMethod ({ cls := "CartPathsModel", name := "count", desc := "(I)I" } : MethodName)) ∈ GW := gw_t9 2 rfl rfl
theorem gw_2055 : (Cond.selects "CartPathsModel" ({ cls := "CartPathsModel", name := "count", desc := "(I)I" } : MethodName) ({ cls := "CartPathsModel", name := "count", desc := "(I)I" } : MethodName)) ∈ GW := gw_t9 3 rfl rfl
theorem gw_2056 : (Cond.code ({ cls := "CartPathsModel", name := "count", desc := "(I)I" } : MethodName) prog_12_method_99_code (5 : Nat) (Option.some FieldType.int)) ∈ GW := gw_t9 4 rfl rfl
abbrev MI : Type := MethodName × ByteArray × Nat × Option FieldType × Nat × Nat × List (Nat × Nat × Nat × Nat) × Nat
def okY (mi : MI) : Bool := decide (mi.1.cls ≠ "java/lang/invoke/MethodHandle") && decide (mi.1.cls ≠ "java/lang/invoke/VarHandle") && decide ((parseMethodDescriptor mi.1.desc).map (fun d => d.parameters.length) = some mi.2.2.2.2.2.2.2)
def CV (own : String) (idx : Nat) (mi : MI) : Prop := Cond.methodLink own idx mi.1 ∈ GW ∧ Cond.code mi.1 mi.2.1 mi.2.2.1 mi.2.2.2.1 ∈ GW ∧ Cond.initialized mi.1.cls ∈ GW ∧ Cond.instanceMethod mi.1 ∈ GW ∧ Cond.selects mi.1.cls mi.1 mi.1 ∈ GW ∧ okY mi = true
def CVN (own : String) (idx : Nat) (mi : MI) : Prop := (∃ host, Cond.methodLinkNest own idx mi.1 host ∈ GW) ∧ Cond.code mi.1 mi.2.1 mi.2.2.1 mi.2.2.2.1 ∈ GW ∧ Cond.initialized mi.1.cls ∈ GW ∧ Cond.instanceMethod mi.1 ∈ GW ∧ Cond.selects mi.1.cls mi.1 mi.1 ∈ GW ∧ okY mi = true
def CS (own : String) (idx : Nat) (mi : MI) : Prop := Cond.methodLink own idx mi.1 ∈ GW ∧ Cond.code mi.1 mi.2.1 mi.2.2.1 mi.2.2.2.1 ∈ GW ∧ Cond.initialized mi.1.cls ∈ GW ∧ Cond.static mi.1 ∈ GW ∧ okY mi = true
def CSN (own : String) (idx : Nat) (mi : MI) : Prop := (∃ host, Cond.methodLinkNest own idx mi.1 host ∈ GW) ∧ Cond.code mi.1 mi.2.1 mi.2.2.1 mi.2.2.2.1 ∈ GW ∧ Cond.initialized mi.1.cls ∈ GW ∧ Cond.static mi.1 ∈ GW ∧ okY mi = true
def CSW (own : String) (idx : Nat) (mi : MI) : Prop := Cond.methodLink own idx mi.1 ∈ GW ∧ Cond.codeWith mi.1 mi.2.1 mi.2.2.1 mi.2.2.2.1 mi.2.2.2.2.2.2.1 ∈ GW ∧ Cond.initialized mi.1.cls ∈ GW ∧ Cond.static mi.1 ∈ GW ∧ okY mi = true
def CI (own : String) (idx : Nat) (mi : MI) : Prop := Cond.methodLink own idx mi.1 ∈ GW ∧ Cond.code mi.1 mi.2.1 mi.2.2.1 mi.2.2.2.1 ∈ GW ∧ Cond.initialized mi.1.cls ∈ GW ∧ Cond.instanceMethod mi.1 ∈ GW ∧ okY mi = true
def CIN (own : String) (idx : Nat) (mi : MI) : Prop := (∃ host, Cond.methodLinkNest own idx mi.1 host ∈ GW) ∧ Cond.code mi.1 mi.2.1 mi.2.2.1 mi.2.2.2.1 ∈ GW ∧ Cond.initialized mi.1.cls ∈ GW ∧ Cond.instanceMethod mi.1 ∈ GW ∧ okY mi = true
def FL (own : String) (idx ci k : Nat) : Prop := ∃ (C : String) (T : u_T) (N : Nat) (ty : Nat → FieldType), vwCl[ci]? = some (C, T, N) ∧ k < N ∧ (Cond.fieldLink own idx (T k).1 (T k).2.1 (T k).2.2.1 ∈ GW ∨ ∃ host, Cond.fieldLinkNest own idx (T k).1 (T k).2.1 (T k).2.2.1 host ∈ GW) ∧ (∀ w ∈ u_ws C T N, w ∈ GW) ∧ (∀ k, k < N → parseFieldDescriptor (T k).2.2.1 = some (ty k)) ∧ (∀ a, a < N → ∀ b, b < N → a ≠ b → (T a).2.1 ≠ (T b).2.1)
def FP (own : String) (idx ci k : Nat) (t : FieldType) (fin : Bool) : Prop := FL own idx ci k ∧ ∃ (C : String) (T : u_T) (N : Nat), vwCl[ci]? = some (C, T, N) ∧ parseFieldDescriptor (T k).2.2.1 = some t ∧ (T k).2.2.2 = fin ∧ (T k).1 = C
def NWc (own : String) (idx ci N : Nat) (ty : Nat → FieldType) : Prop := ∃ (C : String) (T : u_T), vwCl[ci]? = some (C, T, N) ∧ Cond.classLink own idx C ∈ GW ∧ Cond.instantiable C N ∈ GW ∧ Cond.initialized C ∈ GW ∧ (∀ w ∈ u_ws C T N, w ∈ GW) ∧ (∀ k, k < N → parseFieldDescriptor (T k).2.2.1 = some (ty k))
def xnames : List String := ["java/lang/RuntimeException", "java/lang/Exception"]
def TH (own : String) (ik ic : Nat) (X : String) : Prop := Bundle.fit X = true ∧ Cond.classLink own ik X ∈ GW ∧ Cond.initialized X ∈ GW ∧ (∀ w ∈ vx_at0 own ic X xnames, w ∈ GW) ∧ (∀ w ∈ Cond.classLink own ik X :: Cond.initialized X :: vx_at0 own ic X xnames, vx_ot w = true)
theorem xn_fit : ∀ n ∈ xnames, Bundle.fit n = true := by decide +kernel
theorem inG_X0 : ∀ w ∈ u_ws RX0 TX0 4, w ∈ GW := by
  intro w hw
  obtain ⟨k, hk, rfl⟩ := List.mem_map.mp hw
  have hk := List.mem_range.mp hk
  match k, hk with
  | 0, _ => exact gw_270
  | 1, _ => exact gw_272
  | 2, _ => exact gw_274
  | 3, _ => exact gw_276
  | k + 4, hk => exact absurd hk (by omega)
theorem inG_X1 : ∀ w ∈ u_ws RX1 TX1 12, w ∈ GW := by
  intro w hw
  obtain ⟨k, hk, rfl⟩ := List.mem_map.mp hw
  have hk := List.mem_range.mp hk
  match k, hk with
  | 0, _ => exact gw_1152
  | 1, _ => exact gw_1154
  | 2, _ => exact gw_1156
  | 3, _ => exact gw_1158
  | 4, _ => exact gw_1160
  | 5, _ => exact gw_1162
  | 6, _ => exact gw_1164
  | 7, _ => exact gw_1166
  | 8, _ => exact gw_1168
  | 9, _ => exact gw_1170
  | 10, _ => exact gw_1172
  | 11, _ => exact gw_1174
  | k + 12, hk => exact absurd hk (by omega)
theorem inG_X2 : ∀ w ∈ u_ws RX2 TX2 9, w ∈ GW := by
  intro w hw
  obtain ⟨k, hk, rfl⟩ := List.mem_map.mp hw
  have hk := List.mem_range.mp hk
  match k, hk with
  | 0, _ => exact gw_214
  | 1, _ => exact gw_216
  | 2, _ => exact gw_218
  | 3, _ => exact gw_220
  | 4, _ => exact gw_222
  | 5, _ => exact gw_224
  | 6, _ => exact gw_226
  | 7, _ => exact gw_228
  | 8, _ => exact gw_230
  | k + 9, hk => exact absurd hk (by omega)
theorem inG_X3 : ∀ w ∈ u_ws RX3 TX3 3, w ∈ GW := by
  intro w hw
  obtain ⟨k, hk, rfl⟩ := List.mem_map.mp hw
  have hk := List.mem_range.mp hk
  match k, hk with
  | 0, _ => exact gw_288
  | 1, _ => exact gw_290
  | 2, _ => exact gw_292
  | k + 3, hk => exact absurd hk (by omega)
theorem inG_X4 : ∀ w ∈ u_ws RX4 TX4 2, w ∈ GW := by
  intro w hw
  obtain ⟨k, hk, rfl⟩ := List.mem_map.mp hw
  have hk := List.mem_range.mp hk
  match k, hk with
  | 0, _ => exact gw_436
  | 1, _ => exact gw_438
  | k + 2, hk => exact absurd hk (by omega)
theorem inG_X5 : ∀ w ∈ u_ws RX5 TX5 6, w ∈ GW := by
  intro w hw
  obtain ⟨k, hk, rfl⟩ := List.mem_map.mp hw
  have hk := List.mem_range.mp hk
  match k, hk with
  | 0, _ => exact gw_244
  | 1, _ => exact gw_246
  | 2, _ => exact gw_248
  | 3, _ => exact gw_250
  | 4, _ => exact gw_252
  | 5, _ => exact gw_254
  | k + 6, hk => exact absurd hk (by omega)
theorem inG_X6 : ∀ w ∈ u_ws RX6 TX6 10, w ∈ GW := by
  intro w hw
  obtain ⟨k, hk, rfl⟩ := List.mem_map.mp hw
  have hk := List.mem_range.mp hk
  match k, hk with
  | 0, _ => exact gw_370
  | 1, _ => exact gw_372
  | 2, _ => exact gw_374
  | 3, _ => exact gw_376
  | 4, _ => exact gw_378
  | 5, _ => exact gw_380
  | 6, _ => exact gw_382
  | 7, _ => exact gw_384
  | 8, _ => exact gw_386
  | 9, _ => exact gw_388
  | k + 10, hk => exact absurd hk (by omega)
theorem inG_X7 : ∀ w ∈ u_ws RX7 TX7 7, w ∈ GW := by
  intro w hw
  obtain ⟨k, hk, rfl⟩ := List.mem_map.mp hw
  have hk := List.mem_range.mp hk
  match k, hk with
  | 0, _ => exact gw_413
  | 1, _ => exact gw_415
  | 2, _ => exact gw_417
  | 3, _ => exact gw_419
  | 4, _ => exact gw_421
  | 5, _ => exact gw_423
  | 6, _ => exact gw_425
  | k + 7, hk => exact absurd hk (by omega)
theorem inG_X8 : ∀ w ∈ u_ws RX8 TX8 7, w ∈ GW := by
  intro w hw
  obtain ⟨k, hk, rfl⟩ := List.mem_map.mp hw
  have hk := List.mem_range.mp hk
  match k, hk with
  | 0, _ => exact gw_326
  | 1, _ => exact gw_328
  | 2, _ => exact gw_330
  | 3, _ => exact gw_332
  | 4, _ => exact gw_334
  | 5, _ => exact gw_336
  | 6, _ => exact gw_338
  | k + 7, hk => exact absurd hk (by omega)
theorem inG_X9 : ∀ w ∈ u_ws RX9 TX9 14, w ∈ GW := by
  intro w hw
  obtain ⟨k, hk, rfl⟩ := List.mem_map.mp hw
  have hk := List.mem_range.mp hk
  match k, hk with
  | 0, _ => exact gw_455
  | 1, _ => exact gw_457
  | 2, _ => exact gw_459
  | 3, _ => exact gw_461
  | 4, _ => exact gw_463
  | 5, _ => exact gw_465
  | 6, _ => exact gw_467
  | 7, _ => exact gw_469
  | 8, _ => exact gw_471
  | 9, _ => exact gw_473
  | 10, _ => exact gw_475
  | 11, _ => exact gw_477
  | 12, _ => exact gw_479
  | 13, _ => exact gw_481
  | k + 14, hk => exact absurd hk (by omega)
theorem inG_X10 : ∀ w ∈ u_ws RX10 TX10 56, w ∈ GW := by
  intro w hw
  obtain ⟨k, hk, rfl⟩ := List.mem_map.mp hw
  have hk := List.mem_range.mp hk
  match k, hk with
  | 0, _ => exact gw_1540
  | 1, _ => exact gw_1542
  | 2, _ => exact gw_1544
  | 3, _ => exact gw_1546
  | 4, _ => exact gw_1548
  | 5, _ => exact gw_1550
  | 6, _ => exact gw_1552
  | 7, _ => exact gw_1554
  | 8, _ => exact gw_1556
  | 9, _ => exact gw_1558
  | 10, _ => exact gw_1560
  | 11, _ => exact gw_1562
  | 12, _ => exact gw_1564
  | 13, _ => exact gw_1566
  | 14, _ => exact gw_1568
  | 15, _ => exact gw_1570
  | 16, _ => exact gw_1572
  | 17, _ => exact gw_1574
  | 18, _ => exact gw_1576
  | 19, _ => exact gw_1578
  | 20, _ => exact gw_1580
  | 21, _ => exact gw_1582
  | 22, _ => exact gw_1584
  | 23, _ => exact gw_1586
  | 24, _ => exact gw_1588
  | 25, _ => exact gw_1590
  | 26, _ => exact gw_1592
  | 27, _ => exact gw_1594
  | 28, _ => exact gw_1596
  | 29, _ => exact gw_1598
  | 30, _ => exact gw_1600
  | 31, _ => exact gw_1602
  | 32, _ => exact gw_1604
  | 33, _ => exact gw_1606
  | 34, _ => exact gw_1608
  | 35, _ => exact gw_1610
  | 36, _ => exact gw_1612
  | 37, _ => exact gw_1614
  | 38, _ => exact gw_1616
  | 39, _ => exact gw_1618
  | 40, _ => exact gw_1620
  | 41, _ => exact gw_1622
  | 42, _ => exact gw_1624
  | 43, _ => exact gw_1626
  | 44, _ => exact gw_1628
  | 45, _ => exact gw_1630
  | 46, _ => exact gw_1632
  | 47, _ => exact gw_1634
  | 48, _ => exact gw_1636
  | 49, _ => exact gw_1638
  | 50, _ => exact gw_1640
  | 51, _ => exact gw_1642
  | 52, _ => exact gw_1644
  | 53, _ => exact gw_1646
  | 54, _ => exact gw_1648
  | 55, _ => exact gw_1650
  | k + 56, hk => exact absurd hk (by omega)
theorem fl_X0_9 : FL RX0 9 0 0 := ⟨RX0, TX0, 4, tyX0, rfl, by decide, Or.inl gw_265, inG_X0, tyX0_ok, nmX0⟩
theorem fl_X0_15 : FL RX0 15 0 1 := ⟨RX0, TX0, 4, tyX0, rfl, by decide, Or.inl gw_266, inG_X0, tyX0_ok, nmX0⟩
theorem fl_X0_18 : FL RX0 18 0 2 := ⟨RX0, TX0, 4, tyX0, rfl, by decide, Or.inl gw_267, inG_X0, tyX0_ok, nmX0⟩
theorem fl_X0_21 : FL RX0 21 0 3 := ⟨RX0, TX0, 4, tyX0, rfl, by decide, Or.inl gw_268, inG_X0, tyX0_ok, nmX0⟩
theorem fl_X0_31 : FL RX0 31 2 2 := ⟨RX2, TX2, 9, tyX2, rfl, by decide, Or.inr ⟨_, gw_189⟩, inG_X2, tyX2_ok, nmX2⟩
theorem fl_X0_36 : FL RX0 36 2 5 := ⟨RX2, TX2, 9, tyX2, rfl, by decide, Or.inr ⟨_, gw_202⟩, inG_X2, tyX2_ok, nmX2⟩
theorem fl_X1_9 : FL RX1 9 1 1 := ⟨RX1, TX1, 12, tyX1, rfl, by decide, Or.inl gw_1124, inG_X1, tyX1_ok, nmX1⟩
theorem fl_X1_15 : FL RX1 15 1 2 := ⟨RX1, TX1, 12, tyX1, rfl, by decide, Or.inl gw_1127, inG_X1, tyX1_ok, nmX1⟩
theorem fl_X1_19 : FL RX1 19 1 3 := ⟨RX1, TX1, 12, tyX1, rfl, by decide, Or.inl gw_1130, inG_X1, tyX1_ok, nmX1⟩
theorem fl_X1_22 : FL RX1 22 1 4 := ⟨RX1, TX1, 12, tyX1, rfl, by decide, Or.inl gw_1132, inG_X1, tyX1_ok, nmX1⟩
theorem fl_X1_25 : FL RX1 25 1 5 := ⟨RX1, TX1, 12, tyX1, rfl, by decide, Or.inl gw_1134, inG_X1, tyX1_ok, nmX1⟩
theorem fl_X1_28 : FL RX1 28 1 6 := ⟨RX1, TX1, 12, tyX1, rfl, by decide, Or.inl gw_1136, inG_X1, tyX1_ok, nmX1⟩
theorem fl_X1_32 : FL RX1 32 1 7 := ⟨RX1, TX1, 12, tyX1, rfl, by decide, Or.inl gw_1138, inG_X1, tyX1_ok, nmX1⟩
theorem fl_X1_35 : FL RX1 35 1 8 := ⟨RX1, TX1, 12, tyX1, rfl, by decide, Or.inl gw_1140, inG_X1, tyX1_ok, nmX1⟩
theorem fl_X1_38 : FL RX1 38 1 9 := ⟨RX1, TX1, 12, tyX1, rfl, by decide, Or.inl gw_1143, inG_X1, tyX1_ok, nmX1⟩
theorem fl_X1_41 : FL RX1 41 1 10 := ⟨RX1, TX1, 12, tyX1, rfl, by decide, Or.inl gw_1146, inG_X1, tyX1_ok, nmX1⟩
theorem fl_X1_44 : FL RX1 44 1 11 := ⟨RX1, TX1, 12, tyX1, rfl, by decide, Or.inl gw_1149, inG_X1, tyX1_ok, nmX1⟩
theorem fl_X1_48 : FL RX1 48 1 0 := ⟨RX1, TX1, 12, tyX1, rfl, by decide, Or.inl gw_1121, inG_X1, tyX1_ok, nmX1⟩
theorem fl_X2_9 : FL RX2 9 2 0 := ⟨RX2, TX2, 9, tyX2, rfl, by decide, Or.inl gw_182, inG_X2, tyX2_ok, nmX2⟩
theorem fl_X2_15 : FL RX2 15 2 1 := ⟨RX2, TX2, 9, tyX2, rfl, by decide, Or.inl gw_185, inG_X2, tyX2_ok, nmX2⟩
theorem fl_X2_18 : FL RX2 18 2 2 := ⟨RX2, TX2, 9, tyX2, rfl, by decide, Or.inl gw_188, inG_X2, tyX2_ok, nmX2⟩
theorem fl_X2_22 : FL RX2 22 2 3 := ⟨RX2, TX2, 9, tyX2, rfl, by decide, Or.inl gw_192, inG_X2, tyX2_ok, nmX2⟩
theorem fl_X2_25 : FL RX2 25 2 4 := ⟨RX2, TX2, 9, tyX2, rfl, by decide, Or.inl gw_197, inG_X2, tyX2_ok, nmX2⟩
theorem fl_X2_28 : FL RX2 28 2 5 := ⟨RX2, TX2, 9, tyX2, rfl, by decide, Or.inl gw_201, inG_X2, tyX2_ok, nmX2⟩
theorem fl_X2_31 : FL RX2 31 2 6 := ⟨RX2, TX2, 9, tyX2, rfl, by decide, Or.inl gw_206, inG_X2, tyX2_ok, nmX2⟩
theorem fl_X2_34 : FL RX2 34 2 7 := ⟨RX2, TX2, 9, tyX2, rfl, by decide, Or.inl gw_209, inG_X2, tyX2_ok, nmX2⟩
theorem fl_X2_37 : FL RX2 37 2 8 := ⟨RX2, TX2, 9, tyX2, rfl, by decide, Or.inl gw_212, inG_X2, tyX2_ok, nmX2⟩
theorem fl_X3_9 : FL RX3 9 3 0 := ⟨RX3, TX3, 3, tyX3, rfl, by decide, Or.inl gw_285, inG_X3, tyX3_ok, nmX3⟩
theorem fl_X3_15 : FL RX3 15 3 1 := ⟨RX3, TX3, 3, tyX3, rfl, by decide, Or.inl gw_286, inG_X3, tyX3_ok, nmX3⟩
theorem fl_X3_18 : FL RX3 18 3 2 := ⟨RX3, TX3, 3, tyX3, rfl, by decide, Or.inl gw_287, inG_X3, tyX3_ok, nmX3⟩
theorem fl_X3_35 : FL RX3 35 2 5 := ⟨RX2, TX2, 9, tyX2, rfl, by decide, Or.inr ⟨_, gw_203⟩, inG_X2, tyX2_ok, nmX2⟩
theorem fl_X3_40 : FL RX3 40 2 4 := ⟨RX2, TX2, 9, tyX2, rfl, by decide, Or.inr ⟨_, gw_198⟩, inG_X2, tyX2_ok, nmX2⟩
theorem fl_X3_54 : FL RX3 54 2 8 := ⟨RX2, TX2, 9, tyX2, rfl, by decide, Or.inr ⟨_, gw_213⟩, inG_X2, tyX2_ok, nmX2⟩
theorem fl_X4_9 : FL RX4 9 4 0 := ⟨RX4, TX4, 2, tyX4, rfl, by decide, Or.inl gw_434, inG_X4, tyX4_ok, nmX4⟩
theorem fl_X4_15 : FL RX4 15 4 1 := ⟨RX4, TX4, 2, tyX4, rfl, by decide, Or.inl gw_435, inG_X4, tyX4_ok, nmX4⟩
theorem fl_X4_24 : FL RX4 24 8 2 := ⟨RX8, TX8, 7, tyX8, rfl, by decide, Or.inr ⟨_, gw_310⟩, inG_X8, tyX8_ok, nmX8⟩
theorem fl_X4_53 : FL RX4 53 8 1 := ⟨RX8, TX8, 7, tyX8, rfl, by decide, Or.inr ⟨_, gw_306⟩, inG_X8, tyX8_ok, nmX8⟩
theorem fl_X5_9 : FL RX5 9 5 0 := ⟨RX5, TX5, 6, tyX5, rfl, by decide, Or.inl gw_235, inG_X5, tyX5_ok, nmX5⟩
theorem fl_X5_15 : FL RX5 15 5 1 := ⟨RX5, TX5, 6, tyX5, rfl, by decide, Or.inl gw_236, inG_X5, tyX5_ok, nmX5⟩
theorem fl_X5_19 : FL RX5 19 5 2 := ⟨RX5, TX5, 6, tyX5, rfl, by decide, Or.inl gw_238, inG_X5, tyX5_ok, nmX5⟩
theorem fl_X5_22 : FL RX5 22 5 3 := ⟨RX5, TX5, 6, tyX5, rfl, by decide, Or.inl gw_239, inG_X5, tyX5_ok, nmX5⟩
theorem fl_X5_25 : FL RX5 25 5 4 := ⟨RX5, TX5, 6, tyX5, rfl, by decide, Or.inl gw_241, inG_X5, tyX5_ok, nmX5⟩
theorem fl_X5_31 : FL RX5 31 5 5 := ⟨RX5, TX5, 6, tyX5, rfl, by decide, Or.inl gw_242, inG_X5, tyX5_ok, nmX5⟩
theorem fl_X5_42 : FL RX5 42 2 1 := ⟨RX2, TX2, 9, tyX2, rfl, by decide, Or.inr ⟨_, gw_186⟩, inG_X2, tyX2_ok, nmX2⟩
theorem fl_X5_57 : FL RX5 57 2 3 := ⟨RX2, TX2, 9, tyX2, rfl, by decide, Or.inr ⟨_, gw_196⟩, inG_X2, tyX2_ok, nmX2⟩
theorem fl_X5_90 : FL RX5 90 2 0 := ⟨RX2, TX2, 9, tyX2, rfl, by decide, Or.inr ⟨_, gw_183⟩, inG_X2, tyX2_ok, nmX2⟩
theorem fl_X5_93 : FL RX5 93 2 2 := ⟨RX2, TX2, 9, tyX2, rfl, by decide, Or.inr ⟨_, gw_190⟩, inG_X2, tyX2_ok, nmX2⟩
theorem fl_X5_104 : FL RX5 104 2 4 := ⟨RX2, TX2, 9, tyX2, rfl, by decide, Or.inr ⟨_, gw_199⟩, inG_X2, tyX2_ok, nmX2⟩
theorem fl_X5_113 : FL RX5 113 2 5 := ⟨RX2, TX2, 9, tyX2, rfl, by decide, Or.inr ⟨_, gw_204⟩, inG_X2, tyX2_ok, nmX2⟩
theorem fl_X5_119 : FL RX5 119 2 6 := ⟨RX2, TX2, 9, tyX2, rfl, by decide, Or.inr ⟨_, gw_207⟩, inG_X2, tyX2_ok, nmX2⟩
theorem fl_X5_122 : FL RX5 122 2 7 := ⟨RX2, TX2, 9, tyX2, rfl, by decide, Or.inr ⟨_, gw_210⟩, inG_X2, tyX2_ok, nmX2⟩
theorem fl_X6_11 : FL RX6 11 6 0 := ⟨RX6, TX6, 10, tyX6, rfl, by decide, Or.inl gw_352, inG_X6, tyX6_ok, nmX6⟩
theorem fl_X6_20 : FL RX6 20 6 1 := ⟨RX6, TX6, 10, tyX6, rfl, by decide, Or.inl gw_354, inG_X6, tyX6_ok, nmX6⟩
theorem fl_X6_24 : FL RX6 24 6 2 := ⟨RX6, TX6, 10, tyX6, rfl, by decide, Or.inl gw_355, inG_X6, tyX6_ok, nmX6⟩
theorem fl_X6_27 : FL RX6 27 6 3 := ⟨RX6, TX6, 10, tyX6, rfl, by decide, Or.inl gw_357, inG_X6, tyX6_ok, nmX6⟩
theorem fl_X6_31 : FL RX6 31 6 4 := ⟨RX6, TX6, 10, tyX6, rfl, by decide, Or.inl gw_358, inG_X6, tyX6_ok, nmX6⟩
theorem fl_X6_35 : FL RX6 35 6 5 := ⟨RX6, TX6, 10, tyX6, rfl, by decide, Or.inl gw_360, inG_X6, tyX6_ok, nmX6⟩
theorem fl_X6_38 : FL RX6 38 6 6 := ⟨RX6, TX6, 10, tyX6, rfl, by decide, Or.inl gw_362, inG_X6, tyX6_ok, nmX6⟩
theorem fl_X6_41 : FL RX6 41 6 7 := ⟨RX6, TX6, 10, tyX6, rfl, by decide, Or.inl gw_364, inG_X6, tyX6_ok, nmX6⟩
theorem fl_X6_44 : FL RX6 44 6 8 := ⟨RX6, TX6, 10, tyX6, rfl, by decide, Or.inl gw_366, inG_X6, tyX6_ok, nmX6⟩
theorem fl_X6_47 : FL RX6 47 6 9 := ⟨RX6, TX6, 10, tyX6, rfl, by decide, Or.inl gw_368, inG_X6, tyX6_ok, nmX6⟩
theorem fl_X6_70 : FL RX6 70 1 11 := ⟨RX1, TX1, 12, tyX1, rfl, by decide, Or.inr ⟨_, gw_1150⟩, inG_X1, tyX1_ok, nmX1⟩
theorem fl_X6_73 : FL RX6 73 8 5 := ⟨RX8, TX8, 7, tyX8, rfl, by decide, Or.inr ⟨_, gw_321⟩, inG_X8, tyX8_ok, nmX8⟩
theorem fl_X6_80 : FL RX6 80 8 6 := ⟨RX8, TX8, 7, tyX8, rfl, by decide, Or.inr ⟨_, gw_324⟩, inG_X8, tyX8_ok, nmX8⟩
theorem fl_X6_94 : FL RX6 94 1 8 := ⟨RX1, TX1, 12, tyX1, rfl, by decide, Or.inr ⟨_, gw_1141⟩, inG_X1, tyX1_ok, nmX1⟩
theorem fl_X6_100 : FL RX6 100 1 9 := ⟨RX1, TX1, 12, tyX1, rfl, by decide, Or.inr ⟨_, gw_1144⟩, inG_X1, tyX1_ok, nmX1⟩
theorem fl_X6_110 : FL RX6 110 1 0 := ⟨RX1, TX1, 12, tyX1, rfl, by decide, Or.inr ⟨_, gw_1122⟩, inG_X1, tyX1_ok, nmX1⟩
theorem fl_X6_116 : FL RX6 116 8 2 := ⟨RX8, TX8, 7, tyX8, rfl, by decide, Or.inr ⟨_, gw_312⟩, inG_X8, tyX8_ok, nmX8⟩
theorem fl_X6_119 : FL RX6 119 1 1 := ⟨RX1, TX1, 12, tyX1, rfl, by decide, Or.inr ⟨_, gw_1125⟩, inG_X1, tyX1_ok, nmX1⟩
theorem fl_X6_123 : FL RX6 123 1 2 := ⟨RX1, TX1, 12, tyX1, rfl, by decide, Or.inr ⟨_, gw_1128⟩, inG_X1, tyX1_ok, nmX1⟩
theorem fl_X6_126 : FL RX6 126 1 6 := ⟨RX1, TX1, 12, tyX1, rfl, by decide, Or.inr ⟨_, gw_1137⟩, inG_X1, tyX1_ok, nmX1⟩
theorem fl_X6_129 : FL RX6 129 1 7 := ⟨RX1, TX1, 12, tyX1, rfl, by decide, Or.inr ⟨_, gw_1139⟩, inG_X1, tyX1_ok, nmX1⟩
theorem fl_X6_136 : FL RX6 136 8 0 := ⟨RX8, TX8, 7, tyX8, rfl, by decide, Or.inr ⟨_, gw_303⟩, inG_X8, tyX8_ok, nmX8⟩
theorem fl_X6_139 : FL RX6 139 8 1 := ⟨RX8, TX8, 7, tyX8, rfl, by decide, Or.inr ⟨_, gw_307⟩, inG_X8, tyX8_ok, nmX8⟩
theorem fl_X6_142 : FL RX6 142 8 3 := ⟨RX8, TX8, 7, tyX8, rfl, by decide, Or.inr ⟨_, gw_315⟩, inG_X8, tyX8_ok, nmX8⟩
theorem fl_X6_145 : FL RX6 145 1 3 := ⟨RX1, TX1, 12, tyX1, rfl, by decide, Or.inr ⟨_, gw_1131⟩, inG_X1, tyX1_ok, nmX1⟩
theorem fl_X6_152 : FL RX6 152 1 5 := ⟨RX1, TX1, 12, tyX1, rfl, by decide, Or.inr ⟨_, gw_1135⟩, inG_X1, tyX1_ok, nmX1⟩
theorem fl_X6_155 : FL RX6 155 8 4 := ⟨RX8, TX8, 7, tyX8, rfl, by decide, Or.inr ⟨_, gw_318⟩, inG_X8, tyX8_ok, nmX8⟩
theorem fl_X6_158 : FL RX6 158 1 4 := ⟨RX1, TX1, 12, tyX1, rfl, by decide, Or.inr ⟨_, gw_1133⟩, inG_X1, tyX1_ok, nmX1⟩
theorem fl_X6_175 : FL RX6 175 1 10 := ⟨RX1, TX1, 12, tyX1, rfl, by decide, Or.inr ⟨_, gw_1147⟩, inG_X1, tyX1_ok, nmX1⟩
theorem fl_X7_12 : FL RX7 12 7 0 := ⟨RX7, TX7, 7, tyX7, rfl, by decide, Or.inl gw_399, inG_X7, tyX7_ok, nmX7⟩
theorem fl_X7_18 : FL RX7 18 7 1 := ⟨RX7, TX7, 7, tyX7, rfl, by decide, Or.inl gw_401, inG_X7, tyX7_ok, nmX7⟩
theorem fl_X7_22 : FL RX7 22 7 2 := ⟨RX7, TX7, 7, tyX7, rfl, by decide, Or.inl gw_403, inG_X7, tyX7_ok, nmX7⟩
theorem fl_X7_26 : FL RX7 26 7 3 := ⟨RX7, TX7, 7, tyX7, rfl, by decide, Or.inl gw_405, inG_X7, tyX7_ok, nmX7⟩
theorem fl_X7_29 : FL RX7 29 7 4 := ⟨RX7, TX7, 7, tyX7, rfl, by decide, Or.inl gw_407, inG_X7, tyX7_ok, nmX7⟩
theorem fl_X7_32 : FL RX7 32 7 5 := ⟨RX7, TX7, 7, tyX7, rfl, by decide, Or.inl gw_409, inG_X7, tyX7_ok, nmX7⟩
theorem fl_X7_35 : FL RX7 35 7 6 := ⟨RX7, TX7, 7, tyX7, rfl, by decide, Or.inl gw_411, inG_X7, tyX7_ok, nmX7⟩
theorem fl_X7_45 : FL RX7 45 2 3 := ⟨RX2, TX2, 9, tyX2, rfl, by decide, Or.inr ⟨_, gw_194⟩, inG_X2, tyX2_ok, nmX2⟩
theorem fl_X7_50 : FL RX7 50 8 2 := ⟨RX8, TX8, 7, tyX8, rfl, by decide, Or.inr ⟨_, gw_311⟩, inG_X8, tyX8_ok, nmX8⟩
theorem fl_X7_56 : FL RX7 56 8 1 := ⟨RX8, TX8, 7, tyX8, rfl, by decide, Or.inr ⟨_, gw_305⟩, inG_X8, tyX8_ok, nmX8⟩
theorem fl_X7_59 : FL RX7 59 8 0 := ⟨RX8, TX8, 7, tyX8, rfl, by decide, Or.inr ⟨_, gw_302⟩, inG_X8, tyX8_ok, nmX8⟩
theorem fl_X8_9 : FL RX8 9 8 0 := ⟨RX8, TX8, 7, tyX8, rfl, by decide, Or.inl gw_301, inG_X8, tyX8_ok, nmX8⟩
theorem fl_X8_15 : FL RX8 15 8 1 := ⟨RX8, TX8, 7, tyX8, rfl, by decide, Or.inl gw_304, inG_X8, tyX8_ok, nmX8⟩
theorem fl_X8_18 : FL RX8 18 8 2 := ⟨RX8, TX8, 7, tyX8, rfl, by decide, Or.inl gw_309, inG_X8, tyX8_ok, nmX8⟩
theorem fl_X8_22 : FL RX8 22 8 3 := ⟨RX8, TX8, 7, tyX8, rfl, by decide, Or.inl gw_314, inG_X8, tyX8_ok, nmX8⟩
theorem fl_X8_25 : FL RX8 25 8 4 := ⟨RX8, TX8, 7, tyX8, rfl, by decide, Or.inl gw_317, inG_X8, tyX8_ok, nmX8⟩
theorem fl_X8_28 : FL RX8 28 8 5 := ⟨RX8, TX8, 7, tyX8, rfl, by decide, Or.inl gw_320, inG_X8, tyX8_ok, nmX8⟩
theorem fl_X8_31 : FL RX8 31 8 6 := ⟨RX8, TX8, 7, tyX8, rfl, by decide, Or.inl gw_323, inG_X8, tyX8_ok, nmX8⟩
theorem fl_X8_34 : FL RX8 34 2 3 := ⟨RX2, TX2, 9, tyX2, rfl, by decide, Or.inr ⟨_, gw_193⟩, inG_X2, tyX2_ok, nmX2⟩
theorem fl_X9_10 : FL RX9 10 9 0 := ⟨RX9, TX9, 14, tyX9, rfl, by decide, Or.inl gw_441, inG_X9, tyX9_ok, nmX9⟩
theorem fl_X9_19 : FL RX9 19 9 1 := ⟨RX9, TX9, 14, tyX9, rfl, by decide, Or.inl gw_442, inG_X9, tyX9_ok, nmX9⟩
theorem fl_X9_23 : FL RX9 23 9 2 := ⟨RX9, TX9, 14, tyX9, rfl, by decide, Or.inl gw_443, inG_X9, tyX9_ok, nmX9⟩
theorem fl_X9_29 : FL RX9 29 9 3 := ⟨RX9, TX9, 14, tyX9, rfl, by decide, Or.inl gw_444, inG_X9, tyX9_ok, nmX9⟩
theorem fl_X9_36 : FL RX9 36 9 4 := ⟨RX9, TX9, 14, tyX9, rfl, by decide, Or.inl gw_445, inG_X9, tyX9_ok, nmX9⟩
theorem fl_X9_43 : FL RX9 43 9 5 := ⟨RX9, TX9, 14, tyX9, rfl, by decide, Or.inl gw_446, inG_X9, tyX9_ok, nmX9⟩
theorem fl_X9_47 : FL RX9 47 9 6 := ⟨RX9, TX9, 14, tyX9, rfl, by decide, Or.inl gw_447, inG_X9, tyX9_ok, nmX9⟩
theorem fl_X9_53 : FL RX9 53 9 7 := ⟨RX9, TX9, 14, tyX9, rfl, by decide, Or.inl gw_448, inG_X9, tyX9_ok, nmX9⟩
theorem fl_X9_58 : FL RX9 58 9 8 := ⟨RX9, TX9, 14, tyX9, rfl, by decide, Or.inl gw_449, inG_X9, tyX9_ok, nmX9⟩
theorem fl_X9_65 : FL RX9 65 9 9 := ⟨RX9, TX9, 14, tyX9, rfl, by decide, Or.inl gw_450, inG_X9, tyX9_ok, nmX9⟩
theorem fl_X9_72 : FL RX9 72 9 10 := ⟨RX9, TX9, 14, tyX9, rfl, by decide, Or.inl gw_451, inG_X9, tyX9_ok, nmX9⟩
theorem fl_X9_76 : FL RX9 76 9 11 := ⟨RX9, TX9, 14, tyX9, rfl, by decide, Or.inl gw_452, inG_X9, tyX9_ok, nmX9⟩
theorem fl_X9_80 : FL RX9 80 9 12 := ⟨RX9, TX9, 14, tyX9, rfl, by decide, Or.inl gw_453, inG_X9, tyX9_ok, nmX9⟩
theorem fl_X9_83 : FL RX9 83 9 13 := ⟨RX9, TX9, 14, tyX9, rfl, by decide, Or.inl gw_454, inG_X9, tyX9_ok, nmX9⟩
theorem fl_X9_86 : FL RX9 86 5 1 := ⟨RX5, TX5, 6, tyX5, rfl, by decide, Or.inr ⟨_, gw_237⟩, inG_X5, tyX5_ok, nmX5⟩
theorem fl_X9_96 : FL RX9 96 5 3 := ⟨RX5, TX5, 6, tyX5, rfl, by decide, Or.inr ⟨_, gw_240⟩, inG_X5, tyX5_ok, nmX5⟩
theorem fl_X9_102 : FL RX9 102 5 5 := ⟨RX5, TX5, 6, tyX5, rfl, by decide, Or.inr ⟨_, gw_243⟩, inG_X5, tyX5_ok, nmX5⟩
theorem fl_X9_113 : FL RX9 113 2 3 := ⟨RX2, TX2, 9, tyX2, rfl, by decide, Or.inr ⟨_, gw_195⟩, inG_X2, tyX2_ok, nmX2⟩
theorem fl_X9_126 : FL RX9 126 2 2 := ⟨RX2, TX2, 9, tyX2, rfl, by decide, Or.inr ⟨_, gw_191⟩, inG_X2, tyX2_ok, nmX2⟩
theorem fl_X9_136 : FL RX9 136 2 4 := ⟨RX2, TX2, 9, tyX2, rfl, by decide, Or.inr ⟨_, gw_200⟩, inG_X2, tyX2_ok, nmX2⟩
theorem fl_X9_139 : FL RX9 139 2 5 := ⟨RX2, TX2, 9, tyX2, rfl, by decide, Or.inr ⟨_, gw_205⟩, inG_X2, tyX2_ok, nmX2⟩
theorem fl_X9_145 : FL RX9 145 2 7 := ⟨RX2, TX2, 9, tyX2, rfl, by decide, Or.inr ⟨_, gw_211⟩, inG_X2, tyX2_ok, nmX2⟩
theorem fl_X9_148 : FL RX9 148 2 6 := ⟨RX2, TX2, 9, tyX2, rfl, by decide, Or.inr ⟨_, gw_208⟩, inG_X2, tyX2_ok, nmX2⟩
theorem fl_X9_173 : FL RX9 173 0 3 := ⟨RX0, TX0, 4, tyX0, rfl, by decide, Or.inr ⟨_, gw_269⟩, inG_X0, tyX0_ok, nmX0⟩
theorem fl_X9_187 : FL RX9 187 8 1 := ⟨RX8, TX8, 7, tyX8, rfl, by decide, Or.inr ⟨_, gw_308⟩, inG_X8, tyX8_ok, nmX8⟩
theorem fl_X9_207 : FL RX9 207 8 3 := ⟨RX8, TX8, 7, tyX8, rfl, by decide, Or.inr ⟨_, gw_316⟩, inG_X8, tyX8_ok, nmX8⟩
theorem fl_X9_210 : FL RX9 210 8 4 := ⟨RX8, TX8, 7, tyX8, rfl, by decide, Or.inr ⟨_, gw_319⟩, inG_X8, tyX8_ok, nmX8⟩
theorem fl_X9_213 : FL RX9 213 8 5 := ⟨RX8, TX8, 7, tyX8, rfl, by decide, Or.inr ⟨_, gw_322⟩, inG_X8, tyX8_ok, nmX8⟩
theorem fl_X9_216 : FL RX9 216 8 6 := ⟨RX8, TX8, 7, tyX8, rfl, by decide, Or.inr ⟨_, gw_325⟩, inG_X8, tyX8_ok, nmX8⟩
theorem fl_X9_234 : FL RX9 234 6 4 := ⟨RX6, TX6, 10, tyX6, rfl, by decide, Or.inr ⟨_, gw_359⟩, inG_X6, tyX6_ok, nmX6⟩
theorem fl_X9_243 : FL RX9 243 6 8 := ⟨RX6, TX6, 10, tyX6, rfl, by decide, Or.inr ⟨_, gw_367⟩, inG_X6, tyX6_ok, nmX6⟩
theorem fl_X9_246 : FL RX9 246 6 2 := ⟨RX6, TX6, 10, tyX6, rfl, by decide, Or.inr ⟨_, gw_356⟩, inG_X6, tyX6_ok, nmX6⟩
theorem fl_X9_252 : FL RX9 252 6 9 := ⟨RX6, TX6, 10, tyX6, rfl, by decide, Or.inr ⟨_, gw_369⟩, inG_X6, tyX6_ok, nmX6⟩
theorem fl_X9_256 : FL RX9 256 6 5 := ⟨RX6, TX6, 10, tyX6, rfl, by decide, Or.inr ⟨_, gw_361⟩, inG_X6, tyX6_ok, nmX6⟩
theorem fl_X9_259 : FL RX9 259 6 6 := ⟨RX6, TX6, 10, tyX6, rfl, by decide, Or.inr ⟨_, gw_363⟩, inG_X6, tyX6_ok, nmX6⟩
theorem fl_X9_265 : FL RX9 265 6 7 := ⟨RX6, TX6, 10, tyX6, rfl, by decide, Or.inr ⟨_, gw_365⟩, inG_X6, tyX6_ok, nmX6⟩
theorem fl_X9_268 : FL RX9 268 6 0 := ⟨RX6, TX6, 10, tyX6, rfl, by decide, Or.inr ⟨_, gw_353⟩, inG_X6, tyX6_ok, nmX6⟩
theorem fl_X9_272 : FL RX9 272 1 1 := ⟨RX1, TX1, 12, tyX1, rfl, by decide, Or.inr ⟨_, gw_1126⟩, inG_X1, tyX1_ok, nmX1⟩
theorem fl_X9_278 : FL RX9 278 1 0 := ⟨RX1, TX1, 12, tyX1, rfl, by decide, Or.inr ⟨_, gw_1123⟩, inG_X1, tyX1_ok, nmX1⟩
theorem fl_X9_281 : FL RX9 281 1 8 := ⟨RX1, TX1, 12, tyX1, rfl, by decide, Or.inr ⟨_, gw_1142⟩, inG_X1, tyX1_ok, nmX1⟩
theorem fl_X9_284 : FL RX9 284 1 9 := ⟨RX1, TX1, 12, tyX1, rfl, by decide, Or.inr ⟨_, gw_1145⟩, inG_X1, tyX1_ok, nmX1⟩
theorem fl_X9_287 : FL RX9 287 1 2 := ⟨RX1, TX1, 12, tyX1, rfl, by decide, Or.inr ⟨_, gw_1129⟩, inG_X1, tyX1_ok, nmX1⟩
theorem fl_X9_290 : FL RX9 290 1 10 := ⟨RX1, TX1, 12, tyX1, rfl, by decide, Or.inr ⟨_, gw_1148⟩, inG_X1, tyX1_ok, nmX1⟩
theorem fl_X9_293 : FL RX9 293 1 11 := ⟨RX1, TX1, 12, tyX1, rfl, by decide, Or.inr ⟨_, gw_1151⟩, inG_X1, tyX1_ok, nmX1⟩
theorem fl_X9_310 : FL RX9 310 8 2 := ⟨RX8, TX8, 7, tyX8, rfl, by decide, Or.inr ⟨_, gw_313⟩, inG_X8, tyX8_ok, nmX8⟩
theorem fl_X9_362 : FL RX9 362 7 2 := ⟨RX7, TX7, 7, tyX7, rfl, by decide, Or.inr ⟨_, gw_404⟩, inG_X7, tyX7_ok, nmX7⟩
theorem fl_X9_363 : FL RX9 363 7 3 := ⟨RX7, TX7, 7, tyX7, rfl, by decide, Or.inr ⟨_, gw_406⟩, inG_X7, tyX7_ok, nmX7⟩
theorem fl_X9_370 : FL RX9 370 7 0 := ⟨RX7, TX7, 7, tyX7, rfl, by decide, Or.inr ⟨_, gw_400⟩, inG_X7, tyX7_ok, nmX7⟩
theorem fl_X9_377 : FL RX9 377 7 4 := ⟨RX7, TX7, 7, tyX7, rfl, by decide, Or.inr ⟨_, gw_408⟩, inG_X7, tyX7_ok, nmX7⟩
theorem fl_X9_383 : FL RX9 383 7 6 := ⟨RX7, TX7, 7, tyX7, rfl, by decide, Or.inr ⟨_, gw_412⟩, inG_X7, tyX7_ok, nmX7⟩
theorem fl_X9_386 : FL RX9 386 7 5 := ⟨RX7, TX7, 7, tyX7, rfl, by decide, Or.inr ⟨_, gw_410⟩, inG_X7, tyX7_ok, nmX7⟩
theorem fl_X9_389 : FL RX9 389 7 1 := ⟨RX7, TX7, 7, tyX7, rfl, by decide, Or.inr ⟨_, gw_402⟩, inG_X7, tyX7_ok, nmX7⟩
theorem fl_X9_392 : FL RX9 392 2 1 := ⟨RX2, TX2, 9, tyX2, rfl, by decide, Or.inr ⟨_, gw_187⟩, inG_X2, tyX2_ok, nmX2⟩
theorem fl_X9_395 : FL RX9 395 2 0 := ⟨RX2, TX2, 9, tyX2, rfl, by decide, Or.inr ⟨_, gw_184⟩, inG_X2, tyX2_ok, nmX2⟩
theorem fl_X10_7 : FL RX10 7 10 1 := ⟨RX10, TX10, 56, tyX10, rfl, by decide, Or.inl gw_1485, inG_X10, tyX10_ok, nmX10⟩
theorem fl_X10_13 : FL RX10 13 10 5 := ⟨RX10, TX10, 56, tyX10, rfl, by decide, Or.inl gw_1489, inG_X10, tyX10_ok, nmX10⟩
theorem fl_X10_17 : FL RX10 17 10 9 := ⟨RX10, TX10, 56, tyX10, rfl, by decide, Or.inl gw_1493, inG_X10, tyX10_ok, nmX10⟩
theorem fl_X10_20 : FL RX10 20 10 10 := ⟨RX10, TX10, 56, tyX10, rfl, by decide, Or.inl gw_1494, inG_X10, tyX10_ok, nmX10⟩
theorem fl_X10_24 : FL RX10 24 10 11 := ⟨RX10, TX10, 56, tyX10, rfl, by decide, Or.inl gw_1495, inG_X10, tyX10_ok, nmX10⟩
theorem fl_X10_27 : FL RX10 27 10 12 := ⟨RX10, TX10, 56, tyX10, rfl, by decide, Or.inl gw_1496, inG_X10, tyX10_ok, nmX10⟩
theorem fl_X10_30 : FL RX10 30 10 16 := ⟨RX10, TX10, 56, tyX10, rfl, by decide, Or.inl gw_1500, inG_X10, tyX10_ok, nmX10⟩
theorem fl_X10_33 : FL RX10 33 10 17 := ⟨RX10, TX10, 56, tyX10, rfl, by decide, Or.inl gw_1501, inG_X10, tyX10_ok, nmX10⟩
theorem fl_X10_36 : FL RX10 36 10 18 := ⟨RX10, TX10, 56, tyX10, rfl, by decide, Or.inl gw_1502, inG_X10, tyX10_ok, nmX10⟩
theorem fl_X10_39 : FL RX10 39 10 19 := ⟨RX10, TX10, 56, tyX10, rfl, by decide, Or.inl gw_1503, inG_X10, tyX10_ok, nmX10⟩
theorem fl_X10_42 : FL RX10 42 10 21 := ⟨RX10, TX10, 56, tyX10, rfl, by decide, Or.inl gw_1505, inG_X10, tyX10_ok, nmX10⟩
theorem fl_X10_45 : FL RX10 45 10 22 := ⟨RX10, TX10, 56, tyX10, rfl, by decide, Or.inl gw_1506, inG_X10, tyX10_ok, nmX10⟩
theorem fl_X10_49 : FL RX10 49 10 23 := ⟨RX10, TX10, 56, tyX10, rfl, by decide, Or.inl gw_1507, inG_X10, tyX10_ok, nmX10⟩
theorem fl_X10_52 : FL RX10 52 10 24 := ⟨RX10, TX10, 56, tyX10, rfl, by decide, Or.inl gw_1508, inG_X10, tyX10_ok, nmX10⟩
theorem fl_X10_55 : FL RX10 55 10 25 := ⟨RX10, TX10, 56, tyX10, rfl, by decide, Or.inl gw_1509, inG_X10, tyX10_ok, nmX10⟩
theorem fl_X10_58 : FL RX10 58 10 26 := ⟨RX10, TX10, 56, tyX10, rfl, by decide, Or.inl gw_1510, inG_X10, tyX10_ok, nmX10⟩
theorem fl_X10_62 : FL RX10 62 10 27 := ⟨RX10, TX10, 56, tyX10, rfl, by decide, Or.inl gw_1511, inG_X10, tyX10_ok, nmX10⟩
theorem fl_X10_65 : FL RX10 65 10 32 := ⟨RX10, TX10, 56, tyX10, rfl, by decide, Or.inl gw_1516, inG_X10, tyX10_ok, nmX10⟩
theorem fl_X10_68 : FL RX10 68 10 33 := ⟨RX10, TX10, 56, tyX10, rfl, by decide, Or.inl gw_1517, inG_X10, tyX10_ok, nmX10⟩
theorem fl_X10_71 : FL RX10 71 10 39 := ⟨RX10, TX10, 56, tyX10, rfl, by decide, Or.inl gw_1523, inG_X10, tyX10_ok, nmX10⟩
theorem fl_X10_74 : FL RX10 74 10 40 := ⟨RX10, TX10, 56, tyX10, rfl, by decide, Or.inl gw_1524, inG_X10, tyX10_ok, nmX10⟩
theorem fl_X10_77 : FL RX10 77 10 41 := ⟨RX10, TX10, 56, tyX10, rfl, by decide, Or.inl gw_1525, inG_X10, tyX10_ok, nmX10⟩
theorem fl_X10_80 : FL RX10 80 10 42 := ⟨RX10, TX10, 56, tyX10, rfl, by decide, Or.inl gw_1526, inG_X10, tyX10_ok, nmX10⟩
theorem fl_X10_83 : FL RX10 83 10 43 := ⟨RX10, TX10, 56, tyX10, rfl, by decide, Or.inl gw_1527, inG_X10, tyX10_ok, nmX10⟩
theorem fl_X10_86 : FL RX10 86 10 44 := ⟨RX10, TX10, 56, tyX10, rfl, by decide, Or.inl gw_1528, inG_X10, tyX10_ok, nmX10⟩
theorem fl_X10_89 : FL RX10 89 10 45 := ⟨RX10, TX10, 56, tyX10, rfl, by decide, Or.inl gw_1529, inG_X10, tyX10_ok, nmX10⟩
theorem fl_X10_92 : FL RX10 92 10 46 := ⟨RX10, TX10, 56, tyX10, rfl, by decide, Or.inl gw_1530, inG_X10, tyX10_ok, nmX10⟩
theorem fl_X10_95 : FL RX10 95 10 47 := ⟨RX10, TX10, 56, tyX10, rfl, by decide, Or.inl gw_1531, inG_X10, tyX10_ok, nmX10⟩
theorem fl_X10_98 : FL RX10 98 10 48 := ⟨RX10, TX10, 56, tyX10, rfl, by decide, Or.inl gw_1532, inG_X10, tyX10_ok, nmX10⟩
theorem fl_X10_101 : FL RX10 101 10 49 := ⟨RX10, TX10, 56, tyX10, rfl, by decide, Or.inl gw_1533, inG_X10, tyX10_ok, nmX10⟩
theorem fl_X10_104 : FL RX10 104 10 50 := ⟨RX10, TX10, 56, tyX10, rfl, by decide, Or.inl gw_1534, inG_X10, tyX10_ok, nmX10⟩
theorem fl_X10_107 : FL RX10 107 10 51 := ⟨RX10, TX10, 56, tyX10, rfl, by decide, Or.inl gw_1535, inG_X10, tyX10_ok, nmX10⟩
theorem fl_X10_110 : FL RX10 110 10 52 := ⟨RX10, TX10, 56, tyX10, rfl, by decide, Or.inl gw_1536, inG_X10, tyX10_ok, nmX10⟩
theorem fl_X10_113 : FL RX10 113 10 53 := ⟨RX10, TX10, 56, tyX10, rfl, by decide, Or.inl gw_1537, inG_X10, tyX10_ok, nmX10⟩
theorem fl_X10_116 : FL RX10 116 10 54 := ⟨RX10, TX10, 56, tyX10, rfl, by decide, Or.inl gw_1538, inG_X10, tyX10_ok, nmX10⟩
theorem fl_X10_119 : FL RX10 119 10 2 := ⟨RX10, TX10, 56, tyX10, rfl, by decide, Or.inl gw_1486, inG_X10, tyX10_ok, nmX10⟩
theorem fl_X10_122 : FL RX10 122 10 0 := ⟨RX10, TX10, 56, tyX10, rfl, by decide, Or.inl gw_1484, inG_X10, tyX10_ok, nmX10⟩
theorem fl_X10_125 : FL RX10 125 10 4 := ⟨RX10, TX10, 56, tyX10, rfl, by decide, Or.inl gw_1488, inG_X10, tyX10_ok, nmX10⟩
theorem fl_X10_128 : FL RX10 128 10 3 := ⟨RX10, TX10, 56, tyX10, rfl, by decide, Or.inl gw_1487, inG_X10, tyX10_ok, nmX10⟩
theorem fl_X10_173 : FL RX10 173 10 7 := ⟨RX10, TX10, 56, tyX10, rfl, by decide, Or.inl gw_1491, inG_X10, tyX10_ok, nmX10⟩
theorem fl_X10_176 : FL RX10 176 10 8 := ⟨RX10, TX10, 56, tyX10, rfl, by decide, Or.inl gw_1492, inG_X10, tyX10_ok, nmX10⟩
theorem fl_X10_183 : FL RX10 183 10 6 := ⟨RX10, TX10, 56, tyX10, rfl, by decide, Or.inl gw_1490, inG_X10, tyX10_ok, nmX10⟩
theorem fl_X10_214 : FL RX10 214 10 13 := ⟨RX10, TX10, 56, tyX10, rfl, by decide, Or.inl gw_1497, inG_X10, tyX10_ok, nmX10⟩
theorem fl_X10_217 : FL RX10 217 10 14 := ⟨RX10, TX10, 56, tyX10, rfl, by decide, Or.inl gw_1498, inG_X10, tyX10_ok, nmX10⟩
theorem fl_X10_220 : FL RX10 220 10 15 := ⟨RX10, TX10, 56, tyX10, rfl, by decide, Or.inl gw_1499, inG_X10, tyX10_ok, nmX10⟩
theorem fl_X10_223 : FL RX10 223 10 20 := ⟨RX10, TX10, 56, tyX10, rfl, by decide, Or.inl gw_1504, inG_X10, tyX10_ok, nmX10⟩
theorem fl_X10_271 : FL RX10 271 10 28 := ⟨RX10, TX10, 56, tyX10, rfl, by decide, Or.inl gw_1512, inG_X10, tyX10_ok, nmX10⟩
theorem fl_X10_274 : FL RX10 274 10 29 := ⟨RX10, TX10, 56, tyX10, rfl, by decide, Or.inl gw_1513, inG_X10, tyX10_ok, nmX10⟩
theorem fl_X10_277 : FL RX10 277 10 30 := ⟨RX10, TX10, 56, tyX10, rfl, by decide, Or.inl gw_1514, inG_X10, tyX10_ok, nmX10⟩
theorem fl_X10_280 : FL RX10 280 10 31 := ⟨RX10, TX10, 56, tyX10, rfl, by decide, Or.inl gw_1515, inG_X10, tyX10_ok, nmX10⟩
theorem fl_X10_302 : FL RX10 302 10 34 := ⟨RX10, TX10, 56, tyX10, rfl, by decide, Or.inl gw_1518, inG_X10, tyX10_ok, nmX10⟩
theorem fl_X10_311 : FL RX10 311 10 36 := ⟨RX10, TX10, 56, tyX10, rfl, by decide, Or.inl gw_1520, inG_X10, tyX10_ok, nmX10⟩
theorem fl_X10_314 : FL RX10 314 10 35 := ⟨RX10, TX10, 56, tyX10, rfl, by decide, Or.inl gw_1519, inG_X10, tyX10_ok, nmX10⟩
theorem fl_X10_317 : FL RX10 317 10 37 := ⟨RX10, TX10, 56, tyX10, rfl, by decide, Or.inl gw_1521, inG_X10, tyX10_ok, nmX10⟩
theorem fl_X10_320 : FL RX10 320 10 38 := ⟨RX10, TX10, 56, tyX10, rfl, by decide, Or.inl gw_1522, inG_X10, tyX10_ok, nmX10⟩
theorem fl_X10_384 : FL RX10 384 10 55 := ⟨RX10, TX10, 56, tyX10, rfl, by decide, Or.inl gw_1539, inG_X10, tyX10_ok, nmX10⟩
theorem fp_X0_9 : FP RX0 9 0 0 (.array .int) true := ⟨fl_X0_9, RX0, TX0, 4, rfl, rfl, rfl, rfl⟩
theorem fp_X0_15 : FP RX0 15 0 1 (.array .int) true := ⟨fl_X0_15, RX0, TX0, 4, rfl, rfl, rfl, rfl⟩
theorem fp_X0_18 : FP RX0 18 0 2 (.array .int) true := ⟨fl_X0_18, RX0, TX0, 4, rfl, rfl, rfl, rfl⟩
theorem fp_X0_21 : FP RX0 21 0 3 (.int) false := ⟨fl_X0_21, RX0, TX0, 4, rfl, rfl, rfl, rfl⟩
theorem fp_X1_9 : FP RX1 9 1 1 (.object "CartPaths$Node") false := ⟨fl_X1_9, RX1, TX1, 12, rfl, rfl, rfl, rfl⟩
theorem fp_X1_15 : FP RX1 15 1 2 (.int) false := ⟨fl_X1_15, RX1, TX1, 12, rfl, rfl, rfl, rfl⟩
theorem fp_X1_19 : FP RX1 19 1 3 (.int) false := ⟨fl_X1_19, RX1, TX1, 12, rfl, rfl, rfl, rfl⟩
theorem fp_X1_22 : FP RX1 22 1 4 (.int) false := ⟨fl_X1_22, RX1, TX1, 12, rfl, rfl, rfl, rfl⟩
theorem fp_X1_25 : FP RX1 25 1 5 (.int) false := ⟨fl_X1_25, RX1, TX1, 12, rfl, rfl, rfl, rfl⟩
theorem fp_X1_28 : FP RX1 28 1 6 (.array .int) true := ⟨fl_X1_28, RX1, TX1, 12, rfl, rfl, rfl, rfl⟩
theorem fp_X1_32 : FP RX1 32 1 7 (.int) false := ⟨fl_X1_32, RX1, TX1, 12, rfl, rfl, rfl, rfl⟩
theorem fp_X1_35 : FP RX1 35 1 8 (.int) false := ⟨fl_X1_35, RX1, TX1, 12, rfl, rfl, rfl, rfl⟩
theorem fp_X1_38 : FP RX1 38 1 9 (.int) false := ⟨fl_X1_38, RX1, TX1, 12, rfl, rfl, rfl, rfl⟩
theorem fp_X1_41 : FP RX1 41 1 10 (.int) false := ⟨fl_X1_41, RX1, TX1, 12, rfl, rfl, rfl, rfl⟩
theorem fp_X1_44 : FP RX1 44 1 11 (.boolean) false := ⟨fl_X1_44, RX1, TX1, 12, rfl, rfl, rfl, rfl⟩
theorem fp_X1_48 : FP RX1 48 1 0 (.int) true := ⟨fl_X1_48, RX1, TX1, 12, rfl, rfl, rfl, rfl⟩
theorem fp_X2_9 : FP RX2 9 2 0 (.int) false := ⟨fl_X2_9, RX2, TX2, 9, rfl, rfl, rfl, rfl⟩
theorem fp_X2_15 : FP RX2 15 2 1 (.int) false := ⟨fl_X2_15, RX2, TX2, 9, rfl, rfl, rfl, rfl⟩
theorem fp_X2_18 : FP RX2 18 2 2 (.array .int) true := ⟨fl_X2_18, RX2, TX2, 9, rfl, rfl, rfl, rfl⟩
theorem fp_X2_22 : FP RX2 22 2 3 (.int) false := ⟨fl_X2_22, RX2, TX2, 9, rfl, rfl, rfl, rfl⟩
theorem fp_X2_25 : FP RX2 25 2 4 (.array .int) true := ⟨fl_X2_25, RX2, TX2, 9, rfl, rfl, rfl, rfl⟩
theorem fp_X2_28 : FP RX2 28 2 5 (.array .int) true := ⟨fl_X2_28, RX2, TX2, 9, rfl, rfl, rfl, rfl⟩
theorem fp_X2_31 : FP RX2 31 2 6 (.array .int) true := ⟨fl_X2_31, RX2, TX2, 9, rfl, rfl, rfl, rfl⟩
theorem fp_X2_34 : FP RX2 34 2 7 (.array .int) true := ⟨fl_X2_34, RX2, TX2, 9, rfl, rfl, rfl, rfl⟩
theorem fp_X2_37 : FP RX2 37 2 8 (.array .long) true := ⟨fl_X2_37, RX2, TX2, 9, rfl, rfl, rfl, rfl⟩
theorem fp_X3_9 : FP RX3 9 3 0 (.array .long) true := ⟨fl_X3_9, RX3, TX3, 3, rfl, rfl, rfl, rfl⟩
theorem fp_X3_15 : FP RX3 15 3 1 (.array .long) true := ⟨fl_X3_15, RX3, TX3, 3, rfl, rfl, rfl, rfl⟩
theorem fp_X3_18 : FP RX3 18 3 2 (.array .long) true := ⟨fl_X3_18, RX3, TX3, 3, rfl, rfl, rfl, rfl⟩
theorem fp_X4_9 : FP RX4 9 4 0 (.array .int) true := ⟨fl_X4_9, RX4, TX4, 2, rfl, rfl, rfl, rfl⟩
theorem fp_X4_15 : FP RX4 15 4 1 (.array .int) true := ⟨fl_X4_15, RX4, TX4, 2, rfl, rfl, rfl, rfl⟩
theorem fp_X5_9 : FP RX5 9 5 0 (.array .int) true := ⟨fl_X5_9, RX5, TX5, 6, rfl, rfl, rfl, rfl⟩
theorem fp_X5_15 : FP RX5 15 5 1 (.int) false := ⟨fl_X5_15, RX5, TX5, 6, rfl, rfl, rfl, rfl⟩
theorem fp_X5_19 : FP RX5 19 5 2 (.int) false := ⟨fl_X5_19, RX5, TX5, 6, rfl, rfl, rfl, rfl⟩
theorem fp_X5_22 : FP RX5 22 5 3 (.int) false := ⟨fl_X5_22, RX5, TX5, 6, rfl, rfl, rfl, rfl⟩
theorem fp_X5_25 : FP RX5 25 5 4 (.int) false := ⟨fl_X5_25, RX5, TX5, 6, rfl, rfl, rfl, rfl⟩
theorem fp_X5_31 : FP RX5 31 5 5 (.object "CartPaths$Scene") true := ⟨fl_X5_31, RX5, TX5, 6, rfl, rfl, rfl, rfl⟩
theorem fp_X5_90 : FP RX5 90 2 0 (.int) false := ⟨fl_X5_90, RX2, TX2, 9, rfl, rfl, rfl, rfl⟩
theorem fp_X5_42 : FP RX5 42 2 1 (.int) false := ⟨fl_X5_42, RX2, TX2, 9, rfl, rfl, rfl, rfl⟩
theorem fp_X5_57 : FP RX5 57 2 3 (.int) false := ⟨fl_X5_57, RX2, TX2, 9, rfl, rfl, rfl, rfl⟩
theorem fp_X6_11 : FP RX6 11 6 0 (.array (.object "CartPaths$Node")) true := ⟨fl_X6_11, RX6, TX6, 10, rfl, rfl, rfl, rfl⟩
theorem fp_X6_20 : FP RX6 20 6 1 (.object "CartPaths$Ways") true := ⟨fl_X6_20, RX6, TX6, 10, rfl, rfl, rfl, rfl⟩
theorem fp_X6_24 : FP RX6 24 6 2 (.object "CartPaths$Ways") true := ⟨fl_X6_24, RX6, TX6, 10, rfl, rfl, rfl, rfl⟩
theorem fp_X6_27 : FP RX6 27 6 3 (.array .int) true := ⟨fl_X6_27, RX6, TX6, 10, rfl, rfl, rfl, rfl⟩
theorem fp_X6_31 : FP RX6 31 6 4 (.int) false := ⟨fl_X6_31, RX6, TX6, 10, rfl, rfl, rfl, rfl⟩
theorem fp_X6_35 : FP RX6 35 6 5 (.int) false := ⟨fl_X6_35, RX6, TX6, 10, rfl, rfl, rfl, rfl⟩
theorem fp_X6_38 : FP RX6 38 6 6 (.int) false := ⟨fl_X6_38, RX6, TX6, 10, rfl, rfl, rfl, rfl⟩
theorem fp_X6_41 : FP RX6 41 6 7 (.int) false := ⟨fl_X6_41, RX6, TX6, 10, rfl, rfl, rfl, rfl⟩
theorem fp_X6_44 : FP RX6 44 6 8 (.int) false := ⟨fl_X6_44, RX6, TX6, 10, rfl, rfl, rfl, rfl⟩
theorem fp_X6_47 : FP RX6 47 6 9 (.boolean) false := ⟨fl_X6_47, RX6, TX6, 10, rfl, rfl, rfl, rfl⟩
theorem fp_X6_70 : FP RX6 70 1 11 (.boolean) false := ⟨fl_X6_70, RX1, TX1, 12, rfl, rfl, rfl, rfl⟩
theorem fp_X6_94 : FP RX6 94 1 8 (.int) false := ⟨fl_X6_94, RX1, TX1, 12, rfl, rfl, rfl, rfl⟩
theorem fp_X6_100 : FP RX6 100 1 9 (.int) false := ⟨fl_X6_100, RX1, TX1, 12, rfl, rfl, rfl, rfl⟩
theorem fp_X6_116 : FP RX6 116 8 2 (.int) false := ⟨fl_X6_116, RX8, TX8, 7, rfl, rfl, rfl, rfl⟩
theorem fp_X6_119 : FP RX6 119 1 1 (.object "CartPaths$Node") false := ⟨fl_X6_119, RX1, TX1, 12, rfl, rfl, rfl, rfl⟩
theorem fp_X6_123 : FP RX6 123 1 2 (.int) false := ⟨fl_X6_123, RX1, TX1, 12, rfl, rfl, rfl, rfl⟩
theorem fp_X6_145 : FP RX6 145 1 3 (.int) false := ⟨fl_X6_145, RX1, TX1, 12, rfl, rfl, rfl, rfl⟩
theorem fp_X6_152 : FP RX6 152 1 5 (.int) false := ⟨fl_X6_152, RX1, TX1, 12, rfl, rfl, rfl, rfl⟩
theorem fp_X6_158 : FP RX6 158 1 4 (.int) false := ⟨fl_X6_158, RX1, TX1, 12, rfl, rfl, rfl, rfl⟩
theorem fp_X6_129 : FP RX6 129 1 7 (.int) false := ⟨fl_X6_129, RX1, TX1, 12, rfl, rfl, rfl, rfl⟩
theorem fp_X6_175 : FP RX6 175 1 10 (.int) false := ⟨fl_X6_175, RX1, TX1, 12, rfl, rfl, rfl, rfl⟩
theorem fp_X7_12 : FP RX7 12 7 0 (.object "CartPaths$Ways") true := ⟨fl_X7_12, RX7, TX7, 7, rfl, rfl, rfl, rfl⟩
theorem fp_X7_18 : FP RX7 18 7 1 (.array .int) true := ⟨fl_X7_18, RX7, TX7, 7, rfl, rfl, rfl, rfl⟩
theorem fp_X7_22 : FP RX7 22 7 2 (.int) false := ⟨fl_X7_22, RX7, TX7, 7, rfl, rfl, rfl, rfl⟩
theorem fp_X7_26 : FP RX7 26 7 3 (.int) false := ⟨fl_X7_26, RX7, TX7, 7, rfl, rfl, rfl, rfl⟩
theorem fp_X7_29 : FP RX7 29 7 4 (.int) false := ⟨fl_X7_29, RX7, TX7, 7, rfl, rfl, rfl, rfl⟩
theorem fp_X7_32 : FP RX7 32 7 5 (.int) false := ⟨fl_X7_32, RX7, TX7, 7, rfl, rfl, rfl, rfl⟩
theorem fp_X7_35 : FP RX7 35 7 6 (.int) false := ⟨fl_X7_35, RX7, TX7, 7, rfl, rfl, rfl, rfl⟩
theorem fp_X7_50 : FP RX7 50 8 2 (.int) false := ⟨fl_X7_50, RX8, TX8, 7, rfl, rfl, rfl, rfl⟩
theorem fp_X8_9 : FP RX8 9 8 0 (.array .int) true := ⟨fl_X8_9, RX8, TX8, 7, rfl, rfl, rfl, rfl⟩
theorem fp_X8_15 : FP RX8 15 8 1 (.array .int) true := ⟨fl_X8_15, RX8, TX8, 7, rfl, rfl, rfl, rfl⟩
theorem fp_X8_18 : FP RX8 18 8 2 (.int) false := ⟨fl_X8_18, RX8, TX8, 7, rfl, rfl, rfl, rfl⟩
theorem fp_X8_22 : FP RX8 22 8 3 (.int) false := ⟨fl_X8_22, RX8, TX8, 7, rfl, rfl, rfl, rfl⟩
theorem fp_X8_25 : FP RX8 25 8 4 (.int) false := ⟨fl_X8_25, RX8, TX8, 7, rfl, rfl, rfl, rfl⟩
theorem fp_X8_28 : FP RX8 28 8 5 (.int) false := ⟨fl_X8_28, RX8, TX8, 7, rfl, rfl, rfl, rfl⟩
theorem fp_X8_31 : FP RX8 31 8 6 (.int) false := ⟨fl_X8_31, RX8, TX8, 7, rfl, rfl, rfl, rfl⟩
theorem fp_X9_10 : FP RX9 10 9 0 (.object "CartPaths$TextReader") true := ⟨fl_X9_10, RX9, TX9, 14, rfl, rfl, rfl, rfl⟩
theorem fp_X9_19 : FP RX9 19 9 1 (.object "CartPaths$Scene") true := ⟨fl_X9_19, RX9, TX9, 14, rfl, rfl, rfl, rfl⟩
theorem fp_X9_23 : FP RX9 23 9 2 (.object "CartPaths$Scene") true := ⟨fl_X9_23, RX9, TX9, 14, rfl, rfl, rfl, rfl⟩
theorem fp_X9_29 : FP RX9 29 9 3 (.object "CartPaths$Acts") true := ⟨fl_X9_29, RX9, TX9, 14, rfl, rfl, rfl, rfl⟩
theorem fp_X9_36 : FP RX9 36 9 4 (.object "CartPaths$Search") true := ⟨fl_X9_36, RX9, TX9, 14, rfl, rfl, rfl, rfl⟩
theorem fp_X9_43 : FP RX9 43 9 5 (.object "CartPaths$Ways") true := ⟨fl_X9_43, RX9, TX9, 14, rfl, rfl, rfl, rfl⟩
theorem fp_X9_47 : FP RX9 47 9 6 (.int) false := ⟨fl_X9_47, RX9, TX9, 14, rfl, rfl, rfl, rfl⟩
theorem fp_X9_53 : FP RX9 53 9 7 (.array (.object "CartPaths$Tree")) true := ⟨fl_X9_53, RX9, TX9, 14, rfl, rfl, rfl, rfl⟩
theorem fp_X9_58 : FP RX9 58 9 8 (.object "CartPaths$Tree") true := ⟨fl_X9_58, RX9, TX9, 14, rfl, rfl, rfl, rfl⟩
theorem fp_X9_65 : FP RX9 65 9 9 (.object "CartPaths$Turns") true := ⟨fl_X9_65, RX9, TX9, 14, rfl, rfl, rfl, rfl⟩
theorem fp_X9_72 : FP RX9 72 9 10 (.object "CartPaths$Stop") true := ⟨fl_X9_72, RX9, TX9, 14, rfl, rfl, rfl, rfl⟩
theorem fp_X9_76 : FP RX9 76 9 11 (.array .int) true := ⟨fl_X9_76, RX9, TX9, 14, rfl, rfl, rfl, rfl⟩
theorem fp_X9_80 : FP RX9 80 9 12 (.int) false := ⟨fl_X9_80, RX9, TX9, 14, rfl, rfl, rfl, rfl⟩
theorem fp_X9_83 : FP RX9 83 9 13 (.int) false := ⟨fl_X9_83, RX9, TX9, 14, rfl, rfl, rfl, rfl⟩
theorem fp_X9_86 : FP RX9 86 5 1 (.int) false := ⟨fl_X9_86, RX5, TX5, 6, rfl, rfl, rfl, rfl⟩
theorem fp_X9_234 : FP RX9 234 6 4 (.int) false := ⟨fl_X9_234, RX6, TX6, 10, rfl, rfl, rfl, rfl⟩
theorem fp_X9_362 : FP RX9 362 7 2 (.int) false := ⟨fl_X9_362, RX7, TX7, 7, rfl, rfl, rfl, rfl⟩
theorem fp_X9_363 : FP RX9 363 7 3 (.int) false := ⟨fl_X9_363, RX7, TX7, 7, rfl, rfl, rfl, rfl⟩
theorem fp_X9_377 : FP RX9 377 7 4 (.int) false := ⟨fl_X9_377, RX7, TX7, 7, rfl, rfl, rfl, rfl⟩
theorem fp_X9_386 : FP RX9 386 7 5 (.int) false := ⟨fl_X9_386, RX7, TX7, 7, rfl, rfl, rfl, rfl⟩
theorem fp_X9_383 : FP RX9 383 7 6 (.int) false := ⟨fl_X9_383, RX7, TX7, 7, rfl, rfl, rfl, rfl⟩
theorem fp_X10_7 : FP RX10 7 10 1 (.array .int) true := ⟨fl_X10_7, RX10, TX10, 56, rfl, rfl, rfl, rfl⟩
theorem fp_X10_13 : FP RX10 13 10 5 (.int) false := ⟨fl_X10_13, RX10, TX10, 56, rfl, rfl, rfl, rfl⟩
theorem fp_X10_17 : FP RX10 17 10 9 (.array .int) true := ⟨fl_X10_17, RX10, TX10, 56, rfl, rfl, rfl, rfl⟩
theorem fp_X10_20 : FP RX10 20 10 10 (.array .long) true := ⟨fl_X10_20, RX10, TX10, 56, rfl, rfl, rfl, rfl⟩
theorem fp_X10_24 : FP RX10 24 10 11 (.array .int) true := ⟨fl_X10_24, RX10, TX10, 56, rfl, rfl, rfl, rfl⟩
theorem fp_X10_27 : FP RX10 27 10 12 (.array .int) true := ⟨fl_X10_27, RX10, TX10, 56, rfl, rfl, rfl, rfl⟩
theorem fp_X10_30 : FP RX10 30 10 16 (.array .int) true := ⟨fl_X10_30, RX10, TX10, 56, rfl, rfl, rfl, rfl⟩
theorem fp_X10_33 : FP RX10 33 10 17 (.array .long) true := ⟨fl_X10_33, RX10, TX10, 56, rfl, rfl, rfl, rfl⟩
theorem fp_X10_36 : FP RX10 36 10 18 (.array .int) true := ⟨fl_X10_36, RX10, TX10, 56, rfl, rfl, rfl, rfl⟩
theorem fp_X10_39 : FP RX10 39 10 19 (.array .int) true := ⟨fl_X10_39, RX10, TX10, 56, rfl, rfl, rfl, rfl⟩
theorem fp_X10_42 : FP RX10 42 10 21 (.array .int) true := ⟨fl_X10_42, RX10, TX10, 56, rfl, rfl, rfl, rfl⟩
theorem fp_X10_45 : FP RX10 45 10 22 (.array .boolean) true := ⟨fl_X10_45, RX10, TX10, 56, rfl, rfl, rfl, rfl⟩
theorem fp_X10_49 : FP RX10 49 10 23 (.array .boolean) true := ⟨fl_X10_49, RX10, TX10, 56, rfl, rfl, rfl, rfl⟩
theorem fp_X10_52 : FP RX10 52 10 24 (.array .boolean) true := ⟨fl_X10_52, RX10, TX10, 56, rfl, rfl, rfl, rfl⟩
theorem fp_X10_55 : FP RX10 55 10 25 (.array .boolean) true := ⟨fl_X10_55, RX10, TX10, 56, rfl, rfl, rfl, rfl⟩
theorem fp_X10_58 : FP RX10 58 10 26 (.array .int) true := ⟨fl_X10_58, RX10, TX10, 56, rfl, rfl, rfl, rfl⟩
theorem fp_X10_62 : FP RX10 62 10 27 (.array .int) true := ⟨fl_X10_62, RX10, TX10, 56, rfl, rfl, rfl, rfl⟩
theorem fp_X10_65 : FP RX10 65 10 32 (.array .int) true := ⟨fl_X10_65, RX10, TX10, 56, rfl, rfl, rfl, rfl⟩
theorem fp_X10_68 : FP RX10 68 10 33 (.int) false := ⟨fl_X10_68, RX10, TX10, 56, rfl, rfl, rfl, rfl⟩
theorem fp_X10_71 : FP RX10 71 10 39 (.array .int) true := ⟨fl_X10_71, RX10, TX10, 56, rfl, rfl, rfl, rfl⟩
theorem fp_X10_74 : FP RX10 74 10 40 (.array .int) true := ⟨fl_X10_74, RX10, TX10, 56, rfl, rfl, rfl, rfl⟩
theorem fp_X10_77 : FP RX10 77 10 41 (.array .int) true := ⟨fl_X10_77, RX10, TX10, 56, rfl, rfl, rfl, rfl⟩
theorem fp_X10_80 : FP RX10 80 10 42 (.array .int) true := ⟨fl_X10_80, RX10, TX10, 56, rfl, rfl, rfl, rfl⟩
theorem fp_X10_83 : FP RX10 83 10 43 (.array .int) true := ⟨fl_X10_83, RX10, TX10, 56, rfl, rfl, rfl, rfl⟩
theorem fp_X10_86 : FP RX10 86 10 44 (.array .int) true := ⟨fl_X10_86, RX10, TX10, 56, rfl, rfl, rfl, rfl⟩
theorem fp_X10_89 : FP RX10 89 10 45 (.array .int) true := ⟨fl_X10_89, RX10, TX10, 56, rfl, rfl, rfl, rfl⟩
theorem fp_X10_92 : FP RX10 92 10 46 (.array .int) true := ⟨fl_X10_92, RX10, TX10, 56, rfl, rfl, rfl, rfl⟩
theorem fp_X10_95 : FP RX10 95 10 47 (.array .boolean) true := ⟨fl_X10_95, RX10, TX10, 56, rfl, rfl, rfl, rfl⟩
theorem fp_X10_98 : FP RX10 98 10 48 (.array .int) true := ⟨fl_X10_98, RX10, TX10, 56, rfl, rfl, rfl, rfl⟩
theorem fp_X10_101 : FP RX10 101 10 49 (.array .int) true := ⟨fl_X10_101, RX10, TX10, 56, rfl, rfl, rfl, rfl⟩
theorem fp_X10_104 : FP RX10 104 10 50 (.array .int) true := ⟨fl_X10_104, RX10, TX10, 56, rfl, rfl, rfl, rfl⟩
theorem fp_X10_107 : FP RX10 107 10 51 (.array .int) true := ⟨fl_X10_107, RX10, TX10, 56, rfl, rfl, rfl, rfl⟩
theorem fp_X10_110 : FP RX10 110 10 52 (.array .int) true := ⟨fl_X10_110, RX10, TX10, 56, rfl, rfl, rfl, rfl⟩
theorem fp_X10_113 : FP RX10 113 10 53 (.array .int) true := ⟨fl_X10_113, RX10, TX10, 56, rfl, rfl, rfl, rfl⟩
theorem fp_X10_116 : FP RX10 116 10 54 (.array .int) true := ⟨fl_X10_116, RX10, TX10, 56, rfl, rfl, rfl, rfl⟩
theorem fp_X10_119 : FP RX10 119 10 2 (.int) false := ⟨fl_X10_119, RX10, TX10, 56, rfl, rfl, rfl, rfl⟩
theorem fp_X10_122 : FP RX10 122 10 0 (.int) false := ⟨fl_X10_122, RX10, TX10, 56, rfl, rfl, rfl, rfl⟩
theorem fp_X10_125 : FP RX10 125 10 4 (.int) false := ⟨fl_X10_125, RX10, TX10, 56, rfl, rfl, rfl, rfl⟩
theorem fp_X10_183 : FP RX10 183 10 6 (.int) false := ⟨fl_X10_183, RX10, TX10, 56, rfl, rfl, rfl, rfl⟩
theorem fp_X10_173 : FP RX10 173 10 7 (.int) false := ⟨fl_X10_173, RX10, TX10, 56, rfl, rfl, rfl, rfl⟩
theorem fp_X10_176 : FP RX10 176 10 8 (.int) false := ⟨fl_X10_176, RX10, TX10, 56, rfl, rfl, rfl, rfl⟩
theorem fp_X10_128 : FP RX10 128 10 3 (.int) false := ⟨fl_X10_128, RX10, TX10, 56, rfl, rfl, rfl, rfl⟩
theorem fp_X10_214 : FP RX10 214 10 13 (.int) false := ⟨fl_X10_214, RX10, TX10, 56, rfl, rfl, rfl, rfl⟩
theorem fp_X10_217 : FP RX10 217 10 14 (.int) false := ⟨fl_X10_217, RX10, TX10, 56, rfl, rfl, rfl, rfl⟩
theorem fp_X10_220 : FP RX10 220 10 15 (.int) false := ⟨fl_X10_220, RX10, TX10, 56, rfl, rfl, rfl, rfl⟩
theorem fp_X10_223 : FP RX10 223 10 20 (.int) false := ⟨fl_X10_223, RX10, TX10, 56, rfl, rfl, rfl, rfl⟩
theorem fp_X10_271 : FP RX10 271 10 28 (.int) false := ⟨fl_X10_271, RX10, TX10, 56, rfl, rfl, rfl, rfl⟩
theorem fp_X10_274 : FP RX10 274 10 29 (.int) false := ⟨fl_X10_274, RX10, TX10, 56, rfl, rfl, rfl, rfl⟩
theorem fp_X10_277 : FP RX10 277 10 30 (.int) false := ⟨fl_X10_277, RX10, TX10, 56, rfl, rfl, rfl, rfl⟩
theorem fp_X10_280 : FP RX10 280 10 31 (.int) false := ⟨fl_X10_280, RX10, TX10, 56, rfl, rfl, rfl, rfl⟩
theorem fp_X10_302 : FP RX10 302 10 34 (.int) false := ⟨fl_X10_302, RX10, TX10, 56, rfl, rfl, rfl, rfl⟩
theorem fp_X10_311 : FP RX10 311 10 36 (.int) false := ⟨fl_X10_311, RX10, TX10, 56, rfl, rfl, rfl, rfl⟩
theorem fp_X10_314 : FP RX10 314 10 35 (.int) false := ⟨fl_X10_314, RX10, TX10, 56, rfl, rfl, rfl, rfl⟩
theorem fp_X10_317 : FP RX10 317 10 37 (.int) false := ⟨fl_X10_317, RX10, TX10, 56, rfl, rfl, rfl, rfl⟩
theorem fp_X10_320 : FP RX10 320 10 38 (.boolean) false := ⟨fl_X10_320, RX10, TX10, 56, rfl, rfl, rfl, rfl⟩
theorem fp_X10_384 : FP RX10 384 10 55 (.int) false := ⟨fl_X10_384, RX10, TX10, 56, rfl, rfl, rfl, rfl⟩
abbrev miX0_init : MI := (yX0_init, cX0_init, 1, (none), 3, 60, [], 0)
abbrev miX0_clear : MI := (yX0_clear, cX0_clear, 1, (none), 2, 30, [], 0)
abbrev miX0_keep : MI := (yX0_keep, cX0_keep, 4, (none), 3, 60, [], 3)
abbrev miX0_undoLatest : MI := (yX0_undoLatest, cX0_undoLatest, 2, (none), 3, 53, [], 1)
abbrev miX1_init : MI := (yX1_init, cX1_init, 2, (none), 3, 60, [], 1)
abbrev miX2_init : MI := (yX2_init, cX2_init, 1, (none), 3, 60, [], 0)
abbrev miX2_empty : MI := (yX2_empty, cX2_empty, 1, (none), 3, 53, [], 0)
abbrev miX2_copyFrom : MI := (yX2_copyFrom, cX2_copyFrom, 2, (none), 3, 60, [], 1)
abbrev miX2_has : MI := (yX2_has, cX2_has, 3, (some FieldType.boolean), 2, 30, [], 2)
abbrev miX2_isTaken : MI := (yX2_isTaken, cX2_isTaken, 2, (some FieldType.boolean), 3, 53, [], 1)
abbrev miX2_swapGoals : MI := (yX2_swapGoals, cX2_swapGoals, 4, (none), 2, 30, [], 2)
abbrev miX2_countFree : MI := (yX2_countFree, cX2_countFree, 4, (some FieldType.int), 2, 30, [], 0)
abbrev miX2_refresh : MI := (yX2_refresh, cX2_refresh, 6, (none), 4, 79, [], 0)
abbrev miX2_lets : MI := (yX2_lets, cX2_lets, 8, (some FieldType.boolean), 3, 52, [], 3)
abbrev miX2_reachedFrom : MI := (yX2_reachedFrom, cX2_reachedFrom, 5, (some FieldType.long), 2, 30, [], 1)
abbrev miX3_init : MI := (yX3_init, cX3_init, 1, (none), 3, 60, [], 0)
abbrev miX3_clear : MI := (yX3_clear, cX3_clear, 1, (none), 3, 54, [], 0)
abbrev miX3_forbidCell : MI := (yX3_forbidCell, cX3_forbidCell, 3, (none), 2, 30, [], 2)
abbrev miX3_forbidAlways : MI := (yX3_forbidAlways, cX3_forbidAlways, 3, (none), 3, 52, [], 1)
abbrev miX3_forbidMove : MI := (yX3_forbidMove, cX3_forbidMove, 5, (none), 2, 30, [], 3)
abbrev miX3_find : MI := (yX3_find, cX3_find, 8, (some FieldType.int), 4, 81, [], 4)
abbrev miX3_leastCost : MI := (yX3_leastCost, cX3_leastCost, 10, (some FieldType.int), 3, 52, [], 3)
abbrev miX3_freeFrom : MI := (yX3_freeFrom, cX3_freeFrom, 3, (some FieldType.int), 2, 30, [], 1)
abbrev miX3_lookBack : MI := (yX3_lookBack, cX3_lookBack, 8, (none), 2, 30, [], 3)
abbrev miX3_leastStep : MI := (yX3_leastStep, cX3_leastStep, 7, (some FieldType.int), 2, 30, [], 3)
abbrev miX4_init : MI := (yX4_init, cX4_init, 1, (none), 3, 60, [], 0)
abbrev miX4_run : MI := (yX4_run, cX4_run, 8, (none), 5, 102, [], 4)
abbrev miX4_waitForOthers : MI := (yX4_waitForOthers, cX4_waitForOthers, 8, (none), 4, 75, [], 2)
abbrev miX4_leaveCells : MI := (yX4_leaveCells, cX4_leaveCells, 4, (none), 4, 74, [], 2)
abbrev miX4_delay : MI := (yX4_delay, cX4_delay, 3, (some FieldType.int), 2, 30, [], 2)
abbrev miX4_sumDelays : MI := (yX4_sumDelays, cX4_sumDelays, 4, (some FieldType.int), 3, 52, [], 1)
abbrev miX5_init : MI := (yX5_init, cX5_init, 1, (none), 4, 80, [], 0)
abbrev miX5_append : MI := (yX5_append, cX5_append, 3, (none), 2, 30, [], 1)
abbrev miX5_parse : MI := (yX5_parse, cX5_parse, 3, (none), 11, 232, [], 0)
abbrev miX5_failAt : MI := (yX5_failAt, cX5_failAt, 2, (some FieldType.boolean), 2, 30, [], 1)
abbrev miX5_takeLine : MI := (yX5_takeLine, cX5_takeLine, 1, (some FieldType.boolean), 10, 212, [], 0)
abbrev miX5_skipBlanks : MI := (yX5_skipBlanks, cX5_skipBlanks, 3, (none), 2, 30, [], 0)
abbrev miX5_takeWord : MI := (yX5_takeWord, cX5_takeWord, 2, (none), 3, 52, [], 0)
abbrev miX5_wordIs : MI := (yX5_wordIs, cX5_wordIs, 3, (some FieldType.boolean), 7, 136, [], 1)
abbrev miX5_takeGiven : MI := (yX5_takeGiven, cX5_takeGiven, 2, (some FieldType.boolean), 8, 158, [], 1)
abbrev miX5_takeSemicolon : MI := (yX5_takeSemicolon, cX5_takeSemicolon, 1, (some FieldType.boolean), 3, 52, [], 0)
abbrev miX5_takeRow : MI := (yX5_takeRow, cX5_takeRow, 4, (some FieldType.boolean), 9, 189, [], 0)
abbrev miX5_takeCart : MI := (yX5_takeCart, cX5_takeCart, 2, (some FieldType.boolean), 9, 182, [], 0)
abbrev miX5_takeName : MI := (yX5_takeName, cX5_takeName, 5, (some FieldType.boolean), 8, 158, [], 1)
abbrev miX5_isToldName : MI := (yX5_isToldName, cX5_isToldName, 4, (some FieldType.boolean), 2, 30, [], 0)
abbrev miX5_takeCell : MI := (yX5_takeCell, cX5_takeCell, 5, (some FieldType.int), 4, 75, [], 1)
abbrev miX5_takeNumber : MI := (yX5_takeNumber, cX5_takeNumber, 4, (some FieldType.int), 3, 52, [], 1)
abbrev miX6_init : MI := (yX6_init, cX6_init, 1, (none), 4, 80, [], 0)
abbrev miX6_build : MI := (yX6_build, cX6_build, 7, (none), 6, 133, [], 3)
abbrev miX6_nextNode : MI := (yX6_nextNode, cX6_nextNode, 1, (some (FieldType.object "CartPaths$Node")), 4, 81, [], 0)
abbrev miX6_addRoot : MI := (yX6_addRoot, cX6_addRoot, 2, (none), 5, 101, [], 0)
abbrev miX6_choose : MI := (yX6_choose, cX6_choose, 7, (some (FieldType.object "CartPaths$Node")), 3, 53, [], 1)
abbrev miX6_leastWaiting : MI := (yX6_leastWaiting, cX6_leastWaiting, 4, (some FieldType.int), 2, 30, [], 0)
abbrev miX6_goOn : MI := (yX6_goOn, cX6_goOn, 2, (some FieldType.boolean), 5, 107, [], 1)
abbrev miX6_load : MI := (yX6_load, cX6_load, 4, (none), 4, 84, [], 1)
abbrev miX6_grow : MI := (yX6_grow, cX6_grow, 6, (none), 5, 108, [], 4)
abbrev miX6_forbidAll : MI := (yX6_forbidAll, cX6_forbidAll, 3, (none), 4, 74, [], 2)
abbrev miX6_clashesWith : MI := (yX6_clashesWith, cX6_clashesWith, 4, (some FieldType.int), 4, 84, [], 1)
abbrev miX7_init : MI := (yX7_init, cX7_init, 1, (none), 4, 80, [], 0)
abbrev miX7_takeOrder : MI := (yX7_takeOrder, cX7_takeOrder, 8, (none), 3, 53, [], 2)
abbrev miX7_freeCart : MI := (yX7_freeCart, cX7_freeCart, 4, (some FieldType.int), 2, 30, [], 2)
abbrev miX7_goInOrder : MI := (yX7_goInOrder, cX7_goInOrder, 6, (none), 5, 108, [], 2)
abbrev miX7_forbidWay : MI := (yX7_forbidWay, cX7_forbidWay, 4, (none), 4, 74, [], 2)
abbrev miX8_init : MI := (yX8_init, cX8_init, 1, (none), 3, 60, [], 0)
abbrev miX8_goAlone : MI := (yX8_goAlone, cX8_goAlone, 4, (none), 5, 108, [], 2)
abbrev miX8_put : MI := (yX8_put, cX8_put, 5, (none), 3, 60, [], 4)
abbrev miX8_allGo : MI := (yX8_allGo, cX8_allGo, 1, (some FieldType.boolean), 3, 53, [], 0)
abbrev miX8_sumCosts : MI := (yX8_sumCosts, cX8_sumCosts, 3, (some FieldType.int), 2, 30, [], 0)
abbrev miX8_lastEnd : MI := (yX8_lastEnd, cX8_lastEnd, 3, (some FieldType.int), 2, 30, [], 0)
abbrev miX8_cellOf : MI := (yX8_cellOf, cX8_cellOf, 3, (some FieldType.int), 2, 30, [], 2)
abbrev miX8_comes : MI := (yX8_comes, cX8_comes, 3, (some FieldType.boolean), 3, 52, [], 2)
abbrev miX8_moveOf : MI := (yX8_moveOf, cX8_moveOf, 5, (some FieldType.int), 3, 53, [], 2)
abbrev miX8_cartIn : MI := (yX8_cartIn, cX8_cartIn, 4, (some FieldType.int), 3, 52, [], 2)
abbrev miX8_visitedBy : MI := (yX8_visitedBy, cX8_visitedBy, 5, (some FieldType.long), 3, 52, [], 1)
abbrev miX8_countVisitors : MI := (yX8_countVisitors, cX8_countVisitors, 4, (some FieldType.int), 4, 75, [], 1)
abbrev miX8_countLeaving : MI := (yX8_countLeaving, cX8_countLeaving, 5, (some FieldType.int), 4, 74, [], 1)
abbrev miX8_countSteps : MI := (yX8_countSteps, cX8_countSteps, 4, (some FieldType.int), 4, 74, [], 1)
abbrev miX8_firstTimeIn : MI := (yX8_firstTimeIn, cX8_firstTimeIn, 4, (some FieldType.int), 3, 52, [], 2)
abbrev miX8_apart : MI := (yX8_apart, cX8_apart, 6, (some FieldType.int), 3, 52, [], 3)
abbrev miX8_countClashes : MI := (yX8_countClashes, cX8_countClashes, 6, (some FieldType.int), 3, 55, [], 0)
abbrev miX8_sortOfClash : MI := (yX8_sortOfClash, cX8_sortOfClash, 6, (some FieldType.int), 2, 30, [], 3)
abbrev miX8_findFirstClash : MI := (yX8_findFirstClash, cX8_findFirstClash, 3, (none), 4, 79, [], 0)
abbrev miX8_findClashAt : MI := (yX8_findClashAt, cX8_findClashAt, 5, (none), 3, 55, [], 2)
abbrev miX8_keepClash : MI := (yX8_keepClash, cX8_keepClash, 5, (none), 2, 30, [], 4)
abbrev miX9_init : MI := (yX9_init, cX9_init, 1, (none), 5, 100, [], 0)
abbrev miX9_feed : MI := (yX9_feed, cX9_feed, 6, (some FieldType.int), 3, 52, [], 5)
abbrev miX9_end : MI := (yX9_end, cX9_end, 2, (some FieldType.boolean), 2, 30, [], 1)
abbrev miX9_read : MI := (yX9_read, cX9_read, 1, (some FieldType.int), 12, 254, [], 0)
abbrev miX9_fault : MI := (yX9_fault, cX9_fault, 1, (some FieldType.int), 2, 30, [], 0)
abbrev miX9_sceneChanged : MI := (yX9_sceneChanged, cX9_sceneChanged, 1, (none), 5, 104, [], 0)
abbrev miX9_needCell : MI := (yX9_needCell, cX9_needCell, 3, (some FieldType.int), 6, 90, [], 2)
abbrev miX9_needCart : MI := (yX9_needCart, cX9_needCart, 2, (none), 6, 90, [], 1)
abbrev miX9_needTime : MI := (yX9_needTime, cX9_needTime, 1, (none), 6, 90, [], 1)
abbrev miX9_needStop : MI := (yX9_needStop, cX9_needStop, 1, (none), 6, 90, [], 1)
abbrev miX9_needTwo : MI := (yX9_needTwo, cX9_needTwo, 2, (none), 6, 90, [], 2)
abbrev miX9_cell : MI := (yX9_cell, cX9_cell, 3, (some FieldType.int), 7, 112, [], 2)
abbrev miX9_cart : MI := (yX9_cart, cX9_cart, 3, (some FieldType.int), 7, 111, [], 2)
abbrev miX9_name : MI := (yX9_name, cX9_name, 3, (some FieldType.int), 7, 111, [], 2)
abbrev miX9_tell : MI := (yX9_tell, cX9_tell, 6, (some FieldType.int), 7, 124, [], 3)
abbrev miX9_goal : MI := (yX9_goal, cX9_goal, 7, (some FieldType.int), 7, 124, [], 3)
abbrev miX9_change : MI := (yX9_change, cX9_change, 3, (none), 7, 124, [], 2)
abbrev miX9_undo : MI := (yX9_undo, cX9_undo, 1, (some FieldType.int), 6, 124, [], 0)
abbrev miX9_waysAlone : MI := (yX9_waysAlone, cX9_waysAlone, 1, (some (FieldType.object "CartPaths$Ways")), 6, 131, [], 0)
abbrev miX9_cost : MI := (yX9_cost, cX9_cost, 2, (some FieldType.int), 7, 151, [], 1)
abbrev miX9_alone : MI := (yX9_alone, cX9_alone, 4, (some FieldType.int), 7, 151, [], 2)
abbrev miX9_clash : MI := (yX9_clash, cX9_clash, 3, (some FieldType.int), 7, 151, [], 1)
abbrev miX9_reach : MI := (yX9_reach, cX9_reach, 2, (some FieldType.int), 7, 111, [], 1)
abbrev miX9_far : MI := (yX9_far, cX9_far, 7, (some FieldType.int), 7, 112, [], 4)
abbrev miX9_treeOf : MI := (yX9_treeOf, cX9_treeOf, 3, (some (FieldType.object "CartPaths$Tree")), 7, 159, [], 1)
abbrev miX9_planned : MI := (yX9_planned, cX9_planned, 3, (some (FieldType.object "CartPaths$Ways")), 8, 181, [], 1)
abbrev miX9_supposedSum : MI := (yX9_supposedSum, cX9_supposedSum, 2, (some FieldType.int), 7, 159, [], 1)
abbrev miX9_plan : MI := (yX9_plan, cX9_plan, 5, (some FieldType.int), 8, 181, [], 2)
abbrev miX9_node : MI := (yX9_node, cX9_node, 6, (some FieldType.int), 8, 181, [], 3)
abbrev miX9_at : MI := (yX9_at, cX9_at, 4, (some FieldType.int), 9, 203, [], 3)
abbrev miX9_move : MI := (yX9_move, cX9_move, 4, (some FieldType.int), 9, 203, [], 3)
abbrev miX9_used : MI := (yX9_used, cX9_used, 7, (some FieldType.int), 9, 203, [], 4)
abbrev miX9_busiest : MI := (yX9_busiest, cX9_busiest, 7, (some FieldType.int), 9, 203, [], 1)
abbrev miX9_waits : MI := (yX9_waits, cX9_waits, 5, (some FieldType.int), 9, 203, [], 1)
abbrev miX9_late : MI := (yX9_late, cX9_late, 7, (some FieldType.int), 9, 203, [], 5)
abbrev miX9_worse : MI := (yX9_worse, cX9_worse, 4, (some FieldType.int), 9, 203, [], 1)
abbrev miX9_quotientBits : MI := (yX9_quotientBits, cX9_quotientBits, 9, (some FieldType.int), 2, 30, [], 2)
abbrev miX9_who : MI := (yX9_who, cX9_who, 6, (some FieldType.int), 9, 203, [], 4)
abbrev miX9_near : MI := (yX9_near, cX9_near, 10, (some FieldType.int), 9, 203, [], 4)
abbrev miX9_without : MI := (yX9_without, cX9_without, 7, (some FieldType.int), 9, 203, [], 3)
abbrev miX9_follows : MI := (yX9_follows, cX9_follows, 8, (some FieldType.int), 9, 203, [], 3)
abbrev miX9_shared : MI := (yX9_shared, cX9_shared, 6, (some FieldType.int), 9, 203, [], 2)
abbrev miX9_slack : MI := (yX9_slack, cX9_slack, 6, (some FieldType.int), 9, 203, [], 3)
abbrev miX9_critical : MI := (yX9_critical, cX9_critical, 9, (some FieldType.int), 9, 203, [], 3)
abbrev miX9_ended : MI := (yX9_ended, cX9_ended, 6, (some FieldType.int), 9, 203, [], 2)
abbrev miX9_way : MI := (yX9_way, cX9_way, 5, (some FieldType.int), 9, 203, [], 3)
abbrev miX9_again : MI := (yX9_again, cX9_again, 5, (some FieldType.int), 9, 203, [], 2)
abbrev miX9_among : MI := (yX9_among, cX9_among, 3, (some FieldType.int), 7, 111, [], 1)
abbrev miX9_needOrder : MI := (yX9_needOrder, cX9_needOrder, 2, (none), 6, 90, [], 1)
abbrev miX9_waysByTurns : MI := (yX9_waysByTurns, cX9_waysByTurns, 2, (some (FieldType.object "CartPaths$Ways")), 6, 133, [], 1)
abbrev miX9_byTurns : MI := (yX9_byTurns, cX9_byTurns, 3, (some FieldType.int), 7, 154, [], 1)
abbrev miX9_turned : MI := (yX9_turned, cX9_turned, 5, (some FieldType.int), 7, 154, [], 3)
abbrev miX9_bestOrder : MI := (yX9_bestOrder, cX9_bestOrder, 2, (some FieldType.int), 8, 177, [], 1)
abbrev miX9_findBestOrder : MI := (yX9_findBestOrder, cX9_findBestOrder, 4, (none), 7, 154, [], 0)
abbrev miX9_ordered : MI := (yX9_ordered, cX9_ordered, 3, (some FieldType.int), 7, 111, [], 2)
abbrev miX9_write : MI := (yX9_write, cX9_write, 8, (some FieldType.int), 9, 203, [], 2)
abbrev miX9_putWritten : MI := (yX9_putWritten, cX9_putWritten, 2, (none), 2, 30, [], 1)
abbrev miX9_octet : MI := (yX9_octet, cX9_octet, 2, (some FieldType.int), 2, 30, [], 1)
abbrev miX9_count : MI := (yX9_count, cX9_count, 2, (some FieldType.int), 7, 151, [], 1)
abbrev miX9_indexOf : MI := (yX9_indexOf, cX9_indexOf, 4, (some FieldType.int), 2, 30, [], 3)
abbrev miX10_init : MI := (yX10_init, cX10_init, 1, (none), 3, 60, [], 0)
abbrev miX10_thrown : MI := (yX10_thrown, cX10_thrown, 1, (some FieldType.int), 2, 30, [], 0)
abbrev miX10_isIn : MI := (yX10_isIn, cX10_isIn, 3, (some FieldType.boolean), 2, 30, [], 3)
abbrev miX10_feed : MI := (yX10_feed, cX10_feed, 8, (some FieldType.int), 2, 30, [], 5)
abbrev miX10_end : MI := (yX10_end, cX10_end, 2, (some FieldType.boolean), 2, 30, [], 1)
abbrev miX10_wrong : MI := (yX10_wrong, cX10_wrong, 1, (none), 2, 30, [], 0)
abbrev miX10_here : MI := (yX10_here, cX10_here, 1, (some FieldType.int), 2, 30, [], 0)
abbrev miX10_wordSize : MI := (yX10_wordSize, cX10_wordSize, 3, (some FieldType.int), 3, 50, [], 0)
abbrev miX10_is : MI := (yX10_is, cX10_is, 3, (some FieldType.boolean), 7, 136, [], 1)
abbrev miX10_takes : MI := (yX10_takes, cX10_takes, 2, (some FieldType.boolean), 8, 158, [], 1)
abbrev miX10_must : MI := (yX10_must, cX10_must, 2, (none), 3, 50, [], 1)
abbrev miX10_isName : MI := (yX10_isName, cX10_isName, 2, (some FieldType.boolean), 8, 158, [], 0)
abbrev miX10_named : MI := (yX10_named, cX10_named, 5, (some FieldType.long), 4, 72, [], 0)
abbrev miX10_letters : MI := (yX10_letters, cX10_letters, 5, (some FieldType.int), 2, 30, [], 1)
abbrev miX10_letter : MI := (yX10_letter, cX10_letter, 6, (some FieldType.int), 3, 54, [], 2)
abbrev miX10_isDigit : MI := (yX10_isDigit, cX10_isDigit, 2, (some FieldType.boolean), 2, 30, [], 1)
abbrev miX10_digit : MI := (yX10_digit, cX10_digit, 3, (some FieldType.int), 3, 51, [], 1)
abbrev miX10_sortOf : MI := (yX10_sortOf, cX10_sortOf, 1, (some FieldType.int), 2, 30, [], 1)
abbrev miX10_signOf : MI := (yX10_signOf, cX10_signOf, 1, (some FieldType.int), 2, 30, [], 1)
abbrev miX10_rowLine : MI := (yX10_rowLine, cX10_rowLine, 4, (none), 3, 50, [], 0)
abbrev miX10_spot : MI := (yX10_spot, cX10_spot, 9, (some FieldType.int), 4, 73, [], 1)
abbrev miX10_cartLine : MI := (yX10_cartLine, cX10_cartLine, 2, (none), 9, 179, [], 0)
abbrev miX10_read : MI := (yX10_read, cX10_read, 2, (some FieldType.int), 10, 200, [], 0)
abbrev miX10_fault : MI := (yX10_fault, cX10_fault, 1, (some FieldType.int), 2, 30, [], 0)
abbrev miX10_isCell : MI := (yX10_isCell, cX10_isCell, 3, (some FieldType.boolean), 3, 52, [], 2)
abbrev miX10_isCart : MI := (yX10_isCart, cX10_isCart, 2, (some FieldType.boolean), 3, 52, [], 1)
abbrev miX10_next : MI := (yX10_next, cX10_next, 6, (some FieldType.int), 4, 74, [], 2)
abbrev miX10_cell : MI := (yX10_cell, cX10_cell, 3, (some FieldType.int), 4, 74, [], 2)
abbrev miX10_cart : MI := (yX10_cart, cX10_cart, 3, (some FieldType.int), 4, 73, [], 2)
abbrev miX10_name : MI := (yX10_name, cX10_name, 3, (some FieldType.int), 4, 79, [], 2)
abbrev miX10_remembers : MI := (yX10_remembers, cX10_remembers, 2, (none), 3, 50, [], 0)
abbrev miX10_isPlaceOrGoal : MI := (yX10_isPlaceOrGoal, cX10_isPlaceOrGoal, 3, (some FieldType.boolean), 2, 30, [], 1)
abbrev miX10_tell : MI := (yX10_tell, cX10_tell, 5, (some FieldType.int), 4, 74, [], 3)
abbrev miX10_goal : MI := (yX10_goal, cX10_goal, 5, (some FieldType.int), 4, 74, [], 3)
abbrev miX10_change : MI := (yX10_change, cX10_change, 4, (none), 4, 73, [], 2)
abbrev miX10_undo : MI := (yX10_undo, cX10_undo, 2, (some FieldType.int), 3, 50, [], 0)
abbrev miX10_frees : MI := (yX10_frees, cX10_frees, 2, (none), 2, 30, [], 0)
abbrev miX10_mayGo : MI := (yX10_mayGo, cX10_mayGo, 5, (some FieldType.boolean), 5, 99, [], 3)
abbrev miX10_laysWay : MI := (yX10_laysWay, cX10_laysWay, 6, (some FieldType.int), 6, 123, [], 1)
abbrev miX10_cost : MI := (yX10_cost, cX10_cost, 2, (some FieldType.int), 7, 148, [], 1)
abbrev miX10_alone : MI := (yX10_alone, cX10_alone, 3, (some FieldType.int), 7, 148, [], 2)
abbrev miX10_wayAt : MI := (yX10_wayAt, cX10_wayAt, 4, (some FieldType.int), 2, 30, [], 3)
abbrev miX10_keepsWay : MI := (yX10_keepsWay, cX10_keepsWay, 4, (none), 2, 30, [], 2)
abbrev miX10_costAt : MI := (yX10_costAt, cX10_costAt, 4, (some FieldType.int), 3, 53, [], 2)
abbrev miX10_isClash : MI := (yX10_isClash, cX10_isClash, 6, (some FieldType.boolean), 3, 53, [], 5)
abbrev miX10_laysClashes : MI := (yX10_laysClashes, cX10_laysClashes, 7, (some FieldType.int), 4, 78, [], 1)
abbrev miX10_laysAlone : MI := (yX10_laysAlone, cX10_laysAlone, 3, (some FieldType.boolean), 7, 148, [], 1)
abbrev miX10_sumAt : MI := (yX10_sumAt, cX10_sumAt, 4, (some FieldType.int), 4, 76, [], 1)
abbrev miX10_clash : MI := (yX10_clash, cX10_clash, 3, (some FieldType.int), 8, 170, [], 1)
abbrev miX10_laysFar : MI := (yX10_laysFar, cX10_laysFar, 5, (none), 5, 99, [], 1)
abbrev miX10_reach : MI := (yX10_reach, cX10_reach, 4, (some FieldType.int), 6, 123, [], 1)
abbrev miX10_far : MI := (yX10_far, cX10_far, 5, (some FieldType.int), 6, 123, [], 4)
abbrev miX10_changes : MI := (yX10_changes, cX10_changes, 1, (none), 2, 30, [], 0)
abbrev miX10_moveOf : MI := (yX10_moveOf, cX10_moveOf, 4, (some FieldType.int), 5, 99, [], 2)
abbrev miX10_forbids : MI := (yX10_forbids, cX10_forbids, 3, (none), 6, 122, [], 1)
abbrev miX10_branches : MI := (yX10_branches, cX10_branches, 7, (none), 7, 148, [], 4)
abbrev miX10_chosen : MI := (yX10_chosen, cX10_chosen, 5, (some FieldType.int), 2, 30, [], 1)
abbrev miX10_lays : MI := (yX10_lays, cX10_lays, 8, (none), 8, 174, [], 1)
abbrev miX10_isBound : MI := (yX10_isBound, cX10_isBound, 1, (some FieldType.boolean), 3, 52, [], 1)
abbrev miX10_plan : MI := (yX10_plan, cX10_plan, 5, (some FieldType.int), 9, 201, [], 2)
abbrev miX10_node : MI := (yX10_node, cX10_node, 6, (some FieldType.int), 9, 201, [], 3)
abbrev miX10_wrongPlan : MI := (yX10_wrongPlan, cX10_wrongPlan, 5, (some FieldType.int), 9, 201, [], 4)
abbrev miX10_at : MI := (yX10_at, cX10_at, 4, (some FieldType.int), 10, 225, [], 3)
abbrev miX10_move : MI := (yX10_move, cX10_move, 6, (some FieldType.int), 10, 225, [], 3)
abbrev miX10_usedBy : MI := (yX10_usedBy, cX10_usedBy, 6, (some FieldType.int), 3, 53, [], 1)
abbrev miX10_used : MI := (yX10_used, cX10_used, 9, (some FieldType.int), 10, 225, [], 4)
abbrev miX10_busiest : MI := (yX10_busiest, cX10_busiest, 6, (some FieldType.int), 10, 225, [], 1)
abbrev miX10_waits : MI := (yX10_waits, cX10_waits, 5, (some FieldType.int), 10, 225, [], 1)
abbrev miX10_laysVisits : MI := (yX10_laysVisits, cX10_laysVisits, 4, (none), 3, 53, [], 0)
abbrev miX10_notSooner : MI := (yX10_notSooner, cX10_notSooner, 3, (some FieldType.boolean), 2, 30, [], 2)
abbrev miX10_waitsFor : MI := (yX10_waitsFor, cX10_waitsFor, 8, (some FieldType.boolean), 3, 52, [], 2)
abbrev miX10_late : MI := (yX10_late, cX10_late, 6, (some FieldType.int), 10, 225, [], 5)
abbrev miX10_lateBy : MI := (yX10_lateBy, cX10_lateBy, 3, (some FieldType.int), 2, 30, [], 1)
abbrev miX10_laysStop : MI := (yX10_laysStop, cX10_laysStop, 8, (none), 4, 79, [], 3)
abbrev miX10_slack : MI := (yX10_slack, cX10_slack, 6, (some FieldType.int), 10, 225, [], 3)
abbrev miX10_critical : MI := (yX10_critical, cX10_critical, 9, (some FieldType.int), 10, 225, [], 3)
abbrev miX10_follows : MI := (yX10_follows, cX10_follows, 7, (some FieldType.int), 10, 225, [], 3)
abbrev miX10_shared : MI := (yX10_shared, cX10_shared, 5, (some FieldType.int), 10, 225, [], 2)
abbrev miX10_ended : MI := (yX10_ended, cX10_ended, 5, (some FieldType.int), 10, 225, [], 2)
abbrev miX10_way : MI := (yX10_way, cX10_way, 11, (some FieldType.int), 10, 225, [], 3)
abbrev miX10_again : MI := (yX10_again, cX10_again, 5, (some FieldType.int), 10, 225, [], 2)
abbrev miX10_among : MI := (yX10_among, cX10_among, 4, (some FieldType.int), 7, 148, [], 1)
abbrev miX10_worse : MI := (yX10_worse, cX10_worse, 2, (some FieldType.int), 10, 225, [], 1)
abbrev miX10_who : MI := (yX10_who, cX10_who, 6, (some FieldType.int), 10, 225, [], 4)
abbrev miX10_apart : MI := (yX10_apart, cX10_apart, 2, (some FieldType.int), 2, 30, [], 2)
abbrev miX10_near : MI := (yX10_near, cX10_near, 11, (some FieldType.int), 10, 225, [], 4)
abbrev miX10_without : MI := (yX10_without, cX10_without, 7, (some FieldType.int), 10, 225, [], 3)
abbrev miX10_orders : MI := (yX10_orders, cX10_orders, 3, (some FieldType.int), 2, 30, [], 0)
abbrev miX10_laysOrder : MI := (yX10_laysOrder, cX10_laysOrder, 8, (none), 3, 52, [], 1)
abbrev miX10_forbidsAll : MI := (yX10_forbidsAll, cX10_forbidsAll, 5, (none), 6, 122, [], 1)
abbrev miX10_laysTurns : MI := (yX10_laysTurns, cX10_laysTurns, 5, (some FieldType.int), 7, 148, [], 1)
abbrev miX10_isOrder : MI := (yX10_isOrder, cX10_isOrder, 2, (some FieldType.boolean), 3, 52, [], 1)
abbrev miX10_byTurns : MI := (yX10_byTurns, cX10_byTurns, 2, (some FieldType.int), 8, 172, [], 1)
abbrev miX10_turned : MI := (yX10_turned, cX10_turned, 4, (some FieldType.int), 8, 172, [], 3)
abbrev miX10_bestOrder : MI := (yX10_bestOrder, cX10_bestOrder, 6, (some FieldType.int), 8, 172, [], 1)
abbrev miX10_ordered : MI := (yX10_ordered, cX10_ordered, 3, (some FieldType.int), 4, 79, [], 2)
abbrev miX10_write : MI := (yX10_write, cX10_write, 7, (some FieldType.int), 10, 225, [], 2)
abbrev miX10_octet : MI := (yX10_octet, cX10_octet, 2, (some FieldType.int), 3, 52, [], 1)
abbrev miX10_count : MI := (yX10_count, cX10_count, 5, (some FieldType.int), 8, 170, [], 1)
abbrev miJ11_isValidCodePoint_9a6ad : MI := (yJ11_isValidCodePoint_9a6ad, cJ11_isValidCodePoint_9a6ad, 2, (some FieldType.boolean), 2, 30, [], 1)
abbrev miJ11_highSurrogate_5068e : MI := (yJ11_highSurrogate_5068e, cJ11_highSurrogate_5068e, 1, (some FieldType.char), 2, 30, [], 1)
abbrev miJ11_lowSurrogate_5068e : MI := (yJ11_lowSurrogate_5068e, cJ11_lowSurrogate_5068e, 1, (some FieldType.char), 2, 30, [], 1)
abbrev miJxf58ca_isNaN_12338 : MI := (yJxf58ca_isNaN_12338, cJxf58ca_isNaN_12338, 1, (some FieldType.boolean), 2, 30, [], 1)
abbrev miJxf58ca_floatToIntBits_5c35a : MI := (yJxf58ca_floatToIntBits_5c35a, cJxf58ca_floatToIntBits_5c35a, 1, (some FieldType.int), 3, 60, [], 1)
abbrev miJ13_bitCount_95d88 : MI := (yJ13_bitCount_95d88, cJ13_bitCount_95d88, 2, (some FieldType.int), 2, 30, [], 1)
abbrev miJ9_abs_0f7a4 : MI := (yJ9_abs_0f7a4, cJ9_abs_0f7a4, 1, (some FieldType.int), 2, 30, [], 1)
abbrev miJ9_max_7cf53 : MI := (yJ9_max_7cf53, cJ9_max_7cf53, 2, (some FieldType.int), 2, 30, [], 2)
abbrev miJ9_min_7cf53 : MI := (yJ9_min_7cf53, cJ9_min_7cf53, 2, (some FieldType.int), 2, 30, [], 2)
abbrev miJ0_length_8abf5 : MI := (yJ0_length_8abf5, cJ0_length_8abf5, 1, (some FieldType.int), 3, 50, [], 0)
abbrev miJ0_charAt_5068e : MI := (yJ0_charAt_5068e, cJ0_charAt_5068e, 2, (some FieldType.char), 6, 115, [], 1)
abbrev miJ0_indexOf_0f7a4 : MI := (yJ0_indexOf_0f7a4, cJ0_indexOf_0f7a4, 2, (some FieldType.int), 8, 168, [], 1)
abbrev miJ0_indexOf_7cf53 : MI := (yJ0_indexOf_7cf53, cJ0_indexOf_7cf53, 3, (some FieldType.int), 7, 146, [], 2)
abbrev miJ0_coder_7d493 : MI := (yJ0_coder_7d493, cJ0_coder_7d493, 1, (some FieldType.byte), 2, 30, [], 0)
abbrev miJ0_isLatin1_aae02 : MI := (yJ0_isLatin1_aae02, cJ0_isLatin1_aae02, 1, (some FieldType.boolean), 2, 30, [], 0)
abbrev miJ0_checkIndex_df160 : MI := (yJ0_checkIndex_df160, cJ0_checkIndex_df160, 2, (none), 3, 52, [], 2)
abbrev miJ0_checkBoundsBeginEnd_23922 : MI := (yJ0_checkBoundsBeginEnd_23922, cJ0_checkBoundsBeginEnd_23922, 3, (none), 3, 53, [], 3)
abbrev miJ1_charAt_3b067 : MI := (yJ1_charAt_3b067, cJ1_charAt_3b067, 2, (some FieldType.char), 4, 73, [], 2)
abbrev miJ1_canEncode_9a6ad : MI := (yJ1_canEncode_9a6ad, cJ1_canEncode_9a6ad, 1, (some FieldType.boolean), 2, 30, [], 1)
abbrev miJ1_indexOf_4cfef : MI := (yJ1_indexOf_4cfef, cJ1_indexOf_4cfef, 4, (some FieldType.int), 3, 55, [], 4)
abbrev miJ1_indexOfChar_4cfef : MI := (yJ1_indexOfChar_4cfef, cJ1_indexOfChar_4cfef, 6, (some FieldType.int), 2, 30, [], 4)
abbrev miJ2_getChar_3b067 : MI := (yJ2_getChar_3b067, cJ2_getChar_3b067, 2, (some FieldType.char), 3, 50, [], 2)
abbrev miJ2_length_9d52b : MI := (yJ2_length_9d52b, cJ2_length_9d52b, 1, (some FieldType.int), 2, 30, [], 1)
abbrev miJ2_indexOf_4cfef : MI := (yJ2_indexOf_4cfef, cJ2_indexOf_4cfef, 4, (some FieldType.int), 6, 123, [], 4)
abbrev miJ2_indexOfChar_4cfef : MI := (yJ2_indexOfChar_4cfef, cJ2_indexOfChar_4cfef, 4, (some FieldType.int), 5, 97, [], 4)
abbrev miJ2_indexOfCharUnsafe_4cfef : MI := (yJ2_indexOfCharUnsafe_4cfef, cJ2_indexOfCharUnsafe_4cfef, 5, (some FieldType.int), 4, 71, [], 4)
abbrev miJ2_indexOfSupplementary_4cfef : MI := (yJ2_indexOfSupplementary_4cfef, cJ2_indexOfSupplementary_4cfef, 7, (some FieldType.int), 5, 97, [], 4)
abbrev miJ2_charAt_3b067 : MI := (yJ2_charAt_3b067, cJ2_charAt_3b067, 2, (some FieldType.char), 5, 94, [], 2)
abbrev miJ2_checkIndex_2214a : MI := (yJ2_checkIndex_2214a, cJ2_checkIndex_2214a, 2, (none), 4, 73, [], 2)
abbrev miJ2_checkBoundsBeginEnd_d044e : MI := (yJ2_checkBoundsBeginEnd_d044e, cJ2_checkBoundsBeginEnd_d044e, 3, (none), 4, 75, [], 3)
abbrev miJ7_fill_d0a16 : MI := (yJ7_fill_d0a16, cJ7_fill_d0a16, 5, (none), 2, 30, [], 2)
abbrev miJ7_fill_53178 : MI := (yJ7_fill_53178, cJ7_fill_53178, 4, (none), 2, 30, [], 2)
abbrev miJ3_checkIndex_8e157 : MI := (yJ3_checkIndex_8e157, cJ3_checkIndex_8e157, 3, (some FieldType.int), 2, 30, [], 3)
abbrev miJ3_checkFromToIndex_8c36e : MI := (yJ3_checkFromToIndex_8c36e, cJ3_checkFromToIndex_8c36e, 4, (some FieldType.int), 2, 30, [], 4)
abbrev miL_read : MI := (yL_read, cL_read, 3, (some FieldType.int), 13, 274, [((0), (8), (11), (13))], 2)
abbrev miL_cell : MI := (yL_cell, cL_cell, 5, (some FieldType.int), 8, 134, [((0), (10), (13), (19))], 4)
abbrev miL_cart : MI := (yL_cart, cL_cart, 5, (some FieldType.int), 8, 133, [((0), (10), (13), (19)), ((0), (10), (17), (24))], 4)
abbrev miL_name : MI := (yL_name, cL_name, 5, (some FieldType.int), 8, 133, [((0), (10), (13), (19))], 4)
abbrev miL_tell : MI := (yL_tell, cL_tell, 6, (some FieldType.int), 8, 149, [((0), (12), (15), (19)), ((0), (12), (19), (13)), ((0), (12), (23), (33))], 5)
abbrev miL_goal : MI := (yL_goal, cL_goal, 6, (some FieldType.int), 8, 150, [((0), (12), (15), (19)), ((0), (12), (19), (33))], 5)
abbrev miL_change : MI := (yL_change, cL_change, 4, (some FieldType.int), 8, 146, [((0), (6), (9), (19)), ((0), (6), (12), (13))], 3)
abbrev miL_cost : MI := (yL_cost, cL_cost, 4, (some FieldType.int), 8, 172, [((0), (9), (12), (19))], 3)
abbrev miL_alone : MI := (yL_alone, cL_alone, 5, (some FieldType.int), 8, 174, [((0), (10), (13), (19)), ((0), (10), (17), (13))], 4)
abbrev miL_clash : MI := (yL_clash, cL_clash, 4, (some FieldType.int), 8, 173, [((0), (9), (12), (24)), ((0), (9), (15), (33))], 3)
abbrev miL_reach : MI := (yL_reach, cL_reach, 4, (some FieldType.int), 8, 132, [((0), (9), (12), (19))], 3)
abbrev miL_far : MI := (yL_far, cL_far, 7, (some FieldType.int), 8, 138, [((0), (14), (17), (19))], 6)
abbrev miL_plan : MI := (yL_plan, cL_plan, 5, (some FieldType.int), 9, 205, [((0), (10), (13), (13)), ((0), (10), (17), (24))], 4)
abbrev miL_node : MI := (yL_node, cL_node, 6, (some FieldType.int), 9, 206, [((0), (12), (15), (13)), ((0), (12), (19), (24))], 5)
abbrev miL_at : MI := (yL_at, cL_at, 6, (some FieldType.int), 10, 226, [((0), (12), (15), (19)), ((0), (12), (19), (13)), ((0), (12), (23), (33))], 5)
abbrev miL_move : MI := (yL_move, cL_move, 6, (some FieldType.int), 10, 226, [((0), (12), (15), (19)), ((0), (12), (19), (13)), ((0), (12), (23), (33))], 5)
abbrev miL_used : MI := (yL_used, cL_used, 7, (some FieldType.int), 10, 229, [((0), (14), (17), (19)), ((0), (14), (21), (13)), ((0), (14), (25), (33))], 6)
abbrev miL_busiest : MI := (yL_busiest, cL_busiest, 4, (some FieldType.int), 10, 229, [((0), (9), (12), (13)), ((0), (9), (15), (33))], 3)
abbrev miL_waits : MI := (yL_waits, cL_waits, 4, (some FieldType.int), 10, 227, [((0), (9), (12), (13)), ((0), (9), (15), (33))], 3)
abbrev miL_late : MI := (yL_late, cL_late, 8, (some FieldType.int), 10, 229, [((0), (16), (19), (19)), ((0), (16), (23), (13)), ((0), (16), (27), (33))], 7)
abbrev miL_worse : MI := (yL_worse, cL_worse, 4, (some FieldType.int), 10, 226, [((0), (9), (12), (13)), ((0), (9), (15), (33))], 3)
abbrev miL_who : MI := (yL_who, cL_who, 7, (some FieldType.int), 10, 228, [((0), (14), (17), (19)), ((0), (14), (21), (13)), ((0), (14), (25), (33))], 6)
abbrev miL_near : MI := (yL_near, cL_near, 7, (some FieldType.int), 10, 232, [((0), (14), (17), (19)), ((0), (14), (21), (13)), ((0), (14), (25), (33))], 6)
abbrev miL_without : MI := (yL_without, cL_without, 6, (some FieldType.int), 10, 229, [((0), (12), (15), (19)), ((0), (12), (19), (13)), ((0), (12), (23), (33))], 5)
abbrev miL_follows : MI := (yL_follows, cL_follows, 6, (some FieldType.int), 10, 230, [((0), (12), (15), (19)), ((0), (12), (19), (13)), ((0), (12), (23), (33))], 5)
abbrev miL_shared : MI := (yL_shared, cL_shared, 5, (some FieldType.int), 10, 228, [((0), (10), (13), (13)), ((0), (10), (17), (33))], 4)
abbrev miL_slack : MI := (yL_slack, cL_slack, 6, (some FieldType.int), 10, 228, [((0), (12), (15), (19)), ((0), (12), (19), (13)), ((0), (12), (23), (33))], 5)
abbrev miL_critical : MI := (yL_critical, cL_critical, 6, (some FieldType.int), 10, 231, [((0), (12), (15), (13)), ((0), (12), (19), (33))], 5)
abbrev miL_ended : MI := (yL_ended, cL_ended, 5, (some FieldType.int), 10, 228, [((0), (10), (13), (13)), ((0), (10), (17), (33))], 4)
abbrev miL_way : MI := (yL_way, cL_way, 6, (some FieldType.int), 10, 227, [((0), (12), (15), (19)), ((0), (12), (19), (13)), ((0), (12), (23), (33)), ((0), (12), (27), (24))], 5)
abbrev miL_again : MI := (yL_again, cL_again, 5, (some FieldType.int), 10, 227, [((0), (10), (13), (13)), ((0), (10), (17), (33))], 4)
abbrev miL_among : MI := (yL_among, cL_among, 4, (some FieldType.int), 8, 133, [((0), (9), (12), (19))], 3)
abbrev miL_byTurns : MI := (yL_byTurns, cL_byTurns, 4, (some FieldType.int), 8, 176, [((0), (9), (12), (24))], 3)
abbrev miL_turned : MI := (yL_turned, cL_turned, 6, (some FieldType.int), 8, 178, [((0), (12), (15), (19)), ((0), (12), (19), (24)), ((0), (12), (23), (13)), ((0), (12), (27), (33))], 5)
abbrev miL_ordered : MI := (yL_ordered, cL_ordered, 5, (some FieldType.int), 8, 133, [((0), (10), (13), (24))], 4)
abbrev miL_write : MI := (yL_write, cL_write, 5, (some FieldType.int), 10, 230, [((0), (10), (13), (13)), ((0), (10), (17), (33))], 4)
abbrev miL_law : MI := (x, code, 7, (some FieldType.boolean), 14, 296, [], 1)
theorem kc_X3_61 : (Cond.constantLong "CartPaths$Search" (61 : Nat) (-1 : Int64)) ∈ GW := gw_577
theorem nw_X5_28 : NWc RX5 28 2 9 tyX2 := ⟨RX2, TX2, rfl, gw_176, gw_177, gw_135, inG_X2, tyX2_ok⟩
theorem na_X6_9 : Cond.classLink RX6 9 "CartPaths$Node" ∈ GW ∧ Cond.arrayOver (.object "CartPaths$Node") ∈ GW := ⟨gw_348, gw_349⟩
theorem nw_X6_17 : NWc RX6 17 8 7 tyX8 := ⟨RX8, TX8, rfl, gw_350, gw_296, gw_138, inG_X8, tyX8_ok⟩
theorem nw_X6_9 : NWc RX6 9 1 12 tyX1 := ⟨RX1, TX1, rfl, gw_348, gw_1116, gw_160, inG_X1, tyX1_ok⟩
theorem nw_X7_9 : NWc RX7 9 8 7 tyX8 := ⟨RX8, TX8, rfl, gw_397, gw_296, gw_138, inG_X8, tyX8_ok⟩
theorem nw_X9_7 : NWc RX9 7 5 6 tyX5 := ⟨RX5, TX5, rfl, gw_170, gw_171, gw_134, inG_X5, tyX5_ok⟩
theorem nw_X9_16 : NWc RX9 16 2 9 tyX2 := ⟨RX2, TX2, rfl, gw_257, gw_177, gw_135, inG_X2, tyX2_ok⟩
theorem nw_X9_26 : NWc RX9 26 0 4 tyX0 := ⟨RX0, TX0, rfl, gw_259, gw_260, gw_136, inG_X0, tyX0_ok⟩
theorem nw_X9_33 : NWc RX9 33 3 3 tyX3 := ⟨RX3, TX3, rfl, gw_279, gw_280, gw_137, inG_X3, tyX3_ok⟩
theorem nw_X9_40 : NWc RX9 40 8 7 tyX8 := ⟨RX8, TX8, rfl, gw_295, gw_296, gw_138, inG_X8, tyX8_ok⟩
theorem na_X9_51 : Cond.classLink RX9 51 "CartPaths$Tree" ∈ GW ∧ Cond.arrayOver (.object "CartPaths$Tree") ∈ GW := ⟨gw_341, gw_342⟩
theorem nw_X9_51 : NWc RX9 51 6 10 tyX6 := ⟨RX6, TX6, rfl, gw_341, gw_343, gw_139, inG_X6, tyX6_ok⟩
theorem nw_X9_62 : NWc RX9 62 7 7 tyX7 := ⟨RX7, TX7, rfl, gw_391, gw_392, gw_140, inG_X7, tyX7_ok⟩
theorem nw_X9_69 : NWc RX9 69 4 2 tyX4 := ⟨RX4, TX4, rfl, gw_428, gw_429, gw_141, inG_X4, tyX4_ok⟩
theorem kc_X9_328 : (Cond.constant "CartPaths" (328 : Nat) (1065353216 : Int32)) ∈ GW := gw_1331
theorem kc_X9_329 : (Cond.constantLong "CartPaths" (329 : Nat) (2 : Int64)) ∈ GW := gw_1332
theorem kc_X9_331 : (Cond.constantLong "CartPaths" (331 : Nat) (8388608 : Int64)) ∈ GW := gw_1333
theorem kc_X10_61 : (Cond.constant "CartPathsModel" (61 : Nat) (62115 : Int32)) ∈ GW := gw_1483
theorem kc_X10_161 : (Cond.constantLong "CartPathsModel" (161 : Nat) (32 : Int64)) ∈ GW := gw_1711
theorem kc_X10_163 : (Cond.constantLong "CartPathsModel" (163 : Nat) (97 : Int64)) ∈ GW := gw_1712
theorem nw_L_8 : NWc RL 8 9 14 tyX9 := ⟨RX9, TX9, rfl, gw_162, gw_163, gw_133, inG_X9, tyX9_ok⟩
theorem nw_L_135 : NWc RL 135 10 56 tyX10 := ⟨RX10, TX10, rfl, gw_1477, gw_1478, gw_142, inG_X10, tyX10_ok⟩
theorem ac_int : Cond.arrayClass .int ∈ GW := gw_233
theorem ac_long : Cond.arrayClass .long ∈ GW := gw_234
theorem ac_boolean : Cond.arrayClass .boolean ∈ GW := gw_1653
theorem oi_X0_3 : Cond.methodLink RX0 3 Lib.objectInit ∈ GW := gw_264
theorem oi_X1_3 : Cond.methodLink RX1 3 Lib.objectInit ∈ GW := gw_1120
theorem oi_X2_3 : Cond.methodLink RX2 3 Lib.objectInit ∈ GW := gw_181
theorem oi_X3_3 : Cond.methodLink RX3 3 Lib.objectInit ∈ GW := gw_284
theorem oi_X4_3 : Cond.methodLink RX4 3 Lib.objectInit ∈ GW := gw_433
theorem oi_X5_3 : Cond.methodLink RX5 3 Lib.objectInit ∈ GW := gw_175
theorem oi_X6_3 : Cond.methodLink RX6 3 Lib.objectInit ∈ GW := gw_347
theorem oi_X7_3 : Cond.methodLink RX7 3 Lib.objectInit ∈ GW := gw_396
theorem oi_X8_3 : Cond.methodLink RX8 3 Lib.objectInit ∈ GW := gw_300
theorem oi_X9_1 : Cond.methodLink RX9 1 Lib.objectInit ∈ GW := gw_167
theorem oi_X10_1 : Cond.methodLink RX10 1 Lib.objectInit ∈ GW := gw_1482
theorem oi_inst : Cond.instanceMethod Lib.objectInit ∈ GW := gw_168
theorem oi_code : Cond.code Lib.objectInit ⟨#[0xb1]⟩ 1 none ∈ GW := gw_169
