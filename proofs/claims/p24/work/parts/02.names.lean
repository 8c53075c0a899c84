def RX0 : String := "ShoveBeds$Board"
def TX0 : u_T := fun k => match k with
  | 0 => ("ShoveBeds$Board", "lanes", "LShoveBeds$Lanes;", true)
  | 1 => ("ShoveBeds$Board", "chalks", "[I", true)
  | 2 => ("ShoveBeds$Board", "nudgeCost", "I", false)
  | 3 => ("ShoveBeds$Board", "player", "I", false)
  | 4 => ("ShoveBeds$Board", "pushes", "I", false)
  | 5 => ("ShoveBeds$Board", "winner", "I", false)
  | 6 => ("ShoveBeds$Board", "turns", "I", false)
  | 7 => ("ShoveBeds$Board", "fellOff", "I", false)
  | 8 => ("ShoveBeds$Board", "takenBack", "I", false)
  | 9 => ("ShoveBeds$Board", "nudges", "I", false)
  | _ => ("ShoveBeds$Board", "refused", "I", false)
def tyX0 : Nat → FieldType := fun k => match k with
  | 0 => .object "ShoveBeds$Lanes"
  | 1 => .array .int
  | 2 => .int
  | 3 => .int
  | 4 => .int
  | 5 => .int
  | 6 => .int
  | 7 => .int
  | 8 => .int
  | 9 => .int
  | _ => .int
abbrev wsX00 : List Cond := u_ws RX0 TX0 11
theorem nmX0 : ∀ a, a < 11 → ∀ b, b < 11 → a ≠ b → (TX0 a).2.1 ≠ (TX0 b).2.1 := by decide +kernel
theorem tyX0_ok : ∀ k, k < 11 → parseFieldDescriptor (TX0 k).2.2.1 = some (tyX0 k) := by decide +kernel
abbrev cX0_init : ByteArray := prog_2_method_1_code
def yX0_init : MethodName := ⟨RX0, "<init>", "()V"⟩
abbrev cX0_copyFrom : ByteArray := prog_2_method_2_code
def yX0_copyFrom : MethodName := ⟨RX0, "copyFrom", "(LShoveBeds$Board;)V"⟩
abbrev cX0_isOver : ByteArray := prog_2_method_3_code
def yX0_isOver : MethodName := ⟨RX0, "isOver", "()Z"⟩
abbrev cX0_refuse : ByteArray := prog_2_method_4_code
def yX0_refuse : MethodName := ⟨RX0, "refuse", "()I"⟩
abbrev cX0_restart : ByteArray := prog_2_method_5_code
def yX0_restart : MethodName := ⟨RX0, "restart", "()V"⟩
abbrev cX0_takeOver : ByteArray := prog_2_method_6_code
def yX0_takeOver : MethodName := ⟨RX0, "takeOver", "(ILShoveBeds$Shove;)V"⟩
abbrev cX0_closeTurn : ByteArray := prog_2_method_7_code
def yX0_closeTurn : MethodName := ⟨RX0, "closeTurn", "()I"⟩
abbrev cX0_ownGain : ByteArray := prog_2_method_8_code
def yX0_ownGain : MethodName := ⟨RX0, "ownGain", "(II)I"⟩
abbrev cX0_otherGain : ByteArray := prog_2_method_9_code
def yX0_otherGain : MethodName := ⟨RX0, "otherGain", "(II)I"⟩
abbrev cX0_leadFor : ByteArray := prog_2_method_10_code
def yX0_leadFor : MethodName := ⟨RX0, "leadFor", "([I)I"⟩
abbrev cX0_chalksIn : ByteArray := prog_2_method_11_code
def yX0_chalksIn : MethodName := ⟨RX0, "chalksIn", "(II)I"⟩
abbrev cX0_addChalks : ByteArray := prog_2_method_12_code
def yX0_addChalks : MethodName := ⟨RX0, "addChalks", "(III)V"⟩
abbrev cX0_chalksOf : ByteArray := prog_2_method_13_code
def yX0_chalksOf : MethodName := ⟨RX0, "chalksOf", "(I)I"⟩
abbrev cX0_allChalks : ByteArray := prog_2_method_14_code
def yX0_allChalks : MethodName := ⟨RX0, "allChalks", "()I"⟩
abbrev cX0_hasAllBeds : ByteArray := prog_2_method_15_code
def yX0_hasAllBeds : MethodName := ⟨RX0, "hasAllBeds", "(I)Z"⟩
def RX1 : String := "ShoveBeds$CoinText"
def TX1 : u_T := fun k => match k with
  | 0 => ("ShoveBeds$CoinText", "codes", "[I", true)
  | _ => ("ShoveBeds$CoinText", "length", "I", false)
def tyX1 : Nat → FieldType := fun k => match k with
  | 0 => .array .int
  | _ => .int
abbrev wsX10 : List Cond := u_ws RX1 TX1 2
theorem nmX1 : ∀ a, a < 2 → ∀ b, b < 2 → a ≠ b → (TX1 a).2.1 ≠ (TX1 b).2.1 := by decide +kernel
theorem tyX1_ok : ∀ k, k < 2 → parseFieldDescriptor (TX1 k).2.2.1 = some (tyX1 k) := by decide +kernel
abbrev cX1_init : ByteArray := prog_3_method_1_code
def yX1_init : MethodName := ⟨RX1, "<init>", "()V"⟩
abbrev cX1_isFull : ByteArray := prog_3_method_2_code
def yX1_isFull : MethodName := ⟨RX1, "isFull", "()Z"⟩
abbrev cX1_add : ByteArray := prog_3_method_3_code
def yX1_add : MethodName := ⟨RX1, "add", "(I)V"⟩
abbrev cX1_clear : ByteArray := prog_3_method_4_code
def yX1_clear : MethodName := ⟨RX1, "clear", "()V"⟩
abbrev cX1_codeAt : ByteArray := prog_3_method_5_code
def yX1_codeAt : MethodName := ⟨RX1, "codeAt", "(I)I"⟩
abbrev cX1_isWhole : ByteArray := prog_3_method_7_code
def yX1_isWhole : MethodName := ⟨RX1, "isWhole", "()Z"⟩
abbrev cX1_next : ByteArray := prog_3_method_8_code
def yX1_next : MethodName := ⟨RX1, "next", "(II)I"⟩
abbrev cX1_isDigit : ByteArray := prog_3_method_9_code
def yX1_isDigit : MethodName := ⟨RX1, "isDigit", "(I)Z"⟩
abbrev cX1_putOn : ByteArray := prog_3_method_10_code
def yX1_putOn : MethodName := ⟨RX1, "putOn", "(LShoveBeds$Lanes;)Z"⟩
def RX2 : String := "ShoveBeds$Lane"
def TX2 : u_T := fun k => match k with
  | 0 => ("ShoveBeds$Lane", "places", "[I", true)
  | _ => ("ShoveBeds$Lane", "size", "I", false)
def tyX2 : Nat → FieldType := fun k => match k with
  | 0 => .array .int
  | _ => .int
abbrev wsX20 : List Cond := u_ws RX2 TX2 2
theorem nmX2 : ∀ a, a < 2 → ∀ b, b < 2 → a ≠ b → (TX2 a).2.1 ≠ (TX2 b).2.1 := by decide +kernel
theorem tyX2_ok : ∀ k, k < 2 → parseFieldDescriptor (TX2 k).2.2.1 = some (tyX2 k) := by decide +kernel
abbrev cX2_init : ByteArray := prog_4_method_1_code
def yX2_init : MethodName := ⟨RX2, "<init>", "()V"⟩
abbrev cX2_placeAt : ByteArray := prog_4_method_2_code
def yX2_placeAt : MethodName := ⟨RX2, "placeAt", "(I)I"⟩
abbrev cX2_move : ByteArray := prog_4_method_3_code
def yX2_move : MethodName := ⟨RX2, "move", "(II)V"⟩
abbrev cX2_clear : ByteArray := prog_4_method_4_code
def yX2_clear : MethodName := ⟨RX2, "clear", "()V"⟩
abbrev cX2_copyFrom : ByteArray := prog_4_method_5_code
def yX2_copyFrom : MethodName := ⟨RX2, "copyFrom", "(LShoveBeds$Lane;)V"⟩
abbrev cX2_insert : ByteArray := prog_4_method_6_code
def yX2_insert : MethodName := ⟨RX2, "insert", "(I)Z"⟩
abbrev cX2_insertAt : ByteArray := prog_4_method_7_code
def yX2_insertAt : MethodName := ⟨RX2, "insertAt", "(II)V"⟩
abbrev cX2_removeFirst : ByteArray := prog_4_method_8_code
def yX2_removeFirst : MethodName := ⟨RX2, "removeFirst", "()V"⟩
abbrev cX2_removeLast : ByteArray := prog_4_method_9_code
def yX2_removeLast : MethodName := ⟨RX2, "removeLast", "()V"⟩
abbrev cX2_cleanIn : ByteArray := prog_4_method_10_code
def yX2_cleanIn : MethodName := ⟨RX2, "cleanIn", "(I)I"⟩
abbrev cX2_cleanCoins : ByteArray := prog_4_method_11_code
def yX2_cleanCoins : MethodName := ⟨RX2, "cleanCoins", "()I"⟩
abbrev cX2_addClean : ByteArray := prog_4_method_12_code
def yX2_addClean : MethodName := ⟨RX2, "addClean", "([I)V"⟩
def RX3 : String := "ShoveBeds$Lanes"
def TX3 : u_T := fun k => match k with
  | 0 => ("ShoveBeds$Lanes", "first", "LShoveBeds$Lane;", true)
  | 1 => ("ShoveBeds$Lanes", "second", "LShoveBeds$Lane;", true)
  | _ => ("ShoveBeds$Lanes", "third", "LShoveBeds$Lane;", true)
def tyX3 : Nat → FieldType := fun k => match k with
  | 0 => .object "ShoveBeds$Lane"
  | 1 => .object "ShoveBeds$Lane"
  | _ => .object "ShoveBeds$Lane"
abbrev wsX30 : List Cond := u_ws RX3 TX3 3
theorem nmX3 : ∀ a, a < 3 → ∀ b, b < 3 → a ≠ b → (TX3 a).2.1 ≠ (TX3 b).2.1 := by decide +kernel
theorem tyX3_ok : ∀ k, k < 3 → parseFieldDescriptor (TX3 k).2.2.1 = some (tyX3 k) := by decide +kernel
abbrev cX3_init : ByteArray := prog_5_method_1_code
def yX3_init : MethodName := ⟨RX3, "<init>", "()V"⟩
abbrev cX3_lane : ByteArray := prog_5_method_2_code
def yX3_lane : MethodName := ⟨RX3, "lane", "(I)LShoveBeds$Lane;"⟩
abbrev cX3_clear : ByteArray := prog_5_method_3_code
def yX3_clear : MethodName := ⟨RX3, "clear", "()V"⟩
abbrev cX3_copyFrom : ByteArray := prog_5_method_4_code
def yX3_copyFrom : MethodName := ⟨RX3, "copyFrom", "(LShoveBeds$Lanes;)V"⟩
abbrev cX3_coins : ByteArray := prog_5_method_5_code
def yX3_coins : MethodName := ⟨RX3, "coins", "()I"⟩
abbrev cX3_cleanCoins : ByteArray := prog_5_method_6_code
def yX3_cleanCoins : MethodName := ⟨RX3, "cleanCoins", "()I"⟩
abbrev cX3_cleanIn : ByteArray := prog_5_method_7_code
def yX3_cleanIn : MethodName := ⟨RX3, "cleanIn", "(I)I"⟩
def RX4 : String := "ShoveBeds$SavedStates"
def TX4 : u_T := fun k => match k with
  | 0 => ("ShoveBeds$SavedStates", "states", "[LShoveBeds$Board;", true)
  | 1 => ("ShoveBeds$SavedStates", "oldest", "I", false)
  | _ => ("ShoveBeds$SavedStates", "size", "I", false)
def tyX4 : Nat → FieldType := fun k => match k with
  | 0 => .array (.object "ShoveBeds$Board")
  | 1 => .int
  | _ => .int
abbrev wsX40 : List Cond := u_ws RX4 TX4 3
theorem nmX4 : ∀ a, a < 3 → ∀ b, b < 3 → a ≠ b → (TX4 a).2.1 ≠ (TX4 b).2.1 := by decide +kernel
theorem tyX4_ok : ∀ k, k < 3 → parseFieldDescriptor (TX4 k).2.2.1 = some (tyX4 k) := by decide +kernel
abbrev cX4_init : ByteArray := prog_6_method_1_code
def yX4_init : MethodName := ⟨RX4, "<init>", "()V"⟩
abbrev cX4_add : ByteArray := prog_6_method_2_code
def yX4_add : MethodName := ⟨RX4, "add", "(LShoveBeds$Board;)V"⟩
abbrev cX4_takeLatest : ByteArray := prog_6_method_3_code
def yX4_takeLatest : MethodName := ⟨RX4, "takeLatest", "(LShoveBeds$Board;)V"⟩
abbrev cX4_stateAt : ByteArray := prog_6_method_4_code
def yX4_stateAt : MethodName := ⟨RX4, "stateAt", "(I)LShoveBeds$Board;"⟩
def RX5 : String := "ShoveBeds$Shove"
def TX5 : u_T := fun k => match k with
  | 0 => ("ShoveBeds$Shove", "lane", "LShoveBeds$Lane;", true)
  | 1 => ("ShoveBeds$Shove", "nudgeCost", "I", false)
  | 2 => ("ShoveBeds$Shove", "rank", "I", false)
  | 3 => ("ShoveBeds$Shove", "place", "I", false)
  | 4 => ("ShoveBeds$Shove", "left", "I", false)
  | 5 => ("ShoveBeds$Shove", "nudges", "I", false)
  | 6 => ("ShoveBeds$Shove", "fellOff", "Z", false)
  | _ => ("ShoveBeds$Shove", "takenBack", "Z", false)
def tyX5 : Nat → FieldType := fun k => match k with
  | 0 => .object "ShoveBeds$Lane"
  | 1 => .int
  | 2 => .int
  | 3 => .int
  | 4 => .int
  | 5 => .int
  | 6 => .boolean
  | _ => .boolean
abbrev wsX50 : List Cond := u_ws RX5 TX5 8
theorem nmX5 : ∀ a, a < 8 → ∀ b, b < 8 → a ≠ b → (TX5 a).2.1 ≠ (TX5 b).2.1 := by decide +kernel
theorem tyX5_ok : ∀ k, k < 8 → parseFieldDescriptor (TX5 k).2.2.1 = some (tyX5 k) := by decide +kernel
abbrev cX5_init : ByteArray := prog_7_method_1_code
def yX5_init : MethodName := ⟨RX5, "<init>", "()V"⟩
abbrev cX5_placeByPlace : ByteArray := prog_7_method_2_code
def yX5_placeByPlace : MethodName := ⟨RX5, "placeByPlace", "(LShoveBeds$Lane;II)V"⟩
abbrev cX5_coinByCoin : ByteArray := prog_7_method_3_code
def yX5_coinByCoin : MethodName := ⟨RX5, "coinByCoin", "(LShoveBeds$Lane;II)V"⟩
abbrev cX5_start : ByteArray := prog_7_method_4_code
def yX5_start : MethodName := ⟨RX5, "start", "(LShoveBeds$Lane;II)V"⟩
abbrev cX5_roomAhead : ByteArray := prog_7_method_5_code
def yX5_roomAhead : MethodName := ⟨RX5, "roomAhead", "()I"⟩
abbrev cX5_goOn : ByteArray := prog_7_method_6_code
def yX5_goOn : MethodName := ⟨RX5, "goOn", "(I)V"⟩
abbrev cX5_nudgeNext : ByteArray := prog_7_method_7_code
def yX5_nudgeNext : MethodName := ⟨RX5, "nudgeNext", "()V"⟩
abbrev cX5_finish : ByteArray := prog_7_method_8_code
def yX5_finish : MethodName := ⟨RX5, "finish", "()V"⟩
def RX6 : String := "ShoveBeds"
def TX6 : u_T := fun k => match k with
  | 0 => ("ShoveBeds", "board", "LShoveBeds$Board;", true)
  | 1 => ("ShoveBeds", "slots", "[LShoveBeds$Board;", true)
  | 2 => ("ShoveBeds", "saved", "LShoveBeds$SavedStates;", true)
  | 3 => ("ShoveBeds", "text", "LShoveBeds$CoinText;", true)
  | 4 => ("ShoveBeds", "shove", "LShoveBeds$Shove;", true)
  | 5 => ("ShoveBeds", "laid", "LShoveBeds$Lanes;", true)
  | _ => ("ShoveBeds", "cleanCoins", "[I", true)
def tyX6 : Nat → FieldType := fun k => match k with
  | 0 => .object "ShoveBeds$Board"
  | 1 => .array (.object "ShoveBeds$Board")
  | 2 => .object "ShoveBeds$SavedStates"
  | 3 => .object "ShoveBeds$CoinText"
  | 4 => .object "ShoveBeds$Shove"
  | 5 => .object "ShoveBeds$Lanes"
  | _ => .array .int
abbrev wsX60 : List Cond := u_ws RX6 TX6 7
theorem nmX6 : ∀ a, a < 7 → ∀ b, b < 7 → a ≠ b → (TX6 a).2.1 ≠ (TX6 b).2.1 := by decide +kernel
theorem tyX6_ok : ∀ k, k < 7 → parseFieldDescriptor (TX6 k).2.2.1 = some (tyX6 k) := by decide +kernel
abbrev cX6_init : ByteArray := prog_1_method_1_code
def yX6_init : MethodName := ⟨RX6, "<init>", "()V"⟩
abbrev cX6_push : ByteArray := prog_1_method_2_code
def yX6_push : MethodName := ⟨RX6, "push", "(II)I"⟩
abbrev cX6_endTurn : ByteArray := prog_1_method_3_code
def yX6_endTurn : MethodName := ⟨RX6, "endTurn", "()I"⟩
abbrev cX6_begin : ByteArray := prog_1_method_4_code
def yX6_begin : MethodName := ⟨RX6, "begin", "()I"⟩
abbrev cX6_set : ByteArray := prog_1_method_5_code
def yX6_set : MethodName := ⟨RX6, "set", "(I)I"⟩
abbrev cX6_append : ByteArray := prog_1_method_6_code
def yX6_append : MethodName := ⟨RX6, "append", "(I)I"⟩
abbrev cX6_clearBuffer : ByteArray := prog_1_method_7_code
def yX6_clearBuffer : MethodName := ⟨RX6, "clearBuffer", "()I"⟩
abbrev cX6_lay : ByteArray := prog_1_method_9_code
def yX6_lay : MethodName := ⟨RX6, "lay", "()I"⟩
abbrev cX6_undo : ByteArray := prog_1_method_12_code
def yX6_undo : MethodName := ⟨RX6, "undo", "()I"⟩
abbrev cX6_coin : ByteArray := prog_1_method_13_code
def yX6_coin : MethodName := ⟨RX6, "coin", "(II)I"⟩
abbrev cX6_bedOf : ByteArray := prog_1_method_14_code
def yX6_bedOf : MethodName := ⟨RX6, "bedOf", "(II)I"⟩
abbrev cX6_count : ByteArray := prog_1_method_15_code
def yX6_count : MethodName := ⟨RX6, "count", "(I)I"⟩
abbrev cX6_setting : ByteArray := prog_1_method_16_code
def yX6_setting : MethodName := ⟨RX6, "setting", "()I"⟩
abbrev cX6_ends : ByteArray := prog_1_method_17_code
def yX6_ends : MethodName := ⟨RX6, "ends", "(III)I"⟩
abbrev cX6_ifPushed : ByteArray := prog_1_method_18_code
def yX6_ifPushed : MethodName := ⟨RX6, "ifPushed", "(II)I"⟩
abbrev cX6_strengthFor : ByteArray := prog_1_method_19_code
def yX6_strengthFor : MethodName := ⟨RX6, "strengthFor", "(II)I"⟩
abbrev cX6_bestPush : ByteArray := prog_1_method_20_code
def yX6_bestPush : MethodName := ⟨RX6, "bestPush", "()I"⟩
abbrev cX6_fullness : ByteArray := prog_1_method_21_code
def yX6_fullness : MethodName := ⟨RX6, "fullness", "()D"⟩
abbrev cX6_tryPush : ByteArray := prog_1_method_28_code
def yX6_tryPush : MethodName := ⟨RX6, "tryPush", "(II)V"⟩
abbrev cX6_leadBehind : ByteArray := prog_1_method_29_code
def yX6_leadBehind : MethodName := ⟨RX6, "leadBehind", "(II)I"⟩
abbrev cX6_requireLane : ByteArray := prog_1_method_32_code
def yX6_requireLane : MethodName := ⟨RX6, "requireLane", "(I)V"⟩
abbrev cX6_requireBed : ByteArray := prog_1_method_33_code
def yX6_requireBed : MethodName := ⟨RX6, "requireBed", "(I)V"⟩
abbrev cX6_requireStrength : ByteArray := prog_1_method_34_code
def yX6_requireStrength : MethodName := ⟨RX6, "requireStrength", "(I)V"⟩
abbrev cX6_bedAt : ByteArray := prog_1_method_36_code
def yX6_bedAt : MethodName := ⟨RX6, "bedAt", "(I)I"⟩
def RX7 : String := "ShoveBedsModel"
def TX7 : u_T := fun k => match k with
  | _ => ("", "", "", false)
def tyX7 : Nat → FieldType := fun k => match k with
  | _ => .int
abbrev wsX70 : List Cond := u_ws RX7 TX7 0
theorem nmX7 : ∀ a, a < 0 → ∀ b, b < 0 → a ≠ b → (TX7 a).2.1 ≠ (TX7 b).2.1 := by decide +kernel
theorem tyX7_ok : ∀ k, k < 0 → parseFieldDescriptor (TX7 k).2.2.1 = some (tyX7 k) := by decide +kernel
def RJ9 : String := "java/lang/Math"
def TJ9 : u_T := fun k => match k with
  | _ => ("", "", "", false)
def tyJ9 : Nat → FieldType := fun k => match k with
  | _ => .int
abbrev wsJ90 : List Cond := u_ws RJ9 TJ9 0
theorem nmJ9 : ∀ a, a < 0 → ∀ b, b < 0 → a ≠ b → (TJ9 a).2.1 ≠ (TJ9 b).2.1 := by decide +kernel
theorem tyJ9_ok : ∀ k, k < 0 → parseFieldDescriptor (TJ9 k).2.2.1 = some (tyJ9 k) := by decide +kernel
abbrev cJ9_floorMod_7cf53 : ByteArray := prog_14_method_50_code
def yJ9_floorMod_7cf53 : MethodName := ⟨RJ9, "floorMod", "(II)I"⟩
abbrev cJ9_abs_0f7a4 : ByteArray := prog_14_method_59_code
def yJ9_abs_0f7a4 : MethodName := ⟨RJ9, "abs", "(I)I"⟩
abbrev cJ9_min_7cf53 : ByteArray := prog_14_method_69_code
def yJ9_min_7cf53 : MethodName := ⟨RJ9, "min", "(II)I"⟩
def RJ0 : String := "java/lang/String"
def TJ0 : u_T := fun k => match k with
  | _ => ("", "", "", false)
def tyJ0 : Nat → FieldType := fun k => match k with
  | _ => .int
abbrev wsJ00 : List Cond := u_ws RJ0 TJ0 0
theorem nmJ0 : ∀ a, a < 0 → ∀ b, b < 0 → a ≠ b → (TJ0 a).2.1 ≠ (TJ0 b).2.1 := by decide +kernel
theorem tyJ0_ok : ∀ k, k < 0 → parseFieldDescriptor (TJ0 k).2.2.1 = some (tyJ0 k) := by decide +kernel
def RL : String := "ShoveBedsLaw"
abbrev cL_at : ByteArray := method_2_code
def yL_at : MethodName := ⟨RL, "at", "([II)I"⟩
abbrev cL_low : ByteArray := method_3_code
def yL_low : MethodName := ⟨RL, "low", "(II)I"⟩
abbrev cL_push : ByteArray := method_4_code
def yL_push : MethodName := ⟨RL, "push", "(LShoveBeds;II)I"⟩
abbrev cL_set : ByteArray := method_5_code
def yL_set : MethodName := ⟨RL, "set", "(LShoveBeds;I)I"⟩
abbrev cL_append : ByteArray := method_6_code
def yL_append : MethodName := ⟨RL, "append", "(LShoveBeds;I)I"⟩
abbrev cL_lay : ByteArray := method_7_code
def yL_lay : MethodName := ⟨RL, "lay", "(LShoveBeds;)I"⟩
abbrev cL_undo : ByteArray := method_8_code
def yL_undo : MethodName := ⟨RL, "undo", "(LShoveBeds;)I"⟩
abbrev cL_coin : ByteArray := method_9_code
def yL_coin : MethodName := ⟨RL, "coin", "(LShoveBeds;II)I"⟩
abbrev cL_bedOf : ByteArray := method_10_code
def yL_bedOf : MethodName := ⟨RL, "bedOf", "(LShoveBeds;II)I"⟩
abbrev cL_count : ByteArray := method_11_code
def yL_count : MethodName := ⟨RL, "count", "(LShoveBeds;I)I"⟩
abbrev cL_ends : ByteArray := method_12_code
def yL_ends : MethodName := ⟨RL, "ends", "(LShoveBeds;III)I"⟩
abbrev cL_ifPushed : ByteArray := method_13_code
def yL_ifPushed : MethodName := ⟨RL, "ifPushed", "(LShoveBeds;II)I"⟩
abbrev cL_strengthFor : ByteArray := method_14_code
def yL_strengthFor : MethodName := ⟨RL, "strengthFor", "(LShoveBeds;II)I"⟩
abbrev cL_act : ByteArray := method_15_code
def yL_act : MethodName := ⟨RL, "act", "(LShoveBeds;II)I"⟩
abbrev cL_hangs : ByteArray := method_16_code
def yL_hangs : MethodName := ⟨RL, "hangs", "(LShoveBeds;)Z"⟩
abbrev cL_print : ByteArray := method_17_code
def yL_print : MethodName := ⟨RL, "print", "(LShoveBeds;)J"⟩
abbrev cL_pushes : ByteArray := method_18_code
def yL_pushes : MethodName := ⟨RL, "pushes", "(LShoveBeds;II)Z"⟩
abbrev cL_fills : ByteArray := method_19_code
def yL_fills : MethodName := ⟨RL, "fills", "(LShoveBeds;III)Z"⟩
abbrev cL_best : ByteArray := method_20_code
def yL_best : MethodName := ⟨RL, "best", "(LShoveBeds;II)Z"⟩
abbrev cL_chalks : ByteArray := method_21_code
def yL_chalks : MethodName := ⟨RL, "chalks", "(LShoveBeds;)Z"⟩
abbrev cL_law : ByteArray := code
def yL_law : MethodName := ⟨RL, "law", "([I)Z"⟩
def wsL_law0_r1 : List Cond := [Cond.classLink RL 11 RX6, Cond.instantiable RX6 7, Cond.initialized RX6, Cond.methodLink RL 119 yX6_init, Cond.instanceMethod yX6_init, Cond.code yX6_init cX6_init 1 none, Cond.methodLink RX6 3 objectInit, Cond.instanceMethod objectInit, Cond.code objectInit ⟨#[0xb1]⟩ 1 none, Cond.classLink RX6 9 RX0, Cond.instantiable RX0 11, Cond.initialized RX0, Cond.fieldLink RX6 12 "ShoveBeds" "board" "LShoveBeds$Board;", Cond.fieldLink RX6 16 "ShoveBeds" "slots" "[LShoveBeds$Board;", Cond.classLink RX6 20 RX4, Cond.instantiable RX4 3, Cond.initialized RX4, Cond.fieldLink RX6 23 "ShoveBeds" "saved" "LShoveBeds$SavedStates;", Cond.classLink RX6 27 RX1, Cond.instantiable RX1 2, Cond.initialized RX1, Cond.fieldLink RX6 30 "ShoveBeds" "text" "LShoveBeds$CoinText;", Cond.classLink RX6 34 RX5, Cond.instantiable RX5 8]
def wsL_law0_r2 : List Cond := [Cond.initialized RX5, Cond.fieldLink RX6 37 "ShoveBeds" "shove" "LShoveBeds$Shove;", Cond.classLink RX6 41 RX3, Cond.instantiable RX3 3, Cond.initialized RX3, Cond.fieldLink RX6 44 "ShoveBeds" "laid" "LShoveBeds$Lanes;", Cond.arrayClass .int, Cond.fieldLink RX6 48 "ShoveBeds" "cleanCoins" "[I", Cond.instanceMethod yX0_init, Cond.code yX0_init cX0_init 1 none, Cond.methodLink RX0 3 objectInit, Cond.classLink RX0 9 RX3, Cond.fieldLink RX0 12 "ShoveBeds$Board" "lanes" "LShoveBeds$Lanes;", Cond.fieldLink RX0 18 "ShoveBeds$Board" "chalks" "[I", Cond.fieldLink RX0 22 "ShoveBeds$Board" "nudgeCost" "I", Cond.instanceMethod yX3_init, Cond.code yX3_init cX3_init 1 none, Cond.methodLink RX3 1 objectInit, Cond.classLink RX3 7 RX2, Cond.instantiable RX2 2, Cond.initialized RX2, Cond.fieldLink RX3 10 "ShoveBeds$Lanes" "first" "LShoveBeds$Lane;", Cond.fieldLink RX3 16 "ShoveBeds$Lanes" "second" "LShoveBeds$Lane;", Cond.fieldLink RX3 19 "ShoveBeds$Lanes" "third" "LShoveBeds$Lane;"]
def wsL_law0_r3 : List Cond := [Cond.instanceMethod yX2_init, Cond.code yX2_init cX2_init 1 none, Cond.methodLink RX2 3 objectInit, Cond.fieldLink RX2 9 "ShoveBeds$Lane" "places" "[I", Cond.instanceMethod yX4_init, Cond.code yX4_init cX4_init 1 none, Cond.methodLink RX4 3 objectInit, Cond.classLink RX4 9 RX0, Cond.fieldLink RX4 11 "ShoveBeds$SavedStates" "states" "[LShoveBeds$Board;", Cond.instanceMethod yX1_init, Cond.code yX1_init cX1_init 1 none, Cond.methodLink RX1 3 objectInit, Cond.fieldLink RX1 9 "ShoveBeds$CoinText" "codes" "[I", Cond.instanceMethod yX5_init, Cond.code yX5_init cX5_init 1 none, Cond.methodLink RX5 3 objectInit, Cond.classLink RX5 9 RX2, Cond.fieldLink RX5 12 "ShoveBeds$Shove" "lane" "LShoveBeds$Lane;", Cond.methodLink RL 108 yL_hangs, Cond.static yL_hangs, Cond.initialized RL, Cond.code yL_hangs cL_hangs 15 (some .boolean), Cond.constantDouble RL 92 (4632796641680687104), Cond.methodLink RL 82 yL_coin]
def wsL_law0_r4 : List Cond := [Cond.static yL_coin, Cond.codeWith yL_coin cL_coin 4 (some .int) [(0, 6, 7, 16), (0, 6, 11, 19)], Cond.classLink RL 16 "java/lang/IndexOutOfBoundsException", Cond.classLink RL 19 "java/lang/IllegalArgumentException", Cond.constant RL 18 (-1000001), Cond.constant RL 21 (-1000002), Cond.methodLink RL 38 yX6_coin, Cond.instanceMethod yX6_coin, Cond.selects RX6 yX6_coin yX6_coin, Cond.code yX6_coin cX6_coin 3 (some .int), Cond.classLink RX6 105 "java/lang/IllegalArgumentException", Cond.initialized "java/lang/IllegalArgumentException", Cond.methodLink RX6 52 yX6_requireLane, Cond.static yX6_requireLane, Cond.code yX6_requireLane cX6_requireLane 1 none, Cond.classLink RX6 313 "java/lang/IndexOutOfBoundsException", Cond.initialized "java/lang/IndexOutOfBoundsException", Cond.instanceMethod yX3_lane, Cond.selects RX3 yX3_lane yX3_lane, Cond.code yX3_lane cX3_lane 2 (some (.object "ShoveBeds$Lane")), Cond.instanceMethod yX2_placeAt, Cond.selects RX2 yX2_placeAt yX2_placeAt, Cond.code yX2_placeAt cX2_placeAt 2 (some .int), Cond.fieldLink RX2 15 "ShoveBeds$Lane" "size" "I"]
def wsL_law0_r5 : List Cond := [Cond.methodLink RL 84 yL_bedOf, Cond.static yL_bedOf, Cond.codeWith yL_bedOf cL_bedOf 4 (some .int) [(0, 6, 7, 16), (0, 6, 11, 19)], Cond.methodLink RL 41 yX6_bedOf, Cond.instanceMethod yX6_bedOf, Cond.selects RX6 yX6_bedOf yX6_bedOf, Cond.code yX6_bedOf cX6_bedOf 4 (some .int), Cond.methodLink RX6 180 yX6_requireBed, Cond.static yX6_requireBed, Cond.code yX6_requireBed cX6_requireBed 1 none, Cond.instanceMethod yX3_cleanIn, Cond.selects RX3 yX3_cleanIn yX3_cleanIn, Cond.code yX3_cleanIn cX3_cleanIn 2 (some .int), Cond.instanceMethod yX2_cleanIn, Cond.selects RX2 yX2_cleanIn yX2_cleanIn, Cond.code yX2_cleanIn cX2_cleanIn 4 (some .int), Cond.static yX6_bedAt, Cond.code yX6_bedAt cX6_bedAt 3 (some .int), Cond.instanceMethod yX0_chalksIn, Cond.selects RX0 yX0_chalksIn yX0_chalksIn, Cond.code yX0_chalksIn cX0_chalksIn 4 (some .int), Cond.instanceMethod yX0_ownGain, Cond.selects RX0 yX0_ownGain yX0_ownGain, Cond.code yX0_ownGain cX0_ownGain 3 (some .int)]
def wsL_law0_r6 : List Cond := [Cond.fieldLink RX0 30 "ShoveBeds$Board" "player" "I", Cond.methodLink RX0 99 Lib.Math.min.name, Cond.static Lib.Math.min.name, Cond.initialized "java/lang/Math", Cond.code Lib.Math.min.name Lib.Math.min.code 2 (some .int), Cond.methodLink RX0 96 yX0_chalksIn, Cond.instanceMethod yX0_otherGain, Cond.selects RX0 yX0_otherGain yX0_otherGain, Cond.code yX0_otherGain cX0_otherGain 3 (some .int), Cond.methodLink RX0 81 yX0_ownGain, Cond.methodLink RL 86 yL_count, Cond.static yL_count, Cond.codeWith yL_count cL_count 3 (some .int) [(0, 5, 6, 19)], Cond.methodLink RL 44 yX6_count, Cond.instanceMethod yX6_count, Cond.selects RX6 yX6_count yX6_count, Cond.code yX6_count cX6_count 2 (some .int), Cond.instanceMethod yX3_coins, Cond.selects RX3 yX3_coins yX3_coins, Cond.code yX3_coins cX3_coins 1 (some .int), Cond.instanceMethod yX3_cleanCoins, Cond.selects RX3 yX3_cleanCoins yX3_cleanCoins, Cond.code yX3_cleanCoins cX3_cleanCoins 1 (some .int), Cond.instanceMethod yX2_cleanCoins]
def wsL_law0_r7 : List Cond := [Cond.selects RX2 yX2_cleanCoins yX2_cleanCoins, Cond.code yX2_cleanCoins cX2_cleanCoins 3 (some .int), Cond.instanceMethod yX0_chalksOf, Cond.selects RX0 yX0_chalksOf yX0_chalksOf, Cond.code yX0_chalksOf cX0_chalksOf 4 (some .int), Cond.methodLink RL 88 yX6_fullness, Cond.instanceMethod yX6_fullness, Cond.selects RX6 yX6_fullness yX6_fullness, Cond.code yX6_fullness cX6_fullness 1 (some .double), Cond.constantDouble RX6 241 (4632796641680687104), Cond.instanceMethod yX0_allChalks, Cond.selects RX0 yX0_allChalks yX0_allChalks, Cond.code yX0_allChalks cX0_allChalks 1 (some .int), Cond.methodLink RX0 104 yX0_chalksOf, Cond.methodLink RL 120 yL_pushes, Cond.static yL_pushes, Cond.code yL_pushes cL_pushes 19 (some .boolean), Cond.methodLink RL 99 yL_print, Cond.static yL_print, Cond.code yL_print cL_print 4 (some .long), Cond.constantLong RL 97 (31), Cond.methodLink RL 94 yX6_setting, Cond.instanceMethod yX6_setting, Cond.selects RX6 yX6_setting yX6_setting]
def wsL_law0_r8 : List Cond := [Cond.code yX6_setting cX6_setting 1 (some .int), Cond.methodLink RL 103 yL_ends, Cond.static yL_ends, Cond.codeWith yL_ends cL_ends 5 (some .int) [(0, 7, 8, 16), (0, 7, 13, 19)], Cond.methodLink RL 47 yX6_ends, Cond.instanceMethod yX6_ends, Cond.selects RX6 yX6_ends yX6_ends, Cond.code yX6_ends cX6_ends 4 (some .int), Cond.methodLink RX6 56 yX6_requireStrength, Cond.static yX6_requireStrength, Cond.code yX6_requireStrength cX6_requireStrength 1 none, Cond.instanceMethod yX5_placeByPlace, Cond.selects RX5 yX5_placeByPlace yX5_placeByPlace, Cond.code yX5_placeByPlace cX5_placeByPlace 6 none, Cond.fieldLink RX5 22 "ShoveBeds$Shove" "left" "I", Cond.methodLink RX5 18 yX5_start, Cond.instanceMethod yX5_start, Cond.selects RX5 yX5_start yX5_start, Cond.code yX5_start cX5_start 4 none, Cond.fieldLink RX5 54 "ShoveBeds$Shove" "nudgeCost" "I", Cond.fieldLink RX5 57 "ShoveBeds$Shove" "rank" "I", Cond.fieldLink RX5 60 "ShoveBeds$Shove" "place" "I", Cond.fieldLink RX5 63 "ShoveBeds$Shove" "nudges" "I", Cond.instanceMethod yX2_copyFrom]
def wsL_law0_r9 : List Cond := [Cond.selects RX2 yX2_copyFrom yX2_copyFrom, Cond.code yX2_copyFrom cX2_copyFrom 3 none, Cond.instanceMethod yX2_insertAt, Cond.selects RX2 yX2_insertAt yX2_insertAt, Cond.code yX2_insertAt cX2_insertAt 4 none, Cond.methodLink RX5 26 yX5_roomAhead, Cond.instanceMethod yX5_roomAhead, Cond.selects RX5 yX5_roomAhead yX5_roomAhead, Cond.code yX5_roomAhead cX5_roomAhead 2 (some .int), Cond.methodLink RX5 30 yX5_goOn, Cond.instanceMethod yX5_goOn, Cond.selects RX5 yX5_goOn yX5_goOn, Cond.code yX5_goOn cX5_goOn 2 none, Cond.methodLink RX5 34 yX5_nudgeNext, Cond.instanceMethod yX5_nudgeNext, Cond.selects RX5 yX5_nudgeNext yX5_nudgeNext, Cond.code yX5_nudgeNext cX5_nudgeNext 1 none, Cond.instanceMethod yX2_move, Cond.selects RX2 yX2_move yX2_move, Cond.code yX2_move cX2_move 3 none, Cond.methodLink RX5 37 yX5_finish, Cond.instanceMethod yX5_finish, Cond.selects RX5 yX5_finish yX5_finish, Cond.code yX5_finish cX5_finish 1 none]
def wsL_law0_r10 : List Cond := [Cond.fieldLink RX5 76 "ShoveBeds$Shove" "fellOff" "Z", Cond.fieldLink RX5 83 "ShoveBeds$Shove" "takenBack" "Z", Cond.instanceMethod yX2_removeLast, Cond.selects RX2 yX2_removeLast yX2_removeLast, Cond.code yX2_removeLast cX2_removeLast 1 none, Cond.instanceMethod yX2_removeFirst, Cond.selects RX2 yX2_removeFirst yX2_removeFirst, Cond.code yX2_removeFirst cX2_removeFirst 2 none, Cond.methodLink RX6 226 yX6_tryPush, Cond.instanceMethod yX6_tryPush, Cond.selects RX6 yX6_tryPush yX6_tryPush, Cond.code yX6_tryPush cX6_tryPush 3 none, Cond.instanceMethod yX5_coinByCoin, Cond.selects RX5 yX5_coinByCoin yX5_coinByCoin, Cond.code yX5_coinByCoin cX5_coinByCoin 5 none, Cond.methodLink RX5 40 Lib.Math.min.name, Cond.methodLink RL 106 yL_ifPushed, Cond.static yL_ifPushed, Cond.codeWith yL_ifPushed cL_ifPushed 4 (some .int) [(0, 6, 7, 16), (0, 6, 11, 19)], Cond.methodLink RL 51 yX6_ifPushed, Cond.instanceMethod yX6_ifPushed, Cond.selects RX6 yX6_ifPushed yX6_ifPushed, Cond.code yX6_ifPushed cX6_ifPushed 4 (some .int), Cond.methodLink RL 79 yL_push]
def wsL_law0_r11 : List Cond := [Cond.static yL_push, Cond.codeWith yL_push cL_push 4 (some .int) [(0, 6, 7, 16), (0, 6, 11, 19)], Cond.methodLink RL 10 yX6_push, Cond.instanceMethod yX6_push, Cond.selects RX6 yX6_push yX6_push, Cond.code yX6_push cX6_push 3 (some .int), Cond.instanceMethod yX4_add, Cond.selects RX4 yX4_add yX4_add, Cond.code yX4_add cX4_add 3 none, Cond.fieldLink RX4 17 "ShoveBeds$SavedStates" "oldest" "I", Cond.fieldLink RX4 21 "ShoveBeds$SavedStates" "size" "I", Cond.methodLink RX4 24 yX4_stateAt, Cond.instanceMethod yX4_stateAt, Cond.selects RX4 yX4_stateAt yX4_stateAt, Cond.code yX4_stateAt cX4_stateAt 4 (some (.object "ShoveBeds$Board")), Cond.methodLink RX4 32 yJ9_floorMod_7cf53, Cond.static yJ9_floorMod_7cf53, Cond.initialized RJ9, Cond.code yJ9_floorMod_7cf53 cJ9_floorMod_7cf53 3 (some .int), Cond.instanceMethod yX0_copyFrom, Cond.selects RX0 yX0_copyFrom yX0_copyFrom, Cond.code yX0_copyFrom cX0_copyFrom 3 none, Cond.fieldLink RX0 33 "ShoveBeds$Board" "pushes" "I", Cond.fieldLink RX0 36 "ShoveBeds$Board" "winner" "I"]
def wsL_law0_r12 : List Cond := [Cond.fieldLink RX0 39 "ShoveBeds$Board" "turns" "I", Cond.fieldLink RX0 42 "ShoveBeds$Board" "fellOff" "I", Cond.fieldLink RX0 45 "ShoveBeds$Board" "takenBack" "I", Cond.fieldLink RX0 48 "ShoveBeds$Board" "nudges" "I", Cond.fieldLink RX0 51 "ShoveBeds$Board" "refused" "I", Cond.instanceMethod yX3_copyFrom, Cond.selects RX3 yX3_copyFrom yX3_copyFrom, Cond.code yX3_copyFrom cX3_copyFrom 2 none, Cond.instanceMethod yX0_isOver, Cond.selects RX0 yX0_isOver yX0_isOver, Cond.code yX0_isOver cX0_isOver 1 (some .boolean), Cond.instanceMethod yX0_refuse, Cond.selects RX0 yX0_refuse yX0_refuse, Cond.code yX0_refuse cX0_refuse 1 (some .int), Cond.instanceMethod yX0_takeOver, Cond.selects RX0 yX0_takeOver yX0_takeOver, Cond.code yX0_takeOver cX0_takeOver 3 none, Cond.instanceMethod yX0_closeTurn, Cond.selects RX0 yX0_closeTurn yX0_closeTurn, Cond.code yX0_closeTurn cX0_closeTurn 6 (some .int), Cond.methodLink RX0 85 yX0_otherGain, Cond.methodLink RX0 88 yX0_addChalks, Cond.instanceMethod yX0_addChalks, Cond.selects RX0 yX0_addChalks yX0_addChalks]
def wsL_law0_r13 : List Cond := [Cond.code yX0_addChalks cX0_addChalks 5 none, Cond.instanceMethod yX3_clear, Cond.selects RX3 yX3_clear yX3_clear, Cond.code yX3_clear cX3_clear 1 none, Cond.instanceMethod yX2_clear, Cond.selects RX2 yX2_clear yX2_clear, Cond.code yX2_clear cX2_clear 1 none, Cond.methodLink RX0 92 yX0_hasAllBeds, Cond.instanceMethod yX0_hasAllBeds, Cond.selects RX0 yX0_hasAllBeds yX0_hasAllBeds, Cond.code yX0_hasAllBeds cX0_hasAllBeds 2 (some .boolean), Cond.methodLink RL 112 yL_undo, Cond.static yL_undo, Cond.codeWith yL_undo cL_undo 2 (some .int) [(0, 4, 5, 29)], Cond.classLink RL 29 "java/lang/IllegalStateException", Cond.methodLink RL 35 yX6_undo, Cond.instanceMethod yX6_undo, Cond.selects RX6 yX6_undo yX6_undo, Cond.code yX6_undo cX6_undo 1 (some .int), Cond.classLink RX6 117 "java/lang/IllegalStateException", Cond.initialized "java/lang/IllegalStateException", Cond.instanceMethod yX4_takeLatest, Cond.selects RX4 yX4_takeLatest yX4_takeLatest, Cond.code yX4_takeLatest cX4_takeLatest 2 none]
def wsL_law0_r14 : List Cond := [Cond.methodLink RL 124 yL_at, Cond.static yL_at, Cond.code yL_at cL_at 2 (some .int), Cond.constant RL 7 (1063353747), Cond.constant RL 8 (726495105), Cond.methodLink RL 128 yL_act, Cond.static yL_act, Cond.code yL_act cL_act 6 (some .int), Cond.methodLink RL 57 yL_low, Cond.static yL_low, Cond.code yL_low cL_low 2 (some .int), Cond.constant RL 9 (2147483647), Cond.methodLink RL 62 yX6_clearBuffer, Cond.instanceMethod yX6_clearBuffer, Cond.selects RX6 yX6_clearBuffer yX6_clearBuffer, Cond.code yX6_clearBuffer cX6_clearBuffer 2 (some .int), Cond.instanceMethod yX1_clear, Cond.selects RX1 yX1_clear yX1_clear, Cond.code yX1_clear cX1_clear 1 none, Cond.fieldLink RX1 15 "ShoveBeds$CoinText" "length" "I", Cond.methodLink RL 65 yL_append, Cond.static yL_append, Cond.codeWith yL_append cL_append 3 (some .int) [(0, 5, 6, 19), (0, 5, 10, 29)], Cond.methodLink RL 26 yX6_append]
def wsL_law0_r15 : List Cond := [Cond.instanceMethod yX6_append, Cond.selects RX6 yX6_append yX6_append, Cond.code yX6_append cX6_append 2 (some .int), Cond.instanceMethod yX1_isFull, Cond.selects RX1 yX1_isFull yX1_isFull, Cond.code yX1_isFull cX1_isFull 1 (some .boolean), Cond.instanceMethod yX1_add, Cond.selects RX1 yX1_add yX1_add, Cond.code yX1_add cX1_add 2 none, Cond.methodLink RL 68 yL_lay, Cond.static yL_lay, Cond.codeWith yL_lay cL_lay 2 (some .int) [(0, 4, 5, 19)], Cond.methodLink RL 31 yX6_lay, Cond.instanceMethod yX6_lay, Cond.selects RX6 yX6_lay yX6_lay, Cond.code yX6_lay cX6_lay 2 (some .int), Cond.instanceMethod yX1_isWhole, Cond.selects RX1 yX1_isWhole yX1_isWhole, Cond.code yX1_isWhole cX1_isWhole 3 (some .boolean), Cond.methodLink RX1 19 yX1_codeAt, Cond.instanceMethod yX1_codeAt, Cond.selects RX1 yX1_codeAt yX1_codeAt, Cond.code yX1_codeAt cX1_codeAt 2 (some .int), Cond.methodLink RX1 23 yX1_next]
def wsL_law0_r16 : List Cond := [Cond.static yX1_next, Cond.code yX1_next cX1_next 2 (some .int), Cond.methodLink RX1 27 yX1_isDigit, Cond.static yX1_isDigit, Cond.code yX1_isDigit cX1_isDigit 1 (some .boolean), Cond.instanceMethod yX1_putOn, Cond.selects RX1 yX1_putOn yX1_putOn, Cond.code yX1_putOn cX1_putOn 7 (some .boolean), Cond.instanceMethod yX2_insert, Cond.selects RX2 yX2_insert yX2_insert, Cond.code yX2_insert cX2_insert 4 (some .boolean), Cond.methodLink RX2 19 Lib.Math.abs.name, Cond.static Lib.Math.abs.name, Cond.code Lib.Math.abs.name Lib.Math.abs.code 1 (some .int), Cond.methodLink RX2 25 yX2_insertAt, Cond.methodLink RL 71 yL_set, Cond.static yL_set, Cond.codeWith yL_set cL_set 3 (some .int) [(0, 5, 6, 19)], Cond.methodLink RL 22 yX6_set, Cond.instanceMethod yX6_set, Cond.selects RX6 yX6_set yX6_set, Cond.code yX6_set cX6_set 3 (some .int), Cond.methodLink RL 73 yX6_begin, Cond.instanceMethod yX6_begin]
def wsL_law0_r17 : List Cond := [Cond.selects RX6 yX6_begin yX6_begin, Cond.code yX6_begin cX6_begin 2 (some .int), Cond.instanceMethod yX0_restart, Cond.selects RX0 yX0_restart yX0_restart, Cond.code yX0_restart cX0_restart 2 none, Cond.methodLink RL 76 yX6_endTurn, Cond.instanceMethod yX6_endTurn, Cond.selects RX6 yX6_endTurn yX6_endTurn, Cond.code yX6_endTurn cX6_endTurn 1 (some .int), Cond.methodLink RL 131 yL_fills, Cond.static yL_fills, Cond.code yL_fills cL_fills 10 (some .boolean), Cond.methodLink RL 114 yL_strengthFor, Cond.static yL_strengthFor, Cond.codeWith yL_strengthFor cL_strengthFor 4 (some .int) [(0, 6, 7, 16)], Cond.methodLink RL 54 yX6_strengthFor, Cond.instanceMethod yX6_strengthFor, Cond.selects RX6 yX6_strengthFor yX6_strengthFor, Cond.code yX6_strengthFor cX6_strengthFor 5 (some .int), Cond.methodLink RL 135 yL_chalks, Cond.static yL_chalks, Cond.code yL_chalks cL_chalks 7 (some .boolean), Cond.methodLink RL 138 yL_best, Cond.static yL_best]
def wsL_law0_r18 : List Cond := [Cond.code yL_best cL_best 10 (some .boolean), Cond.methodLink RL 116 yX6_bestPush, Cond.instanceMethod yX6_bestPush, Cond.selects RX6 yX6_bestPush yX6_bestPush, Cond.code yX6_bestPush cX6_bestPush 6 (some .int), Cond.methodLink RX6 238 yX6_leadBehind, Cond.instanceMethod yX6_leadBehind, Cond.selects RX6 yX6_leadBehind yX6_leadBehind, Cond.code yX6_leadBehind cX6_leadBehind 5 (some .int), Cond.instanceMethod yX2_addClean, Cond.selects RX2 yX2_addClean yX2_addClean, Cond.code yX2_addClean cX2_addClean 4 none, Cond.instanceMethod yX0_leadFor, Cond.selects RX0 yX0_leadFor yX0_leadFor, Cond.code yX0_leadFor cX0_leadFor 4 (some .int)]
def wsL_law0 : List Cond := (wsL_law0_r1 ++ (wsL_law0_r2 ++ (wsL_law0_r3 ++ (wsL_law0_r4 ++ (wsL_law0_r5 ++ (wsL_law0_r6 ++ (wsL_law0_r7 ++ (wsL_law0_r8 ++ (wsL_law0_r9 ++ (wsL_law0_r10 ++ (wsL_law0_r11 ++ (wsL_law0_r12 ++ (wsL_law0_r13 ++ (wsL_law0_r14 ++ (wsL_law0_r15 ++ (wsL_law0_r16 ++ (wsL_law0_r17 ++ wsL_law0_r18))))))))))))))))) ++ wsX60 ++ wsX00 ++ wsX40 ++ wsX10 ++ wsX50 ++ wsX30 ++ wsX20 ++ ([] : List Cond)
def wsL_law : List Cond := wsL_law0 ++ (vx_atS RX6 109 "java/lang/IllegalArgumentException" ["java/lang/RuntimeException", "java/lang/Exception"]).filter goodWord ++ (vx_atS RX6 317 "java/lang/IndexOutOfBoundsException" ["java/lang/RuntimeException", "java/lang/Exception"]).filter goodWord ++ (vx_atS RX6 121 "java/lang/IllegalStateException" ["java/lang/RuntimeException", "java/lang/Exception"]).filter goodWord
theorem inlX0 : ∀ w ∈ wsX00, w ∈ wsL_law := fun _ h => List.mem_append_left _ (List.mem_append_left _ (List.mem_append_left _ (List.mem_append_left _ (List.mem_append_left _ (List.mem_append_left _ (List.mem_append_left _ (List.mem_append_left _ (List.mem_append_left _ (List.mem_append_right _ h)))))))))
theorem inlX1 : ∀ w ∈ wsX10, w ∈ wsL_law := fun _ h => List.mem_append_left _ (List.mem_append_left _ (List.mem_append_left _ (List.mem_append_left _ (List.mem_append_left _ (List.mem_append_left _ (List.mem_append_left _ (List.mem_append_right _ h)))))))
theorem inlX2 : ∀ w ∈ wsX20, w ∈ wsL_law := fun _ h => List.mem_append_left _ (List.mem_append_left _ (List.mem_append_left _ (List.mem_append_left _ (List.mem_append_right _ h))))
theorem inlX3 : ∀ w ∈ wsX30, w ∈ wsL_law := fun _ h => List.mem_append_left _ (List.mem_append_left _ (List.mem_append_left _ (List.mem_append_left _ (List.mem_append_left _ (List.mem_append_right _ h)))))
theorem inlX4 : ∀ w ∈ wsX40, w ∈ wsL_law := fun _ h => List.mem_append_left _ (List.mem_append_left _ (List.mem_append_left _ (List.mem_append_left _ (List.mem_append_left _ (List.mem_append_left _ (List.mem_append_left _ (List.mem_append_left _ (List.mem_append_right _ h))))))))
theorem inlX5 : ∀ w ∈ wsX50, w ∈ wsL_law := fun _ h => List.mem_append_left _ (List.mem_append_left _ (List.mem_append_left _ (List.mem_append_left _ (List.mem_append_left _ (List.mem_append_left _ (List.mem_append_right _ h))))))
theorem inlX6 : ∀ w ∈ wsX60, w ∈ wsL_law := fun _ h => List.mem_append_left _ (List.mem_append_left _ (List.mem_append_left _ (List.mem_append_left _ (List.mem_append_left _ (List.mem_append_left _ (List.mem_append_left _ (List.mem_append_left _ (List.mem_append_left _ (List.mem_append_left _ (List.mem_append_right _ h))))))))))
theorem inJ9 : ∀ w ∈ wsJ90, w ∈ lw_tbl := by decide +kernel
theorem inJ0 : ∀ w ∈ wsJ00, w ∈ lw_tbl := by decide +kernel
abbrev vwCl : List vw_C := [(RX0, TX0, 11), (RX1, TX1, 2), (RX2, TX2, 2), (RX3, TX3, 3), (RX4, TX4, 3), (RX5, TX5, 8), (RX6, TX6, 7)]
