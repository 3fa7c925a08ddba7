theorem goodIn_r {big : List Cond} (ws : List Cond) (ps : List Nat) (hp : ws = ps.filterMap (fun i => big[i]?)) (h : ws.all goodWord = true) : GoodIn big ws := by
  intro w hw
  have h1 := List.all_eq_true.mp h w hw
  rw [hp] at hw
  obtain ⟨i, -, hi⟩ := List.mem_filterMap.mp hw
  have hm : w ∈ big := by first | exact List.mem_of_getElem? hi | exact List.getElem?_mem hi
  exact ⟨hm, good_of_word h1⟩
theorem goodIn_app {big a b : List Cond} (ha : GoodIn big a) (hb : GoodIn big b) : GoodIn big (a ++ b) := fun w h => (List.mem_append.mp h).elim (ha w) (hb w)
theorem goodIn_ca {big a b : List Cond} {c : Cond} (ha : GoodIn big (c :: a)) (hb : GoodIn big b) : GoodIn big (c :: (a ++ b)) := fun w h => (List.mem_cons.mp h).elim (fun e => ha w (List.mem_cons.mpr (Or.inl e))) (fun h => (List.mem_append.mp h).elim (fun h => ha w (List.mem_cons.mpr (Or.inr h))) (hb w))
theorem goodIn_sub {big ws : List Cond} (hm : ∀ w ∈ ws, w ∈ big) (h : ws.all goodWord = true) : GoodIn big ws := fun w hw => ⟨hm w hw, good_of_word (List.all_eq_true.mp h w hw)⟩
def RX0 : String := "LiftingStairs$Game"
def TX0 : u_T := fun k => match k with
  | 0 => ("LiftingStairs$Game", "lowerEnds", "[I", true)
  | 1 => ("LiftingStairs$Game", "landings", "[Z", true)
  | 2 => ("LiftingStairs$Game", "places", "[I", true)
  | 3 => ("LiftingStairs$Game", "tops", "[I", true)
  | 4 => ("LiftingStairs$Game", "rests", "[I", true)
  | 5 => ("LiftingStairs$Game", "timesLifted", "[I", true)
  | 6 => ("LiftingStairs$Game", "liftsMade", "[I", true)
  | 7 => ("LiftingStairs$Game", "slips", "[I", true)
  | 8 => ("LiftingStairs$Game", "top", "I", false)
  | 9 => ("LiftingStairs$Game", "climbers", "I", false)
  | 10 => ("LiftingStairs$Game", "mover", "I", false)
  | 11 => ("LiftingStairs$Game", "rolls", "I", false)
  | _ => ("LiftingStairs$Game", "turnsLeftOut", "I", false)
def tyX0 : Nat → FieldType := fun k => match k with
  | 0 => .array .int
  | 1 => .array .boolean
  | 2 => .array .int
  | 3 => .array .int
  | 4 => .array .int
  | 5 => .array .int
  | 6 => .array .int
  | 7 => .array .int
  | 8 => .int
  | 9 => .int
  | 10 => .int
  | 11 => .int
  | _ => .int
abbrev wsX00 : List Cond := u_ws RX0 TX0 13
theorem nmX0 : ∀ a, a < 13 → ∀ b, b < 13 → a ≠ b → (TX0 a).2.1 ≠ (TX0 b).2.1 := by decide +kernel
theorem tyX0_ok : ∀ k, k < 13 → parseFieldDescriptor (TX0 k).2.2.1 = some (tyX0 k) := by decide +kernel
abbrev cX0_init : ByteArray := prog_2_method_1_code
def yX0_init : MethodName := ⟨RX0, "<init>", "()V"⟩
abbrev cX0_copyFrom : ByteArray := prog_2_method_2_code
def yX0_copyFrom : MethodName := ⟨RX0, "copyFrom", "(LLiftingStairs$Game;)V"⟩
abbrev cX0_isBelowTop : ByteArray := prog_2_method_3_code
def yX0_isBelowTop : MethodName := ⟨RX0, "isBelowTop", "(I)Z"⟩
abbrev cX0_isClimber : ByteArray := prog_2_method_4_code
def yX0_isClimber : MethodName := ⟨RX0, "isClimber", "(I)Z"⟩
abbrev cX0_hasMover : ByteArray := prog_2_method_5_code
def yX0_hasMover : MethodName := ⟨RX0, "hasMover", "()Z"⟩
abbrev cX0_changeTop : ByteArray := prog_2_method_6_code
def yX0_changeTop : MethodName := ⟨RX0, "changeTop", "(I)I"⟩
abbrev cX0_layCarpet : ByteArray := prog_2_method_7_code
def yX0_layCarpet : MethodName := ⟨RX0, "layCarpet", "(II)I"⟩
abbrev cX0_takeCarpet : ByteArray := prog_2_method_8_code
def yX0_takeCarpet : MethodName := ⟨RX0, "takeCarpet", "(I)I"⟩
abbrev cX0_putLanding : ByteArray := prog_2_method_9_code
def yX0_putLanding : MethodName := ⟨RX0, "putLanding", "(I)I"⟩
abbrev cX0_removeLanding : ByteArray := prog_2_method_10_code
def yX0_removeLanding : MethodName := ⟨RX0, "removeLanding", "(I)I"⟩
abbrev cX0_addClimber : ByteArray := prog_2_method_11_code
def yX0_addClimber : MethodName := ⟨RX0, "addClimber", "()I"⟩
abbrev cX0_makeRoll : ByteArray := prog_2_method_12_code
def yX0_makeRoll : MethodName := ⟨RX0, "makeRoll", "(I)I"⟩
abbrev cX0_makePass : ByteArray := prog_2_method_13_code
def yX0_makePass : MethodName := ⟨RX0, "makePass", "()I"⟩
abbrev cX0_wouldLift : ByteArray := prog_2_method_14_code
def yX0_wouldLift : MethodName := ⟨RX0, "wouldLift", "(I)Z"⟩
abbrev cX0_isPassed : ByteArray := prog_2_method_15_code
def yX0_isPassed : MethodName := ⟨RX0, "isPassed", "(II)Z"⟩
abbrev cX0_liftThosePassed : ByteArray := prog_2_method_16_code
def yX0_liftThosePassed : MethodName := ⟨RX0, "liftThosePassed", "(I)V"⟩
abbrev cX0_comeTo : ByteArray := prog_2_method_17_code
def yX0_comeTo : MethodName := ⟨RX0, "comeTo", "(II)V"⟩
abbrev cX0_goToNextMover : ByteArray := prog_2_method_18_code
def yX0_goToNextMover : MethodName := ⟨RX0, "goToNextMover", "()V"⟩
abbrev cX0_behind : ByteArray := prog_2_method_19_code
def yX0_behind : MethodName := ⟨RX0, "behind", "(I)I"⟩
abbrev cX0_isLanding : ByteArray := prog_2_method_20_code
def yX0_isLanding : MethodName := ⟨RX0, "isLanding", "(I)Z"⟩
abbrev cX0_isUpperEnd : ByteArray := prog_2_method_21_code
def yX0_isUpperEnd : MethodName := ⟨RX0, "isUpperEnd", "(I)Z"⟩
abbrev cX0_climbersOn : ByteArray := prog_2_method_22_code
def yX0_climbersOn : MethodName := ⟨RX0, "climbersOn", "(I)I"⟩
abbrev cX0_countCarpets : ByteArray := prog_2_method_23_code
def yX0_countCarpets : MethodName := ⟨RX0, "countCarpets", "()I"⟩
abbrev cX0_countLandings : ByteArray := prog_2_method_24_code
def yX0_countLandings : MethodName := ⟨RX0, "countLandings", "()I"⟩
abbrev cX0_lowerEndsAt : ByteArray := prog_2_method_25_code
def yX0_lowerEndsAt : MethodName := ⟨RX0, "lowerEndsAt", "(I)I"⟩
abbrev cX0_partOfStep : ByteArray := prog_2_method_26_code
def yX0_partOfStep : MethodName := ⟨RX0, "partOfStep", "(II)I"⟩
abbrev cX0_partOfClimber : ByteArray := prog_2_method_27_code
def yX0_partOfClimber : MethodName := ⟨RX0, "partOfClimber", "(II)I"⟩
abbrev cX0_progressOf : ByteArray := prog_2_method_28_code
def yX0_progressOf : MethodName := ⟨RX0, "progressOf", "(I)I"⟩
abbrev cX0_totalOf : ByteArray := prog_2_method_29_code
def yX0_totalOf : MethodName := ⟨RX0, "totalOf", "(I)I"⟩
abbrev cX0_liftsOfAll : ByteArray := prog_2_method_30_code
def yX0_liftsOfAll : MethodName := ⟨RX0, "liftsOfAll", "()I"⟩
abbrev cX0_slipsOfAll : ByteArray := prog_2_method_31_code
def yX0_slipsOfAll : MethodName := ⟨RX0, "slipsOfAll", "()I"⟩
abbrev cX0_topsOfAll : ByteArray := prog_2_method_32_code
def yX0_topsOfAll : MethodName := ⟨RX0, "topsOfAll", "()I"⟩
abbrev cX0_sumOf : ByteArray := prog_2_method_33_code
def yX0_sumOf : MethodName := ⟨RX0, "sumOf", "([I)I"⟩
abbrev cX0_climberAtPlace : ByteArray := prog_2_method_34_code
def yX0_climberAtPlace : MethodName := ⟨RX0, "climberAtPlace", "(I)I"⟩
abbrev cX0_climbersAheadOf : ByteArray := prog_2_method_35_code
def yX0_climbersAheadOf : MethodName := ⟨RX0, "climbersAheadOf", "(I)I"⟩
abbrev cX0_fewestRollsOf : ByteArray := prog_2_method_36_code
def yX0_fewestRollsOf : MethodName := ⟨RX0, "fewestRollsOf", "(I)I"⟩
abbrev cX0_reachedWithOneMore : ByteArray := prog_2_method_37_code
def yX0_reachedWithOneMore : MethodName := ⟨RX0, "reachedWithOneMore", "(J)J"⟩
abbrev cX0_reachedFrom : ByteArray := prog_2_method_38_code
def yX0_reachedFrom : MethodName := ⟨RX0, "reachedFrom", "(I)J"⟩
def RX1 : String := "LiftingStairs$History"
def TX1 : u_T := fun k => match k with
  | 0 => ("LiftingStairs$History", "games", "[LLiftingStairs$Game;", true)
  | _ => ("LiftingStairs$History", "count", "I", false)
def tyX1 : Nat → FieldType := fun k => match k with
  | 0 => .array (.object "LiftingStairs$Game")
  | _ => .int
abbrev wsX10 : List Cond := u_ws RX1 TX1 2
theorem nmX1 : ∀ a, a < 2 → ∀ b, b < 2 → a ≠ b → (TX1 a).2.1 ≠ (TX1 b).2.1 := by decide +kernel
theorem tyX1_ok : ∀ k, k < 2 → parseFieldDescriptor (TX1 k).2.2.1 = some (tyX1 k) := by decide +kernel
abbrev cX1_init : ByteArray := prog_3_method_1_code
def yX1_init : MethodName := ⟨RX1, "<init>", "()V"⟩
abbrev cX1_isEmpty : ByteArray := prog_3_method_2_code
def yX1_isEmpty : MethodName := ⟨RX1, "isEmpty", "()Z"⟩
abbrev cX1_keep : ByteArray := prog_3_method_3_code
def yX1_keep : MethodName := ⟨RX1, "keep", "(LLiftingStairs$Game;)V"⟩
abbrev cX1_moveLatestTo : ByteArray := prog_3_method_4_code
def yX1_moveLatestTo : MethodName := ⟨RX1, "moveLatestTo", "(LLiftingStairs$Game;)I"⟩
abbrev cX1_makeOldestLast : ByteArray := prog_3_method_5_code
def yX1_makeOldestLast : MethodName := ⟨RX1, "makeOldestLast", "()V"⟩
def RX2 : String := "LiftingStairs$MoveText"
def TX2 : u_T := fun k => match k with
  | 0 => ("LiftingStairs$MoveText", "signs", "[C", true)
  | _ => ("LiftingStairs$MoveText", "length", "I", false)
def tyX2 : Nat → FieldType := fun k => match k with
  | 0 => .array .char
  | _ => .int
abbrev wsX20 : List Cond := u_ws RX2 TX2 2
theorem nmX2 : ∀ a, a < 2 → ∀ b, b < 2 → a ≠ b → (TX2 a).2.1 ≠ (TX2 b).2.1 := by decide +kernel
theorem tyX2_ok : ∀ k, k < 2 → parseFieldDescriptor (TX2 k).2.2.1 = some (tyX2 k) := by decide +kernel
abbrev cX2_init : ByteArray := prog_4_method_1_code
def yX2_init : MethodName := ⟨RX2, "<init>", "()V"⟩
abbrev cX2_addSign : ByteArray := prog_4_method_2_code
def yX2_addSign : MethodName := ⟨RX2, "addSign", "(I)I"⟩
abbrev cX2_dropAll : ByteArray := prog_4_method_3_code
def yX2_dropAll : MethodName := ⟨RX2, "dropAll", "()I"⟩
abbrev cX2_firstError : ByteArray := prog_4_method_4_code
def yX2_firstError : MethodName := ⟨RX2, "firstError", "()I"⟩
abbrev cX2_wantedBehind : ByteArray := prog_4_method_5_code
def yX2_wantedBehind : MethodName := ⟨RX2, "wantedBehind", "(IC)I"⟩
abbrev cX2_wantedBehindMoveStart : ByteArray := prog_4_method_6_code
def yX2_wantedBehindMoveStart : MethodName := ⟨RX2, "wantedBehindMoveStart", "(C)I"⟩
abbrev cX2_wantedBehindComma : ByteArray := prog_4_method_7_code
def yX2_wantedBehindComma : MethodName := ⟨RX2, "wantedBehindComma", "(C)I"⟩
abbrev cX2_wantedBehindArrow : ByteArray := prog_4_method_8_code
def yX2_wantedBehindArrow : MethodName := ⟨RX2, "wantedBehindArrow", "(C)I"⟩
abbrev cX2_wantedBehindNumberStart : ByteArray := prog_4_method_9_code
def yX2_wantedBehindNumberStart : MethodName := ⟨RX2, "wantedBehindNumberStart", "(CII)I"⟩
abbrev cX2_isDigit : ByteArray := prog_4_method_10_code
def yX2_isDigit : MethodName := ⟨RX2, "isDigit", "(C)Z"⟩
abbrev cX2_signAt : ByteArray := prog_4_method_11_code
def yX2_signAt : MethodName := ⟨RX2, "signAt", "(I)C"⟩
abbrev cX2_isMoveStart : ByteArray := prog_4_method_12_code
def yX2_isMoveStart : MethodName := ⟨RX2, "isMoveStart", "(I)Z"⟩
abbrev cX2_numberAt : ByteArray := prog_4_method_13_code
def yX2_numberAt : MethodName := ⟨RX2, "numberAt", "(I)I"⟩
abbrev cX2_behindArrow : ByteArray := prog_4_method_14_code
def yX2_behindArrow : MethodName := ⟨RX2, "behindArrow", "(I)I"⟩
def RX3 : String := "LiftingStairs"
def TX3 : u_T := fun k => match k with
  | 0 => ("LiftingStairs", "game", "LLiftingStairs$Game;", true)
  | 1 => ("LiftingStairs", "ahead", "LLiftingStairs$Game;", true)
  | 2 => ("LiftingStairs", "trial", "LLiftingStairs$Game;", true)
  | 3 => ("LiftingStairs", "saved", "LLiftingStairs$Game;", true)
  | 4 => ("LiftingStairs", "history", "LLiftingStairs$History;", true)
  | 5 => ("LiftingStairs", "text", "LLiftingStairs$MoveText;", true)
  | _ => ("LiftingStairs", "hasSaved", "Z", false)
def tyX3 : Nat → FieldType := fun k => match k with
  | 0 => .object "LiftingStairs$Game"
  | 1 => .object "LiftingStairs$Game"
  | 2 => .object "LiftingStairs$Game"
  | 3 => .object "LiftingStairs$Game"
  | 4 => .object "LiftingStairs$History"
  | 5 => .object "LiftingStairs$MoveText"
  | _ => .boolean
abbrev wsX30 : List Cond := u_ws RX3 TX3 7
theorem nmX3 : ∀ a, a < 7 → ∀ b, b < 7 → a ≠ b → (TX3 a).2.1 ≠ (TX3 b).2.1 := by decide +kernel
theorem tyX3_ok : ∀ k, k < 7 → parseFieldDescriptor (TX3 k).2.2.1 = some (tyX3 k) := by decide +kernel
abbrev cX3_init : ByteArray := prog_1_method_1_code
def yX3_init : MethodName := ⟨RX3, "<init>", "()V"⟩
abbrev cX3_setTop : ByteArray := prog_1_method_2_code
def yX3_setTop : MethodName := ⟨RX3, "setTop", "(I)I"⟩
abbrev cX3_lay : ByteArray := prog_1_method_3_code
def yX3_lay : MethodName := ⟨RX3, "lay", "(II)I"⟩
abbrev cX3_take : ByteArray := prog_1_method_4_code
def yX3_take : MethodName := ⟨RX3, "take", "(I)I"⟩
abbrev cX3_put : ByteArray := prog_1_method_5_code
def yX3_put : MethodName := ⟨RX3, "put", "(I)I"⟩
abbrev cX3_remove : ByteArray := prog_1_method_6_code
def yX3_remove : MethodName := ⟨RX3, "remove", "(I)I"⟩
abbrev cX3_join : ByteArray := prog_1_method_7_code
def yX3_join : MethodName := ⟨RX3, "join", "()I"⟩
abbrev cX3_roll : ByteArray := prog_1_method_8_code
def yX3_roll : MethodName := ⟨RX3, "roll", "(I)I"⟩
abbrev cX3_pass : ByteArray := prog_1_method_9_code
def yX3_pass : MethodName := ⟨RX3, "pass", "()I"⟩
abbrev cX3_climber : ByteArray := prog_1_method_10_code
def yX3_climber : MethodName := ⟨RX3, "climber", "(II)I"⟩
abbrev cX3_turn : ByteArray := prog_1_method_11_code
def yX3_turn : MethodName := ⟨RX3, "turn", "()I"⟩
abbrev cX3_on : ByteArray := prog_1_method_12_code
def yX3_on : MethodName := ⟨RX3, "on", "(I)I"⟩
abbrev cX3_step : ByteArray := prog_1_method_13_code
def yX3_step : MethodName := ⟨RX3, "step", "(II)I"⟩
abbrev cX3_total : ByteArray := prog_1_method_14_code
def yX3_total : MethodName := ⟨RX3, "total", "(I)I"⟩
abbrev cX3_rank : ByteArray := prog_1_method_15_code
def yX3_rank : MethodName := ⟨RX3, "rank", "(I)I"⟩
abbrev cX3_ifRolled : ByteArray := prog_1_method_16_code
def yX3_ifRolled : MethodName := ⟨RX3, "ifRolled", "(II)I"⟩
abbrev cX3_bestRoll : ByteArray := prog_1_method_17_code
def yX3_bestRoll : MethodName := ⟨RX3, "bestRoll", "()I"⟩
abbrev cX3_quietRolls : ByteArray := prog_1_method_18_code
def yX3_quietRolls : MethodName := ⟨RX3, "quietRolls", "()I"⟩
abbrev cX3_rollsToTop : ByteArray := prog_1_method_19_code
def yX3_rollsToTop : MethodName := ⟨RX3, "rollsToTop", "(I)I"⟩
abbrev cX3_append : ByteArray := prog_1_method_20_code
def yX3_append : MethodName := ⟨RX3, "append", "(I)I"⟩
abbrev cX3_clearText : ByteArray := prog_1_method_21_code
def yX3_clearText : MethodName := ⟨RX3, "clearText", "()I"⟩
abbrev cX3_errorPosition : ByteArray := prog_1_method_22_code
def yX3_errorPosition : MethodName := ⟨RX3, "errorPosition", "()I"⟩
abbrev cX3_play : ByteArray := prog_1_method_23_code
def yX3_play : MethodName := ⟨RX3, "play", "()I"⟩
abbrev cX3_undo : ByteArray := prog_1_method_24_code
def yX3_undo : MethodName := ⟨RX3, "undo", "()I"⟩
abbrev cX3_save : ByteArray := prog_1_method_25_code
def yX3_save : MethodName := ⟨RX3, "save", "()I"⟩
abbrev cX3_restore : ByteArray := prog_1_method_26_code
def yX3_restore : MethodName := ⟨RX3, "restore", "()I"⟩
abbrev cX3_recordUnlessError : ByteArray := prog_1_method_27_code
def yX3_recordUnlessError : MethodName := ⟨RX3, "recordUnlessError", "(I)I"⟩
abbrev cX3_rollInTrial : ByteArray := prog_1_method_28_code
def yX3_rollInTrial : MethodName := ⟨RX3, "rollInTrial", "(I)I"⟩
abbrev cX3_gainOfRoll : ByteArray := prog_1_method_29_code
def yX3_gainOfRoll : MethodName := ⟨RX3, "gainOfRoll", "(I)I"⟩
abbrev cX3_makeMovesOfText : ByteArray := prog_1_method_30_code
def yX3_makeMovesOfText : MethodName := ⟨RX3, "makeMovesOfText", "()I"⟩
abbrev cX3_makeMoveAt : ByteArray := prog_1_method_31_code
def yX3_makeMoveAt : MethodName := ⟨RX3, "makeMoveAt", "(I)I"⟩
abbrev cX3_isRoll : ByteArray := prog_1_method_32_code
def yX3_isRoll : MethodName := ⟨RX3, "isRoll", "(I)Z"⟩
def RX4 : String := "LiftingStairsModel"
def TX4 : u_T := fun k => match k with
  | 0 => ("LiftingStairsModel", "z", "[I", true)
  | 1 => ("LiftingStairsModel", "past", "[I", true)
  | 2 => ("LiftingStairsModel", "pastMany", "I", false)
  | 3 => ("LiftingStairsModel", "kept", "[I", true)
  | 4 => ("LiftingStairsModel", "isKept", "Z", false)
  | 5 => ("LiftingStairsModel", "aside", "[I", true)
  | 6 => ("LiftingStairsModel", "buffer", "[C", true)
  | 7 => ("LiftingStairsModel", "typed", "I", false)
  | 8 => ("LiftingStairsModel", "reached", "[I", true)
  | 9 => ("LiftingStairsModel", "told", "[I", true)
  | 10 => ("LiftingStairsModel", "toldMany", "I", false)
  | 11 => ("LiftingStairsModel", "spot", "I", false)
  | _ => ("LiftingStairsModel", "wrong", "I", false)
def tyX4 : Nat → FieldType := fun k => match k with
  | 0 => .array .int
  | 1 => .array .int
  | 2 => .int
  | 3 => .array .int
  | 4 => .boolean
  | 5 => .array .int
  | 6 => .array .char
  | 7 => .int
  | 8 => .array .int
  | 9 => .array .int
  | 10 => .int
  | 11 => .int
  | _ => .int
abbrev wsX40 : List Cond := u_ws RX4 TX4 13
theorem nmX4 : ∀ a, a < 13 → ∀ b, b < 13 → a ≠ b → (TX4 a).2.1 ≠ (TX4 b).2.1 := by decide +kernel
theorem tyX4_ok : ∀ k, k < 13 → parseFieldDescriptor (TX4 k).2.2.1 = some (tyX4 k) := by decide +kernel
abbrev cX4_init : ByteArray := prog_6_method_1_code
def yX4_init : MethodName := ⟨RX4, "<init>", "()V"⟩
abbrev cX4_in : ByteArray := prog_6_method_2_code
def yX4_in : MethodName := ⟨RX4, "in", "(III)Z"⟩
abbrev cX4_of : ByteArray := prog_6_method_3_code
def yX4_of : MethodName := ⟨RX4, "of", "(II)I"⟩
abbrev cX4_lays : ByteArray := prog_6_method_4_code
def yX4_lays : MethodName := ⟨RX4, "lays", "(III)V"⟩
abbrev cX4_upper : ByteArray := prog_6_method_5_code
def yX4_upper : MethodName := ⟨RX4, "upper", "(I)I"⟩
abbrev cX4_lower : ByteArray := prog_6_method_6_code
def yX4_lower : MethodName := ⟨RX4, "lower", "(I)I"⟩
abbrev cX4_record : ByteArray := prog_6_method_7_code
def yX4_record : MethodName := ⟨RX4, "record", "()V"⟩
abbrev cX4_undo : ByteArray := prog_6_method_8_code
def yX4_undo : MethodName := ⟨RX4, "undo", "()I"⟩
abbrev cX4_save : ByteArray := prog_6_method_9_code
def yX4_save : MethodName := ⟨RX4, "save", "()I"⟩
abbrev cX4_restore : ByteArray := prog_6_method_10_code
def yX4_restore : MethodName := ⟨RX4, "restore", "()I"⟩
abbrev cX4_isStep : ByteArray := prog_6_method_11_code
def yX4_isStep : MethodName := ⟨RX4, "isStep", "(I)Z"⟩
abbrev cX4_isLanding : ByteArray := prog_6_method_12_code
def yX4_isLanding : MethodName := ⟨RX4, "isLanding", "(I)Z"⟩
abbrev cX4_carpetFrom : ByteArray := prog_6_method_13_code
def yX4_carpetFrom : MethodName := ⟨RX4, "carpetFrom", "(I)I"⟩
abbrev cX4_carpetsTo : ByteArray := prog_6_method_14_code
def yX4_carpetsTo : MethodName := ⟨RX4, "carpetsTo", "(I)I"⟩
abbrev cX4_climbersOn : ByteArray := prog_6_method_15_code
def yX4_climbersOn : MethodName := ⟨RX4, "climbersOn", "(I)I"⟩
abbrev cX4_bits : ByteArray := prog_6_method_16_code
def yX4_bits : MethodName := ⟨RX4, "bits", "(I)I"⟩
abbrev cX4_setTop : ByteArray := prog_6_method_17_code
def yX4_setTop : MethodName := ⟨RX4, "setTop", "(I)I"⟩
abbrev cX4_whyNotLay : ByteArray := prog_6_method_18_code
def yX4_whyNotLay : MethodName := ⟨RX4, "whyNotLay", "(II)I"⟩
abbrev cX4_laysCarpet : ByteArray := prog_6_method_19_code
def yX4_laysCarpet : MethodName := ⟨RX4, "laysCarpet", "(II)I"⟩
abbrev cX4_lay : ByteArray := prog_6_method_20_code
def yX4_lay : MethodName := ⟨RX4, "lay", "(II)I"⟩
abbrev cX4_take : ByteArray := prog_6_method_21_code
def yX4_take : MethodName := ⟨RX4, "take", "(I)I"⟩
abbrev cX4_landings : ByteArray := prog_6_method_22_code
def yX4_landings : MethodName := ⟨RX4, "landings", "()I"⟩
abbrev cX4_whyNotPut : ByteArray := prog_6_method_23_code
def yX4_whyNotPut : MethodName := ⟨RX4, "whyNotPut", "(I)I"⟩
abbrev cX4_puts : ByteArray := prog_6_method_24_code
def yX4_puts : MethodName := ⟨RX4, "puts", "(I)I"⟩
abbrev cX4_put : ByteArray := prog_6_method_25_code
def yX4_put : MethodName := ⟨RX4, "put", "(I)I"⟩
abbrev cX4_remove : ByteArray := prog_6_method_26_code
def yX4_remove : MethodName := ⟨RX4, "remove", "(I)I"⟩
abbrev cX4_joins : ByteArray := prog_6_method_27_code
def yX4_joins : MethodName := ⟨RX4, "joins", "()I"⟩
abbrev cX4_join : ByteArray := prog_6_method_28_code
def yX4_join : MethodName := ⟨RX4, "join", "()I"⟩
abbrev cX4_comes : ByteArray := prog_6_method_29_code
def yX4_comes : MethodName := ⟨RX4, "comes", "(II)V"⟩
abbrev cX4_isPassed : ByteArray := prog_6_method_30_code
def yX4_isPassed : MethodName := ⟨RX4, "isPassed", "(II)Z"⟩
abbrev cX4_passedBy : ByteArray := prog_6_method_31_code
def yX4_passedBy : MethodName := ⟨RX4, "passedBy", "(I)I"⟩
abbrev cX4_highest : ByteArray := prog_6_method_32_code
def yX4_highest : MethodName := ⟨RX4, "highest", "(I)I"⟩
abbrev cX4_nextMover : ByteArray := prog_6_method_33_code
def yX4_nextMover : MethodName := ⟨RX4, "nextMover", "()V"⟩
abbrev cX4_rolls : ByteArray := prog_6_method_34_code
def yX4_rolls : MethodName := ⟨RX4, "rolls", "(I)I"⟩
abbrev cX4_whyNotRoll : ByteArray := prog_6_method_35_code
def yX4_whyNotRoll : MethodName := ⟨RX4, "whyNotRoll", "(I)I"⟩
abbrev cX4_roll : ByteArray := prog_6_method_36_code
def yX4_roll : MethodName := ⟨RX4, "roll", "(I)I"⟩
abbrev cX4_pass : ByteArray := prog_6_method_37_code
def yX4_pass : MethodName := ⟨RX4, "pass", "()I"⟩
abbrev cX4_progress : ByteArray := prog_6_method_38_code
def yX4_progress : MethodName := ⟨RX4, "progress", "(I)I"⟩
abbrev cX4_isClimber : ByteArray := prog_6_method_39_code
def yX4_isClimber : MethodName := ⟨RX4, "isClimber", "(I)Z"⟩
abbrev cX4_climber : ByteArray := prog_6_method_40_code
def yX4_climber : MethodName := ⟨RX4, "climber", "(II)I"⟩
abbrev cX4_turn : ByteArray := prog_6_method_41_code
def yX4_turn : MethodName := ⟨RX4, "turn", "()I"⟩
abbrev cX4_on : ByteArray := prog_6_method_42_code
def yX4_on : MethodName := ⟨RX4, "on", "(I)I"⟩
abbrev cX4_step : ByteArray := prog_6_method_43_code
def yX4_step : MethodName := ⟨RX4, "step", "(II)I"⟩
abbrev cX4_allTops : ByteArray := prog_6_method_44_code
def yX4_allTops : MethodName := ⟨RX4, "allTops", "()I"⟩
abbrev cX4_total : ByteArray := prog_6_method_45_code
def yX4_total : MethodName := ⟨RX4, "total", "(I)I"⟩
abbrev cX4_ahead : ByteArray := prog_6_method_46_code
def yX4_ahead : MethodName := ⟨RX4, "ahead", "(I)I"⟩
abbrev cX4_rank : ByteArray := prog_6_method_47_code
def yX4_rank : MethodName := ⟨RX4, "rank", "(I)I"⟩
abbrev cX4_putAside : ByteArray := prog_6_method_48_code
def yX4_putAside : MethodName := ⟨RX4, "putAside", "()V"⟩
abbrev cX4_takeBack : ByteArray := prog_6_method_49_code
def yX4_takeBack : MethodName := ⟨RX4, "takeBack", "()V"⟩
abbrev cX4_ifRolled : ByteArray := prog_6_method_50_code
def yX4_ifRolled : MethodName := ⟨RX4, "ifRolled", "(II)I"⟩
abbrev cX4_worth : ByteArray := prog_6_method_51_code
def yX4_worth : MethodName := ⟨RX4, "worth", "(I)I"⟩
abbrev cX4_bestRoll : ByteArray := prog_6_method_52_code
def yX4_bestRoll : MethodName := ⟨RX4, "bestRoll", "()I"⟩
abbrev cX4_quietRolls : ByteArray := prog_6_method_53_code
def yX4_quietRolls : MethodName := ⟨RX4, "quietRolls", "()I"⟩
abbrev cX4_rollsToTop : ByteArray := prog_6_method_54_code
def yX4_rollsToTop : MethodName := ⟨RX4, "rollsToTop", "(I)I"⟩
abbrev cX4_append : ByteArray := prog_6_method_55_code
def yX4_append : MethodName := ⟨RX4, "append", "(I)I"⟩
abbrev cX4_clearText : ByteArray := prog_6_method_56_code
def yX4_clearText : MethodName := ⟨RX4, "clearText", "()I"⟩
abbrev cX4_letter : ByteArray := prog_6_method_57_code
def yX4_letter : MethodName := ⟨RX4, "letter", "()I"⟩
abbrev cX4_wants : ByteArray := prog_6_method_58_code
def yX4_wants : MethodName := ⟨RX4, "wants", "(Z)V"⟩
abbrev cX4_number : ByteArray := prog_6_method_59_code
def yX4_number : MethodName := ⟨RX4, "number", "()I"⟩
abbrev cX4_readMove : ByteArray := prog_6_method_60_code
def yX4_readMove : MethodName := ⟨RX4, "readMove", "()V"⟩
abbrev cX4_errorPosition : ByteArray := prog_6_method_61_code
def yX4_errorPosition : MethodName := ⟨RX4, "errorPosition", "()I"⟩
abbrev cX4_makeOne : ByteArray := prog_6_method_62_code
def yX4_makeOne : MethodName := ⟨RX4, "makeOne", "(I)I"⟩
abbrev cX4_play : ByteArray := prog_6_method_63_code
def yX4_play : MethodName := ⟨RX4, "play", "()I"⟩
def RJ6 : String := "java/lang/Integer"
def TJ6 : u_T := fun k => match k with
  | _ => ("", "", "", false)
def tyJ6 : Nat → FieldType := fun k => match k with
  | _ => .int
abbrev wsJ60 : List Cond := u_ws RJ6 TJ6 0
theorem nmJ6 : ∀ a, a < 0 → ∀ b, b < 0 → a ≠ b → (TJ6 a).2.1 ≠ (TJ6 b).2.1 := by decide +kernel
theorem tyJ6_ok : ∀ k, k < 0 → parseFieldDescriptor (TJ6 k).2.2.1 = some (tyJ6 k) := by decide +kernel
abbrev cJ6_bitCount_0f7a4 : ByteArray := prog_7_method_49_code
def yJ6_bitCount_0f7a4 : MethodName := ⟨RJ6, "bitCount", "(I)I"⟩
def RJ10 : String := "java/lang/System"
def TJ10 : u_T := fun k => match k with
  | _ => ("", "", "", false)
def tyJ10 : Nat → FieldType := fun k => match k with
  | _ => .int
abbrev wsJ100 : List Cond := u_ws RJ10 TJ10 0
theorem nmJ10 : ∀ a, a < 0 → ∀ b, b < 0 → a ≠ b → (TJ10 a).2.1 ≠ (TJ10 b).2.1 := by decide +kernel
theorem tyJ10_ok : ∀ k, k < 0 → parseFieldDescriptor (TJ10 k).2.2.1 = some (tyJ10 k) := by decide +kernel
def RL : String := "LiftingStairsLaw"
abbrev cL_law : ByteArray := code
def yL_law : MethodName := ⟨RL, "law", "([I)Z"⟩
theorem dX0_init_0 : decode cX0_init 0 = .ok (.aload_n 0, 1) := by decide +kernel
theorem dX0_init_1 : decode cX0_init 1 = .ok (.invokespecial 3, 3) := by decide +kernel
theorem dX0_init_4 : decode cX0_init 4 = .ok (.aload_n 0, 1) := by decide +kernel
theorem dX0_init_5 : decode cX0_init 5 = .ok (.bipush 60, 2) := by decide +kernel
theorem dX0_init_7 : decode cX0_init 7 = .ok (.newarray .int, 2) := by decide +kernel
theorem dX0_init_9 : decode cX0_init 9 = .ok (.putfield 9, 3) := by decide +kernel
theorem dX0_init_12 : decode cX0_init 12 = .ok (.aload_n 0, 1) := by decide +kernel
theorem dX0_init_13 : decode cX0_init 13 = .ok (.bipush 60, 2) := by decide +kernel
theorem dX0_init_15 : decode cX0_init 15 = .ok (.newarray .boolean, 2) := by decide +kernel
theorem dX0_init_17 : decode cX0_init 17 = .ok (.putfield 15, 3) := by decide +kernel
theorem dX0_init_20 : decode cX0_init 20 = .ok (.aload_n 0, 1) := by decide +kernel
theorem dX0_init_21 : decode cX0_init 21 = .ok (.bipush 6, 2) := by decide +kernel
theorem dX0_init_23 : decode cX0_init 23 = .ok (.newarray .int, 2) := by decide +kernel
theorem dX0_init_25 : decode cX0_init 25 = .ok (.putfield 19, 3) := by decide +kernel
theorem dX0_init_28 : decode cX0_init 28 = .ok (.aload_n 0, 1) := by decide +kernel
theorem dX0_init_29 : decode cX0_init 29 = .ok (.bipush 6, 2) := by decide +kernel
theorem dX0_init_31 : decode cX0_init 31 = .ok (.newarray .int, 2) := by decide +kernel
theorem dX0_init_33 : decode cX0_init 33 = .ok (.putfield 22, 3) := by decide +kernel
theorem dX0_init_36 : decode cX0_init 36 = .ok (.aload_n 0, 1) := by decide +kernel
theorem dX0_init_37 : decode cX0_init 37 = .ok (.bipush 6, 2) := by decide +kernel
theorem dX0_init_39 : decode cX0_init 39 = .ok (.newarray .int, 2) := by decide +kernel
theorem dX0_init_41 : decode cX0_init 41 = .ok (.putfield 25, 3) := by decide +kernel
theorem dX0_init_44 : decode cX0_init 44 = .ok (.aload_n 0, 1) := by decide +kernel
theorem dX0_init_45 : decode cX0_init 45 = .ok (.bipush 6, 2) := by decide +kernel
theorem dX0_init_47 : decode cX0_init 47 = .ok (.newarray .int, 2) := by decide +kernel
theorem dX0_init_49 : decode cX0_init 49 = .ok (.putfield 28, 3) := by decide +kernel
theorem dX0_init_52 : decode cX0_init 52 = .ok (.aload_n 0, 1) := by decide +kernel
theorem dX0_init_53 : decode cX0_init 53 = .ok (.bipush 6, 2) := by decide +kernel
theorem dX0_init_55 : decode cX0_init 55 = .ok (.newarray .int, 2) := by decide +kernel
theorem dX0_init_57 : decode cX0_init 57 = .ok (.putfield 31, 3) := by decide +kernel
theorem dX0_init_60 : decode cX0_init 60 = .ok (.aload_n 0, 1) := by decide +kernel
theorem dX0_init_61 : decode cX0_init 61 = .ok (.bipush 6, 2) := by decide +kernel
theorem dX0_init_63 : decode cX0_init 63 = .ok (.newarray .int, 2) := by decide +kernel
theorem dX0_init_65 : decode cX0_init 65 = .ok (.putfield 34, 3) := by decide +kernel
theorem dX0_init_68 : decode cX0_init 68 = .ok (.aload_n 0, 1) := by decide +kernel
theorem dX0_init_69 : decode cX0_init 69 = .ok (.bipush 30, 2) := by decide +kernel
theorem dX0_init_71 : decode cX0_init 71 = .ok (.putfield 37, 3) := by decide +kernel
theorem dX0_init_74 : decode cX0_init 74 = .ok (.aload_n 0, 1) := by decide +kernel
theorem dX0_init_75 : decode cX0_init 75 = .ok (.iconst 0, 1) := by decide +kernel
theorem dX0_init_76 : decode cX0_init 76 = .ok (.putfield 41, 3) := by decide +kernel
theorem dX0_init_79 : decode cX0_init 79 = .ok (.aload_n 0, 1) := by decide +kernel
theorem dX0_init_80 : decode cX0_init 80 = .ok (.iconst 0, 1) := by decide +kernel
theorem dX0_init_81 : decode cX0_init 81 = .ok (.putfield 44, 3) := by decide +kernel
theorem dX0_init_84 : decode cX0_init 84 = .ok (.aload_n 0, 1) := by decide +kernel
theorem dX0_init_85 : decode cX0_init 85 = .ok (.iconst 0, 1) := by decide +kernel
theorem dX0_init_86 : decode cX0_init 86 = .ok (.putfield 47, 3) := by decide +kernel
theorem dX0_init_89 : decode cX0_init 89 = .ok (.aload_n 0, 1) := by decide +kernel
theorem dX0_init_90 : decode cX0_init 90 = .ok (.iconst 0, 1) := by decide +kernel
theorem dX0_init_91 : decode cX0_init 91 = .ok (.putfield 50, 3) := by decide +kernel
theorem dX0_init_94 : decode cX0_init 94 = .ok (.iconst 0, 1) := by decide +kernel
theorem dX0_init_95 : decode cX0_init 95 = .ok (.istore_n 1, 1) := by decide +kernel
theorem dX0_init_96 : decode cX0_init 96 = .ok (.iload_n 1, 1) := by decide +kernel
theorem dX0_init_97 : decode cX0_init 97 = .ok (.bipush 60, 2) := by decide +kernel
theorem dX0_init_99 : decode cX0_init 99 = .ok (.if_icmp .ge 17, 3) := by decide +kernel
theorem dX0_init_102 : decode cX0_init 102 = .ok (.aload_n 0, 1) := by decide +kernel
theorem dX0_init_103 : decode cX0_init 103 = .ok (.getfield 9, 3) := by decide +kernel
theorem dX0_init_106 : decode cX0_init 106 = .ok (.iload_n 1, 1) := by decide +kernel
theorem dX0_init_107 : decode cX0_init 107 = .ok (.bipush (-6), 2) := by decide +kernel
theorem dX0_init_109 : decode cX0_init 109 = .ok (.iastore, 1) := by decide +kernel
theorem dX0_init_110 : decode cX0_init 110 = .ok (.iinc 1 1, 3) := by decide +kernel
theorem dX0_init_113 : decode cX0_init 113 = .ok (.goto (-17), 3) := by decide +kernel
theorem dX0_init_116 : decode cX0_init 116 = .ok (.return_, 1) := by decide +kernel
theorem dX0_copyFrom_0 : decode cX0_copyFrom 0 = .ok (.aload_n 1, 1) := by decide +kernel
theorem dX0_copyFrom_1 : decode cX0_copyFrom 1 = .ok (.ifnonnull 4, 3) := by decide +kernel
theorem dX0_copyFrom_4 : decode cX0_copyFrom 4 = .ok (.return_, 1) := by decide +kernel
theorem dX0_copyFrom_5 : decode cX0_copyFrom 5 = .ok (.aload_n 1, 1) := by decide +kernel
theorem dX0_copyFrom_6 : decode cX0_copyFrom 6 = .ok (.getfield 9, 3) := by decide +kernel
theorem dX0_copyFrom_9 : decode cX0_copyFrom 9 = .ok (.iconst 0, 1) := by decide +kernel
theorem dX0_copyFrom_10 : decode cX0_copyFrom 10 = .ok (.aload_n 0, 1) := by decide +kernel
theorem dX0_copyFrom_11 : decode cX0_copyFrom 11 = .ok (.getfield 9, 3) := by decide +kernel
theorem dX0_copyFrom_14 : decode cX0_copyFrom 14 = .ok (.iconst 0, 1) := by decide +kernel
theorem dX0_copyFrom_15 : decode cX0_copyFrom 15 = .ok (.bipush 60, 2) := by decide +kernel
theorem dX0_copyFrom_17 : decode cX0_copyFrom 17 = .ok (.invokestatic 53, 3) := by decide +kernel
theorem dX0_copyFrom_20 : decode cX0_copyFrom 20 = .ok (.aload_n 1, 1) := by decide +kernel
theorem dX0_copyFrom_21 : decode cX0_copyFrom 21 = .ok (.getfield 15, 3) := by decide +kernel
theorem dX0_copyFrom_24 : decode cX0_copyFrom 24 = .ok (.iconst 0, 1) := by decide +kernel
theorem dX0_copyFrom_25 : decode cX0_copyFrom 25 = .ok (.aload_n 0, 1) := by decide +kernel
theorem dX0_copyFrom_26 : decode cX0_copyFrom 26 = .ok (.getfield 15, 3) := by decide +kernel
theorem dX0_copyFrom_29 : decode cX0_copyFrom 29 = .ok (.iconst 0, 1) := by decide +kernel
theorem dX0_copyFrom_30 : decode cX0_copyFrom 30 = .ok (.bipush 60, 2) := by decide +kernel
theorem dX0_copyFrom_32 : decode cX0_copyFrom 32 = .ok (.invokestatic 53, 3) := by decide +kernel
theorem dX0_copyFrom_35 : decode cX0_copyFrom 35 = .ok (.aload_n 1, 1) := by decide +kernel
theorem dX0_copyFrom_36 : decode cX0_copyFrom 36 = .ok (.getfield 19, 3) := by decide +kernel
theorem dX0_copyFrom_39 : decode cX0_copyFrom 39 = .ok (.iconst 0, 1) := by decide +kernel
theorem dX0_copyFrom_40 : decode cX0_copyFrom 40 = .ok (.aload_n 0, 1) := by decide +kernel
theorem dX0_copyFrom_41 : decode cX0_copyFrom 41 = .ok (.getfield 19, 3) := by decide +kernel
theorem dX0_copyFrom_44 : decode cX0_copyFrom 44 = .ok (.iconst 0, 1) := by decide +kernel
theorem dX0_copyFrom_45 : decode cX0_copyFrom 45 = .ok (.bipush 6, 2) := by decide +kernel
theorem dX0_copyFrom_47 : decode cX0_copyFrom 47 = .ok (.invokestatic 53, 3) := by decide +kernel
theorem dX0_copyFrom_50 : decode cX0_copyFrom 50 = .ok (.aload_n 1, 1) := by decide +kernel
theorem dX0_copyFrom_51 : decode cX0_copyFrom 51 = .ok (.getfield 22, 3) := by decide +kernel
theorem dX0_copyFrom_54 : decode cX0_copyFrom 54 = .ok (.iconst 0, 1) := by decide +kernel
theorem dX0_copyFrom_55 : decode cX0_copyFrom 55 = .ok (.aload_n 0, 1) := by decide +kernel
theorem dX0_copyFrom_56 : decode cX0_copyFrom 56 = .ok (.getfield 22, 3) := by decide +kernel
theorem dX0_copyFrom_59 : decode cX0_copyFrom 59 = .ok (.iconst 0, 1) := by decide +kernel
theorem dX0_copyFrom_60 : decode cX0_copyFrom 60 = .ok (.bipush 6, 2) := by decide +kernel
theorem dX0_copyFrom_62 : decode cX0_copyFrom 62 = .ok (.invokestatic 53, 3) := by decide +kernel
theorem dX0_copyFrom_65 : decode cX0_copyFrom 65 = .ok (.aload_n 1, 1) := by decide +kernel
theorem dX0_copyFrom_66 : decode cX0_copyFrom 66 = .ok (.getfield 25, 3) := by decide +kernel
theorem dX0_copyFrom_69 : decode cX0_copyFrom 69 = .ok (.iconst 0, 1) := by decide +kernel
theorem dX0_copyFrom_70 : decode cX0_copyFrom 70 = .ok (.aload_n 0, 1) := by decide +kernel
theorem dX0_copyFrom_71 : decode cX0_copyFrom 71 = .ok (.getfield 25, 3) := by decide +kernel
theorem dX0_copyFrom_74 : decode cX0_copyFrom 74 = .ok (.iconst 0, 1) := by decide +kernel
theorem dX0_copyFrom_75 : decode cX0_copyFrom 75 = .ok (.bipush 6, 2) := by decide +kernel
theorem dX0_copyFrom_77 : decode cX0_copyFrom 77 = .ok (.invokestatic 53, 3) := by decide +kernel
theorem dX0_copyFrom_80 : decode cX0_copyFrom 80 = .ok (.aload_n 1, 1) := by decide +kernel
theorem dX0_copyFrom_81 : decode cX0_copyFrom 81 = .ok (.getfield 28, 3) := by decide +kernel
theorem dX0_copyFrom_84 : decode cX0_copyFrom 84 = .ok (.iconst 0, 1) := by decide +kernel
theorem dX0_copyFrom_85 : decode cX0_copyFrom 85 = .ok (.aload_n 0, 1) := by decide +kernel
theorem dX0_copyFrom_86 : decode cX0_copyFrom 86 = .ok (.getfield 28, 3) := by decide +kernel
theorem dX0_copyFrom_89 : decode cX0_copyFrom 89 = .ok (.iconst 0, 1) := by decide +kernel
theorem dX0_copyFrom_90 : decode cX0_copyFrom 90 = .ok (.bipush 6, 2) := by decide +kernel
theorem dX0_copyFrom_92 : decode cX0_copyFrom 92 = .ok (.invokestatic 53, 3) := by decide +kernel
theorem dX0_copyFrom_95 : decode cX0_copyFrom 95 = .ok (.aload_n 1, 1) := by decide +kernel
theorem dX0_copyFrom_96 : decode cX0_copyFrom 96 = .ok (.getfield 31, 3) := by decide +kernel
theorem dX0_copyFrom_99 : decode cX0_copyFrom 99 = .ok (.iconst 0, 1) := by decide +kernel
theorem dX0_copyFrom_100 : decode cX0_copyFrom 100 = .ok (.aload_n 0, 1) := by decide +kernel
theorem dX0_copyFrom_101 : decode cX0_copyFrom 101 = .ok (.getfield 31, 3) := by decide +kernel
theorem dX0_copyFrom_104 : decode cX0_copyFrom 104 = .ok (.iconst 0, 1) := by decide +kernel
theorem dX0_copyFrom_105 : decode cX0_copyFrom 105 = .ok (.bipush 6, 2) := by decide +kernel
theorem dX0_copyFrom_107 : decode cX0_copyFrom 107 = .ok (.invokestatic 53, 3) := by decide +kernel
theorem dX0_copyFrom_110 : decode cX0_copyFrom 110 = .ok (.aload_n 1, 1) := by decide +kernel
theorem dX0_copyFrom_111 : decode cX0_copyFrom 111 = .ok (.getfield 34, 3) := by decide +kernel
theorem dX0_copyFrom_114 : decode cX0_copyFrom 114 = .ok (.iconst 0, 1) := by decide +kernel
theorem dX0_copyFrom_115 : decode cX0_copyFrom 115 = .ok (.aload_n 0, 1) := by decide +kernel
theorem dX0_copyFrom_116 : decode cX0_copyFrom 116 = .ok (.getfield 34, 3) := by decide +kernel
theorem dX0_copyFrom_119 : decode cX0_copyFrom 119 = .ok (.iconst 0, 1) := by decide +kernel
theorem dX0_copyFrom_120 : decode cX0_copyFrom 120 = .ok (.bipush 6, 2) := by decide +kernel
theorem dX0_copyFrom_122 : decode cX0_copyFrom 122 = .ok (.invokestatic 53, 3) := by decide +kernel
theorem dX0_copyFrom_125 : decode cX0_copyFrom 125 = .ok (.aload_n 0, 1) := by decide +kernel
theorem dX0_copyFrom_126 : decode cX0_copyFrom 126 = .ok (.aload_n 1, 1) := by decide +kernel
theorem dX0_copyFrom_127 : decode cX0_copyFrom 127 = .ok (.getfield 37, 3) := by decide +kernel
theorem dX0_copyFrom_130 : decode cX0_copyFrom 130 = .ok (.putfield 37, 3) := by decide +kernel
theorem dX0_copyFrom_133 : decode cX0_copyFrom 133 = .ok (.aload_n 0, 1) := by decide +kernel
theorem dX0_copyFrom_134 : decode cX0_copyFrom 134 = .ok (.aload_n 1, 1) := by decide +kernel
theorem dX0_copyFrom_135 : decode cX0_copyFrom 135 = .ok (.getfield 41, 3) := by decide +kernel
theorem dX0_copyFrom_138 : decode cX0_copyFrom 138 = .ok (.putfield 41, 3) := by decide +kernel
theorem dX0_copyFrom_141 : decode cX0_copyFrom 141 = .ok (.aload_n 0, 1) := by decide +kernel
theorem dX0_copyFrom_142 : decode cX0_copyFrom 142 = .ok (.aload_n 1, 1) := by decide +kernel
theorem dX0_copyFrom_143 : decode cX0_copyFrom 143 = .ok (.getfield 44, 3) := by decide +kernel
theorem dX0_copyFrom_146 : decode cX0_copyFrom 146 = .ok (.putfield 44, 3) := by decide +kernel
theorem dX0_copyFrom_149 : decode cX0_copyFrom 149 = .ok (.aload_n 0, 1) := by decide +kernel
theorem dX0_copyFrom_150 : decode cX0_copyFrom 150 = .ok (.aload_n 1, 1) := by decide +kernel
theorem dX0_copyFrom_151 : decode cX0_copyFrom 151 = .ok (.getfield 47, 3) := by decide +kernel
theorem dX0_copyFrom_154 : decode cX0_copyFrom 154 = .ok (.putfield 47, 3) := by decide +kernel
theorem dX0_copyFrom_157 : decode cX0_copyFrom 157 = .ok (.aload_n 0, 1) := by decide +kernel
theorem dX0_copyFrom_158 : decode cX0_copyFrom 158 = .ok (.aload_n 1, 1) := by decide +kernel
theorem dX0_copyFrom_159 : decode cX0_copyFrom 159 = .ok (.getfield 50, 3) := by decide +kernel
theorem dX0_copyFrom_162 : decode cX0_copyFrom 162 = .ok (.putfield 50, 3) := by decide +kernel
theorem dX0_copyFrom_165 : decode cX0_copyFrom 165 = .ok (.return_, 1) := by decide +kernel
theorem dX0_isBelowTop_0 : decode cX0_isBelowTop 0 = .ok (.iload_n 1, 1) := by decide +kernel
theorem dX0_isBelowTop_1 : decode cX0_isBelowTop 1 = .ok (.ifCond .lt 15, 3) := by decide +kernel
theorem dX0_isBelowTop_4 : decode cX0_isBelowTop 4 = .ok (.iload_n 1, 1) := by decide +kernel
theorem dX0_isBelowTop_5 : decode cX0_isBelowTop 5 = .ok (.aload_n 0, 1) := by decide +kernel
theorem dX0_isBelowTop_6 : decode cX0_isBelowTop 6 = .ok (.getfield 37, 3) := by decide +kernel
theorem dX0_isBelowTop_9 : decode cX0_isBelowTop 9 = .ok (.if_icmp .ge 7, 3) := by decide +kernel
theorem dX0_isBelowTop_12 : decode cX0_isBelowTop 12 = .ok (.iconst 1, 1) := by decide +kernel
theorem dX0_isBelowTop_13 : decode cX0_isBelowTop 13 = .ok (.goto 4, 3) := by decide +kernel
theorem dX0_isBelowTop_16 : decode cX0_isBelowTop 16 = .ok (.iconst 0, 1) := by decide +kernel
theorem dX0_isBelowTop_17 : decode cX0_isBelowTop 17 = .ok (.ireturn, 1) := by decide +kernel
theorem dX0_isClimber_0 : decode cX0_isClimber 0 = .ok (.iload_n 1, 1) := by decide +kernel
theorem dX0_isClimber_1 : decode cX0_isClimber 1 = .ok (.ifCond .lt 15, 3) := by decide +kernel
theorem dX0_isClimber_4 : decode cX0_isClimber 4 = .ok (.iload_n 1, 1) := by decide +kernel
theorem dX0_isClimber_5 : decode cX0_isClimber 5 = .ok (.aload_n 0, 1) := by decide +kernel
theorem dX0_isClimber_6 : decode cX0_isClimber 6 = .ok (.getfield 41, 3) := by decide +kernel
theorem dX0_isClimber_9 : decode cX0_isClimber 9 = .ok (.if_icmp .ge 7, 3) := by decide +kernel
theorem dX0_isClimber_12 : decode cX0_isClimber 12 = .ok (.iconst 1, 1) := by decide +kernel
theorem dX0_isClimber_13 : decode cX0_isClimber 13 = .ok (.goto 4, 3) := by decide +kernel
theorem dX0_isClimber_16 : decode cX0_isClimber 16 = .ok (.iconst 0, 1) := by decide +kernel
theorem dX0_isClimber_17 : decode cX0_isClimber 17 = .ok (.ireturn, 1) := by decide +kernel
theorem dX0_hasMover_0 : decode cX0_hasMover 0 = .ok (.aload_n 0, 1) := by decide +kernel
theorem dX0_hasMover_1 : decode cX0_hasMover 1 = .ok (.aload_n 0, 1) := by decide +kernel
theorem dX0_hasMover_2 : decode cX0_hasMover 2 = .ok (.getfield 44, 3) := by decide +kernel
theorem dX0_hasMover_5 : decode cX0_hasMover 5 = .ok (.invokevirtual 59, 3) := by decide +kernel
theorem dX0_hasMover_8 : decode cX0_hasMover 8 = .ok (.ireturn, 1) := by decide +kernel
theorem dX0_changeTop_0 : decode cX0_changeTop 0 = .ok (.iload_n 1, 1) := by decide +kernel
theorem dX0_changeTop_1 : decode cX0_changeTop 1 = .ok (.bipush 10, 2) := by decide +kernel
theorem dX0_changeTop_3 : decode cX0_changeTop 3 = .ok (.if_icmp .lt 9, 3) := by decide +kernel
theorem dX0_changeTop_6 : decode cX0_changeTop 6 = .ok (.iload_n 1, 1) := by decide +kernel
theorem dX0_changeTop_7 : decode cX0_changeTop 7 = .ok (.bipush 60, 2) := by decide +kernel
theorem dX0_changeTop_9 : decode cX0_changeTop 9 = .ok (.if_icmp .le 6, 3) := by decide +kernel
theorem dX0_changeTop_12 : decode cX0_changeTop 12 = .ok (.bipush (-2), 2) := by decide +kernel
theorem dX0_changeTop_14 : decode cX0_changeTop 14 = .ok (.ireturn, 1) := by decide +kernel
theorem dX0_changeTop_15 : decode cX0_changeTop 15 = .ok (.iload_n 1, 1) := by decide +kernel
theorem dX0_changeTop_16 : decode cX0_changeTop 16 = .ok (.istore_n 2, 1) := by decide +kernel
theorem dX0_changeTop_17 : decode cX0_changeTop 17 = .ok (.iload_n 2, 1) := by decide +kernel
theorem dX0_changeTop_18 : decode cX0_changeTop 18 = .ok (.aload_n 0, 1) := by decide +kernel
theorem dX0_changeTop_19 : decode cX0_changeTop 19 = .ok (.getfield 37, 3) := by decide +kernel
theorem dX0_changeTop_22 : decode cX0_changeTop 22 = .ok (.if_icmp .ge 37, 3) := by decide +kernel
theorem dX0_changeTop_25 : decode cX0_changeTop 25 = .ok (.aload_n 0, 1) := by decide +kernel
theorem dX0_changeTop_26 : decode cX0_changeTop 26 = .ok (.getfield 15, 3) := by decide +kernel
theorem dX0_changeTop_29 : decode cX0_changeTop 29 = .ok (.iload_n 2, 1) := by decide +kernel
theorem dX0_changeTop_30 : decode cX0_changeTop 30 = .ok (.baload, 1) := by decide +kernel
theorem dX0_changeTop_31 : decode cX0_changeTop 31 = .ok (.ifCond .ne 19, 3) := by decide +kernel
theorem dX0_changeTop_34 : decode cX0_changeTop 34 = .ok (.aload_n 0, 1) := by decide +kernel
theorem dX0_changeTop_35 : decode cX0_changeTop 35 = .ok (.iload_n 2, 1) := by decide +kernel
theorem dX0_changeTop_36 : decode cX0_changeTop 36 = .ok (.invokevirtual 63, 3) := by decide +kernel
theorem dX0_changeTop_39 : decode cX0_changeTop 39 = .ok (.ifCond .ne 11, 3) := by decide +kernel
theorem dX0_changeTop_42 : decode cX0_changeTop 42 = .ok (.aload_n 0, 1) := by decide +kernel
theorem dX0_changeTop_43 : decode cX0_changeTop 43 = .ok (.iload_n 2, 1) := by decide +kernel
theorem dX0_changeTop_44 : decode cX0_changeTop 44 = .ok (.invokevirtual 66, 3) := by decide +kernel
theorem dX0_changeTop_47 : decode cX0_changeTop 47 = .ok (.ifCond .eq 6, 3) := by decide +kernel
theorem dX0_changeTop_50 : decode cX0_changeTop 50 = .ok (.bipush (-3), 2) := by decide +kernel
theorem dX0_changeTop_52 : decode cX0_changeTop 52 = .ok (.ireturn, 1) := by decide +kernel
theorem dX0_changeTop_53 : decode cX0_changeTop 53 = .ok (.iinc 2 1, 3) := by decide +kernel
theorem dX0_changeTop_56 : decode cX0_changeTop 56 = .ok (.goto (-39), 3) := by decide +kernel
theorem dX0_changeTop_59 : decode cX0_changeTop 59 = .ok (.aload_n 0, 1) := by decide +kernel
theorem dX0_changeTop_60 : decode cX0_changeTop 60 = .ok (.getfield 37, 3) := by decide +kernel
theorem dX0_changeTop_63 : decode cX0_changeTop 63 = .ok (.istore_n 2, 1) := by decide +kernel
theorem dX0_changeTop_64 : decode cX0_changeTop 64 = .ok (.aload_n 0, 1) := by decide +kernel
theorem dX0_changeTop_65 : decode cX0_changeTop 65 = .ok (.iload_n 1, 1) := by decide +kernel
theorem dX0_changeTop_66 : decode cX0_changeTop 66 = .ok (.putfield 37, 3) := by decide +kernel
theorem dX0_changeTop_69 : decode cX0_changeTop 69 = .ok (.iload_n 2, 1) := by decide +kernel
theorem dX0_changeTop_70 : decode cX0_changeTop 70 = .ok (.ireturn, 1) := by decide +kernel
theorem dX0_layCarpet_0 : decode cX0_layCarpet 0 = .ok (.iload_n 1, 1) := by decide +kernel
theorem dX0_layCarpet_1 : decode cX0_layCarpet 1 = .ok (.ifCond .eq 11, 3) := by decide +kernel
theorem dX0_layCarpet_4 : decode cX0_layCarpet 4 = .ok (.aload_n 0, 1) := by decide +kernel
theorem dX0_layCarpet_5 : decode cX0_layCarpet 5 = .ok (.iload_n 1, 1) := by decide +kernel
theorem dX0_layCarpet_6 : decode cX0_layCarpet 6 = .ok (.invokevirtual 70, 3) := by decide +kernel
theorem dX0_layCarpet_9 : decode cX0_layCarpet 9 = .ok (.ifCond .ne 5, 3) := by decide +kernel
theorem dX0_layCarpet_12 : decode cX0_layCarpet 12 = .ok (.iconst (-1), 1) := by decide +kernel
theorem dX0_layCarpet_13 : decode cX0_layCarpet 13 = .ok (.ireturn, 1) := by decide +kernel
theorem dX0_layCarpet_14 : decode cX0_layCarpet 14 = .ok (.iload_n 2, 1) := by decide +kernel
theorem dX0_layCarpet_15 : decode cX0_layCarpet 15 = .ok (.ifCond .lt 8, 3) := by decide +kernel
theorem dX0_layCarpet_18 : decode cX0_layCarpet 18 = .ok (.iload_n 2, 1) := by decide +kernel
theorem dX0_layCarpet_19 : decode cX0_layCarpet 19 = .ok (.iload_n 1, 1) := by decide +kernel
theorem dX0_layCarpet_20 : decode cX0_layCarpet 20 = .ok (.if_icmp .lt 6, 3) := by decide +kernel
theorem dX0_layCarpet_23 : decode cX0_layCarpet 23 = .ok (.bipush (-2), 2) := by decide +kernel
theorem dX0_layCarpet_25 : decode cX0_layCarpet 25 = .ok (.ireturn, 1) := by decide +kernel
theorem dX0_layCarpet_26 : decode cX0_layCarpet 26 = .ok (.aload_n 0, 1) := by decide +kernel
theorem dX0_layCarpet_27 : decode cX0_layCarpet 27 = .ok (.iload_n 1, 1) := by decide +kernel
theorem dX0_layCarpet_28 : decode cX0_layCarpet 28 = .ok (.invokevirtual 63, 3) := by decide +kernel
theorem dX0_layCarpet_31 : decode cX0_layCarpet 31 = .ok (.ifCond .ne 19, 3) := by decide +kernel
theorem dX0_layCarpet_34 : decode cX0_layCarpet 34 = .ok (.aload_n 0, 1) := by decide +kernel
theorem dX0_layCarpet_35 : decode cX0_layCarpet 35 = .ok (.iload_n 2, 1) := by decide +kernel
theorem dX0_layCarpet_36 : decode cX0_layCarpet 36 = .ok (.invokevirtual 63, 3) := by decide +kernel
theorem dX0_layCarpet_39 : decode cX0_layCarpet 39 = .ok (.ifCond .ne 11, 3) := by decide +kernel
theorem dX0_layCarpet_42 : decode cX0_layCarpet 42 = .ok (.aload_n 0, 1) := by decide +kernel
theorem dX0_layCarpet_43 : decode cX0_layCarpet 43 = .ok (.iload_n 1, 1) := by decide +kernel
theorem dX0_layCarpet_44 : decode cX0_layCarpet 44 = .ok (.invokevirtual 73, 3) := by decide +kernel
theorem dX0_layCarpet_47 : decode cX0_layCarpet 47 = .ok (.ifCond .le 6, 3) := by decide +kernel
theorem dX0_layCarpet_50 : decode cX0_layCarpet 50 = .ok (.bipush (-3), 2) := by decide +kernel
theorem dX0_layCarpet_52 : decode cX0_layCarpet 52 = .ok (.ireturn, 1) := by decide +kernel
theorem dX0_layCarpet_53 : decode cX0_layCarpet 53 = .ok (.aload_n 0, 1) := by decide +kernel
theorem dX0_layCarpet_54 : decode cX0_layCarpet 54 = .ok (.getfield 15, 3) := by decide +kernel
theorem dX0_layCarpet_57 : decode cX0_layCarpet 57 = .ok (.iload_n 1, 1) := by decide +kernel
theorem dX0_layCarpet_58 : decode cX0_layCarpet 58 = .ok (.baload, 1) := by decide +kernel
theorem dX0_layCarpet_59 : decode cX0_layCarpet 59 = .ok (.ifCond .ne 11, 3) := by decide +kernel
theorem dX0_layCarpet_62 : decode cX0_layCarpet 62 = .ok (.aload_n 0, 1) := by decide +kernel
theorem dX0_layCarpet_63 : decode cX0_layCarpet 63 = .ok (.iload_n 1, 1) := by decide +kernel
theorem dX0_layCarpet_64 : decode cX0_layCarpet 64 = .ok (.invokevirtual 66, 3) := by decide +kernel
theorem dX0_layCarpet_67 : decode cX0_layCarpet 67 = .ok (.ifCond .eq 6, 3) := by decide +kernel
theorem dX0_layCarpet_70 : decode cX0_layCarpet 70 = .ok (.bipush (-3), 2) := by decide +kernel
theorem dX0_layCarpet_72 : decode cX0_layCarpet 72 = .ok (.ireturn, 1) := by decide +kernel
theorem dX0_layCarpet_73 : decode cX0_layCarpet 73 = .ok (.aload_n 0, 1) := by decide +kernel
theorem dX0_layCarpet_74 : decode cX0_layCarpet 74 = .ok (.invokevirtual 76, 3) := by decide +kernel
theorem dX0_layCarpet_77 : decode cX0_layCarpet 77 = .ok (.bipush 6, 2) := by decide +kernel
theorem dX0_layCarpet_79 : decode cX0_layCarpet 79 = .ok (.if_icmp .lt 6, 3) := by decide +kernel
theorem dX0_layCarpet_82 : decode cX0_layCarpet 82 = .ok (.bipush (-4), 2) := by decide +kernel
theorem dX0_layCarpet_84 : decode cX0_layCarpet 84 = .ok (.ireturn, 1) := by decide +kernel
theorem dX0_layCarpet_85 : decode cX0_layCarpet 85 = .ok (.aload_n 0, 1) := by decide +kernel
theorem dX0_layCarpet_86 : decode cX0_layCarpet 86 = .ok (.getfield 9, 3) := by decide +kernel
theorem dX0_layCarpet_89 : decode cX0_layCarpet 89 = .ok (.iload_n 1, 1) := by decide +kernel
theorem dX0_layCarpet_90 : decode cX0_layCarpet 90 = .ok (.iload_n 2, 1) := by decide +kernel
theorem dX0_layCarpet_91 : decode cX0_layCarpet 91 = .ok (.iastore, 1) := by decide +kernel
theorem dX0_layCarpet_92 : decode cX0_layCarpet 92 = .ok (.aload_n 0, 1) := by decide +kernel
theorem dX0_layCarpet_93 : decode cX0_layCarpet 93 = .ok (.invokevirtual 76, 3) := by decide +kernel
theorem dX0_layCarpet_96 : decode cX0_layCarpet 96 = .ok (.ireturn, 1) := by decide +kernel
theorem dX0_takeCarpet_0 : decode cX0_takeCarpet 0 = .ok (.aload_n 0, 1) := by decide +kernel
theorem dX0_takeCarpet_1 : decode cX0_takeCarpet 1 = .ok (.iload_n 1, 1) := by decide +kernel
theorem dX0_takeCarpet_2 : decode cX0_takeCarpet 2 = .ok (.invokevirtual 63, 3) := by decide +kernel
theorem dX0_takeCarpet_5 : decode cX0_takeCarpet 5 = .ok (.ifCond .ne 5, 3) := by decide +kernel
theorem dX0_takeCarpet_8 : decode cX0_takeCarpet 8 = .ok (.iconst (-1), 1) := by decide +kernel
theorem dX0_takeCarpet_9 : decode cX0_takeCarpet 9 = .ok (.ireturn, 1) := by decide +kernel
theorem dX0_takeCarpet_10 : decode cX0_takeCarpet 10 = .ok (.aload_n 0, 1) := by decide +kernel
theorem dX0_takeCarpet_11 : decode cX0_takeCarpet 11 = .ok (.getfield 9, 3) := by decide +kernel
theorem dX0_takeCarpet_14 : decode cX0_takeCarpet 14 = .ok (.iload_n 1, 1) := by decide +kernel
theorem dX0_takeCarpet_15 : decode cX0_takeCarpet 15 = .ok (.iaload, 1) := by decide +kernel
theorem dX0_takeCarpet_16 : decode cX0_takeCarpet 16 = .ok (.istore_n 2, 1) := by decide +kernel
theorem dX0_takeCarpet_17 : decode cX0_takeCarpet 17 = .ok (.aload_n 0, 1) := by decide +kernel
theorem dX0_takeCarpet_18 : decode cX0_takeCarpet 18 = .ok (.getfield 9, 3) := by decide +kernel
theorem dX0_takeCarpet_21 : decode cX0_takeCarpet 21 = .ok (.iload_n 1, 1) := by decide +kernel
theorem dX0_takeCarpet_22 : decode cX0_takeCarpet 22 = .ok (.bipush (-6), 2) := by decide +kernel
theorem dX0_takeCarpet_24 : decode cX0_takeCarpet 24 = .ok (.iastore, 1) := by decide +kernel
theorem dX0_takeCarpet_25 : decode cX0_takeCarpet 25 = .ok (.iload_n 2, 1) := by decide +kernel
theorem dX0_takeCarpet_26 : decode cX0_takeCarpet 26 = .ok (.ireturn, 1) := by decide +kernel
theorem dX0_putLanding_0 : decode cX0_putLanding 0 = .ok (.iload_n 1, 1) := by decide +kernel
theorem dX0_putLanding_1 : decode cX0_putLanding 1 = .ok (.ifCond .eq 11, 3) := by decide +kernel
theorem dX0_putLanding_4 : decode cX0_putLanding 4 = .ok (.aload_n 0, 1) := by decide +kernel
theorem dX0_putLanding_5 : decode cX0_putLanding 5 = .ok (.iload_n 1, 1) := by decide +kernel
theorem dX0_putLanding_6 : decode cX0_putLanding 6 = .ok (.invokevirtual 70, 3) := by decide +kernel
theorem dX0_putLanding_9 : decode cX0_putLanding 9 = .ok (.ifCond .ne 5, 3) := by decide +kernel
theorem dX0_putLanding_12 : decode cX0_putLanding 12 = .ok (.iconst (-1), 1) := by decide +kernel
theorem dX0_putLanding_13 : decode cX0_putLanding 13 = .ok (.ireturn, 1) := by decide +kernel
theorem dX0_putLanding_14 : decode cX0_putLanding 14 = .ok (.aload_n 0, 1) := by decide +kernel
theorem dX0_putLanding_15 : decode cX0_putLanding 15 = .ok (.getfield 15, 3) := by decide +kernel
theorem dX0_putLanding_18 : decode cX0_putLanding 18 = .ok (.iload_n 1, 1) := by decide +kernel
theorem dX0_putLanding_19 : decode cX0_putLanding 19 = .ok (.baload, 1) := by decide +kernel
theorem dX0_putLanding_20 : decode cX0_putLanding 20 = .ok (.ifCond .ne 11, 3) := by decide +kernel
theorem dX0_putLanding_23 : decode cX0_putLanding 23 = .ok (.aload_n 0, 1) := by decide +kernel
theorem dX0_putLanding_24 : decode cX0_putLanding 24 = .ok (.iload_n 1, 1) := by decide +kernel
theorem dX0_putLanding_25 : decode cX0_putLanding 25 = .ok (.invokevirtual 63, 3) := by decide +kernel
theorem dX0_putLanding_28 : decode cX0_putLanding 28 = .ok (.ifCond .eq 6, 3) := by decide +kernel
theorem dX0_putLanding_31 : decode cX0_putLanding 31 = .ok (.bipush (-3), 2) := by decide +kernel
theorem dX0_putLanding_33 : decode cX0_putLanding 33 = .ok (.ireturn, 1) := by decide +kernel
theorem dX0_putLanding_34 : decode cX0_putLanding 34 = .ok (.aload_n 0, 1) := by decide +kernel
theorem dX0_putLanding_35 : decode cX0_putLanding 35 = .ok (.getfield 15, 3) := by decide +kernel
theorem dX0_putLanding_38 : decode cX0_putLanding 38 = .ok (.iload_n 1, 1) := by decide +kernel
theorem dX0_putLanding_39 : decode cX0_putLanding 39 = .ok (.iconst 1, 1) := by decide +kernel
theorem dX0_putLanding_40 : decode cX0_putLanding 40 = .ok (.bastore, 1) := by decide +kernel
theorem dX0_putLanding_41 : decode cX0_putLanding 41 = .ok (.aload_n 0, 1) := by decide +kernel
theorem dX0_putLanding_42 : decode cX0_putLanding 42 = .ok (.invokevirtual 80, 3) := by decide +kernel
theorem dX0_putLanding_45 : decode cX0_putLanding 45 = .ok (.ireturn, 1) := by decide +kernel
theorem dX0_removeLanding_0 : decode cX0_removeLanding 0 = .ok (.aload_n 0, 1) := by decide +kernel
theorem dX0_removeLanding_1 : decode cX0_removeLanding 1 = .ok (.iload_n 1, 1) := by decide +kernel
theorem dX0_removeLanding_2 : decode cX0_removeLanding 2 = .ok (.invokevirtual 83, 3) := by decide +kernel
theorem dX0_removeLanding_5 : decode cX0_removeLanding 5 = .ok (.ifCond .ne 5, 3) := by decide +kernel
theorem dX0_removeLanding_8 : decode cX0_removeLanding 8 = .ok (.iconst (-1), 1) := by decide +kernel
theorem dX0_removeLanding_9 : decode cX0_removeLanding 9 = .ok (.ireturn, 1) := by decide +kernel
theorem dX0_removeLanding_10 : decode cX0_removeLanding 10 = .ok (.aload_n 0, 1) := by decide +kernel
theorem dX0_removeLanding_11 : decode cX0_removeLanding 11 = .ok (.getfield 15, 3) := by decide +kernel
theorem dX0_removeLanding_14 : decode cX0_removeLanding 14 = .ok (.iload_n 1, 1) := by decide +kernel
theorem dX0_removeLanding_15 : decode cX0_removeLanding 15 = .ok (.iconst 0, 1) := by decide +kernel
theorem dX0_removeLanding_16 : decode cX0_removeLanding 16 = .ok (.bastore, 1) := by decide +kernel
theorem dX0_removeLanding_17 : decode cX0_removeLanding 17 = .ok (.aload_n 0, 1) := by decide +kernel
theorem dX0_removeLanding_18 : decode cX0_removeLanding 18 = .ok (.iload_n 1, 1) := by decide +kernel
theorem dX0_removeLanding_19 : decode cX0_removeLanding 19 = .ok (.invokevirtual 66, 3) := by decide +kernel
theorem dX0_removeLanding_22 : decode cX0_removeLanding 22 = .ok (.invokestatic 86, 3) := by decide +kernel
theorem dX0_removeLanding_25 : decode cX0_removeLanding 25 = .ok (.ireturn, 1) := by decide +kernel
theorem dX0_addClimber_0 : decode cX0_addClimber 0 = .ok (.aload_n 0, 1) := by decide +kernel
theorem dX0_addClimber_1 : decode cX0_addClimber 1 = .ok (.getfield 41, 3) := by decide +kernel
theorem dX0_addClimber_4 : decode cX0_addClimber 4 = .ok (.bipush 6, 2) := by decide +kernel
theorem dX0_addClimber_6 : decode cX0_addClimber 6 = .ok (.if_icmp .lt 6, 3) := by decide +kernel
theorem dX0_addClimber_9 : decode cX0_addClimber 9 = .ok (.bipush (-4), 2) := by decide +kernel
theorem dX0_addClimber_11 : decode cX0_addClimber 11 = .ok (.ireturn, 1) := by decide +kernel
theorem dX0_addClimber_12 : decode cX0_addClimber 12 = .ok (.aload_n 0, 1) := by decide +kernel
theorem dX0_addClimber_13 : decode cX0_addClimber 13 = .ok (.dup, 1) := by decide +kernel
theorem dX0_addClimber_14 : decode cX0_addClimber 14 = .ok (.getfield 41, 3) := by decide +kernel
theorem dX0_addClimber_17 : decode cX0_addClimber 17 = .ok (.iconst 1, 1) := by decide +kernel
theorem dX0_addClimber_18 : decode cX0_addClimber 18 = .ok (.iadd, 1) := by decide +kernel
theorem dX0_addClimber_19 : decode cX0_addClimber 19 = .ok (.putfield 41, 3) := by decide +kernel
theorem dX0_addClimber_22 : decode cX0_addClimber 22 = .ok (.aload_n 0, 1) := by decide +kernel
theorem dX0_addClimber_23 : decode cX0_addClimber 23 = .ok (.getfield 41, 3) := by decide +kernel
theorem dX0_addClimber_26 : decode cX0_addClimber 26 = .ok (.iconst 1, 1) := by decide +kernel
theorem dX0_addClimber_27 : decode cX0_addClimber 27 = .ok (.isub, 1) := by decide +kernel
theorem dX0_addClimber_28 : decode cX0_addClimber 28 = .ok (.ireturn, 1) := by decide +kernel
theorem dX0_makeRoll_0 : decode cX0_makeRoll 0 = .ok (.iload_n 1, 1) := by decide +kernel
theorem dX0_makeRoll_1 : decode cX0_makeRoll 1 = .ok (.invokestatic 91, 3) := by decide +kernel
theorem dX0_makeRoll_4 : decode cX0_makeRoll 4 = .ok (.ifCond .ne 6, 3) := by decide +kernel
theorem dX0_makeRoll_7 : decode cX0_makeRoll 7 = .ok (.bipush (-2), 2) := by decide +kernel
theorem dX0_makeRoll_9 : decode cX0_makeRoll 9 = .ok (.ireturn, 1) := by decide +kernel
theorem dX0_makeRoll_10 : decode cX0_makeRoll 10 = .ok (.aload_n 0, 1) := by decide +kernel
theorem dX0_makeRoll_11 : decode cX0_makeRoll 11 = .ok (.invokevirtual 94, 3) := by decide +kernel
theorem dX0_makeRoll_14 : decode cX0_makeRoll 14 = .ok (.ifCond .ne 6, 3) := by decide +kernel
theorem dX0_makeRoll_17 : decode cX0_makeRoll 17 = .ok (.bipush (-3), 2) := by decide +kernel
theorem dX0_makeRoll_19 : decode cX0_makeRoll 19 = .ok (.ireturn, 1) := by decide +kernel
theorem dX0_makeRoll_20 : decode cX0_makeRoll 20 = .ok (.aload_n 0, 1) := by decide +kernel
theorem dX0_makeRoll_21 : decode cX0_makeRoll 21 = .ok (.getfield 44, 3) := by decide +kernel
theorem dX0_makeRoll_24 : decode cX0_makeRoll 24 = .ok (.istore_n 2, 1) := by decide +kernel
theorem dX0_makeRoll_25 : decode cX0_makeRoll 25 = .ok (.aload_n 0, 1) := by decide +kernel
theorem dX0_makeRoll_26 : decode cX0_makeRoll 26 = .ok (.getfield 19, 3) := by decide +kernel
theorem dX0_makeRoll_29 : decode cX0_makeRoll 29 = .ok (.iload_n 2, 1) := by decide +kernel
theorem dX0_makeRoll_30 : decode cX0_makeRoll 30 = .ok (.iaload, 1) := by decide +kernel
theorem dX0_makeRoll_31 : decode cX0_makeRoll 31 = .ok (.iload_n 1, 1) := by decide +kernel
theorem dX0_makeRoll_32 : decode cX0_makeRoll 32 = .ok (.iadd, 1) := by decide +kernel
theorem dX0_makeRoll_33 : decode cX0_makeRoll 33 = .ok (.istore_n 3, 1) := by decide +kernel
theorem dX0_makeRoll_34 : decode cX0_makeRoll 34 = .ok (.aload_n 0, 1) := by decide +kernel
theorem dX0_makeRoll_35 : decode cX0_makeRoll 35 = .ok (.dup, 1) := by decide +kernel
theorem dX0_makeRoll_36 : decode cX0_makeRoll 36 = .ok (.getfield 47, 3) := by decide +kernel
theorem dX0_makeRoll_39 : decode cX0_makeRoll 39 = .ok (.iconst 1, 1) := by decide +kernel
theorem dX0_makeRoll_40 : decode cX0_makeRoll 40 = .ok (.iadd, 1) := by decide +kernel
theorem dX0_makeRoll_41 : decode cX0_makeRoll 41 = .ok (.putfield 47, 3) := by decide +kernel
theorem dX0_makeRoll_44 : decode cX0_makeRoll 44 = .ok (.aload_n 0, 1) := by decide +kernel
theorem dX0_makeRoll_45 : decode cX0_makeRoll 45 = .ok (.iload_n 1, 1) := by decide +kernel
theorem dX0_makeRoll_46 : decode cX0_makeRoll 46 = .ok (.invokevirtual 98, 3) := by decide +kernel
theorem dX0_makeRoll_49 : decode cX0_makeRoll 49 = .ok (.aload_n 0, 1) := by decide +kernel
theorem dX0_makeRoll_50 : decode cX0_makeRoll 50 = .ok (.iload_n 2, 1) := by decide +kernel
theorem dX0_makeRoll_51 : decode cX0_makeRoll 51 = .ok (.iload_n 3, 1) := by decide +kernel
theorem dX0_makeRoll_52 : decode cX0_makeRoll 52 = .ok (.invokevirtual 102, 3) := by decide +kernel
theorem dX0_makeRoll_55 : decode cX0_makeRoll 55 = .ok (.aload_n 0, 1) := by decide +kernel
theorem dX0_makeRoll_56 : decode cX0_makeRoll 56 = .ok (.iload_n 3, 1) := by decide +kernel
theorem dX0_makeRoll_57 : decode cX0_makeRoll 57 = .ok (.invokevirtual 83, 3) := by decide +kernel
theorem dX0_makeRoll_60 : decode cX0_makeRoll 60 = .ok (.ifCond .eq 13, 3) := by decide +kernel
theorem dX0_makeRoll_63 : decode cX0_makeRoll 63 = .ok (.aload_n 0, 1) := by decide +kernel
theorem dX0_makeRoll_64 : decode cX0_makeRoll 64 = .ok (.getfield 25, 3) := by decide +kernel
theorem dX0_makeRoll_67 : decode cX0_makeRoll 67 = .ok (.iload_n 2, 1) := by decide +kernel
theorem dX0_makeRoll_68 : decode cX0_makeRoll 68 = .ok (.dup2, 1) := by decide +kernel
theorem dX0_makeRoll_69 : decode cX0_makeRoll 69 = .ok (.iaload, 1) := by decide +kernel
theorem dX0_makeRoll_70 : decode cX0_makeRoll 70 = .ok (.iconst 1, 1) := by decide +kernel
theorem dX0_makeRoll_71 : decode cX0_makeRoll 71 = .ok (.iadd, 1) := by decide +kernel
theorem dX0_makeRoll_72 : decode cX0_makeRoll 72 = .ok (.iastore, 1) := by decide +kernel
theorem dX0_makeRoll_73 : decode cX0_makeRoll 73 = .ok (.aload_n 0, 1) := by decide +kernel
theorem dX0_makeRoll_74 : decode cX0_makeRoll 74 = .ok (.invokevirtual 106, 3) := by decide +kernel
theorem dX0_makeRoll_77 : decode cX0_makeRoll 77 = .ok (.aload_n 0, 1) := by decide +kernel
theorem dX0_makeRoll_78 : decode cX0_makeRoll 78 = .ok (.getfield 19, 3) := by decide +kernel
theorem dX0_makeRoll_81 : decode cX0_makeRoll 81 = .ok (.iload_n 2, 1) := by decide +kernel
theorem dX0_makeRoll_82 : decode cX0_makeRoll 82 = .ok (.iaload, 1) := by decide +kernel
theorem dX0_makeRoll_83 : decode cX0_makeRoll 83 = .ok (.ireturn, 1) := by decide +kernel
theorem dX0_makePass_0 : decode cX0_makePass 0 = .ok (.aload_n 0, 1) := by decide +kernel
theorem dX0_makePass_1 : decode cX0_makePass 1 = .ok (.invokevirtual 94, 3) := by decide +kernel
theorem dX0_makePass_4 : decode cX0_makePass 4 = .ok (.ifCond .ne 6, 3) := by decide +kernel
theorem dX0_makePass_7 : decode cX0_makePass 7 = .ok (.bipush (-3), 2) := by decide +kernel
theorem dX0_makePass_9 : decode cX0_makePass 9 = .ok (.ireturn, 1) := by decide +kernel
theorem dX0_makePass_10 : decode cX0_makePass 10 = .ok (.aload_n 0, 1) := by decide +kernel
theorem dX0_makePass_11 : decode cX0_makePass 11 = .ok (.invokevirtual 106, 3) := by decide +kernel
theorem dX0_makePass_14 : decode cX0_makePass 14 = .ok (.aload_n 0, 1) := by decide +kernel
theorem dX0_makePass_15 : decode cX0_makePass 15 = .ok (.getfield 44, 3) := by decide +kernel
theorem dX0_makePass_18 : decode cX0_makePass 18 = .ok (.ireturn, 1) := by decide +kernel
theorem dX0_wouldLift_0 : decode cX0_wouldLift 0 = .ok (.iconst 0, 1) := by decide +kernel
theorem dX0_wouldLift_1 : decode cX0_wouldLift 1 = .ok (.istore_n 2, 1) := by decide +kernel
theorem dX0_wouldLift_2 : decode cX0_wouldLift 2 = .ok (.iload_n 2, 1) := by decide +kernel
theorem dX0_wouldLift_3 : decode cX0_wouldLift 3 = .ok (.aload_n 0, 1) := by decide +kernel
theorem dX0_wouldLift_4 : decode cX0_wouldLift 4 = .ok (.getfield 41, 3) := by decide +kernel
theorem dX0_wouldLift_7 : decode cX0_wouldLift 7 = .ok (.if_icmp .ge 20, 3) := by decide +kernel
theorem dX0_wouldLift_10 : decode cX0_wouldLift 10 = .ok (.aload_n 0, 1) := by decide +kernel
theorem dX0_wouldLift_11 : decode cX0_wouldLift 11 = .ok (.iload_n 2, 1) := by decide +kernel
theorem dX0_wouldLift_12 : decode cX0_wouldLift 12 = .ok (.iload_n 1, 1) := by decide +kernel
theorem dX0_wouldLift_13 : decode cX0_wouldLift 13 = .ok (.invokevirtual 109, 3) := by decide +kernel
theorem dX0_wouldLift_16 : decode cX0_wouldLift 16 = .ok (.ifCond .eq 5, 3) := by decide +kernel
theorem dX0_wouldLift_19 : decode cX0_wouldLift 19 = .ok (.iconst 1, 1) := by decide +kernel
theorem dX0_wouldLift_20 : decode cX0_wouldLift 20 = .ok (.ireturn, 1) := by decide +kernel
theorem dX0_wouldLift_21 : decode cX0_wouldLift 21 = .ok (.iinc 2 1, 3) := by decide +kernel
theorem dX0_wouldLift_24 : decode cX0_wouldLift 24 = .ok (.goto (-22), 3) := by decide +kernel
theorem dX0_wouldLift_27 : decode cX0_wouldLift 27 = .ok (.iconst 0, 1) := by decide +kernel
theorem dX0_wouldLift_28 : decode cX0_wouldLift 28 = .ok (.ireturn, 1) := by decide +kernel
theorem dX0_isPassed_0 : decode cX0_isPassed 0 = .ok (.aload_n 0, 1) := by decide +kernel
theorem dX0_isPassed_1 : decode cX0_isPassed 1 = .ok (.getfield 19, 3) := by decide +kernel
theorem dX0_isPassed_4 : decode cX0_isPassed 4 = .ok (.iload_n 1, 1) := by decide +kernel
theorem dX0_isPassed_5 : decode cX0_isPassed 5 = .ok (.iaload, 1) := by decide +kernel
theorem dX0_isPassed_6 : decode cX0_isPassed 6 = .ok (.istore_n 3, 1) := by decide +kernel
theorem dX0_isPassed_7 : decode cX0_isPassed 7 = .ok (.aload_n 0, 1) := by decide +kernel
theorem dX0_isPassed_8 : decode cX0_isPassed 8 = .ok (.getfield 19, 3) := by decide +kernel
theorem dX0_isPassed_11 : decode cX0_isPassed 11 = .ok (.aload_n 0, 1) := by decide +kernel
theorem dX0_isPassed_12 : decode cX0_isPassed 12 = .ok (.getfield 44, 3) := by decide +kernel
theorem dX0_isPassed_15 : decode cX0_isPassed 15 = .ok (.iaload, 1) := by decide +kernel
theorem dX0_isPassed_16 : decode cX0_isPassed 16 = .ok (.istore 4, 2) := by decide +kernel
theorem dX0_isPassed_18 : decode cX0_isPassed 18 = .ok (.iload_n 3, 1) := by decide +kernel
theorem dX0_isPassed_19 : decode cX0_isPassed 19 = .ok (.iload 4, 2) := by decide +kernel
theorem dX0_isPassed_21 : decode cX0_isPassed 21 = .ok (.if_icmp .le 23, 3) := by decide +kernel
theorem dX0_isPassed_24 : decode cX0_isPassed 24 = .ok (.iload_n 3, 1) := by decide +kernel
theorem dX0_isPassed_25 : decode cX0_isPassed 25 = .ok (.iload 4, 2) := by decide +kernel
theorem dX0_isPassed_27 : decode cX0_isPassed 27 = .ok (.iload_n 2, 1) := by decide +kernel
theorem dX0_isPassed_28 : decode cX0_isPassed 28 = .ok (.iadd, 1) := by decide +kernel
theorem dX0_isPassed_29 : decode cX0_isPassed 29 = .ok (.if_icmp .ge 15, 3) := by decide +kernel
theorem dX0_isPassed_32 : decode cX0_isPassed 32 = .ok (.aload_n 0, 1) := by decide +kernel
theorem dX0_isPassed_33 : decode cX0_isPassed 33 = .ok (.iload_n 3, 1) := by decide +kernel
theorem dX0_isPassed_34 : decode cX0_isPassed 34 = .ok (.invokevirtual 83, 3) := by decide +kernel
theorem dX0_isPassed_37 : decode cX0_isPassed 37 = .ok (.ifCond .ne 7, 3) := by decide +kernel
theorem dX0_isPassed_40 : decode cX0_isPassed 40 = .ok (.iconst 1, 1) := by decide +kernel
theorem dX0_isPassed_41 : decode cX0_isPassed 41 = .ok (.goto 4, 3) := by decide +kernel
theorem dX0_isPassed_44 : decode cX0_isPassed 44 = .ok (.iconst 0, 1) := by decide +kernel
theorem dX0_isPassed_45 : decode cX0_isPassed 45 = .ok (.ireturn, 1) := by decide +kernel
theorem dX0_liftThosePassed_0 : decode cX0_liftThosePassed 0 = .ok (.iconst 0, 1) := by decide +kernel
theorem dX0_liftThosePassed_1 : decode cX0_liftThosePassed 1 = .ok (.istore_n 2, 1) := by decide +kernel
theorem dX0_liftThosePassed_2 : decode cX0_liftThosePassed 2 = .ok (.iload_n 2, 1) := by decide +kernel
theorem dX0_liftThosePassed_3 : decode cX0_liftThosePassed 3 = .ok (.aload_n 0, 1) := by decide +kernel
theorem dX0_liftThosePassed_4 : decode cX0_liftThosePassed 4 = .ok (.getfield 41, 3) := by decide +kernel
theorem dX0_liftThosePassed_7 : decode cX0_liftThosePassed 7 = .ok (.if_icmp .ge 54, 3) := by decide +kernel
theorem dX0_liftThosePassed_10 : decode cX0_liftThosePassed 10 = .ok (.aload_n 0, 1) := by decide +kernel
theorem dX0_liftThosePassed_11 : decode cX0_liftThosePassed 11 = .ok (.iload_n 2, 1) := by decide +kernel
theorem dX0_liftThosePassed_12 : decode cX0_liftThosePassed 12 = .ok (.iload_n 1, 1) := by decide +kernel
theorem dX0_liftThosePassed_13 : decode cX0_liftThosePassed 13 = .ok (.invokevirtual 109, 3) := by decide +kernel
theorem dX0_liftThosePassed_16 : decode cX0_liftThosePassed 16 = .ok (.ifCond .eq 39, 3) := by decide +kernel
theorem dX0_liftThosePassed_19 : decode cX0_liftThosePassed 19 = .ok (.aload_n 0, 1) := by decide +kernel
theorem dX0_liftThosePassed_20 : decode cX0_liftThosePassed 20 = .ok (.getfield 28, 3) := by decide +kernel
theorem dX0_liftThosePassed_23 : decode cX0_liftThosePassed 23 = .ok (.iload_n 2, 1) := by decide +kernel
theorem dX0_liftThosePassed_24 : decode cX0_liftThosePassed 24 = .ok (.dup2, 1) := by decide +kernel
theorem dX0_liftThosePassed_25 : decode cX0_liftThosePassed 25 = .ok (.iaload, 1) := by decide +kernel
theorem dX0_liftThosePassed_26 : decode cX0_liftThosePassed 26 = .ok (.iconst 1, 1) := by decide +kernel
theorem dX0_liftThosePassed_27 : decode cX0_liftThosePassed 27 = .ok (.iadd, 1) := by decide +kernel
theorem dX0_liftThosePassed_28 : decode cX0_liftThosePassed 28 = .ok (.iastore, 1) := by decide +kernel
theorem dX0_liftThosePassed_29 : decode cX0_liftThosePassed 29 = .ok (.aload_n 0, 1) := by decide +kernel
theorem dX0_liftThosePassed_30 : decode cX0_liftThosePassed 30 = .ok (.getfield 31, 3) := by decide +kernel
theorem dX0_liftThosePassed_33 : decode cX0_liftThosePassed 33 = .ok (.aload_n 0, 1) := by decide +kernel
theorem dX0_liftThosePassed_34 : decode cX0_liftThosePassed 34 = .ok (.getfield 44, 3) := by decide +kernel
theorem dX0_liftThosePassed_37 : decode cX0_liftThosePassed 37 = .ok (.dup2, 1) := by decide +kernel
theorem dX0_liftThosePassed_38 : decode cX0_liftThosePassed 38 = .ok (.iaload, 1) := by decide +kernel
theorem dX0_liftThosePassed_39 : decode cX0_liftThosePassed 39 = .ok (.iconst 1, 1) := by decide +kernel
theorem dX0_liftThosePassed_40 : decode cX0_liftThosePassed 40 = .ok (.iadd, 1) := by decide +kernel
theorem dX0_liftThosePassed_41 : decode cX0_liftThosePassed 41 = .ok (.iastore, 1) := by decide +kernel
theorem dX0_liftThosePassed_42 : decode cX0_liftThosePassed 42 = .ok (.aload_n 0, 1) := by decide +kernel
theorem dX0_liftThosePassed_43 : decode cX0_liftThosePassed 43 = .ok (.iload_n 2, 1) := by decide +kernel
theorem dX0_liftThosePassed_44 : decode cX0_liftThosePassed 44 = .ok (.aload_n 0, 1) := by decide +kernel
theorem dX0_liftThosePassed_45 : decode cX0_liftThosePassed 45 = .ok (.getfield 19, 3) := by decide +kernel
theorem dX0_liftThosePassed_48 : decode cX0_liftThosePassed 48 = .ok (.iload_n 2, 1) := by decide +kernel
theorem dX0_liftThosePassed_49 : decode cX0_liftThosePassed 49 = .ok (.iaload, 1) := by decide +kernel
theorem dX0_liftThosePassed_50 : decode cX0_liftThosePassed 50 = .ok (.iconst 1, 1) := by decide +kernel
theorem dX0_liftThosePassed_51 : decode cX0_liftThosePassed 51 = .ok (.iadd, 1) := by decide +kernel
theorem dX0_liftThosePassed_52 : decode cX0_liftThosePassed 52 = .ok (.invokevirtual 102, 3) := by decide +kernel
theorem dX0_liftThosePassed_55 : decode cX0_liftThosePassed 55 = .ok (.iinc 2 1, 3) := by decide +kernel
theorem dX0_liftThosePassed_58 : decode cX0_liftThosePassed 58 = .ok (.goto (-56), 3) := by decide +kernel
theorem dX0_liftThosePassed_61 : decode cX0_liftThosePassed 61 = .ok (.return_, 1) := by decide +kernel
theorem dX0_comeTo_0 : decode cX0_comeTo 0 = .ok (.aload_n 0, 1) := by decide +kernel
theorem dX0_comeTo_1 : decode cX0_comeTo 1 = .ok (.iload_n 2, 1) := by decide +kernel
theorem dX0_comeTo_2 : decode cX0_comeTo 2 = .ok (.invokevirtual 70, 3) := by decide +kernel
theorem dX0_comeTo_5 : decode cX0_comeTo 5 = .ok (.ifCond .ne 23, 3) := by decide +kernel
theorem dX0_comeTo_8 : decode cX0_comeTo 8 = .ok (.aload_n 0, 1) := by decide +kernel
theorem dX0_comeTo_9 : decode cX0_comeTo 9 = .ok (.getfield 22, 3) := by decide +kernel
theorem dX0_comeTo_12 : decode cX0_comeTo 12 = .ok (.iload_n 1, 1) := by decide +kernel
theorem dX0_comeTo_13 : decode cX0_comeTo 13 = .ok (.dup2, 1) := by decide +kernel
theorem dX0_comeTo_14 : decode cX0_comeTo 14 = .ok (.iaload, 1) := by decide +kernel
theorem dX0_comeTo_15 : decode cX0_comeTo 15 = .ok (.iconst 1, 1) := by decide +kernel
theorem dX0_comeTo_16 : decode cX0_comeTo 16 = .ok (.iadd, 1) := by decide +kernel
theorem dX0_comeTo_17 : decode cX0_comeTo 17 = .ok (.iastore, 1) := by decide +kernel
theorem dX0_comeTo_18 : decode cX0_comeTo 18 = .ok (.aload_n 0, 1) := by decide +kernel
theorem dX0_comeTo_19 : decode cX0_comeTo 19 = .ok (.getfield 19, 3) := by decide +kernel
theorem dX0_comeTo_22 : decode cX0_comeTo 22 = .ok (.iload_n 1, 1) := by decide +kernel
theorem dX0_comeTo_23 : decode cX0_comeTo 23 = .ok (.iconst 0, 1) := by decide +kernel
theorem dX0_comeTo_24 : decode cX0_comeTo 24 = .ok (.iastore, 1) := by decide +kernel
theorem dX0_comeTo_25 : decode cX0_comeTo 25 = .ok (.goto 46, 3) := by decide +kernel
theorem dX0_comeTo_28 : decode cX0_comeTo 28 = .ok (.aload_n 0, 1) := by decide +kernel
theorem dX0_comeTo_29 : decode cX0_comeTo 29 = .ok (.getfield 9, 3) := by decide +kernel
theorem dX0_comeTo_32 : decode cX0_comeTo 32 = .ok (.iload_n 2, 1) := by decide +kernel
theorem dX0_comeTo_33 : decode cX0_comeTo 33 = .ok (.iaload, 1) := by decide +kernel
theorem dX0_comeTo_34 : decode cX0_comeTo 34 = .ok (.bipush (-6), 2) := by decide +kernel
theorem dX0_comeTo_36 : decode cX0_comeTo 36 = .ok (.if_icmp .eq 28, 3) := by decide +kernel
theorem dX0_comeTo_39 : decode cX0_comeTo 39 = .ok (.aload_n 0, 1) := by decide +kernel
theorem dX0_comeTo_40 : decode cX0_comeTo 40 = .ok (.getfield 34, 3) := by decide +kernel
theorem dX0_comeTo_43 : decode cX0_comeTo 43 = .ok (.iload_n 1, 1) := by decide +kernel
theorem dX0_comeTo_44 : decode cX0_comeTo 44 = .ok (.dup2, 1) := by decide +kernel
theorem dX0_comeTo_45 : decode cX0_comeTo 45 = .ok (.iaload, 1) := by decide +kernel
theorem dX0_comeTo_46 : decode cX0_comeTo 46 = .ok (.iconst 1, 1) := by decide +kernel
theorem dX0_comeTo_47 : decode cX0_comeTo 47 = .ok (.iadd, 1) := by decide +kernel
theorem dX0_comeTo_48 : decode cX0_comeTo 48 = .ok (.iastore, 1) := by decide +kernel
theorem dX0_comeTo_49 : decode cX0_comeTo 49 = .ok (.aload_n 0, 1) := by decide +kernel
theorem dX0_comeTo_50 : decode cX0_comeTo 50 = .ok (.getfield 19, 3) := by decide +kernel
theorem dX0_comeTo_53 : decode cX0_comeTo 53 = .ok (.iload_n 1, 1) := by decide +kernel
theorem dX0_comeTo_54 : decode cX0_comeTo 54 = .ok (.aload_n 0, 1) := by decide +kernel
theorem dX0_comeTo_55 : decode cX0_comeTo 55 = .ok (.getfield 9, 3) := by decide +kernel
theorem dX0_comeTo_58 : decode cX0_comeTo 58 = .ok (.iload_n 2, 1) := by decide +kernel
theorem dX0_comeTo_59 : decode cX0_comeTo 59 = .ok (.iaload, 1) := by decide +kernel
theorem dX0_comeTo_60 : decode cX0_comeTo 60 = .ok (.iastore, 1) := by decide +kernel
theorem dX0_comeTo_61 : decode cX0_comeTo 61 = .ok (.goto 10, 3) := by decide +kernel
theorem dX0_comeTo_64 : decode cX0_comeTo 64 = .ok (.aload_n 0, 1) := by decide +kernel
theorem dX0_comeTo_65 : decode cX0_comeTo 65 = .ok (.getfield 19, 3) := by decide +kernel
theorem dX0_comeTo_68 : decode cX0_comeTo 68 = .ok (.iload_n 1, 1) := by decide +kernel
theorem dX0_comeTo_69 : decode cX0_comeTo 69 = .ok (.iload_n 2, 1) := by decide +kernel
theorem dX0_comeTo_70 : decode cX0_comeTo 70 = .ok (.iastore, 1) := by decide +kernel
theorem dX0_comeTo_71 : decode cX0_comeTo 71 = .ok (.return_, 1) := by decide +kernel
theorem dX0_goToNextMover_0 : decode cX0_goToNextMover 0 = .ok (.aload_n 0, 1) := by decide +kernel
theorem dX0_goToNextMover_1 : decode cX0_goToNextMover 1 = .ok (.aload_n 0, 1) := by decide +kernel
theorem dX0_goToNextMover_2 : decode cX0_goToNextMover 2 = .ok (.getfield 44, 3) := by decide +kernel
theorem dX0_goToNextMover_5 : decode cX0_goToNextMover 5 = .ok (.invokevirtual 113, 3) := by decide +kernel
theorem dX0_goToNextMover_8 : decode cX0_goToNextMover 8 = .ok (.istore_n 1, 1) := by decide +kernel
theorem dX0_goToNextMover_9 : decode cX0_goToNextMover 9 = .ok (.iconst 0, 1) := by decide +kernel
theorem dX0_goToNextMover_10 : decode cX0_goToNextMover 10 = .ok (.istore_n 2, 1) := by decide +kernel
theorem dX0_goToNextMover_11 : decode cX0_goToNextMover 11 = .ok (.iload_n 2, 1) := by decide +kernel
theorem dX0_goToNextMover_12 : decode cX0_goToNextMover 12 = .ok (.bipush 12, 2) := by decide +kernel
theorem dX0_goToNextMover_14 : decode cX0_goToNextMover 14 = .ok (.if_icmp .ge 44, 3) := by decide +kernel
theorem dX0_goToNextMover_17 : decode cX0_goToNextMover 17 = .ok (.aload_n 0, 1) := by decide +kernel
theorem dX0_goToNextMover_18 : decode cX0_goToNextMover 18 = .ok (.getfield 25, 3) := by decide +kernel
theorem dX0_goToNextMover_21 : decode cX0_goToNextMover 21 = .ok (.iload_n 1, 1) := by decide +kernel
theorem dX0_goToNextMover_22 : decode cX0_goToNextMover 22 = .ok (.iaload, 1) := by decide +kernel
theorem dX0_goToNextMover_23 : decode cX0_goToNextMover 23 = .ok (.ifCond .le 35, 3) := by decide +kernel
theorem dX0_goToNextMover_26 : decode cX0_goToNextMover 26 = .ok (.aload_n 0, 1) := by decide +kernel
theorem dX0_goToNextMover_27 : decode cX0_goToNextMover 27 = .ok (.getfield 25, 3) := by decide +kernel
theorem dX0_goToNextMover_30 : decode cX0_goToNextMover 30 = .ok (.iload_n 1, 1) := by decide +kernel
theorem dX0_goToNextMover_31 : decode cX0_goToNextMover 31 = .ok (.dup2, 1) := by decide +kernel
theorem dX0_goToNextMover_32 : decode cX0_goToNextMover 32 = .ok (.iaload, 1) := by decide +kernel
theorem dX0_goToNextMover_33 : decode cX0_goToNextMover 33 = .ok (.iconst 1, 1) := by decide +kernel
theorem dX0_goToNextMover_34 : decode cX0_goToNextMover 34 = .ok (.isub, 1) := by decide +kernel
theorem dX0_goToNextMover_35 : decode cX0_goToNextMover 35 = .ok (.iastore, 1) := by decide +kernel
theorem dX0_goToNextMover_36 : decode cX0_goToNextMover 36 = .ok (.aload_n 0, 1) := by decide +kernel
theorem dX0_goToNextMover_37 : decode cX0_goToNextMover 37 = .ok (.dup, 1) := by decide +kernel
theorem dX0_goToNextMover_38 : decode cX0_goToNextMover 38 = .ok (.getfield 50, 3) := by decide +kernel
theorem dX0_goToNextMover_41 : decode cX0_goToNextMover 41 = .ok (.iconst 1, 1) := by decide +kernel
theorem dX0_goToNextMover_42 : decode cX0_goToNextMover 42 = .ok (.iadd, 1) := by decide +kernel
theorem dX0_goToNextMover_43 : decode cX0_goToNextMover 43 = .ok (.putfield 50, 3) := by decide +kernel
theorem dX0_goToNextMover_46 : decode cX0_goToNextMover 46 = .ok (.aload_n 0, 1) := by decide +kernel
theorem dX0_goToNextMover_47 : decode cX0_goToNextMover 47 = .ok (.iload_n 1, 1) := by decide +kernel
theorem dX0_goToNextMover_48 : decode cX0_goToNextMover 48 = .ok (.invokevirtual 113, 3) := by decide +kernel
theorem dX0_goToNextMover_51 : decode cX0_goToNextMover 51 = .ok (.istore_n 1, 1) := by decide +kernel
theorem dX0_goToNextMover_52 : decode cX0_goToNextMover 52 = .ok (.iinc 2 1, 3) := by decide +kernel
theorem dX0_goToNextMover_55 : decode cX0_goToNextMover 55 = .ok (.goto (-44), 3) := by decide +kernel
theorem dX0_goToNextMover_58 : decode cX0_goToNextMover 58 = .ok (.aload_n 0, 1) := by decide +kernel
theorem dX0_goToNextMover_59 : decode cX0_goToNextMover 59 = .ok (.iload_n 1, 1) := by decide +kernel
theorem dX0_goToNextMover_60 : decode cX0_goToNextMover 60 = .ok (.putfield 44, 3) := by decide +kernel
theorem dX0_goToNextMover_63 : decode cX0_goToNextMover 63 = .ok (.return_, 1) := by decide +kernel
theorem dX0_behind_0 : decode cX0_behind 0 = .ok (.aload_n 0, 1) := by decide +kernel
theorem dX0_behind_1 : decode cX0_behind 1 = .ok (.iload_n 1, 1) := by decide +kernel
theorem dX0_behind_2 : decode cX0_behind 2 = .ok (.iconst 1, 1) := by decide +kernel
theorem dX0_behind_3 : decode cX0_behind 3 = .ok (.iadd, 1) := by decide +kernel
theorem dX0_behind_4 : decode cX0_behind 4 = .ok (.invokevirtual 59, 3) := by decide +kernel
theorem dX0_behind_7 : decode cX0_behind 7 = .ok (.ifCond .eq 9, 3) := by decide +kernel
theorem dX0_behind_10 : decode cX0_behind 10 = .ok (.iload_n 1, 1) := by decide +kernel
theorem dX0_behind_11 : decode cX0_behind 11 = .ok (.iconst 1, 1) := by decide +kernel
theorem dX0_behind_12 : decode cX0_behind 12 = .ok (.iadd, 1) := by decide +kernel
theorem dX0_behind_13 : decode cX0_behind 13 = .ok (.goto 4, 3) := by decide +kernel
theorem dX0_behind_16 : decode cX0_behind 16 = .ok (.iconst 0, 1) := by decide +kernel
theorem dX0_behind_17 : decode cX0_behind 17 = .ok (.ireturn, 1) := by decide +kernel
theorem dX0_isLanding_0 : decode cX0_isLanding 0 = .ok (.iload_n 1, 1) := by decide +kernel
theorem dX0_isLanding_1 : decode cX0_isLanding 1 = .ok (.ifCond .lt 24, 3) := by decide +kernel
theorem dX0_isLanding_4 : decode cX0_isLanding 4 = .ok (.iload_n 1, 1) := by decide +kernel
theorem dX0_isLanding_5 : decode cX0_isLanding 5 = .ok (.aload_n 0, 1) := by decide +kernel
theorem dX0_isLanding_6 : decode cX0_isLanding 6 = .ok (.getfield 37, 3) := by decide +kernel
theorem dX0_isLanding_9 : decode cX0_isLanding 9 = .ok (.if_icmp .ge 16, 3) := by decide +kernel
theorem dX0_isLanding_12 : decode cX0_isLanding 12 = .ok (.aload_n 0, 1) := by decide +kernel
theorem dX0_isLanding_13 : decode cX0_isLanding 13 = .ok (.getfield 15, 3) := by decide +kernel
theorem dX0_isLanding_16 : decode cX0_isLanding 16 = .ok (.iload_n 1, 1) := by decide +kernel
theorem dX0_isLanding_17 : decode cX0_isLanding 17 = .ok (.baload, 1) := by decide +kernel
theorem dX0_isLanding_18 : decode cX0_isLanding 18 = .ok (.ifCond .eq 7, 3) := by decide +kernel
theorem dX0_isLanding_21 : decode cX0_isLanding 21 = .ok (.iconst 1, 1) := by decide +kernel
theorem dX0_isLanding_22 : decode cX0_isLanding 22 = .ok (.goto 4, 3) := by decide +kernel
theorem dX0_isLanding_25 : decode cX0_isLanding 25 = .ok (.iconst 0, 1) := by decide +kernel
theorem dX0_isLanding_26 : decode cX0_isLanding 26 = .ok (.ireturn, 1) := by decide +kernel
theorem dX0_isUpperEnd_0 : decode cX0_isUpperEnd 0 = .ok (.iload_n 1, 1) := by decide +kernel
theorem dX0_isUpperEnd_1 : decode cX0_isUpperEnd 1 = .ok (.ifCond .lt 26, 3) := by decide +kernel
theorem dX0_isUpperEnd_4 : decode cX0_isUpperEnd 4 = .ok (.iload_n 1, 1) := by decide +kernel
theorem dX0_isUpperEnd_5 : decode cX0_isUpperEnd 5 = .ok (.aload_n 0, 1) := by decide +kernel
theorem dX0_isUpperEnd_6 : decode cX0_isUpperEnd 6 = .ok (.getfield 37, 3) := by decide +kernel
theorem dX0_isUpperEnd_9 : decode cX0_isUpperEnd 9 = .ok (.if_icmp .ge 18, 3) := by decide +kernel
theorem dX0_isUpperEnd_12 : decode cX0_isUpperEnd 12 = .ok (.aload_n 0, 1) := by decide +kernel
theorem dX0_isUpperEnd_13 : decode cX0_isUpperEnd 13 = .ok (.getfield 9, 3) := by decide +kernel
theorem dX0_isUpperEnd_16 : decode cX0_isUpperEnd 16 = .ok (.iload_n 1, 1) := by decide +kernel
theorem dX0_isUpperEnd_17 : decode cX0_isUpperEnd 17 = .ok (.iaload, 1) := by decide +kernel
theorem dX0_isUpperEnd_18 : decode cX0_isUpperEnd 18 = .ok (.bipush (-6), 2) := by decide +kernel
theorem dX0_isUpperEnd_20 : decode cX0_isUpperEnd 20 = .ok (.if_icmp .eq 7, 3) := by decide +kernel
theorem dX0_isUpperEnd_23 : decode cX0_isUpperEnd 23 = .ok (.iconst 1, 1) := by decide +kernel
theorem dX0_isUpperEnd_24 : decode cX0_isUpperEnd 24 = .ok (.goto 4, 3) := by decide +kernel
theorem dX0_isUpperEnd_27 : decode cX0_isUpperEnd 27 = .ok (.iconst 0, 1) := by decide +kernel
theorem dX0_isUpperEnd_28 : decode cX0_isUpperEnd 28 = .ok (.ireturn, 1) := by decide +kernel
theorem dX0_climbersOn_0 : decode cX0_climbersOn 0 = .ok (.iconst 0, 1) := by decide +kernel
theorem dX0_climbersOn_1 : decode cX0_climbersOn 1 = .ok (.istore_n 2, 1) := by decide +kernel
theorem dX0_climbersOn_2 : decode cX0_climbersOn 2 = .ok (.iconst 0, 1) := by decide +kernel
theorem dX0_climbersOn_3 : decode cX0_climbersOn 3 = .ok (.istore_n 3, 1) := by decide +kernel
theorem dX0_climbersOn_4 : decode cX0_climbersOn 4 = .ok (.iload_n 3, 1) := by decide +kernel
theorem dX0_climbersOn_5 : decode cX0_climbersOn 5 = .ok (.aload_n 0, 1) := by decide +kernel
theorem dX0_climbersOn_6 : decode cX0_climbersOn 6 = .ok (.getfield 41, 3) := by decide +kernel
theorem dX0_climbersOn_9 : decode cX0_climbersOn 9 = .ok (.if_icmp .ge 25, 3) := by decide +kernel
theorem dX0_climbersOn_12 : decode cX0_climbersOn 12 = .ok (.aload_n 0, 1) := by decide +kernel
theorem dX0_climbersOn_13 : decode cX0_climbersOn 13 = .ok (.getfield 19, 3) := by decide +kernel
theorem dX0_climbersOn_16 : decode cX0_climbersOn 16 = .ok (.iload_n 3, 1) := by decide +kernel
theorem dX0_climbersOn_17 : decode cX0_climbersOn 17 = .ok (.iaload, 1) := by decide +kernel
theorem dX0_climbersOn_18 : decode cX0_climbersOn 18 = .ok (.iload_n 1, 1) := by decide +kernel
theorem dX0_climbersOn_19 : decode cX0_climbersOn 19 = .ok (.if_icmp .ne 9, 3) := by decide +kernel
theorem dX0_climbersOn_22 : decode cX0_climbersOn 22 = .ok (.iload_n 2, 1) := by decide +kernel
theorem dX0_climbersOn_23 : decode cX0_climbersOn 23 = .ok (.iconst 1, 1) := by decide +kernel
theorem dX0_climbersOn_24 : decode cX0_climbersOn 24 = .ok (.iload_n 3, 1) := by decide +kernel
theorem dX0_climbersOn_25 : decode cX0_climbersOn 25 = .ok (.ishl, 1) := by decide +kernel
theorem dX0_climbersOn_26 : decode cX0_climbersOn 26 = .ok (.ior, 1) := by decide +kernel
theorem dX0_climbersOn_27 : decode cX0_climbersOn 27 = .ok (.istore_n 2, 1) := by decide +kernel
theorem dX0_climbersOn_28 : decode cX0_climbersOn 28 = .ok (.iinc 3 1, 3) := by decide +kernel
theorem dX0_climbersOn_31 : decode cX0_climbersOn 31 = .ok (.goto (-27), 3) := by decide +kernel
theorem dX0_climbersOn_34 : decode cX0_climbersOn 34 = .ok (.iload_n 2, 1) := by decide +kernel
theorem dX0_climbersOn_35 : decode cX0_climbersOn 35 = .ok (.ireturn, 1) := by decide +kernel
theorem dX0_countCarpets_0 : decode cX0_countCarpets 0 = .ok (.iconst 0, 1) := by decide +kernel
theorem dX0_countCarpets_1 : decode cX0_countCarpets 1 = .ok (.istore_n 1, 1) := by decide +kernel
theorem dX0_countCarpets_2 : decode cX0_countCarpets 2 = .ok (.iconst 0, 1) := by decide +kernel
theorem dX0_countCarpets_3 : decode cX0_countCarpets 3 = .ok (.istore_n 2, 1) := by decide +kernel
theorem dX0_countCarpets_4 : decode cX0_countCarpets 4 = .ok (.iload_n 2, 1) := by decide +kernel
theorem dX0_countCarpets_5 : decode cX0_countCarpets 5 = .ok (.aload_n 0, 1) := by decide +kernel
theorem dX0_countCarpets_6 : decode cX0_countCarpets 6 = .ok (.getfield 37, 3) := by decide +kernel
theorem dX0_countCarpets_9 : decode cX0_countCarpets 9 = .ok (.if_icmp .ge 20, 3) := by decide +kernel
theorem dX0_countCarpets_12 : decode cX0_countCarpets 12 = .ok (.aload_n 0, 1) := by decide +kernel
theorem dX0_countCarpets_13 : decode cX0_countCarpets 13 = .ok (.iload_n 2, 1) := by decide +kernel
theorem dX0_countCarpets_14 : decode cX0_countCarpets 14 = .ok (.invokevirtual 63, 3) := by decide +kernel
theorem dX0_countCarpets_17 : decode cX0_countCarpets 17 = .ok (.ifCond .eq 6, 3) := by decide +kernel
theorem dX0_countCarpets_20 : decode cX0_countCarpets 20 = .ok (.iinc 1 1, 3) := by decide +kernel
theorem dX0_countCarpets_23 : decode cX0_countCarpets 23 = .ok (.iinc 2 1, 3) := by decide +kernel
theorem dX0_countCarpets_26 : decode cX0_countCarpets 26 = .ok (.goto (-22), 3) := by decide +kernel
theorem dX0_countCarpets_29 : decode cX0_countCarpets 29 = .ok (.iload_n 1, 1) := by decide +kernel
theorem dX0_countCarpets_30 : decode cX0_countCarpets 30 = .ok (.ireturn, 1) := by decide +kernel
theorem dX0_countLandings_0 : decode cX0_countLandings 0 = .ok (.iconst 0, 1) := by decide +kernel
theorem dX0_countLandings_1 : decode cX0_countLandings 1 = .ok (.istore_n 1, 1) := by decide +kernel
theorem dX0_countLandings_2 : decode cX0_countLandings 2 = .ok (.iconst 0, 1) := by decide +kernel
theorem dX0_countLandings_3 : decode cX0_countLandings 3 = .ok (.istore_n 2, 1) := by decide +kernel
theorem dX0_countLandings_4 : decode cX0_countLandings 4 = .ok (.iload_n 2, 1) := by decide +kernel
theorem dX0_countLandings_5 : decode cX0_countLandings 5 = .ok (.aload_n 0, 1) := by decide +kernel
theorem dX0_countLandings_6 : decode cX0_countLandings 6 = .ok (.getfield 37, 3) := by decide +kernel
theorem dX0_countLandings_9 : decode cX0_countLandings 9 = .ok (.if_icmp .ge 20, 3) := by decide +kernel
theorem dX0_countLandings_12 : decode cX0_countLandings 12 = .ok (.aload_n 0, 1) := by decide +kernel
theorem dX0_countLandings_13 : decode cX0_countLandings 13 = .ok (.iload_n 2, 1) := by decide +kernel
theorem dX0_countLandings_14 : decode cX0_countLandings 14 = .ok (.invokevirtual 83, 3) := by decide +kernel
theorem dX0_countLandings_17 : decode cX0_countLandings 17 = .ok (.ifCond .eq 6, 3) := by decide +kernel
theorem dX0_countLandings_20 : decode cX0_countLandings 20 = .ok (.iinc 1 1, 3) := by decide +kernel
theorem dX0_countLandings_23 : decode cX0_countLandings 23 = .ok (.iinc 2 1, 3) := by decide +kernel
theorem dX0_countLandings_26 : decode cX0_countLandings 26 = .ok (.goto (-22), 3) := by decide +kernel
theorem dX0_countLandings_29 : decode cX0_countLandings 29 = .ok (.iload_n 1, 1) := by decide +kernel
theorem dX0_countLandings_30 : decode cX0_countLandings 30 = .ok (.ireturn, 1) := by decide +kernel
theorem dX0_lowerEndsAt_0 : decode cX0_lowerEndsAt 0 = .ok (.iconst 0, 1) := by decide +kernel
theorem dX0_lowerEndsAt_1 : decode cX0_lowerEndsAt 1 = .ok (.istore_n 2, 1) := by decide +kernel
theorem dX0_lowerEndsAt_2 : decode cX0_lowerEndsAt 2 = .ok (.iconst 0, 1) := by decide +kernel
theorem dX0_lowerEndsAt_3 : decode cX0_lowerEndsAt 3 = .ok (.istore_n 3, 1) := by decide +kernel
theorem dX0_lowerEndsAt_4 : decode cX0_lowerEndsAt 4 = .ok (.iload_n 3, 1) := by decide +kernel
theorem dX0_lowerEndsAt_5 : decode cX0_lowerEndsAt 5 = .ok (.aload_n 0, 1) := by decide +kernel
theorem dX0_lowerEndsAt_6 : decode cX0_lowerEndsAt 6 = .ok (.getfield 37, 3) := by decide +kernel
theorem dX0_lowerEndsAt_9 : decode cX0_lowerEndsAt 9 = .ok (.if_icmp .ge 22, 3) := by decide +kernel
theorem dX0_lowerEndsAt_12 : decode cX0_lowerEndsAt 12 = .ok (.aload_n 0, 1) := by decide +kernel
theorem dX0_lowerEndsAt_13 : decode cX0_lowerEndsAt 13 = .ok (.getfield 9, 3) := by decide +kernel
theorem dX0_lowerEndsAt_16 : decode cX0_lowerEndsAt 16 = .ok (.iload_n 3, 1) := by decide +kernel
theorem dX0_lowerEndsAt_17 : decode cX0_lowerEndsAt 17 = .ok (.iaload, 1) := by decide +kernel
theorem dX0_lowerEndsAt_18 : decode cX0_lowerEndsAt 18 = .ok (.iload_n 1, 1) := by decide +kernel
theorem dX0_lowerEndsAt_19 : decode cX0_lowerEndsAt 19 = .ok (.if_icmp .ne 6, 3) := by decide +kernel
theorem dX0_lowerEndsAt_22 : decode cX0_lowerEndsAt 22 = .ok (.iinc 2 1, 3) := by decide +kernel
theorem dX0_lowerEndsAt_25 : decode cX0_lowerEndsAt 25 = .ok (.iinc 3 1, 3) := by decide +kernel
theorem dX0_lowerEndsAt_28 : decode cX0_lowerEndsAt 28 = .ok (.goto (-24), 3) := by decide +kernel
theorem dX0_lowerEndsAt_31 : decode cX0_lowerEndsAt 31 = .ok (.iload_n 2, 1) := by decide +kernel
theorem dX0_lowerEndsAt_32 : decode cX0_lowerEndsAt 32 = .ok (.ireturn, 1) := by decide +kernel
theorem dX0_partOfStep_0 : decode cX0_partOfStep 0 = .ok (.iload_n 1, 1) := by decide +kernel
theorem dX0_partOfStep_1 : decode cX0_partOfStep 1 = .ok (.aload_n 0, 1) := by decide +kernel
theorem dX0_partOfStep_2 : decode cX0_partOfStep 2 = .ok (.getfield 37, 3) := by decide +kernel
theorem dX0_partOfStep_5 : decode cX0_partOfStep 5 = .ok (.if_icmp .eq 13, 3) := by decide +kernel
theorem dX0_partOfStep_8 : decode cX0_partOfStep 8 = .ok (.aload_n 0, 1) := by decide +kernel
theorem dX0_partOfStep_9 : decode cX0_partOfStep 9 = .ok (.iload_n 1, 1) := by decide +kernel
theorem dX0_partOfStep_10 : decode cX0_partOfStep 10 = .ok (.invokevirtual 70, 3) := by decide +kernel
theorem dX0_partOfStep_13 : decode cX0_partOfStep 13 = .ok (.ifCond .ne 5, 3) := by decide +kernel
theorem dX0_partOfStep_16 : decode cX0_partOfStep 16 = .ok (.iconst (-1), 1) := by decide +kernel
theorem dX0_partOfStep_17 : decode cX0_partOfStep 17 = .ok (.ireturn, 1) := by decide +kernel
theorem dX0_partOfStep_18 : decode cX0_partOfStep 18 = .ok (.iload_n 2, 1) := by decide +kernel
theorem dX0_partOfStep_19 : decode cX0_partOfStep 19 = .ok (.tableswitch 65 0 2 #[25, 39, 59], 25) := by decide +kernel
theorem dX0_partOfStep_44 : decode cX0_partOfStep 44 = .ok (.aload_n 0, 1) := by decide +kernel
theorem dX0_partOfStep_45 : decode cX0_partOfStep 45 = .ok (.iload_n 1, 1) := by decide +kernel
theorem dX0_partOfStep_46 : decode cX0_partOfStep 46 = .ok (.invokevirtual 83, 3) := by decide +kernel
theorem dX0_partOfStep_49 : decode cX0_partOfStep 49 = .ok (.ifCond .eq 7, 3) := by decide +kernel
theorem dX0_partOfStep_52 : decode cX0_partOfStep 52 = .ok (.iconst 1, 1) := by decide +kernel
theorem dX0_partOfStep_53 : decode cX0_partOfStep 53 = .ok (.goto 4, 3) := by decide +kernel
theorem dX0_partOfStep_56 : decode cX0_partOfStep 56 = .ok (.iconst 0, 1) := by decide +kernel
theorem dX0_partOfStep_57 : decode cX0_partOfStep 57 = .ok (.ireturn, 1) := by decide +kernel
theorem dX0_partOfStep_58 : decode cX0_partOfStep 58 = .ok (.aload_n 0, 1) := by decide +kernel
theorem dX0_partOfStep_59 : decode cX0_partOfStep 59 = .ok (.iload_n 1, 1) := by decide +kernel
theorem dX0_partOfStep_60 : decode cX0_partOfStep 60 = .ok (.invokevirtual 63, 3) := by decide +kernel
theorem dX0_partOfStep_63 : decode cX0_partOfStep 63 = .ok (.ifCond .eq 12, 3) := by decide +kernel
theorem dX0_partOfStep_66 : decode cX0_partOfStep 66 = .ok (.aload_n 0, 1) := by decide +kernel
theorem dX0_partOfStep_67 : decode cX0_partOfStep 67 = .ok (.getfield 9, 3) := by decide +kernel
theorem dX0_partOfStep_70 : decode cX0_partOfStep 70 = .ok (.iload_n 1, 1) := by decide +kernel
theorem dX0_partOfStep_71 : decode cX0_partOfStep 71 = .ok (.iaload, 1) := by decide +kernel
theorem dX0_partOfStep_72 : decode cX0_partOfStep 72 = .ok (.goto 5, 3) := by decide +kernel
theorem dX0_partOfStep_75 : decode cX0_partOfStep 75 = .ok (.bipush (-6), 2) := by decide +kernel
theorem dX0_partOfStep_77 : decode cX0_partOfStep 77 = .ok (.ireturn, 1) := by decide +kernel
theorem dX0_partOfStep_78 : decode cX0_partOfStep 78 = .ok (.aload_n 0, 1) := by decide +kernel
theorem dX0_partOfStep_79 : decode cX0_partOfStep 79 = .ok (.iload_n 1, 1) := by decide +kernel
theorem dX0_partOfStep_80 : decode cX0_partOfStep 80 = .ok (.invokevirtual 73, 3) := by decide +kernel
theorem dX0_partOfStep_83 : decode cX0_partOfStep 83 = .ok (.ireturn, 1) := by decide +kernel
theorem dX0_partOfStep_84 : decode cX0_partOfStep 84 = .ok (.bipush (-2), 2) := by decide +kernel
theorem dX0_partOfStep_86 : decode cX0_partOfStep 86 = .ok (.ireturn, 1) := by decide +kernel
theorem dX0_partOfClimber_0 : decode cX0_partOfClimber 0 = .ok (.aload_n 0, 1) := by decide +kernel
theorem dX0_partOfClimber_1 : decode cX0_partOfClimber 1 = .ok (.iload_n 1, 1) := by decide +kernel
theorem dX0_partOfClimber_2 : decode cX0_partOfClimber 2 = .ok (.invokevirtual 59, 3) := by decide +kernel
theorem dX0_partOfClimber_5 : decode cX0_partOfClimber 5 = .ok (.ifCond .ne 5, 3) := by decide +kernel
theorem dX0_partOfClimber_8 : decode cX0_partOfClimber 8 = .ok (.iconst (-1), 1) := by decide +kernel
theorem dX0_partOfClimber_9 : decode cX0_partOfClimber 9 = .ok (.ireturn, 1) := by decide +kernel
theorem dX0_partOfClimber_10 : decode cX0_partOfClimber 10 = .ok (.iload_n 2, 1) := by decide +kernel
theorem dX0_partOfClimber_11 : decode cX0_partOfClimber 11 = .ok (.tableswitch 89 0 6 #[41, 48, 55, 62, 69, 76, 83], 41) := by decide +kernel
theorem dX0_partOfClimber_52 : decode cX0_partOfClimber 52 = .ok (.aload_n 0, 1) := by decide +kernel
theorem dX0_partOfClimber_53 : decode cX0_partOfClimber 53 = .ok (.getfield 19, 3) := by decide +kernel
theorem dX0_partOfClimber_56 : decode cX0_partOfClimber 56 = .ok (.iload_n 1, 1) := by decide +kernel
theorem dX0_partOfClimber_57 : decode cX0_partOfClimber 57 = .ok (.iaload, 1) := by decide +kernel
theorem dX0_partOfClimber_58 : decode cX0_partOfClimber 58 = .ok (.ireturn, 1) := by decide +kernel
theorem dX0_partOfClimber_59 : decode cX0_partOfClimber 59 = .ok (.aload_n 0, 1) := by decide +kernel
theorem dX0_partOfClimber_60 : decode cX0_partOfClimber 60 = .ok (.getfield 22, 3) := by decide +kernel
theorem dX0_partOfClimber_63 : decode cX0_partOfClimber 63 = .ok (.iload_n 1, 1) := by decide +kernel
theorem dX0_partOfClimber_64 : decode cX0_partOfClimber 64 = .ok (.iaload, 1) := by decide +kernel
theorem dX0_partOfClimber_65 : decode cX0_partOfClimber 65 = .ok (.ireturn, 1) := by decide +kernel
theorem dX0_partOfClimber_66 : decode cX0_partOfClimber 66 = .ok (.aload_n 0, 1) := by decide +kernel
theorem dX0_partOfClimber_67 : decode cX0_partOfClimber 67 = .ok (.getfield 25, 3) := by decide +kernel
theorem dX0_partOfClimber_70 : decode cX0_partOfClimber 70 = .ok (.iload_n 1, 1) := by decide +kernel
theorem dX0_partOfClimber_71 : decode cX0_partOfClimber 71 = .ok (.iaload, 1) := by decide +kernel
theorem dX0_partOfClimber_72 : decode cX0_partOfClimber 72 = .ok (.ireturn, 1) := by decide +kernel
theorem dX0_partOfClimber_73 : decode cX0_partOfClimber 73 = .ok (.aload_n 0, 1) := by decide +kernel
theorem dX0_partOfClimber_74 : decode cX0_partOfClimber 74 = .ok (.getfield 28, 3) := by decide +kernel
theorem dX0_partOfClimber_77 : decode cX0_partOfClimber 77 = .ok (.iload_n 1, 1) := by decide +kernel
theorem dX0_partOfClimber_78 : decode cX0_partOfClimber 78 = .ok (.iaload, 1) := by decide +kernel
theorem dX0_partOfClimber_79 : decode cX0_partOfClimber 79 = .ok (.ireturn, 1) := by decide +kernel
theorem dX0_partOfClimber_80 : decode cX0_partOfClimber 80 = .ok (.aload_n 0, 1) := by decide +kernel
theorem dX0_partOfClimber_81 : decode cX0_partOfClimber 81 = .ok (.getfield 31, 3) := by decide +kernel
theorem dX0_partOfClimber_84 : decode cX0_partOfClimber 84 = .ok (.iload_n 1, 1) := by decide +kernel
theorem dX0_partOfClimber_85 : decode cX0_partOfClimber 85 = .ok (.iaload, 1) := by decide +kernel
theorem dX0_partOfClimber_86 : decode cX0_partOfClimber 86 = .ok (.ireturn, 1) := by decide +kernel
theorem dX0_partOfClimber_87 : decode cX0_partOfClimber 87 = .ok (.aload_n 0, 1) := by decide +kernel
theorem dX0_partOfClimber_88 : decode cX0_partOfClimber 88 = .ok (.getfield 34, 3) := by decide +kernel
theorem dX0_partOfClimber_91 : decode cX0_partOfClimber 91 = .ok (.iload_n 1, 1) := by decide +kernel
theorem dX0_partOfClimber_92 : decode cX0_partOfClimber 92 = .ok (.iaload, 1) := by decide +kernel
theorem dX0_partOfClimber_93 : decode cX0_partOfClimber 93 = .ok (.ireturn, 1) := by decide +kernel
theorem dX0_partOfClimber_94 : decode cX0_partOfClimber 94 = .ok (.aload_n 0, 1) := by decide +kernel
theorem dX0_partOfClimber_95 : decode cX0_partOfClimber 95 = .ok (.iload_n 1, 1) := by decide +kernel
theorem dX0_partOfClimber_96 : decode cX0_partOfClimber 96 = .ok (.invokevirtual 116, 3) := by decide +kernel
theorem dX0_partOfClimber_99 : decode cX0_partOfClimber 99 = .ok (.ireturn, 1) := by decide +kernel
theorem dX0_partOfClimber_100 : decode cX0_partOfClimber 100 = .ok (.bipush (-2), 2) := by decide +kernel
theorem dX0_partOfClimber_102 : decode cX0_partOfClimber 102 = .ok (.ireturn, 1) := by decide +kernel
theorem dX0_progressOf_0 : decode cX0_progressOf 0 = .ok (.aload_n 0, 1) := by decide +kernel
theorem dX0_progressOf_1 : decode cX0_progressOf 1 = .ok (.iload_n 1, 1) := by decide +kernel
theorem dX0_progressOf_2 : decode cX0_progressOf 2 = .ok (.invokevirtual 59, 3) := by decide +kernel
theorem dX0_progressOf_5 : decode cX0_progressOf 5 = .ok (.ifCond .eq 24, 3) := by decide +kernel
theorem dX0_progressOf_8 : decode cX0_progressOf 8 = .ok (.aload_n 0, 1) := by decide +kernel
theorem dX0_progressOf_9 : decode cX0_progressOf 9 = .ok (.getfield 22, 3) := by decide +kernel
theorem dX0_progressOf_12 : decode cX0_progressOf 12 = .ok (.iload_n 1, 1) := by decide +kernel
theorem dX0_progressOf_13 : decode cX0_progressOf 13 = .ok (.iaload, 1) := by decide +kernel
theorem dX0_progressOf_14 : decode cX0_progressOf 14 = .ok (.aload_n 0, 1) := by decide +kernel
theorem dX0_progressOf_15 : decode cX0_progressOf 15 = .ok (.getfield 37, 3) := by decide +kernel
theorem dX0_progressOf_18 : decode cX0_progressOf 18 = .ok (.imul, 1) := by decide +kernel
theorem dX0_progressOf_19 : decode cX0_progressOf 19 = .ok (.aload_n 0, 1) := by decide +kernel
theorem dX0_progressOf_20 : decode cX0_progressOf 20 = .ok (.getfield 19, 3) := by decide +kernel
theorem dX0_progressOf_23 : decode cX0_progressOf 23 = .ok (.iload_n 1, 1) := by decide +kernel
theorem dX0_progressOf_24 : decode cX0_progressOf 24 = .ok (.iaload, 1) := by decide +kernel
theorem dX0_progressOf_25 : decode cX0_progressOf 25 = .ok (.iadd, 1) := by decide +kernel
theorem dX0_progressOf_26 : decode cX0_progressOf 26 = .ok (.goto 4, 3) := by decide +kernel
theorem dX0_progressOf_29 : decode cX0_progressOf 29 = .ok (.iconst 0, 1) := by decide +kernel
theorem dX0_progressOf_30 : decode cX0_progressOf 30 = .ok (.ireturn, 1) := by decide +kernel
theorem dX0_totalOf_0 : decode cX0_totalOf 0 = .ok (.iload_n 1, 1) := by decide +kernel
theorem dX0_totalOf_1 : decode cX0_totalOf 1 = .ok (.tableswitch 96 0 8 #[51, 56, 61, 66, 71, 76, 81, 86, 91], 51) := by decide +kernel
theorem dX0_totalOf_52 : decode cX0_totalOf 52 = .ok (.aload_n 0, 1) := by decide +kernel
theorem dX0_totalOf_53 : decode cX0_totalOf 53 = .ok (.getfield 37, 3) := by decide +kernel
theorem dX0_totalOf_56 : decode cX0_totalOf 56 = .ok (.ireturn, 1) := by decide +kernel
theorem dX0_totalOf_57 : decode cX0_totalOf 57 = .ok (.aload_n 0, 1) := by decide +kernel
theorem dX0_totalOf_58 : decode cX0_totalOf 58 = .ok (.getfield 41, 3) := by decide +kernel
theorem dX0_totalOf_61 : decode cX0_totalOf 61 = .ok (.ireturn, 1) := by decide +kernel
theorem dX0_totalOf_62 : decode cX0_totalOf 62 = .ok (.aload_n 0, 1) := by decide +kernel
theorem dX0_totalOf_63 : decode cX0_totalOf 63 = .ok (.invokevirtual 76, 3) := by decide +kernel
theorem dX0_totalOf_66 : decode cX0_totalOf 66 = .ok (.ireturn, 1) := by decide +kernel
theorem dX0_totalOf_67 : decode cX0_totalOf 67 = .ok (.aload_n 0, 1) := by decide +kernel
theorem dX0_totalOf_68 : decode cX0_totalOf 68 = .ok (.invokevirtual 80, 3) := by decide +kernel
theorem dX0_totalOf_71 : decode cX0_totalOf 71 = .ok (.ireturn, 1) := by decide +kernel
theorem dX0_totalOf_72 : decode cX0_totalOf 72 = .ok (.aload_n 0, 1) := by decide +kernel
theorem dX0_totalOf_73 : decode cX0_totalOf 73 = .ok (.getfield 47, 3) := by decide +kernel
theorem dX0_totalOf_76 : decode cX0_totalOf 76 = .ok (.ireturn, 1) := by decide +kernel
theorem dX0_totalOf_77 : decode cX0_totalOf 77 = .ok (.aload_n 0, 1) := by decide +kernel
theorem dX0_totalOf_78 : decode cX0_totalOf 78 = .ok (.invokevirtual 119, 3) := by decide +kernel
theorem dX0_totalOf_81 : decode cX0_totalOf 81 = .ok (.ireturn, 1) := by decide +kernel
theorem dX0_totalOf_82 : decode cX0_totalOf 82 = .ok (.aload_n 0, 1) := by decide +kernel
theorem dX0_totalOf_83 : decode cX0_totalOf 83 = .ok (.invokevirtual 122, 3) := by decide +kernel
theorem dX0_totalOf_86 : decode cX0_totalOf 86 = .ok (.ireturn, 1) := by decide +kernel
theorem dX0_totalOf_87 : decode cX0_totalOf 87 = .ok (.aload_n 0, 1) := by decide +kernel
theorem dX0_totalOf_88 : decode cX0_totalOf 88 = .ok (.invokevirtual 125, 3) := by decide +kernel
theorem dX0_totalOf_91 : decode cX0_totalOf 91 = .ok (.ireturn, 1) := by decide +kernel
theorem dX0_totalOf_92 : decode cX0_totalOf 92 = .ok (.aload_n 0, 1) := by decide +kernel
theorem dX0_totalOf_93 : decode cX0_totalOf 93 = .ok (.getfield 50, 3) := by decide +kernel
theorem dX0_totalOf_96 : decode cX0_totalOf 96 = .ok (.ireturn, 1) := by decide +kernel
theorem dX0_totalOf_97 : decode cX0_totalOf 97 = .ok (.bipush (-2), 2) := by decide +kernel
theorem dX0_totalOf_99 : decode cX0_totalOf 99 = .ok (.ireturn, 1) := by decide +kernel
theorem dX0_liftsOfAll_0 : decode cX0_liftsOfAll 0 = .ok (.aload_n 0, 1) := by decide +kernel
theorem dX0_liftsOfAll_1 : decode cX0_liftsOfAll 1 = .ok (.getfield 28, 3) := by decide +kernel
theorem dX0_liftsOfAll_4 : decode cX0_liftsOfAll 4 = .ok (.invokestatic 128, 3) := by decide +kernel
theorem dX0_liftsOfAll_7 : decode cX0_liftsOfAll 7 = .ok (.ireturn, 1) := by decide +kernel
theorem dX0_slipsOfAll_0 : decode cX0_slipsOfAll 0 = .ok (.aload_n 0, 1) := by decide +kernel
theorem dX0_slipsOfAll_1 : decode cX0_slipsOfAll 1 = .ok (.getfield 34, 3) := by decide +kernel
theorem dX0_slipsOfAll_4 : decode cX0_slipsOfAll 4 = .ok (.invokestatic 128, 3) := by decide +kernel
theorem dX0_slipsOfAll_7 : decode cX0_slipsOfAll 7 = .ok (.ireturn, 1) := by decide +kernel
theorem dX0_topsOfAll_0 : decode cX0_topsOfAll 0 = .ok (.aload_n 0, 1) := by decide +kernel
theorem dX0_topsOfAll_1 : decode cX0_topsOfAll 1 = .ok (.getfield 22, 3) := by decide +kernel
theorem dX0_topsOfAll_4 : decode cX0_topsOfAll 4 = .ok (.invokestatic 128, 3) := by decide +kernel
theorem dX0_topsOfAll_7 : decode cX0_topsOfAll 7 = .ok (.ireturn, 1) := by decide +kernel
theorem dX0_sumOf_0 : decode cX0_sumOf 0 = .ok (.iconst 0, 1) := by decide +kernel
theorem dX0_sumOf_1 : decode cX0_sumOf 1 = .ok (.istore_n 1, 1) := by decide +kernel
theorem dX0_sumOf_2 : decode cX0_sumOf 2 = .ok (.aload_n 0, 1) := by decide +kernel
theorem dX0_sumOf_3 : decode cX0_sumOf 3 = .ok (.astore_n 2, 1) := by decide +kernel
theorem dX0_sumOf_4 : decode cX0_sumOf 4 = .ok (.aload_n 2, 1) := by decide +kernel
theorem dX0_sumOf_5 : decode cX0_sumOf 5 = .ok (.arraylength, 1) := by decide +kernel
theorem dX0_sumOf_6 : decode cX0_sumOf 6 = .ok (.istore_n 3, 1) := by decide +kernel
theorem dX0_sumOf_7 : decode cX0_sumOf 7 = .ok (.iconst 0, 1) := by decide +kernel
theorem dX0_sumOf_8 : decode cX0_sumOf 8 = .ok (.istore 4, 2) := by decide +kernel
theorem dX0_sumOf_10 : decode cX0_sumOf 10 = .ok (.iload 4, 2) := by decide +kernel
theorem dX0_sumOf_12 : decode cX0_sumOf 12 = .ok (.iload_n 3, 1) := by decide +kernel
theorem dX0_sumOf_13 : decode cX0_sumOf 13 = .ok (.if_icmp .ge 20, 3) := by decide +kernel
theorem dX0_sumOf_16 : decode cX0_sumOf 16 = .ok (.aload_n 2, 1) := by decide +kernel
theorem dX0_sumOf_17 : decode cX0_sumOf 17 = .ok (.iload 4, 2) := by decide +kernel
theorem dX0_sumOf_19 : decode cX0_sumOf 19 = .ok (.iaload, 1) := by decide +kernel
theorem dX0_sumOf_20 : decode cX0_sumOf 20 = .ok (.istore 5, 2) := by decide +kernel
theorem dX0_sumOf_22 : decode cX0_sumOf 22 = .ok (.iload_n 1, 1) := by decide +kernel
theorem dX0_sumOf_23 : decode cX0_sumOf 23 = .ok (.iload 5, 2) := by decide +kernel
theorem dX0_sumOf_25 : decode cX0_sumOf 25 = .ok (.iadd, 1) := by decide +kernel
theorem dX0_sumOf_26 : decode cX0_sumOf 26 = .ok (.istore_n 1, 1) := by decide +kernel
theorem dX0_sumOf_27 : decode cX0_sumOf 27 = .ok (.iinc 4 1, 3) := by decide +kernel
theorem dX0_sumOf_30 : decode cX0_sumOf 30 = .ok (.goto (-20), 3) := by decide +kernel
theorem dX0_sumOf_33 : decode cX0_sumOf 33 = .ok (.iload_n 1, 1) := by decide +kernel
theorem dX0_sumOf_34 : decode cX0_sumOf 34 = .ok (.ireturn, 1) := by decide +kernel
theorem dX0_climberAtPlace_0 : decode cX0_climberAtPlace 0 = .ok (.iconst 0, 1) := by decide +kernel
theorem dX0_climberAtPlace_1 : decode cX0_climberAtPlace 1 = .ok (.istore_n 2, 1) := by decide +kernel
theorem dX0_climberAtPlace_2 : decode cX0_climberAtPlace 2 = .ok (.iload_n 2, 1) := by decide +kernel
theorem dX0_climberAtPlace_3 : decode cX0_climberAtPlace 3 = .ok (.aload_n 0, 1) := by decide +kernel
theorem dX0_climberAtPlace_4 : decode cX0_climberAtPlace 4 = .ok (.getfield 41, 3) := by decide +kernel
theorem dX0_climberAtPlace_7 : decode cX0_climberAtPlace 7 = .ok (.if_icmp .ge 20, 3) := by decide +kernel
theorem dX0_climberAtPlace_10 : decode cX0_climberAtPlace 10 = .ok (.aload_n 0, 1) := by decide +kernel
theorem dX0_climberAtPlace_11 : decode cX0_climberAtPlace 11 = .ok (.iload_n 2, 1) := by decide +kernel
theorem dX0_climberAtPlace_12 : decode cX0_climberAtPlace 12 = .ok (.invokevirtual 132, 3) := by decide +kernel
theorem dX0_climberAtPlace_15 : decode cX0_climberAtPlace 15 = .ok (.iload_n 1, 1) := by decide +kernel
theorem dX0_climberAtPlace_16 : decode cX0_climberAtPlace 16 = .ok (.if_icmp .ne 5, 3) := by decide +kernel
theorem dX0_climberAtPlace_19 : decode cX0_climberAtPlace 19 = .ok (.iload_n 2, 1) := by decide +kernel
theorem dX0_climberAtPlace_20 : decode cX0_climberAtPlace 20 = .ok (.ireturn, 1) := by decide +kernel
theorem dX0_climberAtPlace_21 : decode cX0_climberAtPlace 21 = .ok (.iinc 2 1, 3) := by decide +kernel
theorem dX0_climberAtPlace_24 : decode cX0_climberAtPlace 24 = .ok (.goto (-22), 3) := by decide +kernel
theorem dX0_climberAtPlace_27 : decode cX0_climberAtPlace 27 = .ok (.bipush (-6), 2) := by decide +kernel
theorem dX0_climberAtPlace_29 : decode cX0_climberAtPlace 29 = .ok (.ireturn, 1) := by decide +kernel
theorem dX0_climbersAheadOf_0 : decode cX0_climbersAheadOf 0 = .ok (.iconst 0, 1) := by decide +kernel
theorem dX0_climbersAheadOf_1 : decode cX0_climbersAheadOf 1 = .ok (.istore_n 2, 1) := by decide +kernel
theorem dX0_climbersAheadOf_2 : decode cX0_climbersAheadOf 2 = .ok (.aload_n 0, 1) := by decide +kernel
theorem dX0_climbersAheadOf_3 : decode cX0_climbersAheadOf 3 = .ok (.iload_n 1, 1) := by decide +kernel
theorem dX0_climbersAheadOf_4 : decode cX0_climbersAheadOf 4 = .ok (.invokevirtual 116, 3) := by decide +kernel
theorem dX0_climbersAheadOf_7 : decode cX0_climbersAheadOf 7 = .ok (.istore_n 3, 1) := by decide +kernel
theorem dX0_climbersAheadOf_8 : decode cX0_climbersAheadOf 8 = .ok (.iconst 0, 1) := by decide +kernel
theorem dX0_climbersAheadOf_9 : decode cX0_climbersAheadOf 9 = .ok (.istore 4, 2) := by decide +kernel
theorem dX0_climbersAheadOf_11 : decode cX0_climbersAheadOf 11 = .ok (.iload 4, 2) := by decide +kernel
theorem dX0_climbersAheadOf_13 : decode cX0_climbersAheadOf 13 = .ok (.aload_n 0, 1) := by decide +kernel
theorem dX0_climbersAheadOf_14 : decode cX0_climbersAheadOf 14 = .ok (.getfield 41, 3) := by decide +kernel
theorem dX0_climbersAheadOf_17 : decode cX0_climbersAheadOf 17 = .ok (.if_icmp .ge 38, 3) := by decide +kernel
theorem dX0_climbersAheadOf_20 : decode cX0_climbersAheadOf 20 = .ok (.aload_n 0, 1) := by decide +kernel
theorem dX0_climbersAheadOf_21 : decode cX0_climbersAheadOf 21 = .ok (.iload 4, 2) := by decide +kernel
theorem dX0_climbersAheadOf_23 : decode cX0_climbersAheadOf 23 = .ok (.invokevirtual 116, 3) := by decide +kernel
theorem dX0_climbersAheadOf_26 : decode cX0_climbersAheadOf 26 = .ok (.istore 5, 2) := by decide +kernel
theorem dX0_climbersAheadOf_28 : decode cX0_climbersAheadOf 28 = .ok (.iload 5, 2) := by decide +kernel
theorem dX0_climbersAheadOf_30 : decode cX0_climbersAheadOf 30 = .ok (.iload_n 3, 1) := by decide +kernel
theorem dX0_climbersAheadOf_31 : decode cX0_climbersAheadOf 31 = .ok (.if_icmp .gt 15, 3) := by decide +kernel
theorem dX0_climbersAheadOf_34 : decode cX0_climbersAheadOf 34 = .ok (.iload 5, 2) := by decide +kernel
theorem dX0_climbersAheadOf_36 : decode cX0_climbersAheadOf 36 = .ok (.iload_n 3, 1) := by decide +kernel
theorem dX0_climbersAheadOf_37 : decode cX0_climbersAheadOf 37 = .ok (.if_icmp .ne 12, 3) := by decide +kernel
theorem dX0_climbersAheadOf_40 : decode cX0_climbersAheadOf 40 = .ok (.iload 4, 2) := by decide +kernel
theorem dX0_climbersAheadOf_42 : decode cX0_climbersAheadOf 42 = .ok (.iload_n 1, 1) := by decide +kernel
theorem dX0_climbersAheadOf_43 : decode cX0_climbersAheadOf 43 = .ok (.if_icmp .ge 6, 3) := by decide +kernel
theorem dX0_climbersAheadOf_46 : decode cX0_climbersAheadOf 46 = .ok (.iinc 2 1, 3) := by decide +kernel
theorem dX0_climbersAheadOf_49 : decode cX0_climbersAheadOf 49 = .ok (.iinc 4 1, 3) := by decide +kernel
theorem dX0_climbersAheadOf_52 : decode cX0_climbersAheadOf 52 = .ok (.goto (-41), 3) := by decide +kernel
theorem dX0_climbersAheadOf_55 : decode cX0_climbersAheadOf 55 = .ok (.iload_n 2, 1) := by decide +kernel
theorem dX0_climbersAheadOf_56 : decode cX0_climbersAheadOf 56 = .ok (.ireturn, 1) := by decide +kernel
theorem dX0_fewestRollsOf_0 : decode cX0_fewestRollsOf 0 = .ok (.lconst 1, 1) := by decide +kernel
theorem dX0_fewestRollsOf_1 : decode cX0_fewestRollsOf 1 = .ok (.aload_n 0, 1) := by decide +kernel
theorem dX0_fewestRollsOf_2 : decode cX0_fewestRollsOf 2 = .ok (.getfield 19, 3) := by decide +kernel
theorem dX0_fewestRollsOf_5 : decode cX0_fewestRollsOf 5 = .ok (.iload_n 1, 1) := by decide +kernel
theorem dX0_fewestRollsOf_6 : decode cX0_fewestRollsOf 6 = .ok (.iaload, 1) := by decide +kernel
theorem dX0_fewestRollsOf_7 : decode cX0_fewestRollsOf 7 = .ok (.lshl, 1) := by decide +kernel
theorem dX0_fewestRollsOf_8 : decode cX0_fewestRollsOf 8 = .ok (.lstore_n 2, 1) := by decide +kernel
theorem dX0_fewestRollsOf_9 : decode cX0_fewestRollsOf 9 = .ok (.iconst 1, 1) := by decide +kernel
theorem dX0_fewestRollsOf_10 : decode cX0_fewestRollsOf 10 = .ok (.istore 4, 2) := by decide +kernel
theorem dX0_fewestRollsOf_12 : decode cX0_fewestRollsOf 12 = .ok (.iload 4, 2) := by decide +kernel
theorem dX0_fewestRollsOf_14 : decode cX0_fewestRollsOf 14 = .ok (.aload_n 0, 1) := by decide +kernel
theorem dX0_fewestRollsOf_15 : decode cX0_fewestRollsOf 15 = .ok (.getfield 37, 3) := by decide +kernel
theorem dX0_fewestRollsOf_18 : decode cX0_fewestRollsOf 18 = .ok (.if_icmp .gt 32, 3) := by decide +kernel
theorem dX0_fewestRollsOf_21 : decode cX0_fewestRollsOf 21 = .ok (.lload_n 2, 1) := by decide +kernel
theorem dX0_fewestRollsOf_22 : decode cX0_fewestRollsOf 22 = .ok (.aload_n 0, 1) := by decide +kernel
theorem dX0_fewestRollsOf_23 : decode cX0_fewestRollsOf 23 = .ok (.getfield 37, 3) := by decide +kernel
theorem dX0_fewestRollsOf_26 : decode cX0_fewestRollsOf 26 = .ok (.bipush 6, 2) := by decide +kernel
theorem dX0_fewestRollsOf_28 : decode cX0_fewestRollsOf 28 = .ok (.isub, 1) := by decide +kernel
theorem dX0_fewestRollsOf_29 : decode cX0_fewestRollsOf 29 = .ok (.lushr, 1) := by decide +kernel
theorem dX0_fewestRollsOf_30 : decode cX0_fewestRollsOf 30 = .ok (.lconst 0, 1) := by decide +kernel
theorem dX0_fewestRollsOf_31 : decode cX0_fewestRollsOf 31 = .ok (.lcmp, 1) := by decide +kernel
theorem dX0_fewestRollsOf_32 : decode cX0_fewestRollsOf 32 = .ok (.ifCond .eq 6, 3) := by decide +kernel
theorem dX0_fewestRollsOf_35 : decode cX0_fewestRollsOf 35 = .ok (.iload 4, 2) := by decide +kernel
theorem dX0_fewestRollsOf_37 : decode cX0_fewestRollsOf 37 = .ok (.ireturn, 1) := by decide +kernel
theorem dX0_fewestRollsOf_38 : decode cX0_fewestRollsOf 38 = .ok (.aload_n 0, 1) := by decide +kernel
theorem dX0_fewestRollsOf_39 : decode cX0_fewestRollsOf 39 = .ok (.lload_n 2, 1) := by decide +kernel
theorem dX0_fewestRollsOf_40 : decode cX0_fewestRollsOf 40 = .ok (.invokevirtual 135, 3) := by decide +kernel
theorem dX0_fewestRollsOf_43 : decode cX0_fewestRollsOf 43 = .ok (.lstore_n 2, 1) := by decide +kernel
theorem dX0_fewestRollsOf_44 : decode cX0_fewestRollsOf 44 = .ok (.iinc 4 1, 3) := by decide +kernel
theorem dX0_fewestRollsOf_47 : decode cX0_fewestRollsOf 47 = .ok (.goto (-35), 3) := by decide +kernel
theorem dX0_fewestRollsOf_50 : decode cX0_fewestRollsOf 50 = .ok (.bipush (-6), 2) := by decide +kernel
theorem dX0_fewestRollsOf_52 : decode cX0_fewestRollsOf 52 = .ok (.ireturn, 1) := by decide +kernel
theorem dX0_reachedWithOneMore_0 : decode cX0_reachedWithOneMore 0 = .ok (.lload_n 1, 1) := by decide +kernel
theorem dX0_reachedWithOneMore_1 : decode cX0_reachedWithOneMore 1 = .ok (.lstore_n 3, 1) := by decide +kernel
theorem dX0_reachedWithOneMore_2 : decode cX0_reachedWithOneMore 2 = .ok (.iconst 0, 1) := by decide +kernel
theorem dX0_reachedWithOneMore_3 : decode cX0_reachedWithOneMore 3 = .ok (.istore 5, 2) := by decide +kernel
theorem dX0_reachedWithOneMore_5 : decode cX0_reachedWithOneMore 5 = .ok (.iload 5, 2) := by decide +kernel
theorem dX0_reachedWithOneMore_7 : decode cX0_reachedWithOneMore 7 = .ok (.aload_n 0, 1) := by decide +kernel
theorem dX0_reachedWithOneMore_8 : decode cX0_reachedWithOneMore 8 = .ok (.getfield 37, 3) := by decide +kernel
theorem dX0_reachedWithOneMore_11 : decode cX0_reachedWithOneMore 11 = .ok (.if_icmp .ge 29, 3) := by decide +kernel
theorem dX0_reachedWithOneMore_14 : decode cX0_reachedWithOneMore 14 = .ok (.lload_n 1, 1) := by decide +kernel
theorem dX0_reachedWithOneMore_15 : decode cX0_reachedWithOneMore 15 = .ok (.iload 5, 2) := by decide +kernel
theorem dX0_reachedWithOneMore_17 : decode cX0_reachedWithOneMore 17 = .ok (.lushr, 1) := by decide +kernel
theorem dX0_reachedWithOneMore_18 : decode cX0_reachedWithOneMore 18 = .ok (.lconst 1, 1) := by decide +kernel
theorem dX0_reachedWithOneMore_19 : decode cX0_reachedWithOneMore 19 = .ok (.land, 1) := by decide +kernel
theorem dX0_reachedWithOneMore_20 : decode cX0_reachedWithOneMore 20 = .ok (.lconst 0, 1) := by decide +kernel
theorem dX0_reachedWithOneMore_21 : decode cX0_reachedWithOneMore 21 = .ok (.lcmp, 1) := by decide +kernel
theorem dX0_reachedWithOneMore_22 : decode cX0_reachedWithOneMore 22 = .ok (.ifCond .eq 12, 3) := by decide +kernel
theorem dX0_reachedWithOneMore_25 : decode cX0_reachedWithOneMore 25 = .ok (.lload_n 3, 1) := by decide +kernel
theorem dX0_reachedWithOneMore_26 : decode cX0_reachedWithOneMore 26 = .ok (.aload_n 0, 1) := by decide +kernel
theorem dX0_reachedWithOneMore_27 : decode cX0_reachedWithOneMore 27 = .ok (.iload 5, 2) := by decide +kernel
theorem dX0_reachedWithOneMore_29 : decode cX0_reachedWithOneMore 29 = .ok (.invokevirtual 139, 3) := by decide +kernel
theorem dX0_reachedWithOneMore_32 : decode cX0_reachedWithOneMore 32 = .ok (.lor, 1) := by decide +kernel
theorem dX0_reachedWithOneMore_33 : decode cX0_reachedWithOneMore 33 = .ok (.lstore_n 3, 1) := by decide +kernel
theorem dX0_reachedWithOneMore_34 : decode cX0_reachedWithOneMore 34 = .ok (.iinc 5 1, 3) := by decide +kernel
theorem dX0_reachedWithOneMore_37 : decode cX0_reachedWithOneMore 37 = .ok (.goto (-32), 3) := by decide +kernel
theorem dX0_reachedWithOneMore_40 : decode cX0_reachedWithOneMore 40 = .ok (.lload_n 3, 1) := by decide +kernel
theorem dX0_reachedWithOneMore_41 : decode cX0_reachedWithOneMore 41 = .ok (.lreturn, 1) := by decide +kernel
theorem dX0_reachedFrom_0 : decode cX0_reachedFrom 0 = .ok (.lconst 0, 1) := by decide +kernel
theorem dX0_reachedFrom_1 : decode cX0_reachedFrom 1 = .ok (.lstore_n 2, 1) := by decide +kernel
theorem dX0_reachedFrom_2 : decode cX0_reachedFrom 2 = .ok (.iload_n 1, 1) := by decide +kernel
theorem dX0_reachedFrom_3 : decode cX0_reachedFrom 3 = .ok (.iconst 1, 1) := by decide +kernel
theorem dX0_reachedFrom_4 : decode cX0_reachedFrom 4 = .ok (.iadd, 1) := by decide +kernel
theorem dX0_reachedFrom_5 : decode cX0_reachedFrom 5 = .ok (.istore 4, 2) := by decide +kernel
theorem dX0_reachedFrom_7 : decode cX0_reachedFrom 7 = .ok (.iload 4, 2) := by decide +kernel
theorem dX0_reachedFrom_9 : decode cX0_reachedFrom 9 = .ok (.iload_n 1, 1) := by decide +kernel
theorem dX0_reachedFrom_10 : decode cX0_reachedFrom 10 = .ok (.bipush 6, 2) := by decide +kernel
theorem dX0_reachedFrom_12 : decode cX0_reachedFrom 12 = .ok (.iadd, 1) := by decide +kernel
theorem dX0_reachedFrom_13 : decode cX0_reachedFrom 13 = .ok (.if_icmp .gt 44, 3) := by decide +kernel
theorem dX0_reachedFrom_16 : decode cX0_reachedFrom 16 = .ok (.iload 4, 2) := by decide +kernel
theorem dX0_reachedFrom_18 : decode cX0_reachedFrom 18 = .ok (.aload_n 0, 1) := by decide +kernel
theorem dX0_reachedFrom_19 : decode cX0_reachedFrom 19 = .ok (.getfield 37, 3) := by decide +kernel
theorem dX0_reachedFrom_22 : decode cX0_reachedFrom 22 = .ok (.if_icmp .ge 35, 3) := by decide +kernel
theorem dX0_reachedFrom_25 : decode cX0_reachedFrom 25 = .ok (.lload_n 2, 1) := by decide +kernel
theorem dX0_reachedFrom_26 : decode cX0_reachedFrom 26 = .ok (.lconst 1, 1) := by decide +kernel
theorem dX0_reachedFrom_27 : decode cX0_reachedFrom 27 = .ok (.aload_n 0, 1) := by decide +kernel
theorem dX0_reachedFrom_28 : decode cX0_reachedFrom 28 = .ok (.iload 4, 2) := by decide +kernel
theorem dX0_reachedFrom_30 : decode cX0_reachedFrom 30 = .ok (.invokevirtual 63, 3) := by decide +kernel
theorem dX0_reachedFrom_33 : decode cX0_reachedFrom 33 = .ok (.ifCond .eq 13, 3) := by decide +kernel
theorem dX0_reachedFrom_36 : decode cX0_reachedFrom 36 = .ok (.aload_n 0, 1) := by decide +kernel
theorem dX0_reachedFrom_37 : decode cX0_reachedFrom 37 = .ok (.getfield 9, 3) := by decide +kernel
theorem dX0_reachedFrom_40 : decode cX0_reachedFrom 40 = .ok (.iload 4, 2) := by decide +kernel
theorem dX0_reachedFrom_42 : decode cX0_reachedFrom 42 = .ok (.iaload, 1) := by decide +kernel
theorem dX0_reachedFrom_43 : decode cX0_reachedFrom 43 = .ok (.goto 5, 3) := by decide +kernel
theorem dX0_reachedFrom_46 : decode cX0_reachedFrom 46 = .ok (.iload 4, 2) := by decide +kernel
theorem dX0_reachedFrom_48 : decode cX0_reachedFrom 48 = .ok (.lshl, 1) := by decide +kernel
theorem dX0_reachedFrom_49 : decode cX0_reachedFrom 49 = .ok (.lor, 1) := by decide +kernel
theorem dX0_reachedFrom_50 : decode cX0_reachedFrom 50 = .ok (.lstore_n 2, 1) := by decide +kernel
theorem dX0_reachedFrom_51 : decode cX0_reachedFrom 51 = .ok (.iinc 4 1, 3) := by decide +kernel
theorem dX0_reachedFrom_54 : decode cX0_reachedFrom 54 = .ok (.goto (-47), 3) := by decide +kernel
theorem dX0_reachedFrom_57 : decode cX0_reachedFrom 57 = .ok (.lload_n 2, 1) := by decide +kernel
theorem dX0_reachedFrom_58 : decode cX0_reachedFrom 58 = .ok (.lreturn, 1) := by decide +kernel
theorem dX1_init_0 : decode cX1_init 0 = .ok (.aload_n 0, 1) := by decide +kernel
theorem dX1_init_1 : decode cX1_init 1 = .ok (.invokespecial 3, 3) := by decide +kernel
theorem dX1_init_4 : decode cX1_init 4 = .ok (.aload_n 0, 1) := by decide +kernel
theorem dX1_init_5 : decode cX1_init 5 = .ok (.iconst 5, 1) := by decide +kernel
theorem dX1_init_6 : decode cX1_init 6 = .ok (.anewarray 9, 3) := by decide +kernel
theorem dX1_init_9 : decode cX1_init 9 = .ok (.putfield 11, 3) := by decide +kernel
theorem dX1_init_12 : decode cX1_init 12 = .ok (.aload_n 0, 1) := by decide +kernel
theorem dX1_init_13 : decode cX1_init 13 = .ok (.iconst 0, 1) := by decide +kernel
theorem dX1_init_14 : decode cX1_init 14 = .ok (.putfield 17, 3) := by decide +kernel
theorem dX1_init_17 : decode cX1_init 17 = .ok (.iconst 0, 1) := by decide +kernel
theorem dX1_init_18 : decode cX1_init 18 = .ok (.istore_n 1, 1) := by decide +kernel
theorem dX1_init_19 : decode cX1_init 19 = .ok (.iload_n 1, 1) := by decide +kernel
theorem dX1_init_20 : decode cX1_init 20 = .ok (.iconst 5, 1) := by decide +kernel
theorem dX1_init_21 : decode cX1_init 21 = .ok (.if_icmp .ge 22, 3) := by decide +kernel
theorem dX1_init_24 : decode cX1_init 24 = .ok (.aload_n 0, 1) := by decide +kernel
theorem dX1_init_25 : decode cX1_init 25 = .ok (.getfield 11, 3) := by decide +kernel
theorem dX1_init_28 : decode cX1_init 28 = .ok (.iload_n 1, 1) := by decide +kernel
theorem dX1_init_29 : decode cX1_init 29 = .ok (.new 9, 3) := by decide +kernel
theorem dX1_init_32 : decode cX1_init 32 = .ok (.dup, 1) := by decide +kernel
theorem dX1_init_33 : decode cX1_init 33 = .ok (.invokespecial 21, 3) := by decide +kernel
theorem dX1_init_36 : decode cX1_init 36 = .ok (.aastore, 1) := by decide +kernel
theorem dX1_init_37 : decode cX1_init 37 = .ok (.iinc 1 1, 3) := by decide +kernel
theorem dX1_init_40 : decode cX1_init 40 = .ok (.goto (-21), 3) := by decide +kernel
theorem dX1_init_43 : decode cX1_init 43 = .ok (.return_, 1) := by decide +kernel
theorem dX1_isEmpty_0 : decode cX1_isEmpty 0 = .ok (.aload_n 0, 1) := by decide +kernel
theorem dX1_isEmpty_1 : decode cX1_isEmpty 1 = .ok (.getfield 17, 3) := by decide +kernel
theorem dX1_isEmpty_4 : decode cX1_isEmpty 4 = .ok (.ifCond .gt 7, 3) := by decide +kernel
theorem dX1_isEmpty_7 : decode cX1_isEmpty 7 = .ok (.iconst 1, 1) := by decide +kernel
theorem dX1_isEmpty_8 : decode cX1_isEmpty 8 = .ok (.goto 4, 3) := by decide +kernel
theorem dX1_isEmpty_11 : decode cX1_isEmpty 11 = .ok (.iconst 0, 1) := by decide +kernel
theorem dX1_isEmpty_12 : decode cX1_isEmpty 12 = .ok (.ireturn, 1) := by decide +kernel
theorem dX1_keep_0 : decode cX1_keep 0 = .ok (.aload_n 0, 1) := by decide +kernel
theorem dX1_keep_1 : decode cX1_keep 1 = .ok (.getfield 17, 3) := by decide +kernel
theorem dX1_keep_4 : decode cX1_keep 4 = .ok (.iconst 5, 1) := by decide +kernel
theorem dX1_keep_5 : decode cX1_keep 5 = .ok (.if_icmp .lt 12, 3) := by decide +kernel
theorem dX1_keep_8 : decode cX1_keep 8 = .ok (.aload_n 0, 1) := by decide +kernel
theorem dX1_keep_9 : decode cX1_keep 9 = .ok (.invokevirtual 22, 3) := by decide +kernel
theorem dX1_keep_12 : decode cX1_keep 12 = .ok (.aload_n 0, 1) := by decide +kernel
theorem dX1_keep_13 : decode cX1_keep 13 = .ok (.iconst 4, 1) := by decide +kernel
theorem dX1_keep_14 : decode cX1_keep 14 = .ok (.putfield 17, 3) := by decide +kernel
theorem dX1_keep_17 : decode cX1_keep 17 = .ok (.aload_n 0, 1) := by decide +kernel
theorem dX1_keep_18 : decode cX1_keep 18 = .ok (.getfield 11, 3) := by decide +kernel
theorem dX1_keep_21 : decode cX1_keep 21 = .ok (.aload_n 0, 1) := by decide +kernel
theorem dX1_keep_22 : decode cX1_keep 22 = .ok (.getfield 17, 3) := by decide +kernel
theorem dX1_keep_25 : decode cX1_keep 25 = .ok (.aaload, 1) := by decide +kernel
theorem dX1_keep_26 : decode cX1_keep 26 = .ok (.astore_n 2, 1) := by decide +kernel
theorem dX1_keep_27 : decode cX1_keep 27 = .ok (.aload_n 2, 1) := by decide +kernel
theorem dX1_keep_28 : decode cX1_keep 28 = .ok (.ifnull 8, 3) := by decide +kernel
theorem dX1_keep_31 : decode cX1_keep 31 = .ok (.aload_n 2, 1) := by decide +kernel
theorem dX1_keep_32 : decode cX1_keep 32 = .ok (.aload_n 1, 1) := by decide +kernel
theorem dX1_keep_33 : decode cX1_keep 33 = .ok (.invokevirtual 25, 3) := by decide +kernel
theorem dX1_keep_36 : decode cX1_keep 36 = .ok (.aload_n 0, 1) := by decide +kernel
theorem dX1_keep_37 : decode cX1_keep 37 = .ok (.dup, 1) := by decide +kernel
theorem dX1_keep_38 : decode cX1_keep 38 = .ok (.getfield 17, 3) := by decide +kernel
theorem dX1_keep_41 : decode cX1_keep 41 = .ok (.iconst 1, 1) := by decide +kernel
theorem dX1_keep_42 : decode cX1_keep 42 = .ok (.iadd, 1) := by decide +kernel
theorem dX1_keep_43 : decode cX1_keep 43 = .ok (.putfield 17, 3) := by decide +kernel
theorem dX1_keep_46 : decode cX1_keep 46 = .ok (.return_, 1) := by decide +kernel
theorem dX1_moveLatestTo_0 : decode cX1_moveLatestTo 0 = .ok (.aload_n 0, 1) := by decide +kernel
theorem dX1_moveLatestTo_1 : decode cX1_moveLatestTo 1 = .ok (.getfield 17, 3) := by decide +kernel
theorem dX1_moveLatestTo_4 : decode cX1_moveLatestTo 4 = .ok (.ifCond .le 26, 3) := by decide +kernel
theorem dX1_moveLatestTo_7 : decode cX1_moveLatestTo 7 = .ok (.aload_n 0, 1) := by decide +kernel
theorem dX1_moveLatestTo_8 : decode cX1_moveLatestTo 8 = .ok (.dup, 1) := by decide +kernel
theorem dX1_moveLatestTo_9 : decode cX1_moveLatestTo 9 = .ok (.getfield 17, 3) := by decide +kernel
theorem dX1_moveLatestTo_12 : decode cX1_moveLatestTo 12 = .ok (.iconst 1, 1) := by decide +kernel
theorem dX1_moveLatestTo_13 : decode cX1_moveLatestTo 13 = .ok (.isub, 1) := by decide +kernel
theorem dX1_moveLatestTo_14 : decode cX1_moveLatestTo 14 = .ok (.putfield 17, 3) := by decide +kernel
theorem dX1_moveLatestTo_17 : decode cX1_moveLatestTo 17 = .ok (.aload_n 1, 1) := by decide +kernel
theorem dX1_moveLatestTo_18 : decode cX1_moveLatestTo 18 = .ok (.aload_n 0, 1) := by decide +kernel
theorem dX1_moveLatestTo_19 : decode cX1_moveLatestTo 19 = .ok (.getfield 11, 3) := by decide +kernel
theorem dX1_moveLatestTo_22 : decode cX1_moveLatestTo 22 = .ok (.aload_n 0, 1) := by decide +kernel
theorem dX1_moveLatestTo_23 : decode cX1_moveLatestTo 23 = .ok (.getfield 17, 3) := by decide +kernel
theorem dX1_moveLatestTo_26 : decode cX1_moveLatestTo 26 = .ok (.aaload, 1) := by decide +kernel
theorem dX1_moveLatestTo_27 : decode cX1_moveLatestTo 27 = .ok (.invokevirtual 25, 3) := by decide +kernel
theorem dX1_moveLatestTo_30 : decode cX1_moveLatestTo 30 = .ok (.aload_n 0, 1) := by decide +kernel
theorem dX1_moveLatestTo_31 : decode cX1_moveLatestTo 31 = .ok (.getfield 17, 3) := by decide +kernel
theorem dX1_moveLatestTo_34 : decode cX1_moveLatestTo 34 = .ok (.ireturn, 1) := by decide +kernel
theorem dX1_makeOldestLast_0 : decode cX1_makeOldestLast 0 = .ok (.aload_n 0, 1) := by decide +kernel
theorem dX1_makeOldestLast_1 : decode cX1_makeOldestLast 1 = .ok (.getfield 11, 3) := by decide +kernel
theorem dX1_makeOldestLast_4 : decode cX1_makeOldestLast 4 = .ok (.iconst 0, 1) := by decide +kernel
theorem dX1_makeOldestLast_5 : decode cX1_makeOldestLast 5 = .ok (.aaload, 1) := by decide +kernel
theorem dX1_makeOldestLast_6 : decode cX1_makeOldestLast 6 = .ok (.astore_n 1, 1) := by decide +kernel
theorem dX1_makeOldestLast_7 : decode cX1_makeOldestLast 7 = .ok (.iconst 1, 1) := by decide +kernel
theorem dX1_makeOldestLast_8 : decode cX1_makeOldestLast 8 = .ok (.istore_n 2, 1) := by decide +kernel
theorem dX1_makeOldestLast_9 : decode cX1_makeOldestLast 9 = .ok (.iload_n 2, 1) := by decide +kernel
theorem dX1_makeOldestLast_10 : decode cX1_makeOldestLast 10 = .ok (.iconst 5, 1) := by decide +kernel
theorem dX1_makeOldestLast_11 : decode cX1_makeOldestLast 11 = .ok (.if_icmp .ge 23, 3) := by decide +kernel
theorem dX1_makeOldestLast_14 : decode cX1_makeOldestLast 14 = .ok (.aload_n 0, 1) := by decide +kernel
theorem dX1_makeOldestLast_15 : decode cX1_makeOldestLast 15 = .ok (.getfield 11, 3) := by decide +kernel
theorem dX1_makeOldestLast_18 : decode cX1_makeOldestLast 18 = .ok (.iload_n 2, 1) := by decide +kernel
theorem dX1_makeOldestLast_19 : decode cX1_makeOldestLast 19 = .ok (.iconst 1, 1) := by decide +kernel
theorem dX1_makeOldestLast_20 : decode cX1_makeOldestLast 20 = .ok (.isub, 1) := by decide +kernel
theorem dX1_makeOldestLast_21 : decode cX1_makeOldestLast 21 = .ok (.aload_n 0, 1) := by decide +kernel
theorem dX1_makeOldestLast_22 : decode cX1_makeOldestLast 22 = .ok (.getfield 11, 3) := by decide +kernel
theorem dX1_makeOldestLast_25 : decode cX1_makeOldestLast 25 = .ok (.iload_n 2, 1) := by decide +kernel
theorem dX1_makeOldestLast_26 : decode cX1_makeOldestLast 26 = .ok (.aaload, 1) := by decide +kernel
theorem dX1_makeOldestLast_27 : decode cX1_makeOldestLast 27 = .ok (.aastore, 1) := by decide +kernel
theorem dX1_makeOldestLast_28 : decode cX1_makeOldestLast 28 = .ok (.iinc 2 1, 3) := by decide +kernel
theorem dX1_makeOldestLast_31 : decode cX1_makeOldestLast 31 = .ok (.goto (-22), 3) := by decide +kernel
theorem dX1_makeOldestLast_34 : decode cX1_makeOldestLast 34 = .ok (.aload_n 0, 1) := by decide +kernel
theorem dX1_makeOldestLast_35 : decode cX1_makeOldestLast 35 = .ok (.getfield 11, 3) := by decide +kernel
theorem dX1_makeOldestLast_38 : decode cX1_makeOldestLast 38 = .ok (.iconst 4, 1) := by decide +kernel
theorem dX1_makeOldestLast_39 : decode cX1_makeOldestLast 39 = .ok (.aload_n 1, 1) := by decide +kernel
theorem dX1_makeOldestLast_40 : decode cX1_makeOldestLast 40 = .ok (.aastore, 1) := by decide +kernel
theorem dX1_makeOldestLast_41 : decode cX1_makeOldestLast 41 = .ok (.return_, 1) := by decide +kernel
theorem dX2_init_0 : decode cX2_init 0 = .ok (.aload_n 0, 1) := by decide +kernel
theorem dX2_init_1 : decode cX2_init 1 = .ok (.invokespecial 3, 3) := by decide +kernel
theorem dX2_init_4 : decode cX2_init 4 = .ok (.aload_n 0, 1) := by decide +kernel
theorem dX2_init_5 : decode cX2_init 5 = .ok (.bipush 60, 2) := by decide +kernel
theorem dX2_init_7 : decode cX2_init 7 = .ok (.newarray .char, 2) := by decide +kernel
theorem dX2_init_9 : decode cX2_init 9 = .ok (.putfield 9, 3) := by decide +kernel
theorem dX2_init_12 : decode cX2_init 12 = .ok (.aload_n 0, 1) := by decide +kernel
theorem dX2_init_13 : decode cX2_init 13 = .ok (.iconst 0, 1) := by decide +kernel
theorem dX2_init_14 : decode cX2_init 14 = .ok (.putfield 15, 3) := by decide +kernel
theorem dX2_init_17 : decode cX2_init 17 = .ok (.return_, 1) := by decide +kernel
theorem dX2_addSign_0 : decode cX2_addSign 0 = .ok (.iload_n 1, 1) := by decide +kernel
theorem dX2_addSign_1 : decode cX2_addSign 1 = .ok (.bipush 33, 2) := by decide +kernel
theorem dX2_addSign_3 : decode cX2_addSign 3 = .ok (.if_icmp .lt 9, 3) := by decide +kernel
theorem dX2_addSign_6 : decode cX2_addSign 6 = .ok (.iload_n 1, 1) := by decide +kernel
theorem dX2_addSign_7 : decode cX2_addSign 7 = .ok (.bipush 126, 2) := by decide +kernel
theorem dX2_addSign_9 : decode cX2_addSign 9 = .ok (.if_icmp .le 6, 3) := by decide +kernel
theorem dX2_addSign_12 : decode cX2_addSign 12 = .ok (.bipush (-2), 2) := by decide +kernel
theorem dX2_addSign_14 : decode cX2_addSign 14 = .ok (.ireturn, 1) := by decide +kernel
theorem dX2_addSign_15 : decode cX2_addSign 15 = .ok (.aload_n 0, 1) := by decide +kernel
theorem dX2_addSign_16 : decode cX2_addSign 16 = .ok (.getfield 15, 3) := by decide +kernel
theorem dX2_addSign_19 : decode cX2_addSign 19 = .ok (.bipush 60, 2) := by decide +kernel
theorem dX2_addSign_21 : decode cX2_addSign 21 = .ok (.if_icmp .lt 6, 3) := by decide +kernel
theorem dX2_addSign_24 : decode cX2_addSign 24 = .ok (.bipush (-4), 2) := by decide +kernel
theorem dX2_addSign_26 : decode cX2_addSign 26 = .ok (.ireturn, 1) := by decide +kernel
theorem dX2_addSign_27 : decode cX2_addSign 27 = .ok (.aload_n 0, 1) := by decide +kernel
theorem dX2_addSign_28 : decode cX2_addSign 28 = .ok (.getfield 9, 3) := by decide +kernel
theorem dX2_addSign_31 : decode cX2_addSign 31 = .ok (.aload_n 0, 1) := by decide +kernel
theorem dX2_addSign_32 : decode cX2_addSign 32 = .ok (.getfield 15, 3) := by decide +kernel
theorem dX2_addSign_35 : decode cX2_addSign 35 = .ok (.iload_n 1, 1) := by decide +kernel
theorem dX2_addSign_36 : decode cX2_addSign 36 = .ok (.i2c, 1) := by decide +kernel
theorem dX2_addSign_37 : decode cX2_addSign 37 = .ok (.castore, 1) := by decide +kernel
theorem dX2_addSign_38 : decode cX2_addSign 38 = .ok (.aload_n 0, 1) := by decide +kernel
theorem dX2_addSign_39 : decode cX2_addSign 39 = .ok (.dup, 1) := by decide +kernel
theorem dX2_addSign_40 : decode cX2_addSign 40 = .ok (.getfield 15, 3) := by decide +kernel
theorem dX2_addSign_43 : decode cX2_addSign 43 = .ok (.iconst 1, 1) := by decide +kernel
theorem dX2_addSign_44 : decode cX2_addSign 44 = .ok (.iadd, 1) := by decide +kernel
theorem dX2_addSign_45 : decode cX2_addSign 45 = .ok (.putfield 15, 3) := by decide +kernel
theorem dX2_addSign_48 : decode cX2_addSign 48 = .ok (.aload_n 0, 1) := by decide +kernel
theorem dX2_addSign_49 : decode cX2_addSign 49 = .ok (.getfield 15, 3) := by decide +kernel
theorem dX2_addSign_52 : decode cX2_addSign 52 = .ok (.ireturn, 1) := by decide +kernel
theorem dX2_dropAll_0 : decode cX2_dropAll 0 = .ok (.aload_n 0, 1) := by decide +kernel
theorem dX2_dropAll_1 : decode cX2_dropAll 1 = .ok (.getfield 15, 3) := by decide +kernel
theorem dX2_dropAll_4 : decode cX2_dropAll 4 = .ok (.istore_n 1, 1) := by decide +kernel
theorem dX2_dropAll_5 : decode cX2_dropAll 5 = .ok (.aload_n 0, 1) := by decide +kernel
theorem dX2_dropAll_6 : decode cX2_dropAll 6 = .ok (.iconst 0, 1) := by decide +kernel
theorem dX2_dropAll_7 : decode cX2_dropAll 7 = .ok (.putfield 15, 3) := by decide +kernel
theorem dX2_dropAll_10 : decode cX2_dropAll 10 = .ok (.iload_n 1, 1) := by decide +kernel
theorem dX2_dropAll_11 : decode cX2_dropAll 11 = .ok (.ireturn, 1) := by decide +kernel
theorem dX2_firstError_0 : decode cX2_firstError 0 = .ok (.iconst 1, 1) := by decide +kernel
theorem dX2_firstError_1 : decode cX2_firstError 1 = .ok (.istore_n 1, 1) := by decide +kernel
theorem dX2_firstError_2 : decode cX2_firstError 2 = .ok (.iconst 0, 1) := by decide +kernel
theorem dX2_firstError_3 : decode cX2_firstError 3 = .ok (.istore_n 2, 1) := by decide +kernel
theorem dX2_firstError_4 : decode cX2_firstError 4 = .ok (.iload_n 2, 1) := by decide +kernel
theorem dX2_firstError_5 : decode cX2_firstError 5 = .ok (.aload_n 0, 1) := by decide +kernel
theorem dX2_firstError_6 : decode cX2_firstError 6 = .ok (.getfield 15, 3) := by decide +kernel
theorem dX2_firstError_9 : decode cX2_firstError 9 = .ok (.if_icmp .ge 26, 3) := by decide +kernel
theorem dX2_firstError_12 : decode cX2_firstError 12 = .ok (.iload_n 1, 1) := by decide +kernel
theorem dX2_firstError_13 : decode cX2_firstError 13 = .ok (.aload_n 0, 1) := by decide +kernel
theorem dX2_firstError_14 : decode cX2_firstError 14 = .ok (.getfield 9, 3) := by decide +kernel
theorem dX2_firstError_17 : decode cX2_firstError 17 = .ok (.iload_n 2, 1) := by decide +kernel
theorem dX2_firstError_18 : decode cX2_firstError 18 = .ok (.caload, 1) := by decide +kernel
theorem dX2_firstError_19 : decode cX2_firstError 19 = .ok (.invokestatic 19, 3) := by decide +kernel
theorem dX2_firstError_22 : decode cX2_firstError 22 = .ok (.istore_n 1, 1) := by decide +kernel
theorem dX2_firstError_23 : decode cX2_firstError 23 = .ok (.iload_n 1, 1) := by decide +kernel
theorem dX2_firstError_24 : decode cX2_firstError 24 = .ok (.ifCond .ne 5, 3) := by decide +kernel
theorem dX2_firstError_27 : decode cX2_firstError 27 = .ok (.iload_n 2, 1) := by decide +kernel
theorem dX2_firstError_28 : decode cX2_firstError 28 = .ok (.ireturn, 1) := by decide +kernel
theorem dX2_firstError_29 : decode cX2_firstError 29 = .ok (.iinc 2 1, 3) := by decide +kernel
theorem dX2_firstError_32 : decode cX2_firstError 32 = .ok (.goto (-28), 3) := by decide +kernel
theorem dX2_firstError_35 : decode cX2_firstError 35 = .ok (.iload_n 1, 1) := by decide +kernel
theorem dX2_firstError_36 : decode cX2_firstError 36 = .ok (.iconst 2, 1) := by decide +kernel
theorem dX2_firstError_37 : decode cX2_firstError 37 = .ok (.if_icmp .eq 9, 3) := by decide +kernel
theorem dX2_firstError_40 : decode cX2_firstError 40 = .ok (.iload_n 1, 1) := by decide +kernel
theorem dX2_firstError_41 : decode cX2_firstError 41 = .ok (.bipush 7, 2) := by decide +kernel
theorem dX2_firstError_43 : decode cX2_firstError 43 = .ok (.if_icmp .ne 8, 3) := by decide +kernel
theorem dX2_firstError_46 : decode cX2_firstError 46 = .ok (.bipush (-6), 2) := by decide +kernel
theorem dX2_firstError_48 : decode cX2_firstError 48 = .ok (.goto 7, 3) := by decide +kernel
theorem dX2_firstError_51 : decode cX2_firstError 51 = .ok (.aload_n 0, 1) := by decide +kernel
theorem dX2_firstError_52 : decode cX2_firstError 52 = .ok (.getfield 15, 3) := by decide +kernel
theorem dX2_firstError_55 : decode cX2_firstError 55 = .ok (.ireturn, 1) := by decide +kernel
theorem dX2_wantedBehind_0 : decode cX2_wantedBehind 0 = .ok (.iload_n 0, 1) := by decide +kernel
theorem dX2_wantedBehind_1 : decode cX2_wantedBehind 1 = .ok (.tableswitch 105 1 7 #[43, 48, 53, 60, 76, 81, 89], 43) := by decide +kernel
theorem dX2_wantedBehind_44 : decode cX2_wantedBehind 44 = .ok (.iload_n 1, 1) := by decide +kernel
theorem dX2_wantedBehind_45 : decode cX2_wantedBehind 45 = .ok (.invokestatic 23, 3) := by decide +kernel
theorem dX2_wantedBehind_48 : decode cX2_wantedBehind 48 = .ok (.ireturn, 1) := by decide +kernel
theorem dX2_wantedBehind_49 : decode cX2_wantedBehind 49 = .ok (.iload_n 1, 1) := by decide +kernel
theorem dX2_wantedBehind_50 : decode cX2_wantedBehind 50 = .ok (.invokestatic 27, 3) := by decide +kernel
theorem dX2_wantedBehind_53 : decode cX2_wantedBehind 53 = .ok (.ireturn, 1) := by decide +kernel
theorem dX2_wantedBehind_54 : decode cX2_wantedBehind 54 = .ok (.iload_n 1, 1) := by decide +kernel
theorem dX2_wantedBehind_55 : decode cX2_wantedBehind 55 = .ok (.iconst 5, 1) := by decide +kernel
theorem dX2_wantedBehind_56 : decode cX2_wantedBehind 56 = .ok (.iconst 4, 1) := by decide +kernel
theorem dX2_wantedBehind_57 : decode cX2_wantedBehind 57 = .ok (.invokestatic 30, 3) := by decide +kernel
theorem dX2_wantedBehind_60 : decode cX2_wantedBehind 60 = .ok (.ireturn, 1) := by decide +kernel
theorem dX2_wantedBehind_61 : decode cX2_wantedBehind 61 = .ok (.iload_n 1, 1) := by decide +kernel
theorem dX2_wantedBehind_62 : decode cX2_wantedBehind 62 = .ok (.invokestatic 34, 3) := by decide +kernel
theorem dX2_wantedBehind_65 : decode cX2_wantedBehind 65 = .ok (.ifCond .eq 7, 3) := by decide +kernel
theorem dX2_wantedBehind_68 : decode cX2_wantedBehind 68 = .ok (.iconst 5, 1) := by decide +kernel
theorem dX2_wantedBehind_69 : decode cX2_wantedBehind 69 = .ok (.goto 7, 3) := by decide +kernel
theorem dX2_wantedBehind_72 : decode cX2_wantedBehind 72 = .ok (.iload_n 1, 1) := by decide +kernel
theorem dX2_wantedBehind_73 : decode cX2_wantedBehind 73 = .ok (.invokestatic 38, 3) := by decide +kernel
theorem dX2_wantedBehind_76 : decode cX2_wantedBehind 76 = .ok (.ireturn, 1) := by decide +kernel
theorem dX2_wantedBehind_77 : decode cX2_wantedBehind 77 = .ok (.iload_n 1, 1) := by decide +kernel
theorem dX2_wantedBehind_78 : decode cX2_wantedBehind 78 = .ok (.invokestatic 38, 3) := by decide +kernel
theorem dX2_wantedBehind_81 : decode cX2_wantedBehind 81 = .ok (.ireturn, 1) := by decide +kernel
theorem dX2_wantedBehind_82 : decode cX2_wantedBehind 82 = .ok (.iload_n 1, 1) := by decide +kernel
theorem dX2_wantedBehind_83 : decode cX2_wantedBehind 83 = .ok (.iconst 2, 1) := by decide +kernel
theorem dX2_wantedBehind_84 : decode cX2_wantedBehind 84 = .ok (.bipush 7, 2) := by decide +kernel
theorem dX2_wantedBehind_86 : decode cX2_wantedBehind 86 = .ok (.invokestatic 30, 3) := by decide +kernel
theorem dX2_wantedBehind_89 : decode cX2_wantedBehind 89 = .ok (.ireturn, 1) := by decide +kernel
theorem dX2_wantedBehind_90 : decode cX2_wantedBehind 90 = .ok (.iload_n 1, 1) := by decide +kernel
theorem dX2_wantedBehind_91 : decode cX2_wantedBehind 91 = .ok (.invokestatic 34, 3) := by decide +kernel
theorem dX2_wantedBehind_94 : decode cX2_wantedBehind 94 = .ok (.ifCond .eq 7, 3) := by decide +kernel
theorem dX2_wantedBehind_97 : decode cX2_wantedBehind 97 = .ok (.iconst 2, 1) := by decide +kernel
theorem dX2_wantedBehind_98 : decode cX2_wantedBehind 98 = .ok (.goto 7, 3) := by decide +kernel
theorem dX2_wantedBehind_101 : decode cX2_wantedBehind 101 = .ok (.iload_n 1, 1) := by decide +kernel
theorem dX2_wantedBehind_102 : decode cX2_wantedBehind 102 = .ok (.invokestatic 27, 3) := by decide +kernel
theorem dX2_wantedBehind_105 : decode cX2_wantedBehind 105 = .ok (.ireturn, 1) := by decide +kernel
theorem dX2_wantedBehind_106 : decode cX2_wantedBehind 106 = .ok (.iconst 0, 1) := by decide +kernel
theorem dX2_wantedBehind_107 : decode cX2_wantedBehind 107 = .ok (.ireturn, 1) := by decide +kernel
theorem dX2_wantedBehindMoveStart_0 : decode cX2_wantedBehindMoveStart 0 = .ok (.iload_n 0, 1) := by decide +kernel
theorem dX2_wantedBehindMoveStart_1 : decode cX2_wantedBehindMoveStart 1 = .ok (.bipush 112, 2) := by decide +kernel
theorem dX2_wantedBehindMoveStart_3 : decode cX2_wantedBehindMoveStart 3 = .ok (.if_icmp .eq 19, 3) := by decide +kernel
theorem dX2_wantedBehindMoveStart_6 : decode cX2_wantedBehindMoveStart 6 = .ok (.iload_n 0, 1) := by decide +kernel
theorem dX2_wantedBehindMoveStart_7 : decode cX2_wantedBehindMoveStart 7 = .ok (.bipush 106, 2) := by decide +kernel
theorem dX2_wantedBehindMoveStart_9 : decode cX2_wantedBehindMoveStart 9 = .ok (.if_icmp .eq 13, 3) := by decide +kernel
theorem dX2_wantedBehindMoveStart_12 : decode cX2_wantedBehindMoveStart 12 = .ok (.iload_n 0, 1) := by decide +kernel
theorem dX2_wantedBehindMoveStart_13 : decode cX2_wantedBehindMoveStart 13 = .ok (.bipush 48, 2) := by decide +kernel
theorem dX2_wantedBehindMoveStart_15 : decode cX2_wantedBehindMoveStart 15 = .ok (.isub, 1) := by decide +kernel
theorem dX2_wantedBehindMoveStart_16 : decode cX2_wantedBehindMoveStart 16 = .ok (.invokestatic 41, 3) := by decide +kernel
theorem dX2_wantedBehindMoveStart_19 : decode cX2_wantedBehindMoveStart 19 = .ok (.ifCond .eq 5, 3) := by decide +kernel
theorem dX2_wantedBehindMoveStart_22 : decode cX2_wantedBehindMoveStart 22 = .ok (.iconst 2, 1) := by decide +kernel
theorem dX2_wantedBehindMoveStart_23 : decode cX2_wantedBehindMoveStart 23 = .ok (.ireturn, 1) := by decide +kernel
theorem dX2_wantedBehindMoveStart_24 : decode cX2_wantedBehindMoveStart 24 = .ok (.iload_n 0, 1) := by decide +kernel
theorem dX2_wantedBehindMoveStart_25 : decode cX2_wantedBehindMoveStart 25 = .ok (.bipush 99, 2) := by decide +kernel
theorem dX2_wantedBehindMoveStart_27 : decode cX2_wantedBehindMoveStart 27 = .ok (.if_icmp .ne 5, 3) := by decide +kernel
theorem dX2_wantedBehindMoveStart_30 : decode cX2_wantedBehindMoveStart 30 = .ok (.iconst 3, 1) := by decide +kernel
theorem dX2_wantedBehindMoveStart_31 : decode cX2_wantedBehindMoveStart 31 = .ok (.ireturn, 1) := by decide +kernel
theorem dX2_wantedBehindMoveStart_32 : decode cX2_wantedBehindMoveStart 32 = .ok (.iload_n 0, 1) := by decide +kernel
theorem dX2_wantedBehindMoveStart_33 : decode cX2_wantedBehindMoveStart 33 = .ok (.bipush 108, 2) := by decide +kernel
theorem dX2_wantedBehindMoveStart_35 : decode cX2_wantedBehindMoveStart 35 = .ok (.if_icmp .ne 8, 3) := by decide +kernel
theorem dX2_wantedBehindMoveStart_38 : decode cX2_wantedBehindMoveStart 38 = .ok (.bipush 6, 2) := by decide +kernel
theorem dX2_wantedBehindMoveStart_40 : decode cX2_wantedBehindMoveStart 40 = .ok (.goto 4, 3) := by decide +kernel
theorem dX2_wantedBehindMoveStart_43 : decode cX2_wantedBehindMoveStart 43 = .ok (.iconst 0, 1) := by decide +kernel
theorem dX2_wantedBehindMoveStart_44 : decode cX2_wantedBehindMoveStart 44 = .ok (.ireturn, 1) := by decide +kernel
theorem dX2_wantedBehindComma_0 : decode cX2_wantedBehindComma 0 = .ok (.iload_n 0, 1) := by decide +kernel
theorem dX2_wantedBehindComma_1 : decode cX2_wantedBehindComma 1 = .ok (.bipush 44, 2) := by decide +kernel
theorem dX2_wantedBehindComma_3 : decode cX2_wantedBehindComma 3 = .ok (.if_icmp .ne 7, 3) := by decide +kernel
theorem dX2_wantedBehindComma_6 : decode cX2_wantedBehindComma 6 = .ok (.iconst 1, 1) := by decide +kernel
theorem dX2_wantedBehindComma_7 : decode cX2_wantedBehindComma 7 = .ok (.goto 4, 3) := by decide +kernel
theorem dX2_wantedBehindComma_10 : decode cX2_wantedBehindComma 10 = .ok (.iconst 0, 1) := by decide +kernel
theorem dX2_wantedBehindComma_11 : decode cX2_wantedBehindComma 11 = .ok (.ireturn, 1) := by decide +kernel
theorem dX2_wantedBehindArrow_0 : decode cX2_wantedBehindArrow 0 = .ok (.iload_n 0, 1) := by decide +kernel
theorem dX2_wantedBehindArrow_1 : decode cX2_wantedBehindArrow 1 = .ok (.bipush 62, 2) := by decide +kernel
theorem dX2_wantedBehindArrow_3 : decode cX2_wantedBehindArrow 3 = .ok (.if_icmp .ne 8, 3) := by decide +kernel
theorem dX2_wantedBehindArrow_6 : decode cX2_wantedBehindArrow 6 = .ok (.bipush 6, 2) := by decide +kernel
theorem dX2_wantedBehindArrow_8 : decode cX2_wantedBehindArrow 8 = .ok (.goto 4, 3) := by decide +kernel
theorem dX2_wantedBehindArrow_11 : decode cX2_wantedBehindArrow 11 = .ok (.iconst 0, 1) := by decide +kernel
theorem dX2_wantedBehindArrow_12 : decode cX2_wantedBehindArrow 12 = .ok (.ireturn, 1) := by decide +kernel
theorem dX2_wantedBehindNumberStart_0 : decode cX2_wantedBehindNumberStart 0 = .ok (.iload_n 0, 1) := by decide +kernel
theorem dX2_wantedBehindNumberStart_1 : decode cX2_wantedBehindNumberStart 1 = .ok (.invokestatic 34, 3) := by decide +kernel
theorem dX2_wantedBehindNumberStart_4 : decode cX2_wantedBehindNumberStart 4 = .ok (.ifCond .ne 5, 3) := by decide +kernel
theorem dX2_wantedBehindNumberStart_7 : decode cX2_wantedBehindNumberStart 7 = .ok (.iconst 0, 1) := by decide +kernel
theorem dX2_wantedBehindNumberStart_8 : decode cX2_wantedBehindNumberStart 8 = .ok (.ireturn, 1) := by decide +kernel
theorem dX2_wantedBehindNumberStart_9 : decode cX2_wantedBehindNumberStart 9 = .ok (.iload_n 0, 1) := by decide +kernel
theorem dX2_wantedBehindNumberStart_10 : decode cX2_wantedBehindNumberStart 10 = .ok (.bipush 48, 2) := by decide +kernel
theorem dX2_wantedBehindNumberStart_12 : decode cX2_wantedBehindNumberStart 12 = .ok (.if_icmp .ne 7, 3) := by decide +kernel
theorem dX2_wantedBehindNumberStart_15 : decode cX2_wantedBehindNumberStart 15 = .ok (.iload_n 1, 1) := by decide +kernel
theorem dX2_wantedBehindNumberStart_16 : decode cX2_wantedBehindNumberStart 16 = .ok (.goto 4, 3) := by decide +kernel
theorem dX2_wantedBehindNumberStart_19 : decode cX2_wantedBehindNumberStart 19 = .ok (.iload_n 2, 1) := by decide +kernel
theorem dX2_wantedBehindNumberStart_20 : decode cX2_wantedBehindNumberStart 20 = .ok (.ireturn, 1) := by decide +kernel
theorem dX2_isDigit_0 : decode cX2_isDigit 0 = .ok (.iload_n 0, 1) := by decide +kernel
theorem dX2_isDigit_1 : decode cX2_isDigit 1 = .ok (.bipush 48, 2) := by decide +kernel
theorem dX2_isDigit_3 : decode cX2_isDigit 3 = .ok (.if_icmp .lt 13, 3) := by decide +kernel
theorem dX2_isDigit_6 : decode cX2_isDigit 6 = .ok (.iload_n 0, 1) := by decide +kernel
theorem dX2_isDigit_7 : decode cX2_isDigit 7 = .ok (.bipush 57, 2) := by decide +kernel
theorem dX2_isDigit_9 : decode cX2_isDigit 9 = .ok (.if_icmp .gt 7, 3) := by decide +kernel
theorem dX2_isDigit_12 : decode cX2_isDigit 12 = .ok (.iconst 1, 1) := by decide +kernel
theorem dX2_isDigit_13 : decode cX2_isDigit 13 = .ok (.goto 4, 3) := by decide +kernel
theorem dX2_isDigit_16 : decode cX2_isDigit 16 = .ok (.iconst 0, 1) := by decide +kernel
theorem dX2_isDigit_17 : decode cX2_isDigit 17 = .ok (.ireturn, 1) := by decide +kernel
theorem dX2_signAt_0 : decode cX2_signAt 0 = .ok (.iload_n 1, 1) := by decide +kernel
theorem dX2_signAt_1 : decode cX2_signAt 1 = .ok (.ifCond .lt 20, 3) := by decide +kernel
theorem dX2_signAt_4 : decode cX2_signAt 4 = .ok (.iload_n 1, 1) := by decide +kernel
theorem dX2_signAt_5 : decode cX2_signAt 5 = .ok (.aload_n 0, 1) := by decide +kernel
theorem dX2_signAt_6 : decode cX2_signAt 6 = .ok (.getfield 15, 3) := by decide +kernel
theorem dX2_signAt_9 : decode cX2_signAt 9 = .ok (.if_icmp .ge 12, 3) := by decide +kernel
theorem dX2_signAt_12 : decode cX2_signAt 12 = .ok (.aload_n 0, 1) := by decide +kernel
theorem dX2_signAt_13 : decode cX2_signAt 13 = .ok (.getfield 9, 3) := by decide +kernel
theorem dX2_signAt_16 : decode cX2_signAt 16 = .ok (.iload_n 1, 1) := by decide +kernel
theorem dX2_signAt_17 : decode cX2_signAt 17 = .ok (.caload, 1) := by decide +kernel
theorem dX2_signAt_18 : decode cX2_signAt 18 = .ok (.goto 5, 3) := by decide +kernel
theorem dX2_signAt_21 : decode cX2_signAt 21 = .ok (.bipush 32, 2) := by decide +kernel
theorem dX2_signAt_23 : decode cX2_signAt 23 = .ok (.ireturn, 1) := by decide +kernel
theorem dX2_isMoveStart_0 : decode cX2_isMoveStart 0 = .ok (.iload_n 1, 1) := by decide +kernel
theorem dX2_isMoveStart_1 : decode cX2_isMoveStart 1 = .ok (.ifCond .eq 15, 3) := by decide +kernel
theorem dX2_isMoveStart_4 : decode cX2_isMoveStart 4 = .ok (.aload_n 0, 1) := by decide +kernel
theorem dX2_isMoveStart_5 : decode cX2_isMoveStart 5 = .ok (.iload_n 1, 1) := by decide +kernel
theorem dX2_isMoveStart_6 : decode cX2_isMoveStart 6 = .ok (.iconst 1, 1) := by decide +kernel
theorem dX2_isMoveStart_7 : decode cX2_isMoveStart 7 = .ok (.isub, 1) := by decide +kernel
theorem dX2_isMoveStart_8 : decode cX2_isMoveStart 8 = .ok (.invokevirtual 45, 3) := by decide +kernel
theorem dX2_isMoveStart_11 : decode cX2_isMoveStart 11 = .ok (.bipush 44, 2) := by decide +kernel
theorem dX2_isMoveStart_13 : decode cX2_isMoveStart 13 = .ok (.if_icmp .ne 7, 3) := by decide +kernel
theorem dX2_isMoveStart_16 : decode cX2_isMoveStart 16 = .ok (.iconst 1, 1) := by decide +kernel
theorem dX2_isMoveStart_17 : decode cX2_isMoveStart 17 = .ok (.goto 4, 3) := by decide +kernel
theorem dX2_isMoveStart_20 : decode cX2_isMoveStart 20 = .ok (.iconst 0, 1) := by decide +kernel
theorem dX2_isMoveStart_21 : decode cX2_isMoveStart 21 = .ok (.ireturn, 1) := by decide +kernel
theorem dX2_numberAt_0 : decode cX2_numberAt 0 = .ok (.iconst 0, 1) := by decide +kernel
theorem dX2_numberAt_1 : decode cX2_numberAt 1 = .ok (.istore_n 2, 1) := by decide +kernel
theorem dX2_numberAt_2 : decode cX2_numberAt 2 = .ok (.iload_n 1, 1) := by decide +kernel
theorem dX2_numberAt_3 : decode cX2_numberAt 3 = .ok (.istore_n 3, 1) := by decide +kernel
theorem dX2_numberAt_4 : decode cX2_numberAt 4 = .ok (.iload_n 3, 1) := by decide +kernel
theorem dX2_numberAt_5 : decode cX2_numberAt 5 = .ok (.aload_n 0, 1) := by decide +kernel
theorem dX2_numberAt_6 : decode cX2_numberAt 6 = .ok (.getfield 15, 3) := by decide +kernel
theorem dX2_numberAt_9 : decode cX2_numberAt 9 = .ok (.if_icmp .ge 34, 3) := by decide +kernel
theorem dX2_numberAt_12 : decode cX2_numberAt 12 = .ok (.aload_n 0, 1) := by decide +kernel
theorem dX2_numberAt_13 : decode cX2_numberAt 13 = .ok (.iload_n 3, 1) := by decide +kernel
theorem dX2_numberAt_14 : decode cX2_numberAt 14 = .ok (.invokevirtual 45, 3) := by decide +kernel
theorem dX2_numberAt_17 : decode cX2_numberAt 17 = .ok (.invokestatic 34, 3) := by decide +kernel
theorem dX2_numberAt_20 : decode cX2_numberAt 20 = .ok (.ifCond .eq 23, 3) := by decide +kernel
theorem dX2_numberAt_23 : decode cX2_numberAt 23 = .ok (.bipush 10, 2) := by decide +kernel
theorem dX2_numberAt_25 : decode cX2_numberAt 25 = .ok (.iload_n 2, 1) := by decide +kernel
theorem dX2_numberAt_26 : decode cX2_numberAt 26 = .ok (.imul, 1) := by decide +kernel
theorem dX2_numberAt_27 : decode cX2_numberAt 27 = .ok (.aload_n 0, 1) := by decide +kernel
theorem dX2_numberAt_28 : decode cX2_numberAt 28 = .ok (.iload_n 3, 1) := by decide +kernel
theorem dX2_numberAt_29 : decode cX2_numberAt 29 = .ok (.invokevirtual 45, 3) := by decide +kernel
theorem dX2_numberAt_32 : decode cX2_numberAt 32 = .ok (.bipush 48, 2) := by decide +kernel
theorem dX2_numberAt_34 : decode cX2_numberAt 34 = .ok (.isub, 1) := by decide +kernel
theorem dX2_numberAt_35 : decode cX2_numberAt 35 = .ok (.iadd, 1) := by decide +kernel
theorem dX2_numberAt_36 : decode cX2_numberAt 36 = .ok (.istore_n 2, 1) := by decide +kernel
theorem dX2_numberAt_37 : decode cX2_numberAt 37 = .ok (.iinc 3 1, 3) := by decide +kernel
theorem dX2_numberAt_40 : decode cX2_numberAt 40 = .ok (.goto (-36), 3) := by decide +kernel
theorem dX2_numberAt_43 : decode cX2_numberAt 43 = .ok (.iload_n 2, 1) := by decide +kernel
theorem dX2_numberAt_44 : decode cX2_numberAt 44 = .ok (.ireturn, 1) := by decide +kernel
theorem dX2_behindArrow_0 : decode cX2_behindArrow 0 = .ok (.iload_n 1, 1) := by decide +kernel
theorem dX2_behindArrow_1 : decode cX2_behindArrow 1 = .ok (.istore_n 2, 1) := by decide +kernel
theorem dX2_behindArrow_2 : decode cX2_behindArrow 2 = .ok (.iload_n 2, 1) := by decide +kernel
theorem dX2_behindArrow_3 : decode cX2_behindArrow 3 = .ok (.aload_n 0, 1) := by decide +kernel
theorem dX2_behindArrow_4 : decode cX2_behindArrow 4 = .ok (.getfield 15, 3) := by decide +kernel
theorem dX2_behindArrow_7 : decode cX2_behindArrow 7 = .ok (.if_icmp .ge 23, 3) := by decide +kernel
theorem dX2_behindArrow_10 : decode cX2_behindArrow 10 = .ok (.aload_n 0, 1) := by decide +kernel
theorem dX2_behindArrow_11 : decode cX2_behindArrow 11 = .ok (.iload_n 2, 1) := by decide +kernel
theorem dX2_behindArrow_12 : decode cX2_behindArrow 12 = .ok (.invokevirtual 45, 3) := by decide +kernel
theorem dX2_behindArrow_15 : decode cX2_behindArrow 15 = .ok (.bipush 62, 2) := by decide +kernel
theorem dX2_behindArrow_17 : decode cX2_behindArrow 17 = .ok (.if_icmp .ne 7, 3) := by decide +kernel
theorem dX2_behindArrow_20 : decode cX2_behindArrow 20 = .ok (.iload_n 2, 1) := by decide +kernel
theorem dX2_behindArrow_21 : decode cX2_behindArrow 21 = .ok (.iconst 1, 1) := by decide +kernel
theorem dX2_behindArrow_22 : decode cX2_behindArrow 22 = .ok (.iadd, 1) := by decide +kernel
theorem dX2_behindArrow_23 : decode cX2_behindArrow 23 = .ok (.ireturn, 1) := by decide +kernel
theorem dX2_behindArrow_24 : decode cX2_behindArrow 24 = .ok (.iinc 2 1, 3) := by decide +kernel
theorem dX2_behindArrow_27 : decode cX2_behindArrow 27 = .ok (.goto (-25), 3) := by decide +kernel
theorem dX2_behindArrow_30 : decode cX2_behindArrow 30 = .ok (.aload_n 0, 1) := by decide +kernel
theorem dX2_behindArrow_31 : decode cX2_behindArrow 31 = .ok (.getfield 15, 3) := by decide +kernel
theorem dX2_behindArrow_34 : decode cX2_behindArrow 34 = .ok (.ireturn, 1) := by decide +kernel
theorem dX3_init_0 : decode cX3_init 0 = .ok (.aload_n 0, 1) := by decide +kernel
theorem dX3_init_1 : decode cX3_init 1 = .ok (.invokespecial 1, 3) := by decide +kernel
theorem dX3_init_4 : decode cX3_init 4 = .ok (.aload_n 0, 1) := by decide +kernel
theorem dX3_init_5 : decode cX3_init 5 = .ok (.new 7, 3) := by decide +kernel
theorem dX3_init_8 : decode cX3_init 8 = .ok (.dup, 1) := by decide +kernel
theorem dX3_init_9 : decode cX3_init 9 = .ok (.invokespecial 9, 3) := by decide +kernel
theorem dX3_init_12 : decode cX3_init 12 = .ok (.putfield 10, 3) := by decide +kernel
theorem dX3_init_15 : decode cX3_init 15 = .ok (.aload_n 0, 1) := by decide +kernel
theorem dX3_init_16 : decode cX3_init 16 = .ok (.new 7, 3) := by decide +kernel
theorem dX3_init_19 : decode cX3_init 19 = .ok (.dup, 1) := by decide +kernel
theorem dX3_init_20 : decode cX3_init 20 = .ok (.invokespecial 9, 3) := by decide +kernel
theorem dX3_init_23 : decode cX3_init 23 = .ok (.putfield 16, 3) := by decide +kernel
theorem dX3_init_26 : decode cX3_init 26 = .ok (.aload_n 0, 1) := by decide +kernel
theorem dX3_init_27 : decode cX3_init 27 = .ok (.new 7, 3) := by decide +kernel
theorem dX3_init_30 : decode cX3_init 30 = .ok (.dup, 1) := by decide +kernel
theorem dX3_init_31 : decode cX3_init 31 = .ok (.invokespecial 9, 3) := by decide +kernel
theorem dX3_init_34 : decode cX3_init 34 = .ok (.putfield 19, 3) := by decide +kernel
theorem dX3_init_37 : decode cX3_init 37 = .ok (.aload_n 0, 1) := by decide +kernel
theorem dX3_init_38 : decode cX3_init 38 = .ok (.new 7, 3) := by decide +kernel
theorem dX3_init_41 : decode cX3_init 41 = .ok (.dup, 1) := by decide +kernel
theorem dX3_init_42 : decode cX3_init 42 = .ok (.invokespecial 9, 3) := by decide +kernel
theorem dX3_init_45 : decode cX3_init 45 = .ok (.putfield 22, 3) := by decide +kernel
theorem dX3_init_48 : decode cX3_init 48 = .ok (.aload_n 0, 1) := by decide +kernel
theorem dX3_init_49 : decode cX3_init 49 = .ok (.new 25, 3) := by decide +kernel
theorem dX3_init_52 : decode cX3_init 52 = .ok (.dup, 1) := by decide +kernel
theorem dX3_init_53 : decode cX3_init 53 = .ok (.invokespecial 27, 3) := by decide +kernel
theorem dX3_init_56 : decode cX3_init 56 = .ok (.putfield 28, 3) := by decide +kernel
theorem dX3_init_59 : decode cX3_init 59 = .ok (.aload_n 0, 1) := by decide +kernel
theorem dX3_init_60 : decode cX3_init 60 = .ok (.new 32, 3) := by decide +kernel
theorem dX3_init_63 : decode cX3_init 63 = .ok (.dup, 1) := by decide +kernel
theorem dX3_init_64 : decode cX3_init 64 = .ok (.invokespecial 34, 3) := by decide +kernel
theorem dX3_init_67 : decode cX3_init 67 = .ok (.putfield 35, 3) := by decide +kernel
theorem dX3_init_70 : decode cX3_init 70 = .ok (.aload_n 0, 1) := by decide +kernel
theorem dX3_init_71 : decode cX3_init 71 = .ok (.iconst 0, 1) := by decide +kernel
theorem dX3_init_72 : decode cX3_init 72 = .ok (.putfield 39, 3) := by decide +kernel
theorem dX3_init_75 : decode cX3_init 75 = .ok (.return_, 1) := by decide +kernel
theorem dX3_setTop_0 : decode cX3_setTop 0 = .ok (.aload_n 0, 1) := by decide +kernel
theorem dX3_setTop_1 : decode cX3_setTop 1 = .ok (.getfield 16, 3) := by decide +kernel
theorem dX3_setTop_4 : decode cX3_setTop 4 = .ok (.aload_n 0, 1) := by decide +kernel
theorem dX3_setTop_5 : decode cX3_setTop 5 = .ok (.getfield 10, 3) := by decide +kernel
theorem dX3_setTop_8 : decode cX3_setTop 8 = .ok (.invokevirtual 43, 3) := by decide +kernel
theorem dX3_setTop_11 : decode cX3_setTop 11 = .ok (.aload_n 0, 1) := by decide +kernel
theorem dX3_setTop_12 : decode cX3_setTop 12 = .ok (.aload_n 0, 1) := by decide +kernel
theorem dX3_setTop_13 : decode cX3_setTop 13 = .ok (.getfield 10, 3) := by decide +kernel
theorem dX3_setTop_16 : decode cX3_setTop 16 = .ok (.iload_n 1, 1) := by decide +kernel
theorem dX3_setTop_17 : decode cX3_setTop 17 = .ok (.invokevirtual 47, 3) := by decide +kernel
theorem dX3_setTop_20 : decode cX3_setTop 20 = .ok (.invokevirtual 51, 3) := by decide +kernel
theorem dX3_setTop_23 : decode cX3_setTop 23 = .ok (.ireturn, 1) := by decide +kernel
theorem dX3_lay_0 : decode cX3_lay 0 = .ok (.aload_n 0, 1) := by decide +kernel
theorem dX3_lay_1 : decode cX3_lay 1 = .ok (.getfield 16, 3) := by decide +kernel
theorem dX3_lay_4 : decode cX3_lay 4 = .ok (.aload_n 0, 1) := by decide +kernel
theorem dX3_lay_5 : decode cX3_lay 5 = .ok (.getfield 10, 3) := by decide +kernel
theorem dX3_lay_8 : decode cX3_lay 8 = .ok (.invokevirtual 43, 3) := by decide +kernel
theorem dX3_lay_11 : decode cX3_lay 11 = .ok (.aload_n 0, 1) := by decide +kernel
theorem dX3_lay_12 : decode cX3_lay 12 = .ok (.aload_n 0, 1) := by decide +kernel
theorem dX3_lay_13 : decode cX3_lay 13 = .ok (.getfield 10, 3) := by decide +kernel
theorem dX3_lay_16 : decode cX3_lay 16 = .ok (.iload_n 1, 1) := by decide +kernel
theorem dX3_lay_17 : decode cX3_lay 17 = .ok (.iload_n 2, 1) := by decide +kernel
theorem dX3_lay_18 : decode cX3_lay 18 = .ok (.invokevirtual 54, 3) := by decide +kernel
theorem dX3_lay_21 : decode cX3_lay 21 = .ok (.invokevirtual 51, 3) := by decide +kernel
theorem dX3_lay_24 : decode cX3_lay 24 = .ok (.ireturn, 1) := by decide +kernel
theorem dX3_take_0 : decode cX3_take 0 = .ok (.aload_n 0, 1) := by decide +kernel
theorem dX3_take_1 : decode cX3_take 1 = .ok (.getfield 16, 3) := by decide +kernel
theorem dX3_take_4 : decode cX3_take 4 = .ok (.aload_n 0, 1) := by decide +kernel
theorem dX3_take_5 : decode cX3_take 5 = .ok (.getfield 10, 3) := by decide +kernel
theorem dX3_take_8 : decode cX3_take 8 = .ok (.invokevirtual 43, 3) := by decide +kernel
theorem dX3_take_11 : decode cX3_take 11 = .ok (.aload_n 0, 1) := by decide +kernel
theorem dX3_take_12 : decode cX3_take 12 = .ok (.aload_n 0, 1) := by decide +kernel
theorem dX3_take_13 : decode cX3_take 13 = .ok (.getfield 10, 3) := by decide +kernel
theorem dX3_take_16 : decode cX3_take 16 = .ok (.iload_n 1, 1) := by decide +kernel
theorem dX3_take_17 : decode cX3_take 17 = .ok (.invokevirtual 58, 3) := by decide +kernel
theorem dX3_take_20 : decode cX3_take 20 = .ok (.invokevirtual 51, 3) := by decide +kernel
theorem dX3_take_23 : decode cX3_take 23 = .ok (.ireturn, 1) := by decide +kernel
theorem dX3_put_0 : decode cX3_put 0 = .ok (.aload_n 0, 1) := by decide +kernel
theorem dX3_put_1 : decode cX3_put 1 = .ok (.getfield 16, 3) := by decide +kernel
theorem dX3_put_4 : decode cX3_put 4 = .ok (.aload_n 0, 1) := by decide +kernel
theorem dX3_put_5 : decode cX3_put 5 = .ok (.getfield 10, 3) := by decide +kernel
theorem dX3_put_8 : decode cX3_put 8 = .ok (.invokevirtual 43, 3) := by decide +kernel
theorem dX3_put_11 : decode cX3_put 11 = .ok (.aload_n 0, 1) := by decide +kernel
theorem dX3_put_12 : decode cX3_put 12 = .ok (.aload_n 0, 1) := by decide +kernel
theorem dX3_put_13 : decode cX3_put 13 = .ok (.getfield 10, 3) := by decide +kernel
theorem dX3_put_16 : decode cX3_put 16 = .ok (.iload_n 1, 1) := by decide +kernel
theorem dX3_put_17 : decode cX3_put 17 = .ok (.invokevirtual 61, 3) := by decide +kernel
theorem dX3_put_20 : decode cX3_put 20 = .ok (.invokevirtual 51, 3) := by decide +kernel
theorem dX3_put_23 : decode cX3_put 23 = .ok (.ireturn, 1) := by decide +kernel
theorem dX3_remove_0 : decode cX3_remove 0 = .ok (.aload_n 0, 1) := by decide +kernel
theorem dX3_remove_1 : decode cX3_remove 1 = .ok (.getfield 16, 3) := by decide +kernel
theorem dX3_remove_4 : decode cX3_remove 4 = .ok (.aload_n 0, 1) := by decide +kernel
theorem dX3_remove_5 : decode cX3_remove 5 = .ok (.getfield 10, 3) := by decide +kernel
theorem dX3_remove_8 : decode cX3_remove 8 = .ok (.invokevirtual 43, 3) := by decide +kernel
theorem dX3_remove_11 : decode cX3_remove 11 = .ok (.aload_n 0, 1) := by decide +kernel
theorem dX3_remove_12 : decode cX3_remove 12 = .ok (.aload_n 0, 1) := by decide +kernel
theorem dX3_remove_13 : decode cX3_remove 13 = .ok (.getfield 10, 3) := by decide +kernel
theorem dX3_remove_16 : decode cX3_remove 16 = .ok (.iload_n 1, 1) := by decide +kernel
theorem dX3_remove_17 : decode cX3_remove 17 = .ok (.invokevirtual 64, 3) := by decide +kernel
theorem dX3_remove_20 : decode cX3_remove 20 = .ok (.invokevirtual 51, 3) := by decide +kernel
theorem dX3_remove_23 : decode cX3_remove 23 = .ok (.ireturn, 1) := by decide +kernel
theorem dX3_join_0 : decode cX3_join 0 = .ok (.aload_n 0, 1) := by decide +kernel
theorem dX3_join_1 : decode cX3_join 1 = .ok (.getfield 16, 3) := by decide +kernel
theorem dX3_join_4 : decode cX3_join 4 = .ok (.aload_n 0, 1) := by decide +kernel
theorem dX3_join_5 : decode cX3_join 5 = .ok (.getfield 10, 3) := by decide +kernel
theorem dX3_join_8 : decode cX3_join 8 = .ok (.invokevirtual 43, 3) := by decide +kernel
theorem dX3_join_11 : decode cX3_join 11 = .ok (.aload_n 0, 1) := by decide +kernel
theorem dX3_join_12 : decode cX3_join 12 = .ok (.aload_n 0, 1) := by decide +kernel
theorem dX3_join_13 : decode cX3_join 13 = .ok (.getfield 10, 3) := by decide +kernel
theorem dX3_join_16 : decode cX3_join 16 = .ok (.invokevirtual 67, 3) := by decide +kernel
theorem dX3_join_19 : decode cX3_join 19 = .ok (.invokevirtual 51, 3) := by decide +kernel
theorem dX3_join_22 : decode cX3_join 22 = .ok (.ireturn, 1) := by decide +kernel
theorem dX3_roll_0 : decode cX3_roll 0 = .ok (.aload_n 0, 1) := by decide +kernel
theorem dX3_roll_1 : decode cX3_roll 1 = .ok (.getfield 16, 3) := by decide +kernel
theorem dX3_roll_4 : decode cX3_roll 4 = .ok (.aload_n 0, 1) := by decide +kernel
theorem dX3_roll_5 : decode cX3_roll 5 = .ok (.getfield 10, 3) := by decide +kernel
theorem dX3_roll_8 : decode cX3_roll 8 = .ok (.invokevirtual 43, 3) := by decide +kernel
theorem dX3_roll_11 : decode cX3_roll 11 = .ok (.aload_n 0, 1) := by decide +kernel
theorem dX3_roll_12 : decode cX3_roll 12 = .ok (.aload_n 0, 1) := by decide +kernel
theorem dX3_roll_13 : decode cX3_roll 13 = .ok (.getfield 10, 3) := by decide +kernel
theorem dX3_roll_16 : decode cX3_roll 16 = .ok (.iload_n 1, 1) := by decide +kernel
theorem dX3_roll_17 : decode cX3_roll 17 = .ok (.invokevirtual 71, 3) := by decide +kernel
theorem dX3_roll_20 : decode cX3_roll 20 = .ok (.invokevirtual 51, 3) := by decide +kernel
theorem dX3_roll_23 : decode cX3_roll 23 = .ok (.ireturn, 1) := by decide +kernel
theorem dX3_pass_0 : decode cX3_pass 0 = .ok (.aload_n 0, 1) := by decide +kernel
theorem dX3_pass_1 : decode cX3_pass 1 = .ok (.getfield 16, 3) := by decide +kernel
theorem dX3_pass_4 : decode cX3_pass 4 = .ok (.aload_n 0, 1) := by decide +kernel
theorem dX3_pass_5 : decode cX3_pass 5 = .ok (.getfield 10, 3) := by decide +kernel
theorem dX3_pass_8 : decode cX3_pass 8 = .ok (.invokevirtual 43, 3) := by decide +kernel
theorem dX3_pass_11 : decode cX3_pass 11 = .ok (.aload_n 0, 1) := by decide +kernel
theorem dX3_pass_12 : decode cX3_pass 12 = .ok (.aload_n 0, 1) := by decide +kernel
theorem dX3_pass_13 : decode cX3_pass 13 = .ok (.getfield 10, 3) := by decide +kernel
theorem dX3_pass_16 : decode cX3_pass 16 = .ok (.invokevirtual 74, 3) := by decide +kernel
theorem dX3_pass_19 : decode cX3_pass 19 = .ok (.invokevirtual 51, 3) := by decide +kernel
theorem dX3_pass_22 : decode cX3_pass 22 = .ok (.ireturn, 1) := by decide +kernel
theorem dX3_climber_0 : decode cX3_climber 0 = .ok (.aload_n 0, 1) := by decide +kernel
theorem dX3_climber_1 : decode cX3_climber 1 = .ok (.getfield 10, 3) := by decide +kernel
theorem dX3_climber_4 : decode cX3_climber 4 = .ok (.iload_n 1, 1) := by decide +kernel
theorem dX3_climber_5 : decode cX3_climber 5 = .ok (.iload_n 2, 1) := by decide +kernel
theorem dX3_climber_6 : decode cX3_climber 6 = .ok (.invokevirtual 77, 3) := by decide +kernel
theorem dX3_climber_9 : decode cX3_climber 9 = .ok (.ireturn, 1) := by decide +kernel
theorem dX3_turn_0 : decode cX3_turn 0 = .ok (.aload_n 0, 1) := by decide +kernel
theorem dX3_turn_1 : decode cX3_turn 1 = .ok (.getfield 10, 3) := by decide +kernel
theorem dX3_turn_4 : decode cX3_turn 4 = .ok (.invokevirtual 80, 3) := by decide +kernel
theorem dX3_turn_7 : decode cX3_turn 7 = .ok (.ifCond .eq 13, 3) := by decide +kernel
theorem dX3_turn_10 : decode cX3_turn 10 = .ok (.aload_n 0, 1) := by decide +kernel
theorem dX3_turn_11 : decode cX3_turn 11 = .ok (.getfield 10, 3) := by decide +kernel
theorem dX3_turn_14 : decode cX3_turn 14 = .ok (.getfield 84, 3) := by decide +kernel
theorem dX3_turn_17 : decode cX3_turn 17 = .ok (.goto 5, 3) := by decide +kernel
theorem dX3_turn_20 : decode cX3_turn 20 = .ok (.bipush (-6), 2) := by decide +kernel
theorem dX3_turn_22 : decode cX3_turn 22 = .ok (.ireturn, 1) := by decide +kernel
theorem dX3_on_0 : decode cX3_on 0 = .ok (.aload_n 0, 1) := by decide +kernel
theorem dX3_on_1 : decode cX3_on 1 = .ok (.getfield 10, 3) := by decide +kernel
theorem dX3_on_4 : decode cX3_on 4 = .ok (.iload_n 1, 1) := by decide +kernel
theorem dX3_on_5 : decode cX3_on 5 = .ok (.invokevirtual 88, 3) := by decide +kernel
theorem dX3_on_8 : decode cX3_on 8 = .ok (.ifCond .eq 14, 3) := by decide +kernel
theorem dX3_on_11 : decode cX3_on 11 = .ok (.aload_n 0, 1) := by decide +kernel
theorem dX3_on_12 : decode cX3_on 12 = .ok (.getfield 10, 3) := by decide +kernel
theorem dX3_on_15 : decode cX3_on 15 = .ok (.iload_n 1, 1) := by decide +kernel
theorem dX3_on_16 : decode cX3_on 16 = .ok (.invokevirtual 92, 3) := by decide +kernel
theorem dX3_on_19 : decode cX3_on 19 = .ok (.goto 4, 3) := by decide +kernel
theorem dX3_on_22 : decode cX3_on 22 = .ok (.iconst (-1), 1) := by decide +kernel
theorem dX3_on_23 : decode cX3_on 23 = .ok (.ireturn, 1) := by decide +kernel
theorem dX3_step_0 : decode cX3_step 0 = .ok (.aload_n 0, 1) := by decide +kernel
theorem dX3_step_1 : decode cX3_step 1 = .ok (.getfield 10, 3) := by decide +kernel
theorem dX3_step_4 : decode cX3_step 4 = .ok (.iload_n 1, 1) := by decide +kernel
theorem dX3_step_5 : decode cX3_step 5 = .ok (.iload_n 2, 1) := by decide +kernel
theorem dX3_step_6 : decode cX3_step 6 = .ok (.invokevirtual 95, 3) := by decide +kernel
theorem dX3_step_9 : decode cX3_step 9 = .ok (.ireturn, 1) := by decide +kernel
theorem dX3_total_0 : decode cX3_total 0 = .ok (.aload_n 0, 1) := by decide +kernel
theorem dX3_total_1 : decode cX3_total 1 = .ok (.getfield 10, 3) := by decide +kernel
theorem dX3_total_4 : decode cX3_total 4 = .ok (.iload_n 1, 1) := by decide +kernel
theorem dX3_total_5 : decode cX3_total 5 = .ok (.invokevirtual 98, 3) := by decide +kernel
theorem dX3_total_8 : decode cX3_total 8 = .ok (.ireturn, 1) := by decide +kernel
theorem dX3_rank_0 : decode cX3_rank 0 = .ok (.iload_n 1, 1) := by decide +kernel
theorem dX3_rank_1 : decode cX3_rank 1 = .ok (.ifCond .ge 8, 3) := by decide +kernel
theorem dX3_rank_4 : decode cX3_rank 4 = .ok (.bipush (-2), 2) := by decide +kernel
theorem dX3_rank_6 : decode cX3_rank 6 = .ok (.goto 11, 3) := by decide +kernel
theorem dX3_rank_9 : decode cX3_rank 9 = .ok (.aload_n 0, 1) := by decide +kernel
theorem dX3_rank_10 : decode cX3_rank 10 = .ok (.getfield 10, 3) := by decide +kernel
theorem dX3_rank_13 : decode cX3_rank 13 = .ok (.iload_n 1, 1) := by decide +kernel
theorem dX3_rank_14 : decode cX3_rank 14 = .ok (.invokevirtual 101, 3) := by decide +kernel
theorem dX3_rank_17 : decode cX3_rank 17 = .ok (.ireturn, 1) := by decide +kernel
theorem dX3_ifRolled_0 : decode cX3_ifRolled 0 = .ok (.iload_n 1, 1) := by decide +kernel
theorem dX3_ifRolled_1 : decode cX3_ifRolled 1 = .ok (.invokestatic 104, 3) := by decide +kernel
theorem dX3_ifRolled_4 : decode cX3_ifRolled 4 = .ok (.ifCond .eq 12, 3) := by decide +kernel
theorem dX3_ifRolled_7 : decode cX3_ifRolled 7 = .ok (.iload_n 2, 1) := by decide +kernel
theorem dX3_ifRolled_8 : decode cX3_ifRolled 8 = .ok (.ifCond .lt 8, 3) := by decide +kernel
theorem dX3_ifRolled_11 : decode cX3_ifRolled 11 = .ok (.iload_n 2, 1) := by decide +kernel
theorem dX3_ifRolled_12 : decode cX3_ifRolled 12 = .ok (.iconst 4, 1) := by decide +kernel
theorem dX3_ifRolled_13 : decode cX3_ifRolled 13 = .ok (.if_icmp .le 6, 3) := by decide +kernel
theorem dX3_ifRolled_16 : decode cX3_ifRolled 16 = .ok (.bipush (-2), 2) := by decide +kernel
theorem dX3_ifRolled_18 : decode cX3_ifRolled 18 = .ok (.ireturn, 1) := by decide +kernel
theorem dX3_ifRolled_19 : decode cX3_ifRolled 19 = .ok (.aload_n 0, 1) := by decide +kernel
theorem dX3_ifRolled_20 : decode cX3_ifRolled 20 = .ok (.getfield 10, 3) := by decide +kernel
theorem dX3_ifRolled_23 : decode cX3_ifRolled 23 = .ok (.invokevirtual 80, 3) := by decide +kernel
theorem dX3_ifRolled_26 : decode cX3_ifRolled 26 = .ok (.ifCond .ne 6, 3) := by decide +kernel
theorem dX3_ifRolled_29 : decode cX3_ifRolled 29 = .ok (.bipush (-3), 2) := by decide +kernel
theorem dX3_ifRolled_31 : decode cX3_ifRolled 31 = .ok (.ireturn, 1) := by decide +kernel
theorem dX3_ifRolled_32 : decode cX3_ifRolled 32 = .ok (.aload_n 0, 1) := by decide +kernel
theorem dX3_ifRolled_33 : decode cX3_ifRolled 33 = .ok (.iload_n 1, 1) := by decide +kernel
theorem dX3_ifRolled_34 : decode cX3_ifRolled 34 = .ok (.invokevirtual 107, 3) := by decide +kernel
theorem dX3_ifRolled_37 : decode cX3_ifRolled 37 = .ok (.istore_n 3, 1) := by decide +kernel
theorem dX3_ifRolled_38 : decode cX3_ifRolled 38 = .ok (.iload_n 2, 1) := by decide +kernel
theorem dX3_ifRolled_39 : decode cX3_ifRolled 39 = .ok (.tableswitch 79 0 3 #[29, 31, 47, 63], 29) := by decide +kernel
theorem dX3_ifRolled_68 : decode cX3_ifRolled 68 = .ok (.iload_n 3, 1) := by decide +kernel
theorem dX3_ifRolled_69 : decode cX3_ifRolled 69 = .ok (.ireturn, 1) := by decide +kernel
theorem dX3_ifRolled_70 : decode cX3_ifRolled 70 = .ok (.aload_n 0, 1) := by decide +kernel
theorem dX3_ifRolled_71 : decode cX3_ifRolled 71 = .ok (.getfield 19, 3) := by decide +kernel
theorem dX3_ifRolled_74 : decode cX3_ifRolled 74 = .ok (.invokevirtual 110, 3) := by decide +kernel
theorem dX3_ifRolled_77 : decode cX3_ifRolled 77 = .ok (.aload_n 0, 1) := by decide +kernel
theorem dX3_ifRolled_78 : decode cX3_ifRolled 78 = .ok (.getfield 10, 3) := by decide +kernel
theorem dX3_ifRolled_81 : decode cX3_ifRolled 81 = .ok (.invokevirtual 110, 3) := by decide +kernel
theorem dX3_ifRolled_84 : decode cX3_ifRolled 84 = .ok (.isub, 1) := by decide +kernel
theorem dX3_ifRolled_85 : decode cX3_ifRolled 85 = .ok (.ireturn, 1) := by decide +kernel
theorem dX3_ifRolled_86 : decode cX3_ifRolled 86 = .ok (.aload_n 0, 1) := by decide +kernel
theorem dX3_ifRolled_87 : decode cX3_ifRolled 87 = .ok (.getfield 19, 3) := by decide +kernel
theorem dX3_ifRolled_90 : decode cX3_ifRolled 90 = .ok (.invokevirtual 113, 3) := by decide +kernel
theorem dX3_ifRolled_93 : decode cX3_ifRolled 93 = .ok (.aload_n 0, 1) := by decide +kernel
theorem dX3_ifRolled_94 : decode cX3_ifRolled 94 = .ok (.getfield 10, 3) := by decide +kernel
theorem dX3_ifRolled_97 : decode cX3_ifRolled 97 = .ok (.invokevirtual 113, 3) := by decide +kernel
theorem dX3_ifRolled_100 : decode cX3_ifRolled 100 = .ok (.isub, 1) := by decide +kernel
theorem dX3_ifRolled_101 : decode cX3_ifRolled 101 = .ok (.ireturn, 1) := by decide +kernel
theorem dX3_ifRolled_102 : decode cX3_ifRolled 102 = .ok (.aload_n 0, 1) := by decide +kernel
theorem dX3_ifRolled_103 : decode cX3_ifRolled 103 = .ok (.getfield 19, 3) := by decide +kernel
theorem dX3_ifRolled_106 : decode cX3_ifRolled 106 = .ok (.invokevirtual 116, 3) := by decide +kernel
theorem dX3_ifRolled_109 : decode cX3_ifRolled 109 = .ok (.aload_n 0, 1) := by decide +kernel
theorem dX3_ifRolled_110 : decode cX3_ifRolled 110 = .ok (.getfield 10, 3) := by decide +kernel
theorem dX3_ifRolled_113 : decode cX3_ifRolled 113 = .ok (.invokevirtual 116, 3) := by decide +kernel
theorem dX3_ifRolled_116 : decode cX3_ifRolled 116 = .ok (.isub, 1) := by decide +kernel
theorem dX3_ifRolled_117 : decode cX3_ifRolled 117 = .ok (.ireturn, 1) := by decide +kernel
theorem dX3_ifRolled_118 : decode cX3_ifRolled 118 = .ok (.aload_n 0, 1) := by decide +kernel
theorem dX3_ifRolled_119 : decode cX3_ifRolled 119 = .ok (.getfield 19, 3) := by decide +kernel
theorem dX3_ifRolled_122 : decode cX3_ifRolled 122 = .ok (.getfield 84, 3) := by decide +kernel
theorem dX3_ifRolled_125 : decode cX3_ifRolled 125 = .ok (.ireturn, 1) := by decide +kernel
theorem dX3_bestRoll_0 : decode cX3_bestRoll 0 = .ok (.aload_n 0, 1) := by decide +kernel
theorem dX3_bestRoll_1 : decode cX3_bestRoll 1 = .ok (.getfield 10, 3) := by decide +kernel
theorem dX3_bestRoll_4 : decode cX3_bestRoll 4 = .ok (.invokevirtual 80, 3) := by decide +kernel
theorem dX3_bestRoll_7 : decode cX3_bestRoll 7 = .ok (.ifCond .ne 6, 3) := by decide +kernel
theorem dX3_bestRoll_10 : decode cX3_bestRoll 10 = .ok (.bipush (-6), 2) := by decide +kernel
theorem dX3_bestRoll_12 : decode cX3_bestRoll 12 = .ok (.ireturn, 1) := by decide +kernel
theorem dX3_bestRoll_13 : decode cX3_bestRoll 13 = .ok (.iconst 1, 1) := by decide +kernel
theorem dX3_bestRoll_14 : decode cX3_bestRoll 14 = .ok (.istore_n 1, 1) := by decide +kernel
theorem dX3_bestRoll_15 : decode cX3_bestRoll 15 = .ok (.aload_n 0, 1) := by decide +kernel
theorem dX3_bestRoll_16 : decode cX3_bestRoll 16 = .ok (.iconst 1, 1) := by decide +kernel
theorem dX3_bestRoll_17 : decode cX3_bestRoll 17 = .ok (.invokevirtual 119, 3) := by decide +kernel
theorem dX3_bestRoll_20 : decode cX3_bestRoll 20 = .ok (.istore_n 2, 1) := by decide +kernel
theorem dX3_bestRoll_21 : decode cX3_bestRoll 21 = .ok (.iconst 2, 1) := by decide +kernel
theorem dX3_bestRoll_22 : decode cX3_bestRoll 22 = .ok (.istore_n 3, 1) := by decide +kernel
theorem dX3_bestRoll_23 : decode cX3_bestRoll 23 = .ok (.iload_n 3, 1) := by decide +kernel
theorem dX3_bestRoll_24 : decode cX3_bestRoll 24 = .ok (.bipush 6, 2) := by decide +kernel
theorem dX3_bestRoll_26 : decode cX3_bestRoll 26 = .ok (.if_icmp .gt 27, 3) := by decide +kernel
theorem dX3_bestRoll_29 : decode cX3_bestRoll 29 = .ok (.aload_n 0, 1) := by decide +kernel
theorem dX3_bestRoll_30 : decode cX3_bestRoll 30 = .ok (.iload_n 3, 1) := by decide +kernel
theorem dX3_bestRoll_31 : decode cX3_bestRoll 31 = .ok (.invokevirtual 119, 3) := by decide +kernel
theorem dX3_bestRoll_34 : decode cX3_bestRoll 34 = .ok (.istore 4, 2) := by decide +kernel
theorem dX3_bestRoll_36 : decode cX3_bestRoll 36 = .ok (.iload 4, 2) := by decide +kernel
theorem dX3_bestRoll_38 : decode cX3_bestRoll 38 = .ok (.iload_n 2, 1) := by decide +kernel
theorem dX3_bestRoll_39 : decode cX3_bestRoll 39 = .ok (.if_icmp .le 8, 3) := by decide +kernel
theorem dX3_bestRoll_42 : decode cX3_bestRoll 42 = .ok (.iload_n 3, 1) := by decide +kernel
theorem dX3_bestRoll_43 : decode cX3_bestRoll 43 = .ok (.istore_n 1, 1) := by decide +kernel
theorem dX3_bestRoll_44 : decode cX3_bestRoll 44 = .ok (.iload 4, 2) := by decide +kernel
theorem dX3_bestRoll_46 : decode cX3_bestRoll 46 = .ok (.istore_n 2, 1) := by decide +kernel
theorem dX3_bestRoll_47 : decode cX3_bestRoll 47 = .ok (.iinc 3 1, 3) := by decide +kernel
theorem dX3_bestRoll_50 : decode cX3_bestRoll 50 = .ok (.goto (-27), 3) := by decide +kernel
theorem dX3_bestRoll_53 : decode cX3_bestRoll 53 = .ok (.iload_n 1, 1) := by decide +kernel
theorem dX3_bestRoll_54 : decode cX3_bestRoll 54 = .ok (.ireturn, 1) := by decide +kernel
theorem dX3_quietRolls_0 : decode cX3_quietRolls 0 = .ok (.aload_n 0, 1) := by decide +kernel
theorem dX3_quietRolls_1 : decode cX3_quietRolls 1 = .ok (.getfield 10, 3) := by decide +kernel
theorem dX3_quietRolls_4 : decode cX3_quietRolls 4 = .ok (.invokevirtual 80, 3) := by decide +kernel
theorem dX3_quietRolls_7 : decode cX3_quietRolls 7 = .ok (.ifCond .ne 6, 3) := by decide +kernel
theorem dX3_quietRolls_10 : decode cX3_quietRolls 10 = .ok (.bipush (-6), 2) := by decide +kernel
theorem dX3_quietRolls_12 : decode cX3_quietRolls 12 = .ok (.ireturn, 1) := by decide +kernel
theorem dX3_quietRolls_13 : decode cX3_quietRolls 13 = .ok (.iconst 0, 1) := by decide +kernel
theorem dX3_quietRolls_14 : decode cX3_quietRolls 14 = .ok (.istore_n 1, 1) := by decide +kernel
theorem dX3_quietRolls_15 : decode cX3_quietRolls 15 = .ok (.iconst 1, 1) := by decide +kernel
theorem dX3_quietRolls_16 : decode cX3_quietRolls 16 = .ok (.istore_n 2, 1) := by decide +kernel
theorem dX3_quietRolls_17 : decode cX3_quietRolls 17 = .ok (.iload_n 2, 1) := by decide +kernel
theorem dX3_quietRolls_18 : decode cX3_quietRolls 18 = .ok (.bipush 6, 2) := by decide +kernel
theorem dX3_quietRolls_20 : decode cX3_quietRolls 20 = .ok (.if_icmp .gt 26, 3) := by decide +kernel
theorem dX3_quietRolls_23 : decode cX3_quietRolls 23 = .ok (.aload_n 0, 1) := by decide +kernel
theorem dX3_quietRolls_24 : decode cX3_quietRolls 24 = .ok (.getfield 10, 3) := by decide +kernel
theorem dX3_quietRolls_27 : decode cX3_quietRolls 27 = .ok (.iload_n 2, 1) := by decide +kernel
theorem dX3_quietRolls_28 : decode cX3_quietRolls 28 = .ok (.invokevirtual 122, 3) := by decide +kernel
theorem dX3_quietRolls_31 : decode cX3_quietRolls 31 = .ok (.ifCond .ne 9, 3) := by decide +kernel
theorem dX3_quietRolls_34 : decode cX3_quietRolls 34 = .ok (.iload_n 1, 1) := by decide +kernel
theorem dX3_quietRolls_35 : decode cX3_quietRolls 35 = .ok (.iconst 1, 1) := by decide +kernel
theorem dX3_quietRolls_36 : decode cX3_quietRolls 36 = .ok (.iload_n 2, 1) := by decide +kernel
theorem dX3_quietRolls_37 : decode cX3_quietRolls 37 = .ok (.ishl, 1) := by decide +kernel
theorem dX3_quietRolls_38 : decode cX3_quietRolls 38 = .ok (.ior, 1) := by decide +kernel
theorem dX3_quietRolls_39 : decode cX3_quietRolls 39 = .ok (.istore_n 1, 1) := by decide +kernel
theorem dX3_quietRolls_40 : decode cX3_quietRolls 40 = .ok (.iinc 2 1, 3) := by decide +kernel
theorem dX3_quietRolls_43 : decode cX3_quietRolls 43 = .ok (.goto (-26), 3) := by decide +kernel
theorem dX3_quietRolls_46 : decode cX3_quietRolls 46 = .ok (.iload_n 1, 1) := by decide +kernel
theorem dX3_quietRolls_47 : decode cX3_quietRolls 47 = .ok (.ireturn, 1) := by decide +kernel
theorem dX3_rollsToTop_0 : decode cX3_rollsToTop 0 = .ok (.aload_n 0, 1) := by decide +kernel
theorem dX3_rollsToTop_1 : decode cX3_rollsToTop 1 = .ok (.getfield 10, 3) := by decide +kernel
theorem dX3_rollsToTop_4 : decode cX3_rollsToTop 4 = .ok (.iload_n 1, 1) := by decide +kernel
theorem dX3_rollsToTop_5 : decode cX3_rollsToTop 5 = .ok (.invokevirtual 125, 3) := by decide +kernel
theorem dX3_rollsToTop_8 : decode cX3_rollsToTop 8 = .ok (.ifCond .eq 14, 3) := by decide +kernel
theorem dX3_rollsToTop_11 : decode cX3_rollsToTop 11 = .ok (.aload_n 0, 1) := by decide +kernel
theorem dX3_rollsToTop_12 : decode cX3_rollsToTop 12 = .ok (.getfield 10, 3) := by decide +kernel
theorem dX3_rollsToTop_15 : decode cX3_rollsToTop 15 = .ok (.iload_n 1, 1) := by decide +kernel
theorem dX3_rollsToTop_16 : decode cX3_rollsToTop 16 = .ok (.invokevirtual 128, 3) := by decide +kernel
theorem dX3_rollsToTop_19 : decode cX3_rollsToTop 19 = .ok (.goto 4, 3) := by decide +kernel
theorem dX3_rollsToTop_22 : decode cX3_rollsToTop 22 = .ok (.iconst (-1), 1) := by decide +kernel
theorem dX3_rollsToTop_23 : decode cX3_rollsToTop 23 = .ok (.ireturn, 1) := by decide +kernel
theorem dX3_append_0 : decode cX3_append 0 = .ok (.aload_n 0, 1) := by decide +kernel
theorem dX3_append_1 : decode cX3_append 1 = .ok (.getfield 35, 3) := by decide +kernel
theorem dX3_append_4 : decode cX3_append 4 = .ok (.iload_n 1, 1) := by decide +kernel
theorem dX3_append_5 : decode cX3_append 5 = .ok (.invokevirtual 131, 3) := by decide +kernel
theorem dX3_append_8 : decode cX3_append 8 = .ok (.ireturn, 1) := by decide +kernel
theorem dX3_clearText_0 : decode cX3_clearText 0 = .ok (.aload_n 0, 1) := by decide +kernel
theorem dX3_clearText_1 : decode cX3_clearText 1 = .ok (.getfield 35, 3) := by decide +kernel
theorem dX3_clearText_4 : decode cX3_clearText 4 = .ok (.invokevirtual 134, 3) := by decide +kernel
theorem dX3_clearText_7 : decode cX3_clearText 7 = .ok (.ireturn, 1) := by decide +kernel
theorem dX3_errorPosition_0 : decode cX3_errorPosition 0 = .ok (.aload_n 0, 1) := by decide +kernel
theorem dX3_errorPosition_1 : decode cX3_errorPosition 1 = .ok (.getfield 35, 3) := by decide +kernel
theorem dX3_errorPosition_4 : decode cX3_errorPosition 4 = .ok (.invokevirtual 137, 3) := by decide +kernel
theorem dX3_errorPosition_7 : decode cX3_errorPosition 7 = .ok (.ireturn, 1) := by decide +kernel
theorem dX3_play_0 : decode cX3_play 0 = .ok (.aload_n 0, 1) := by decide +kernel
theorem dX3_play_1 : decode cX3_play 1 = .ok (.getfield 35, 3) := by decide +kernel
theorem dX3_play_4 : decode cX3_play 4 = .ok (.invokevirtual 137, 3) := by decide +kernel
theorem dX3_play_7 : decode cX3_play 7 = .ok (.bipush (-6), 2) := by decide +kernel
theorem dX3_play_9 : decode cX3_play 9 = .ok (.if_icmp .eq 6, 3) := by decide +kernel
theorem dX3_play_12 : decode cX3_play 12 = .ok (.bipush (-5), 2) := by decide +kernel
theorem dX3_play_14 : decode cX3_play 14 = .ok (.ireturn, 1) := by decide +kernel
theorem dX3_play_15 : decode cX3_play 15 = .ok (.aload_n 0, 1) := by decide +kernel
theorem dX3_play_16 : decode cX3_play 16 = .ok (.getfield 16, 3) := by decide +kernel
theorem dX3_play_19 : decode cX3_play 19 = .ok (.aload_n 0, 1) := by decide +kernel
theorem dX3_play_20 : decode cX3_play 20 = .ok (.getfield 10, 3) := by decide +kernel
theorem dX3_play_23 : decode cX3_play 23 = .ok (.invokevirtual 43, 3) := by decide +kernel
theorem dX3_play_26 : decode cX3_play 26 = .ok (.aload_n 0, 1) := by decide +kernel
theorem dX3_play_27 : decode cX3_play 27 = .ok (.invokevirtual 140, 3) := by decide +kernel
theorem dX3_play_30 : decode cX3_play 30 = .ok (.istore_n 1, 1) := by decide +kernel
theorem dX3_play_31 : decode cX3_play 31 = .ok (.aload_n 0, 1) := by decide +kernel
theorem dX3_play_32 : decode cX3_play 32 = .ok (.getfield 35, 3) := by decide +kernel
theorem dX3_play_35 : decode cX3_play 35 = .ok (.invokevirtual 134, 3) := by decide +kernel
theorem dX3_play_38 : decode cX3_play 38 = .ok (.pop, 1) := by decide +kernel
theorem dX3_play_39 : decode cX3_play 39 = .ok (.aload_n 0, 1) := by decide +kernel
theorem dX3_play_40 : decode cX3_play 40 = .ok (.iload_n 1, 1) := by decide +kernel
theorem dX3_play_41 : decode cX3_play 41 = .ok (.invokevirtual 51, 3) := by decide +kernel
theorem dX3_play_44 : decode cX3_play 44 = .ok (.ireturn, 1) := by decide +kernel
theorem dX3_undo_0 : decode cX3_undo 0 = .ok (.aload_n 0, 1) := by decide +kernel
theorem dX3_undo_1 : decode cX3_undo 1 = .ok (.getfield 28, 3) := by decide +kernel
theorem dX3_undo_4 : decode cX3_undo 4 = .ok (.invokevirtual 143, 3) := by decide +kernel
theorem dX3_undo_7 : decode cX3_undo 7 = .ok (.ifCond .eq 8, 3) := by decide +kernel
theorem dX3_undo_10 : decode cX3_undo 10 = .ok (.bipush (-3), 2) := by decide +kernel
theorem dX3_undo_12 : decode cX3_undo 12 = .ok (.goto 14, 3) := by decide +kernel
theorem dX3_undo_15 : decode cX3_undo 15 = .ok (.aload_n 0, 1) := by decide +kernel
theorem dX3_undo_16 : decode cX3_undo 16 = .ok (.getfield 28, 3) := by decide +kernel
theorem dX3_undo_19 : decode cX3_undo 19 = .ok (.aload_n 0, 1) := by decide +kernel
theorem dX3_undo_20 : decode cX3_undo 20 = .ok (.getfield 10, 3) := by decide +kernel
theorem dX3_undo_23 : decode cX3_undo 23 = .ok (.invokevirtual 146, 3) := by decide +kernel
theorem dX3_undo_26 : decode cX3_undo 26 = .ok (.ireturn, 1) := by decide +kernel
theorem dX3_save_0 : decode cX3_save 0 = .ok (.aload_n 0, 1) := by decide +kernel
theorem dX3_save_1 : decode cX3_save 1 = .ok (.getfield 22, 3) := by decide +kernel
theorem dX3_save_4 : decode cX3_save 4 = .ok (.aload_n 0, 1) := by decide +kernel
theorem dX3_save_5 : decode cX3_save 5 = .ok (.getfield 10, 3) := by decide +kernel
theorem dX3_save_8 : decode cX3_save 8 = .ok (.invokevirtual 43, 3) := by decide +kernel
theorem dX3_save_11 : decode cX3_save 11 = .ok (.aload_n 0, 1) := by decide +kernel
theorem dX3_save_12 : decode cX3_save 12 = .ok (.iconst 1, 1) := by decide +kernel
theorem dX3_save_13 : decode cX3_save 13 = .ok (.putfield 39, 3) := by decide +kernel
theorem dX3_save_16 : decode cX3_save 16 = .ok (.aload_n 0, 1) := by decide +kernel
theorem dX3_save_17 : decode cX3_save 17 = .ok (.getfield 10, 3) := by decide +kernel
theorem dX3_save_20 : decode cX3_save 20 = .ok (.getfield 150, 3) := by decide +kernel
theorem dX3_save_23 : decode cX3_save 23 = .ok (.ireturn, 1) := by decide +kernel
theorem dX3_restore_0 : decode cX3_restore 0 = .ok (.aload_n 0, 1) := by decide +kernel
theorem dX3_restore_1 : decode cX3_restore 1 = .ok (.getfield 39, 3) := by decide +kernel
theorem dX3_restore_4 : decode cX3_restore 4 = .ok (.ifCond .ne 6, 3) := by decide +kernel
theorem dX3_restore_7 : decode cX3_restore 7 = .ok (.bipush (-3), 2) := by decide +kernel
theorem dX3_restore_9 : decode cX3_restore 9 = .ok (.ireturn, 1) := by decide +kernel
theorem dX3_restore_10 : decode cX3_restore 10 = .ok (.aload_n 0, 1) := by decide +kernel
theorem dX3_restore_11 : decode cX3_restore 11 = .ok (.getfield 16, 3) := by decide +kernel
theorem dX3_restore_14 : decode cX3_restore 14 = .ok (.aload_n 0, 1) := by decide +kernel
theorem dX3_restore_15 : decode cX3_restore 15 = .ok (.getfield 10, 3) := by decide +kernel
theorem dX3_restore_18 : decode cX3_restore 18 = .ok (.invokevirtual 43, 3) := by decide +kernel
theorem dX3_restore_21 : decode cX3_restore 21 = .ok (.aload_n 0, 1) := by decide +kernel
theorem dX3_restore_22 : decode cX3_restore 22 = .ok (.getfield 10, 3) := by decide +kernel
theorem dX3_restore_25 : decode cX3_restore 25 = .ok (.aload_n 0, 1) := by decide +kernel
theorem dX3_restore_26 : decode cX3_restore 26 = .ok (.getfield 22, 3) := by decide +kernel
theorem dX3_restore_29 : decode cX3_restore 29 = .ok (.invokevirtual 43, 3) := by decide +kernel
theorem dX3_restore_32 : decode cX3_restore 32 = .ok (.aload_n 0, 1) := by decide +kernel
theorem dX3_restore_33 : decode cX3_restore 33 = .ok (.aload_n 0, 1) := by decide +kernel
theorem dX3_restore_34 : decode cX3_restore 34 = .ok (.getfield 10, 3) := by decide +kernel
theorem dX3_restore_37 : decode cX3_restore 37 = .ok (.getfield 150, 3) := by decide +kernel
theorem dX3_restore_40 : decode cX3_restore 40 = .ok (.invokevirtual 51, 3) := by decide +kernel
theorem dX3_restore_43 : decode cX3_restore 43 = .ok (.ireturn, 1) := by decide +kernel
theorem dX3_recordUnlessError_0 : decode cX3_recordUnlessError 0 = .ok (.iload_n 1, 1) := by decide +kernel
theorem dX3_recordUnlessError_1 : decode cX3_recordUnlessError 1 = .ok (.ifCond .lt 14, 3) := by decide +kernel
theorem dX3_recordUnlessError_4 : decode cX3_recordUnlessError 4 = .ok (.aload_n 0, 1) := by decide +kernel
theorem dX3_recordUnlessError_5 : decode cX3_recordUnlessError 5 = .ok (.getfield 28, 3) := by decide +kernel
theorem dX3_recordUnlessError_8 : decode cX3_recordUnlessError 8 = .ok (.aload_n 0, 1) := by decide +kernel
theorem dX3_recordUnlessError_9 : decode cX3_recordUnlessError 9 = .ok (.getfield 16, 3) := by decide +kernel
theorem dX3_recordUnlessError_12 : decode cX3_recordUnlessError 12 = .ok (.invokevirtual 153, 3) := by decide +kernel
theorem dX3_recordUnlessError_15 : decode cX3_recordUnlessError 15 = .ok (.iload_n 1, 1) := by decide +kernel
theorem dX3_recordUnlessError_16 : decode cX3_recordUnlessError 16 = .ok (.ireturn, 1) := by decide +kernel
theorem dX3_rollInTrial_0 : decode cX3_rollInTrial 0 = .ok (.aload_n 0, 1) := by decide +kernel
theorem dX3_rollInTrial_1 : decode cX3_rollInTrial 1 = .ok (.getfield 19, 3) := by decide +kernel
theorem dX3_rollInTrial_4 : decode cX3_rollInTrial 4 = .ok (.aload_n 0, 1) := by decide +kernel
theorem dX3_rollInTrial_5 : decode cX3_rollInTrial 5 = .ok (.getfield 10, 3) := by decide +kernel
theorem dX3_rollInTrial_8 : decode cX3_rollInTrial 8 = .ok (.invokevirtual 43, 3) := by decide +kernel
theorem dX3_rollInTrial_11 : decode cX3_rollInTrial 11 = .ok (.aload_n 0, 1) := by decide +kernel
theorem dX3_rollInTrial_12 : decode cX3_rollInTrial 12 = .ok (.getfield 19, 3) := by decide +kernel
theorem dX3_rollInTrial_15 : decode cX3_rollInTrial 15 = .ok (.iload_n 1, 1) := by decide +kernel
theorem dX3_rollInTrial_16 : decode cX3_rollInTrial 16 = .ok (.invokevirtual 71, 3) := by decide +kernel
theorem dX3_rollInTrial_19 : decode cX3_rollInTrial 19 = .ok (.ireturn, 1) := by decide +kernel
theorem dX3_gainOfRoll_0 : decode cX3_gainOfRoll 0 = .ok (.aload_n 0, 1) := by decide +kernel
theorem dX3_gainOfRoll_1 : decode cX3_gainOfRoll 1 = .ok (.iload_n 1, 1) := by decide +kernel
theorem dX3_gainOfRoll_2 : decode cX3_gainOfRoll 2 = .ok (.invokevirtual 107, 3) := by decide +kernel
theorem dX3_gainOfRoll_5 : decode cX3_gainOfRoll 5 = .ok (.pop, 1) := by decide +kernel
theorem dX3_gainOfRoll_6 : decode cX3_gainOfRoll 6 = .ok (.iconst 0, 1) := by decide +kernel
theorem dX3_gainOfRoll_7 : decode cX3_gainOfRoll 7 = .ok (.istore_n 2, 1) := by decide +kernel
theorem dX3_gainOfRoll_8 : decode cX3_gainOfRoll 8 = .ok (.iconst 0, 1) := by decide +kernel
theorem dX3_gainOfRoll_9 : decode cX3_gainOfRoll 9 = .ok (.istore_n 3, 1) := by decide +kernel
theorem dX3_gainOfRoll_10 : decode cX3_gainOfRoll 10 = .ok (.iload_n 3, 1) := by decide +kernel
theorem dX3_gainOfRoll_11 : decode cX3_gainOfRoll 11 = .ok (.aload_n 0, 1) := by decide +kernel
theorem dX3_gainOfRoll_12 : decode cX3_gainOfRoll 12 = .ok (.getfield 10, 3) := by decide +kernel
theorem dX3_gainOfRoll_15 : decode cX3_gainOfRoll 15 = .ok (.getfield 150, 3) := by decide +kernel
theorem dX3_gainOfRoll_18 : decode cX3_gainOfRoll 18 = .ok (.if_icmp .ge 50, 3) := by decide +kernel
theorem dX3_gainOfRoll_21 : decode cX3_gainOfRoll 21 = .ok (.aload_n 0, 1) := by decide +kernel
theorem dX3_gainOfRoll_22 : decode cX3_gainOfRoll 22 = .ok (.getfield 19, 3) := by decide +kernel
theorem dX3_gainOfRoll_25 : decode cX3_gainOfRoll 25 = .ok (.iload_n 3, 1) := by decide +kernel
theorem dX3_gainOfRoll_26 : decode cX3_gainOfRoll 26 = .ok (.invokevirtual 156, 3) := by decide +kernel
theorem dX3_gainOfRoll_29 : decode cX3_gainOfRoll 29 = .ok (.aload_n 0, 1) := by decide +kernel
theorem dX3_gainOfRoll_30 : decode cX3_gainOfRoll 30 = .ok (.getfield 10, 3) := by decide +kernel
theorem dX3_gainOfRoll_33 : decode cX3_gainOfRoll 33 = .ok (.iload_n 3, 1) := by decide +kernel
theorem dX3_gainOfRoll_34 : decode cX3_gainOfRoll 34 = .ok (.invokevirtual 156, 3) := by decide +kernel
theorem dX3_gainOfRoll_37 : decode cX3_gainOfRoll 37 = .ok (.isub, 1) := by decide +kernel
theorem dX3_gainOfRoll_38 : decode cX3_gainOfRoll 38 = .ok (.istore 4, 2) := by decide +kernel
theorem dX3_gainOfRoll_40 : decode cX3_gainOfRoll 40 = .ok (.iload_n 2, 1) := by decide +kernel
theorem dX3_gainOfRoll_41 : decode cX3_gainOfRoll 41 = .ok (.iload_n 3, 1) := by decide +kernel
theorem dX3_gainOfRoll_42 : decode cX3_gainOfRoll 42 = .ok (.aload_n 0, 1) := by decide +kernel
theorem dX3_gainOfRoll_43 : decode cX3_gainOfRoll 43 = .ok (.getfield 10, 3) := by decide +kernel
theorem dX3_gainOfRoll_46 : decode cX3_gainOfRoll 46 = .ok (.getfield 84, 3) := by decide +kernel
theorem dX3_gainOfRoll_49 : decode cX3_gainOfRoll 49 = .ok (.if_icmp .ne 8, 3) := by decide +kernel
theorem dX3_gainOfRoll_52 : decode cX3_gainOfRoll 52 = .ok (.iload 4, 2) := by decide +kernel
theorem dX3_gainOfRoll_54 : decode cX3_gainOfRoll 54 = .ok (.goto 6, 3) := by decide +kernel
theorem dX3_gainOfRoll_57 : decode cX3_gainOfRoll 57 = .ok (.iload 4, 2) := by decide +kernel
theorem dX3_gainOfRoll_59 : decode cX3_gainOfRoll 59 = .ok (.ineg, 1) := by decide +kernel
theorem dX3_gainOfRoll_60 : decode cX3_gainOfRoll 60 = .ok (.iadd, 1) := by decide +kernel
theorem dX3_gainOfRoll_61 : decode cX3_gainOfRoll 61 = .ok (.istore_n 2, 1) := by decide +kernel
theorem dX3_gainOfRoll_62 : decode cX3_gainOfRoll 62 = .ok (.iinc 3 1, 3) := by decide +kernel
theorem dX3_gainOfRoll_65 : decode cX3_gainOfRoll 65 = .ok (.goto (-55), 3) := by decide +kernel
theorem dX3_gainOfRoll_68 : decode cX3_gainOfRoll 68 = .ok (.iload_n 2, 1) := by decide +kernel
theorem dX3_gainOfRoll_69 : decode cX3_gainOfRoll 69 = .ok (.ireturn, 1) := by decide +kernel
theorem dX3_makeMovesOfText_0 : decode cX3_makeMovesOfText 0 = .ok (.iconst 0, 1) := by decide +kernel
theorem dX3_makeMovesOfText_1 : decode cX3_makeMovesOfText 1 = .ok (.istore_n 1, 1) := by decide +kernel
theorem dX3_makeMovesOfText_2 : decode cX3_makeMovesOfText 2 = .ok (.iconst 0, 1) := by decide +kernel
theorem dX3_makeMovesOfText_3 : decode cX3_makeMovesOfText 3 = .ok (.istore_n 2, 1) := by decide +kernel
theorem dX3_makeMovesOfText_4 : decode cX3_makeMovesOfText 4 = .ok (.iload_n 2, 1) := by decide +kernel
theorem dX3_makeMovesOfText_5 : decode cX3_makeMovesOfText 5 = .ok (.aload_n 0, 1) := by decide +kernel
theorem dX3_makeMovesOfText_6 : decode cX3_makeMovesOfText 6 = .ok (.getfield 35, 3) := by decide +kernel
theorem dX3_makeMovesOfText_9 : decode cX3_makeMovesOfText 9 = .ok (.getfield 159, 3) := by decide +kernel
theorem dX3_makeMovesOfText_12 : decode cX3_makeMovesOfText 12 = .ok (.if_icmp .ge 36, 3) := by decide +kernel
theorem dX3_makeMovesOfText_15 : decode cX3_makeMovesOfText 15 = .ok (.aload_n 0, 1) := by decide +kernel
theorem dX3_makeMovesOfText_16 : decode cX3_makeMovesOfText 16 = .ok (.getfield 35, 3) := by decide +kernel
theorem dX3_makeMovesOfText_19 : decode cX3_makeMovesOfText 19 = .ok (.iload_n 2, 1) := by decide +kernel
theorem dX3_makeMovesOfText_20 : decode cX3_makeMovesOfText 20 = .ok (.invokevirtual 162, 3) := by decide +kernel
theorem dX3_makeMovesOfText_23 : decode cX3_makeMovesOfText 23 = .ok (.ifCond .ne 6, 3) := by decide +kernel
theorem dX3_makeMovesOfText_26 : decode cX3_makeMovesOfText 26 = .ok (.goto 16, 3) := by decide +kernel
theorem dX3_makeMovesOfText_29 : decode cX3_makeMovesOfText 29 = .ok (.aload_n 0, 1) := by decide +kernel
theorem dX3_makeMovesOfText_30 : decode cX3_makeMovesOfText 30 = .ok (.iload_n 2, 1) := by decide +kernel
theorem dX3_makeMovesOfText_31 : decode cX3_makeMovesOfText 31 = .ok (.invokevirtual 165, 3) := by decide +kernel
theorem dX3_makeMovesOfText_34 : decode cX3_makeMovesOfText 34 = .ok (.ifCond .ge 5, 3) := by decide +kernel
theorem dX3_makeMovesOfText_37 : decode cX3_makeMovesOfText 37 = .ok (.iload_n 1, 1) := by decide +kernel
theorem dX3_makeMovesOfText_38 : decode cX3_makeMovesOfText 38 = .ok (.ireturn, 1) := by decide +kernel
theorem dX3_makeMovesOfText_39 : decode cX3_makeMovesOfText 39 = .ok (.iinc 1 1, 3) := by decide +kernel
theorem dX3_makeMovesOfText_42 : decode cX3_makeMovesOfText 42 = .ok (.iinc 2 1, 3) := by decide +kernel
theorem dX3_makeMovesOfText_45 : decode cX3_makeMovesOfText 45 = .ok (.goto (-41), 3) := by decide +kernel
theorem dX3_makeMovesOfText_48 : decode cX3_makeMovesOfText 48 = .ok (.iload_n 1, 1) := by decide +kernel
theorem dX3_makeMovesOfText_49 : decode cX3_makeMovesOfText 49 = .ok (.ireturn, 1) := by decide +kernel
theorem dX3_makeMoveAt_0 : decode cX3_makeMoveAt 0 = .ok (.aload_n 0, 1) := by decide +kernel
theorem dX3_makeMoveAt_1 : decode cX3_makeMoveAt 1 = .ok (.getfield 35, 3) := by decide +kernel
theorem dX3_makeMoveAt_4 : decode cX3_makeMoveAt 4 = .ok (.iload_n 1, 1) := by decide +kernel
theorem dX3_makeMoveAt_5 : decode cX3_makeMoveAt 5 = .ok (.invokevirtual 168, 3) := by decide +kernel
theorem dX3_makeMoveAt_8 : decode cX3_makeMoveAt 8 = .ok (.istore_n 2, 1) := by decide +kernel
theorem dX3_makeMoveAt_9 : decode cX3_makeMoveAt 9 = .ok (.iload_n 2, 1) := by decide +kernel
theorem dX3_makeMoveAt_10 : decode cX3_makeMoveAt 10 = .ok (.bipush 112, 2) := by decide +kernel
theorem dX3_makeMoveAt_12 : decode cX3_makeMoveAt 12 = .ok (.if_icmp .ne 11, 3) := by decide +kernel
theorem dX3_makeMoveAt_15 : decode cX3_makeMoveAt 15 = .ok (.aload_n 0, 1) := by decide +kernel
theorem dX3_makeMoveAt_16 : decode cX3_makeMoveAt 16 = .ok (.getfield 10, 3) := by decide +kernel
theorem dX3_makeMoveAt_19 : decode cX3_makeMoveAt 19 = .ok (.invokevirtual 74, 3) := by decide +kernel
theorem dX3_makeMoveAt_22 : decode cX3_makeMoveAt 22 = .ok (.ireturn, 1) := by decide +kernel
theorem dX3_makeMoveAt_23 : decode cX3_makeMoveAt 23 = .ok (.iload_n 2, 1) := by decide +kernel
theorem dX3_makeMoveAt_24 : decode cX3_makeMoveAt 24 = .ok (.bipush 106, 2) := by decide +kernel
theorem dX3_makeMoveAt_26 : decode cX3_makeMoveAt 26 = .ok (.if_icmp .ne 11, 3) := by decide +kernel
theorem dX3_makeMoveAt_29 : decode cX3_makeMoveAt 29 = .ok (.aload_n 0, 1) := by decide +kernel
theorem dX3_makeMoveAt_30 : decode cX3_makeMoveAt 30 = .ok (.getfield 10, 3) := by decide +kernel
theorem dX3_makeMoveAt_33 : decode cX3_makeMoveAt 33 = .ok (.invokevirtual 67, 3) := by decide +kernel
theorem dX3_makeMoveAt_36 : decode cX3_makeMoveAt 36 = .ok (.ireturn, 1) := by decide +kernel
theorem dX3_makeMoveAt_37 : decode cX3_makeMoveAt 37 = .ok (.iload_n 2, 1) := by decide +kernel
theorem dX3_makeMoveAt_38 : decode cX3_makeMoveAt 38 = .ok (.bipush 99, 2) := by decide +kernel
theorem dX3_makeMoveAt_40 : decode cX3_makeMoveAt 40 = .ok (.if_icmp .ne 36, 3) := by decide +kernel
theorem dX3_makeMoveAt_43 : decode cX3_makeMoveAt 43 = .ok (.aload_n 0, 1) := by decide +kernel
theorem dX3_makeMoveAt_44 : decode cX3_makeMoveAt 44 = .ok (.getfield 10, 3) := by decide +kernel
theorem dX3_makeMoveAt_47 : decode cX3_makeMoveAt 47 = .ok (.aload_n 0, 1) := by decide +kernel
theorem dX3_makeMoveAt_48 : decode cX3_makeMoveAt 48 = .ok (.getfield 35, 3) := by decide +kernel
theorem dX3_makeMoveAt_51 : decode cX3_makeMoveAt 51 = .ok (.iload_n 1, 1) := by decide +kernel
theorem dX3_makeMoveAt_52 : decode cX3_makeMoveAt 52 = .ok (.iconst 1, 1) := by decide +kernel
theorem dX3_makeMoveAt_53 : decode cX3_makeMoveAt 53 = .ok (.iadd, 1) := by decide +kernel
theorem dX3_makeMoveAt_54 : decode cX3_makeMoveAt 54 = .ok (.invokevirtual 172, 3) := by decide +kernel
theorem dX3_makeMoveAt_57 : decode cX3_makeMoveAt 57 = .ok (.aload_n 0, 1) := by decide +kernel
theorem dX3_makeMoveAt_58 : decode cX3_makeMoveAt 58 = .ok (.getfield 35, 3) := by decide +kernel
theorem dX3_makeMoveAt_61 : decode cX3_makeMoveAt 61 = .ok (.aload_n 0, 1) := by decide +kernel
theorem dX3_makeMoveAt_62 : decode cX3_makeMoveAt 62 = .ok (.getfield 35, 3) := by decide +kernel
theorem dX3_makeMoveAt_65 : decode cX3_makeMoveAt 65 = .ok (.iload_n 1, 1) := by decide +kernel
theorem dX3_makeMoveAt_66 : decode cX3_makeMoveAt 66 = .ok (.invokevirtual 175, 3) := by decide +kernel
theorem dX3_makeMoveAt_69 : decode cX3_makeMoveAt 69 = .ok (.invokevirtual 172, 3) := by decide +kernel
theorem dX3_makeMoveAt_72 : decode cX3_makeMoveAt 72 = .ok (.invokevirtual 54, 3) := by decide +kernel
theorem dX3_makeMoveAt_75 : decode cX3_makeMoveAt 75 = .ok (.ireturn, 1) := by decide +kernel
theorem dX3_makeMoveAt_76 : decode cX3_makeMoveAt 76 = .ok (.iload_n 2, 1) := by decide +kernel
theorem dX3_makeMoveAt_77 : decode cX3_makeMoveAt 77 = .ok (.bipush 108, 2) := by decide +kernel
theorem dX3_makeMoveAt_79 : decode cX3_makeMoveAt 79 = .ok (.if_icmp .ne 21, 3) := by decide +kernel
theorem dX3_makeMoveAt_82 : decode cX3_makeMoveAt 82 = .ok (.aload_n 0, 1) := by decide +kernel
theorem dX3_makeMoveAt_83 : decode cX3_makeMoveAt 83 = .ok (.getfield 10, 3) := by decide +kernel
theorem dX3_makeMoveAt_86 : decode cX3_makeMoveAt 86 = .ok (.aload_n 0, 1) := by decide +kernel
theorem dX3_makeMoveAt_87 : decode cX3_makeMoveAt 87 = .ok (.getfield 35, 3) := by decide +kernel
theorem dX3_makeMoveAt_90 : decode cX3_makeMoveAt 90 = .ok (.iload_n 1, 1) := by decide +kernel
theorem dX3_makeMoveAt_91 : decode cX3_makeMoveAt 91 = .ok (.iconst 1, 1) := by decide +kernel
theorem dX3_makeMoveAt_92 : decode cX3_makeMoveAt 92 = .ok (.iadd, 1) := by decide +kernel
theorem dX3_makeMoveAt_93 : decode cX3_makeMoveAt 93 = .ok (.invokevirtual 172, 3) := by decide +kernel
theorem dX3_makeMoveAt_96 : decode cX3_makeMoveAt 96 = .ok (.invokevirtual 61, 3) := by decide +kernel
theorem dX3_makeMoveAt_99 : decode cX3_makeMoveAt 99 = .ok (.ireturn, 1) := by decide +kernel
theorem dX3_makeMoveAt_100 : decode cX3_makeMoveAt 100 = .ok (.aload_n 0, 1) := by decide +kernel
theorem dX3_makeMoveAt_101 : decode cX3_makeMoveAt 101 = .ok (.getfield 10, 3) := by decide +kernel
theorem dX3_makeMoveAt_104 : decode cX3_makeMoveAt 104 = .ok (.aload_n 0, 1) := by decide +kernel
theorem dX3_makeMoveAt_105 : decode cX3_makeMoveAt 105 = .ok (.getfield 35, 3) := by decide +kernel
theorem dX3_makeMoveAt_108 : decode cX3_makeMoveAt 108 = .ok (.iload_n 1, 1) := by decide +kernel
theorem dX3_makeMoveAt_109 : decode cX3_makeMoveAt 109 = .ok (.invokevirtual 172, 3) := by decide +kernel
theorem dX3_makeMoveAt_112 : decode cX3_makeMoveAt 112 = .ok (.invokevirtual 71, 3) := by decide +kernel
theorem dX3_makeMoveAt_115 : decode cX3_makeMoveAt 115 = .ok (.ireturn, 1) := by decide +kernel
theorem dX3_isRoll_0 : decode cX3_isRoll 0 = .ok (.iload_n 0, 1) := by decide +kernel
theorem dX3_isRoll_1 : decode cX3_isRoll 1 = .ok (.iconst 1, 1) := by decide +kernel
theorem dX3_isRoll_2 : decode cX3_isRoll 2 = .ok (.if_icmp .lt 13, 3) := by decide +kernel
theorem dX3_isRoll_5 : decode cX3_isRoll 5 = .ok (.iload_n 0, 1) := by decide +kernel
theorem dX3_isRoll_6 : decode cX3_isRoll 6 = .ok (.bipush 6, 2) := by decide +kernel
theorem dX3_isRoll_8 : decode cX3_isRoll 8 = .ok (.if_icmp .gt 7, 3) := by decide +kernel
theorem dX3_isRoll_11 : decode cX3_isRoll 11 = .ok (.iconst 1, 1) := by decide +kernel
theorem dX3_isRoll_12 : decode cX3_isRoll 12 = .ok (.goto 4, 3) := by decide +kernel
theorem dX3_isRoll_15 : decode cX3_isRoll 15 = .ok (.iconst 0, 1) := by decide +kernel
theorem dX3_isRoll_16 : decode cX3_isRoll 16 = .ok (.ireturn, 1) := by decide +kernel
theorem dX4_init_0 : decode cX4_init 0 = .ok (.aload_n 0, 1) := by decide +kernel
theorem dX4_init_1 : decode cX4_init 1 = .ok (.invokespecial 1, 3) := by decide +kernel
theorem dX4_init_4 : decode cX4_init 4 = .ok (.aload_n 0, 1) := by decide +kernel
theorem dX4_init_5 : decode cX4_init 5 = .ok (.bipush 118, 2) := by decide +kernel
theorem dX4_init_7 : decode cX4_init 7 = .ok (.newarray .int, 2) := by decide +kernel
theorem dX4_init_9 : decode cX4_init 9 = .ok (.putfield 7, 3) := by decide +kernel
theorem dX4_init_12 : decode cX4_init 12 = .ok (.aload_n 0, 1) := by decide +kernel
theorem dX4_init_13 : decode cX4_init 13 = .ok (.sipush 590, 3) := by decide +kernel
theorem dX4_init_16 : decode cX4_init 16 = .ok (.newarray .int, 2) := by decide +kernel
theorem dX4_init_18 : decode cX4_init 18 = .ok (.putfield 13, 3) := by decide +kernel
theorem dX4_init_21 : decode cX4_init 21 = .ok (.aload_n 0, 1) := by decide +kernel
theorem dX4_init_22 : decode cX4_init 22 = .ok (.bipush 118, 2) := by decide +kernel
theorem dX4_init_24 : decode cX4_init 24 = .ok (.newarray .int, 2) := by decide +kernel
theorem dX4_init_26 : decode cX4_init 26 = .ok (.putfield 16, 3) := by decide +kernel
theorem dX4_init_29 : decode cX4_init 29 = .ok (.aload_n 0, 1) := by decide +kernel
theorem dX4_init_30 : decode cX4_init 30 = .ok (.bipush 118, 2) := by decide +kernel
theorem dX4_init_32 : decode cX4_init 32 = .ok (.newarray .int, 2) := by decide +kernel
theorem dX4_init_34 : decode cX4_init 34 = .ok (.putfield 19, 3) := by decide +kernel
theorem dX4_init_37 : decode cX4_init 37 = .ok (.aload_n 0, 1) := by decide +kernel
theorem dX4_init_38 : decode cX4_init 38 = .ok (.bipush 60, 2) := by decide +kernel
theorem dX4_init_40 : decode cX4_init 40 = .ok (.newarray .char, 2) := by decide +kernel
theorem dX4_init_42 : decode cX4_init 42 = .ok (.putfield 22, 3) := by decide +kernel
theorem dX4_init_45 : decode cX4_init 45 = .ok (.aload_n 0, 1) := by decide +kernel
theorem dX4_init_46 : decode cX4_init 46 = .ok (.bipush 61, 2) := by decide +kernel
theorem dX4_init_48 : decode cX4_init 48 = .ok (.newarray .int, 2) := by decide +kernel
theorem dX4_init_50 : decode cX4_init 50 = .ok (.putfield 26, 3) := by decide +kernel
theorem dX4_init_53 : decode cX4_init 53 = .ok (.aload_n 0, 1) := by decide +kernel
theorem dX4_init_54 : decode cX4_init 54 = .ok (.bipush 93, 2) := by decide +kernel
theorem dX4_init_56 : decode cX4_init 56 = .ok (.newarray .int, 2) := by decide +kernel
theorem dX4_init_58 : decode cX4_init 58 = .ok (.putfield 29, 3) := by decide +kernel
theorem dX4_init_61 : decode cX4_init 61 = .ok (.aload_n 0, 1) := by decide +kernel
theorem dX4_init_62 : decode cX4_init 62 = .ok (.getfield 7, 3) := by decide +kernel
theorem dX4_init_65 : decode cX4_init 65 = .ok (.iconst 0, 1) := by decide +kernel
theorem dX4_init_66 : decode cX4_init 66 = .ok (.bipush 30, 2) := by decide +kernel
theorem dX4_init_68 : decode cX4_init 68 = .ok (.iastore, 1) := by decide +kernel
theorem dX4_init_69 : decode cX4_init 69 = .ok (.return_, 1) := by decide +kernel
theorem dX4_in_0 : decode cX4_in 0 = .ok (.iload_n 0, 1) := by decide +kernel
theorem dX4_in_1 : decode cX4_in 1 = .ok (.iload_n 1, 1) := by decide +kernel
theorem dX4_in_2 : decode cX4_in 2 = .ok (.if_icmp .lt 12, 3) := by decide +kernel
theorem dX4_in_5 : decode cX4_in 5 = .ok (.iload_n 0, 1) := by decide +kernel
theorem dX4_in_6 : decode cX4_in 6 = .ok (.iload_n 2, 1) := by decide +kernel
theorem dX4_in_7 : decode cX4_in 7 = .ok (.if_icmp .gt 7, 3) := by decide +kernel
theorem dX4_in_10 : decode cX4_in 10 = .ok (.iconst 1, 1) := by decide +kernel
theorem dX4_in_11 : decode cX4_in 11 = .ok (.goto 4, 3) := by decide +kernel
theorem dX4_in_14 : decode cX4_in 14 = .ok (.iconst 0, 1) := by decide +kernel
theorem dX4_in_15 : decode cX4_in 15 = .ok (.ireturn, 1) := by decide +kernel
theorem dX4_of_0 : decode cX4_of 0 = .ok (.aload_n 0, 1) := by decide +kernel
theorem dX4_of_1 : decode cX4_of 1 = .ok (.getfield 7, 3) := by decide +kernel
theorem dX4_of_4 : decode cX4_of 4 = .ok (.bipush 8, 2) := by decide +kernel
theorem dX4_of_6 : decode cX4_of 6 = .ok (.bipush 6, 2) := by decide +kernel
theorem dX4_of_8 : decode cX4_of 8 = .ok (.iload_n 1, 1) := by decide +kernel
theorem dX4_of_9 : decode cX4_of 9 = .ok (.imul, 1) := by decide +kernel
theorem dX4_of_10 : decode cX4_of 10 = .ok (.iadd, 1) := by decide +kernel
theorem dX4_of_11 : decode cX4_of 11 = .ok (.iload_n 2, 1) := by decide +kernel
theorem dX4_of_12 : decode cX4_of 12 = .ok (.iadd, 1) := by decide +kernel
theorem dX4_of_13 : decode cX4_of 13 = .ok (.iaload, 1) := by decide +kernel
theorem dX4_of_14 : decode cX4_of 14 = .ok (.ireturn, 1) := by decide +kernel
theorem dX4_lays_0 : decode cX4_lays 0 = .ok (.aload_n 0, 1) := by decide +kernel
theorem dX4_lays_1 : decode cX4_lays 1 = .ok (.getfield 7, 3) := by decide +kernel
theorem dX4_lays_4 : decode cX4_lays 4 = .ok (.bipush 8, 2) := by decide +kernel
theorem dX4_lays_6 : decode cX4_lays 6 = .ok (.bipush 6, 2) := by decide +kernel
theorem dX4_lays_8 : decode cX4_lays 8 = .ok (.iload_n 1, 1) := by decide +kernel
theorem dX4_lays_9 : decode cX4_lays 9 = .ok (.imul, 1) := by decide +kernel
theorem dX4_lays_10 : decode cX4_lays 10 = .ok (.iadd, 1) := by decide +kernel
theorem dX4_lays_11 : decode cX4_lays 11 = .ok (.iload_n 2, 1) := by decide +kernel
theorem dX4_lays_12 : decode cX4_lays 12 = .ok (.iadd, 1) := by decide +kernel
theorem dX4_lays_13 : decode cX4_lays 13 = .ok (.iload_n 3, 1) := by decide +kernel
theorem dX4_lays_14 : decode cX4_lays 14 = .ok (.iastore, 1) := by decide +kernel
theorem dX4_lays_15 : decode cX4_lays 15 = .ok (.return_, 1) := by decide +kernel
theorem dX4_upper_0 : decode cX4_upper 0 = .ok (.aload_n 0, 1) := by decide +kernel
theorem dX4_upper_1 : decode cX4_upper 1 = .ok (.getfield 7, 3) := by decide +kernel
theorem dX4_upper_4 : decode cX4_upper 4 = .ok (.bipush 44, 2) := by decide +kernel
theorem dX4_upper_6 : decode cX4_upper 6 = .ok (.iconst 2, 1) := by decide +kernel
theorem dX4_upper_7 : decode cX4_upper 7 = .ok (.iload_n 1, 1) := by decide +kernel
theorem dX4_upper_8 : decode cX4_upper 8 = .ok (.imul, 1) := by decide +kernel
theorem dX4_upper_9 : decode cX4_upper 9 = .ok (.iadd, 1) := by decide +kernel
theorem dX4_upper_10 : decode cX4_upper 10 = .ok (.iaload, 1) := by decide +kernel
theorem dX4_upper_11 : decode cX4_upper 11 = .ok (.ireturn, 1) := by decide +kernel
theorem dX4_lower_0 : decode cX4_lower 0 = .ok (.aload_n 0, 1) := by decide +kernel
theorem dX4_lower_1 : decode cX4_lower 1 = .ok (.getfield 7, 3) := by decide +kernel
theorem dX4_lower_4 : decode cX4_lower 4 = .ok (.bipush 44, 2) := by decide +kernel
theorem dX4_lower_6 : decode cX4_lower 6 = .ok (.iconst 2, 1) := by decide +kernel
theorem dX4_lower_7 : decode cX4_lower 7 = .ok (.iload_n 1, 1) := by decide +kernel
theorem dX4_lower_8 : decode cX4_lower 8 = .ok (.imul, 1) := by decide +kernel
theorem dX4_lower_9 : decode cX4_lower 9 = .ok (.iadd, 1) := by decide +kernel
theorem dX4_lower_10 : decode cX4_lower 10 = .ok (.iconst 1, 1) := by decide +kernel
theorem dX4_lower_11 : decode cX4_lower 11 = .ok (.iadd, 1) := by decide +kernel
theorem dX4_lower_12 : decode cX4_lower 12 = .ok (.iaload, 1) := by decide +kernel
theorem dX4_lower_13 : decode cX4_lower 13 = .ok (.ireturn, 1) := by decide +kernel
theorem dX4_record_0 : decode cX4_record 0 = .ok (.aload_n 0, 1) := by decide +kernel
theorem dX4_record_1 : decode cX4_record 1 = .ok (.getfield 32, 3) := by decide +kernel
theorem dX4_record_4 : decode cX4_record 4 = .ok (.iconst 5, 1) := by decide +kernel
theorem dX4_record_5 : decode cX4_record 5 = .ok (.if_icmp .ne 43, 3) := by decide +kernel
theorem dX4_record_8 : decode cX4_record 8 = .ok (.iconst 0, 1) := by decide +kernel
theorem dX4_record_9 : decode cX4_record 9 = .ok (.istore_n 1, 1) := by decide +kernel
theorem dX4_record_10 : decode cX4_record 10 = .ok (.iload_n 1, 1) := by decide +kernel
theorem dX4_record_11 : decode cX4_record 11 = .ok (.sipush 472, 3) := by decide +kernel
theorem dX4_record_14 : decode cX4_record 14 = .ok (.if_icmp .ge 24, 3) := by decide +kernel
theorem dX4_record_17 : decode cX4_record 17 = .ok (.aload_n 0, 1) := by decide +kernel
theorem dX4_record_18 : decode cX4_record 18 = .ok (.getfield 13, 3) := by decide +kernel
theorem dX4_record_21 : decode cX4_record 21 = .ok (.iload_n 1, 1) := by decide +kernel
theorem dX4_record_22 : decode cX4_record 22 = .ok (.aload_n 0, 1) := by decide +kernel
theorem dX4_record_23 : decode cX4_record 23 = .ok (.getfield 13, 3) := by decide +kernel
theorem dX4_record_26 : decode cX4_record 26 = .ok (.iload_n 1, 1) := by decide +kernel
theorem dX4_record_27 : decode cX4_record 27 = .ok (.bipush 118, 2) := by decide +kernel
theorem dX4_record_29 : decode cX4_record 29 = .ok (.iadd, 1) := by decide +kernel
theorem dX4_record_30 : decode cX4_record 30 = .ok (.iaload, 1) := by decide +kernel
theorem dX4_record_31 : decode cX4_record 31 = .ok (.iastore, 1) := by decide +kernel
theorem dX4_record_32 : decode cX4_record 32 = .ok (.iinc 1 1, 3) := by decide +kernel
theorem dX4_record_35 : decode cX4_record 35 = .ok (.goto (-25), 3) := by decide +kernel
theorem dX4_record_38 : decode cX4_record 38 = .ok (.aload_n 0, 1) := by decide +kernel
theorem dX4_record_39 : decode cX4_record 39 = .ok (.dup, 1) := by decide +kernel
theorem dX4_record_40 : decode cX4_record 40 = .ok (.getfield 32, 3) := by decide +kernel
theorem dX4_record_43 : decode cX4_record 43 = .ok (.iconst 1, 1) := by decide +kernel
theorem dX4_record_44 : decode cX4_record 44 = .ok (.isub, 1) := by decide +kernel
theorem dX4_record_45 : decode cX4_record 45 = .ok (.putfield 32, 3) := by decide +kernel
theorem dX4_record_48 : decode cX4_record 48 = .ok (.iconst 0, 1) := by decide +kernel
theorem dX4_record_49 : decode cX4_record 49 = .ok (.istore_n 1, 1) := by decide +kernel
theorem dX4_record_50 : decode cX4_record 50 = .ok (.iload_n 1, 1) := by decide +kernel
theorem dX4_record_51 : decode cX4_record 51 = .ok (.bipush 118, 2) := by decide +kernel
theorem dX4_record_53 : decode cX4_record 53 = .ok (.if_icmp .ge 29, 3) := by decide +kernel
theorem dX4_record_56 : decode cX4_record 56 = .ok (.aload_n 0, 1) := by decide +kernel
theorem dX4_record_57 : decode cX4_record 57 = .ok (.getfield 13, 3) := by decide +kernel
theorem dX4_record_60 : decode cX4_record 60 = .ok (.aload_n 0, 1) := by decide +kernel
theorem dX4_record_61 : decode cX4_record 61 = .ok (.getfield 32, 3) := by decide +kernel
theorem dX4_record_64 : decode cX4_record 64 = .ok (.bipush 118, 2) := by decide +kernel
theorem dX4_record_66 : decode cX4_record 66 = .ok (.imul, 1) := by decide +kernel
theorem dX4_record_67 : decode cX4_record 67 = .ok (.iload_n 1, 1) := by decide +kernel
theorem dX4_record_68 : decode cX4_record 68 = .ok (.iadd, 1) := by decide +kernel
theorem dX4_record_69 : decode cX4_record 69 = .ok (.aload_n 0, 1) := by decide +kernel
theorem dX4_record_70 : decode cX4_record 70 = .ok (.getfield 7, 3) := by decide +kernel
theorem dX4_record_73 : decode cX4_record 73 = .ok (.iload_n 1, 1) := by decide +kernel
theorem dX4_record_74 : decode cX4_record 74 = .ok (.iaload, 1) := by decide +kernel
theorem dX4_record_75 : decode cX4_record 75 = .ok (.iastore, 1) := by decide +kernel
theorem dX4_record_76 : decode cX4_record 76 = .ok (.iinc 1 1, 3) := by decide +kernel
theorem dX4_record_79 : decode cX4_record 79 = .ok (.goto (-29), 3) := by decide +kernel
theorem dX4_record_82 : decode cX4_record 82 = .ok (.aload_n 0, 1) := by decide +kernel
theorem dX4_record_83 : decode cX4_record 83 = .ok (.dup, 1) := by decide +kernel
theorem dX4_record_84 : decode cX4_record 84 = .ok (.getfield 32, 3) := by decide +kernel
theorem dX4_record_87 : decode cX4_record 87 = .ok (.iconst 1, 1) := by decide +kernel
theorem dX4_record_88 : decode cX4_record 88 = .ok (.iadd, 1) := by decide +kernel
theorem dX4_record_89 : decode cX4_record 89 = .ok (.putfield 32, 3) := by decide +kernel
theorem dX4_record_92 : decode cX4_record 92 = .ok (.return_, 1) := by decide +kernel
theorem dX4_undo_0 : decode cX4_undo 0 = .ok (.aload_n 0, 1) := by decide +kernel
theorem dX4_undo_1 : decode cX4_undo 1 = .ok (.getfield 32, 3) := by decide +kernel
theorem dX4_undo_4 : decode cX4_undo 4 = .ok (.ifCond .ne 6, 3) := by decide +kernel
theorem dX4_undo_7 : decode cX4_undo 7 = .ok (.bipush (-3), 2) := by decide +kernel
theorem dX4_undo_9 : decode cX4_undo 9 = .ok (.ireturn, 1) := by decide +kernel
theorem dX4_undo_10 : decode cX4_undo 10 = .ok (.aload_n 0, 1) := by decide +kernel
theorem dX4_undo_11 : decode cX4_undo 11 = .ok (.dup, 1) := by decide +kernel
theorem dX4_undo_12 : decode cX4_undo 12 = .ok (.getfield 32, 3) := by decide +kernel
theorem dX4_undo_15 : decode cX4_undo 15 = .ok (.iconst 1, 1) := by decide +kernel
theorem dX4_undo_16 : decode cX4_undo 16 = .ok (.isub, 1) := by decide +kernel
theorem dX4_undo_17 : decode cX4_undo 17 = .ok (.putfield 32, 3) := by decide +kernel
theorem dX4_undo_20 : decode cX4_undo 20 = .ok (.iconst 0, 1) := by decide +kernel
theorem dX4_undo_21 : decode cX4_undo 21 = .ok (.istore_n 1, 1) := by decide +kernel
theorem dX4_undo_22 : decode cX4_undo 22 = .ok (.iload_n 1, 1) := by decide +kernel
theorem dX4_undo_23 : decode cX4_undo 23 = .ok (.bipush 118, 2) := by decide +kernel
theorem dX4_undo_25 : decode cX4_undo 25 = .ok (.if_icmp .ge 29, 3) := by decide +kernel
theorem dX4_undo_28 : decode cX4_undo 28 = .ok (.aload_n 0, 1) := by decide +kernel
theorem dX4_undo_29 : decode cX4_undo 29 = .ok (.getfield 7, 3) := by decide +kernel
theorem dX4_undo_32 : decode cX4_undo 32 = .ok (.iload_n 1, 1) := by decide +kernel
theorem dX4_undo_33 : decode cX4_undo 33 = .ok (.aload_n 0, 1) := by decide +kernel
theorem dX4_undo_34 : decode cX4_undo 34 = .ok (.getfield 13, 3) := by decide +kernel
theorem dX4_undo_37 : decode cX4_undo 37 = .ok (.aload_n 0, 1) := by decide +kernel
theorem dX4_undo_38 : decode cX4_undo 38 = .ok (.getfield 32, 3) := by decide +kernel
theorem dX4_undo_41 : decode cX4_undo 41 = .ok (.bipush 118, 2) := by decide +kernel
theorem dX4_undo_43 : decode cX4_undo 43 = .ok (.imul, 1) := by decide +kernel
theorem dX4_undo_44 : decode cX4_undo 44 = .ok (.iload_n 1, 1) := by decide +kernel
theorem dX4_undo_45 : decode cX4_undo 45 = .ok (.iadd, 1) := by decide +kernel
theorem dX4_undo_46 : decode cX4_undo 46 = .ok (.iaload, 1) := by decide +kernel
theorem dX4_undo_47 : decode cX4_undo 47 = .ok (.iastore, 1) := by decide +kernel
theorem dX4_undo_48 : decode cX4_undo 48 = .ok (.iinc 1 1, 3) := by decide +kernel
theorem dX4_undo_51 : decode cX4_undo 51 = .ok (.goto (-29), 3) := by decide +kernel
theorem dX4_undo_54 : decode cX4_undo 54 = .ok (.aload_n 0, 1) := by decide +kernel
theorem dX4_undo_55 : decode cX4_undo 55 = .ok (.getfield 32, 3) := by decide +kernel
theorem dX4_undo_58 : decode cX4_undo 58 = .ok (.ireturn, 1) := by decide +kernel
theorem dX4_save_0 : decode cX4_save 0 = .ok (.aload_n 0, 1) := by decide +kernel
theorem dX4_save_1 : decode cX4_save 1 = .ok (.iconst 1, 1) := by decide +kernel
theorem dX4_save_2 : decode cX4_save 2 = .ok (.putfield 36, 3) := by decide +kernel
theorem dX4_save_5 : decode cX4_save 5 = .ok (.iconst 0, 1) := by decide +kernel
theorem dX4_save_6 : decode cX4_save 6 = .ok (.istore_n 1, 1) := by decide +kernel
theorem dX4_save_7 : decode cX4_save 7 = .ok (.iload_n 1, 1) := by decide +kernel
theorem dX4_save_8 : decode cX4_save 8 = .ok (.bipush 118, 2) := by decide +kernel
theorem dX4_save_10 : decode cX4_save 10 = .ok (.if_icmp .ge 21, 3) := by decide +kernel
theorem dX4_save_13 : decode cX4_save 13 = .ok (.aload_n 0, 1) := by decide +kernel
theorem dX4_save_14 : decode cX4_save 14 = .ok (.getfield 16, 3) := by decide +kernel
theorem dX4_save_17 : decode cX4_save 17 = .ok (.iload_n 1, 1) := by decide +kernel
theorem dX4_save_18 : decode cX4_save 18 = .ok (.aload_n 0, 1) := by decide +kernel
theorem dX4_save_19 : decode cX4_save 19 = .ok (.getfield 7, 3) := by decide +kernel
theorem dX4_save_22 : decode cX4_save 22 = .ok (.iload_n 1, 1) := by decide +kernel
theorem dX4_save_23 : decode cX4_save 23 = .ok (.iaload, 1) := by decide +kernel
theorem dX4_save_24 : decode cX4_save 24 = .ok (.iastore, 1) := by decide +kernel
theorem dX4_save_25 : decode cX4_save 25 = .ok (.iinc 1 1, 3) := by decide +kernel
theorem dX4_save_28 : decode cX4_save 28 = .ok (.goto (-21), 3) := by decide +kernel
theorem dX4_save_31 : decode cX4_save 31 = .ok (.aload_n 0, 1) := by decide +kernel
theorem dX4_save_32 : decode cX4_save 32 = .ok (.getfield 7, 3) := by decide +kernel
theorem dX4_save_35 : decode cX4_save 35 = .ok (.iconst 1, 1) := by decide +kernel
theorem dX4_save_36 : decode cX4_save 36 = .ok (.iaload, 1) := by decide +kernel
theorem dX4_save_37 : decode cX4_save 37 = .ok (.ireturn, 1) := by decide +kernel
theorem dX4_restore_0 : decode cX4_restore 0 = .ok (.aload_n 0, 1) := by decide +kernel
theorem dX4_restore_1 : decode cX4_restore 1 = .ok (.getfield 36, 3) := by decide +kernel
theorem dX4_restore_4 : decode cX4_restore 4 = .ok (.ifCond .ne 6, 3) := by decide +kernel
theorem dX4_restore_7 : decode cX4_restore 7 = .ok (.bipush (-3), 2) := by decide +kernel
theorem dX4_restore_9 : decode cX4_restore 9 = .ok (.ireturn, 1) := by decide +kernel
theorem dX4_restore_10 : decode cX4_restore 10 = .ok (.aload_n 0, 1) := by decide +kernel
theorem dX4_restore_11 : decode cX4_restore 11 = .ok (.invokevirtual 40, 3) := by decide +kernel
theorem dX4_restore_14 : decode cX4_restore 14 = .ok (.iconst 0, 1) := by decide +kernel
theorem dX4_restore_15 : decode cX4_restore 15 = .ok (.istore_n 1, 1) := by decide +kernel
theorem dX4_restore_16 : decode cX4_restore 16 = .ok (.iload_n 1, 1) := by decide +kernel
theorem dX4_restore_17 : decode cX4_restore 17 = .ok (.bipush 118, 2) := by decide +kernel
theorem dX4_restore_19 : decode cX4_restore 19 = .ok (.if_icmp .ge 21, 3) := by decide +kernel
theorem dX4_restore_22 : decode cX4_restore 22 = .ok (.aload_n 0, 1) := by decide +kernel
theorem dX4_restore_23 : decode cX4_restore 23 = .ok (.getfield 7, 3) := by decide +kernel
theorem dX4_restore_26 : decode cX4_restore 26 = .ok (.iload_n 1, 1) := by decide +kernel
theorem dX4_restore_27 : decode cX4_restore 27 = .ok (.aload_n 0, 1) := by decide +kernel
theorem dX4_restore_28 : decode cX4_restore 28 = .ok (.getfield 16, 3) := by decide +kernel
theorem dX4_restore_31 : decode cX4_restore 31 = .ok (.iload_n 1, 1) := by decide +kernel
theorem dX4_restore_32 : decode cX4_restore 32 = .ok (.iaload, 1) := by decide +kernel
theorem dX4_restore_33 : decode cX4_restore 33 = .ok (.iastore, 1) := by decide +kernel
theorem dX4_restore_34 : decode cX4_restore 34 = .ok (.iinc 1 1, 3) := by decide +kernel
theorem dX4_restore_37 : decode cX4_restore 37 = .ok (.goto (-21), 3) := by decide +kernel
theorem dX4_restore_40 : decode cX4_restore 40 = .ok (.aload_n 0, 1) := by decide +kernel
theorem dX4_restore_41 : decode cX4_restore 41 = .ok (.getfield 7, 3) := by decide +kernel
theorem dX4_restore_44 : decode cX4_restore 44 = .ok (.iconst 1, 1) := by decide +kernel
theorem dX4_restore_45 : decode cX4_restore 45 = .ok (.iaload, 1) := by decide +kernel
theorem dX4_restore_46 : decode cX4_restore 46 = .ok (.ireturn, 1) := by decide +kernel
theorem dX4_isStep_0 : decode cX4_isStep 0 = .ok (.iload_n 1, 1) := by decide +kernel
theorem dX4_isStep_1 : decode cX4_isStep 1 = .ok (.iconst 1, 1) := by decide +kernel
theorem dX4_isStep_2 : decode cX4_isStep 2 = .ok (.aload_n 0, 1) := by decide +kernel
theorem dX4_isStep_3 : decode cX4_isStep 3 = .ok (.getfield 7, 3) := by decide +kernel
theorem dX4_isStep_6 : decode cX4_isStep 6 = .ok (.iconst 0, 1) := by decide +kernel
theorem dX4_isStep_7 : decode cX4_isStep 7 = .ok (.iaload, 1) := by decide +kernel
theorem dX4_isStep_8 : decode cX4_isStep 8 = .ok (.iconst 1, 1) := by decide +kernel
theorem dX4_isStep_9 : decode cX4_isStep 9 = .ok (.isub, 1) := by decide +kernel
theorem dX4_isStep_10 : decode cX4_isStep 10 = .ok (.invokestatic 43, 3) := by decide +kernel
theorem dX4_isStep_13 : decode cX4_isStep 13 = .ok (.ireturn, 1) := by decide +kernel
theorem dX4_isLanding_0 : decode cX4_isLanding 0 = .ok (.aload_n 0, 1) := by decide +kernel
theorem dX4_isLanding_1 : decode cX4_isLanding 1 = .ok (.getfield 7, 3) := by decide +kernel
theorem dX4_isLanding_4 : decode cX4_isLanding 4 = .ok (.bipush 57, 2) := by decide +kernel
theorem dX4_isLanding_6 : decode cX4_isLanding 6 = .ok (.iload_n 1, 1) := by decide +kernel
theorem dX4_isLanding_7 : decode cX4_isLanding 7 = .ok (.iadd, 1) := by decide +kernel
theorem dX4_isLanding_8 : decode cX4_isLanding 8 = .ok (.iaload, 1) := by decide +kernel
theorem dX4_isLanding_9 : decode cX4_isLanding 9 = .ok (.iconst 1, 1) := by decide +kernel
theorem dX4_isLanding_10 : decode cX4_isLanding 10 = .ok (.if_icmp .ne 7, 3) := by decide +kernel
theorem dX4_isLanding_13 : decode cX4_isLanding 13 = .ok (.iconst 1, 1) := by decide +kernel
theorem dX4_isLanding_14 : decode cX4_isLanding 14 = .ok (.goto 4, 3) := by decide +kernel
theorem dX4_isLanding_17 : decode cX4_isLanding 17 = .ok (.iconst 0, 1) := by decide +kernel
theorem dX4_isLanding_18 : decode cX4_isLanding 18 = .ok (.ireturn, 1) := by decide +kernel
theorem dX4_carpetFrom_0 : decode cX4_carpetFrom 0 = .ok (.bipush (-6), 2) := by decide +kernel
theorem dX4_carpetFrom_2 : decode cX4_carpetFrom 2 = .ok (.istore_n 2, 1) := by decide +kernel
theorem dX4_carpetFrom_3 : decode cX4_carpetFrom 3 = .ok (.iconst 0, 1) := by decide +kernel
theorem dX4_carpetFrom_4 : decode cX4_carpetFrom 4 = .ok (.istore_n 3, 1) := by decide +kernel
theorem dX4_carpetFrom_5 : decode cX4_carpetFrom 5 = .ok (.iload_n 3, 1) := by decide +kernel
theorem dX4_carpetFrom_6 : decode cX4_carpetFrom 6 = .ok (.aload_n 0, 1) := by decide +kernel
theorem dX4_carpetFrom_7 : decode cX4_carpetFrom 7 = .ok (.getfield 7, 3) := by decide +kernel
theorem dX4_carpetFrom_10 : decode cX4_carpetFrom 10 = .ok (.iconst 3, 1) := by decide +kernel
theorem dX4_carpetFrom_11 : decode cX4_carpetFrom 11 = .ok (.iaload, 1) := by decide +kernel
theorem dX4_carpetFrom_12 : decode cX4_carpetFrom 12 = .ok (.if_icmp .ge 24, 3) := by decide +kernel
theorem dX4_carpetFrom_15 : decode cX4_carpetFrom 15 = .ok (.aload_n 0, 1) := by decide +kernel
theorem dX4_carpetFrom_16 : decode cX4_carpetFrom 16 = .ok (.iload_n 3, 1) := by decide +kernel
theorem dX4_carpetFrom_17 : decode cX4_carpetFrom 17 = .ok (.invokevirtual 47, 3) := by decide +kernel
theorem dX4_carpetFrom_20 : decode cX4_carpetFrom 20 = .ok (.iload_n 1, 1) := by decide +kernel
theorem dX4_carpetFrom_21 : decode cX4_carpetFrom 21 = .ok (.if_icmp .ne 7, 3) := by decide +kernel
theorem dX4_carpetFrom_24 : decode cX4_carpetFrom 24 = .ok (.iload_n 3, 1) := by decide +kernel
theorem dX4_carpetFrom_25 : decode cX4_carpetFrom 25 = .ok (.goto 4, 3) := by decide +kernel
theorem dX4_carpetFrom_28 : decode cX4_carpetFrom 28 = .ok (.iload_n 2, 1) := by decide +kernel
theorem dX4_carpetFrom_29 : decode cX4_carpetFrom 29 = .ok (.istore_n 2, 1) := by decide +kernel
theorem dX4_carpetFrom_30 : decode cX4_carpetFrom 30 = .ok (.iinc 3 1, 3) := by decide +kernel
theorem dX4_carpetFrom_33 : decode cX4_carpetFrom 33 = .ok (.goto (-28), 3) := by decide +kernel
theorem dX4_carpetFrom_36 : decode cX4_carpetFrom 36 = .ok (.iload_n 2, 1) := by decide +kernel
theorem dX4_carpetFrom_37 : decode cX4_carpetFrom 37 = .ok (.ireturn, 1) := by decide +kernel
theorem dX4_carpetsTo_0 : decode cX4_carpetsTo 0 = .ok (.iconst 0, 1) := by decide +kernel
theorem dX4_carpetsTo_1 : decode cX4_carpetsTo 1 = .ok (.istore_n 2, 1) := by decide +kernel
theorem dX4_carpetsTo_2 : decode cX4_carpetsTo 2 = .ok (.iconst 0, 1) := by decide +kernel
theorem dX4_carpetsTo_3 : decode cX4_carpetsTo 3 = .ok (.istore_n 3, 1) := by decide +kernel
theorem dX4_carpetsTo_4 : decode cX4_carpetsTo 4 = .ok (.iload_n 3, 1) := by decide +kernel
theorem dX4_carpetsTo_5 : decode cX4_carpetsTo 5 = .ok (.aload_n 0, 1) := by decide +kernel
theorem dX4_carpetsTo_6 : decode cX4_carpetsTo 6 = .ok (.getfield 7, 3) := by decide +kernel
theorem dX4_carpetsTo_9 : decode cX4_carpetsTo 9 = .ok (.iconst 3, 1) := by decide +kernel
theorem dX4_carpetsTo_10 : decode cX4_carpetsTo 10 = .ok (.iaload, 1) := by decide +kernel
theorem dX4_carpetsTo_11 : decode cX4_carpetsTo 11 = .ok (.if_icmp .ge 26, 3) := by decide +kernel
theorem dX4_carpetsTo_14 : decode cX4_carpetsTo 14 = .ok (.iload_n 2, 1) := by decide +kernel
theorem dX4_carpetsTo_15 : decode cX4_carpetsTo 15 = .ok (.aload_n 0, 1) := by decide +kernel
theorem dX4_carpetsTo_16 : decode cX4_carpetsTo 16 = .ok (.iload_n 3, 1) := by decide +kernel
theorem dX4_carpetsTo_17 : decode cX4_carpetsTo 17 = .ok (.invokevirtual 51, 3) := by decide +kernel
theorem dX4_carpetsTo_20 : decode cX4_carpetsTo 20 = .ok (.iload_n 1, 1) := by decide +kernel
theorem dX4_carpetsTo_21 : decode cX4_carpetsTo 21 = .ok (.if_icmp .ne 7, 3) := by decide +kernel
theorem dX4_carpetsTo_24 : decode cX4_carpetsTo 24 = .ok (.iconst 1, 1) := by decide +kernel
theorem dX4_carpetsTo_25 : decode cX4_carpetsTo 25 = .ok (.goto 4, 3) := by decide +kernel
theorem dX4_carpetsTo_28 : decode cX4_carpetsTo 28 = .ok (.iconst 0, 1) := by decide +kernel
theorem dX4_carpetsTo_29 : decode cX4_carpetsTo 29 = .ok (.iadd, 1) := by decide +kernel
theorem dX4_carpetsTo_30 : decode cX4_carpetsTo 30 = .ok (.istore_n 2, 1) := by decide +kernel
theorem dX4_carpetsTo_31 : decode cX4_carpetsTo 31 = .ok (.iinc 3 1, 3) := by decide +kernel
theorem dX4_carpetsTo_34 : decode cX4_carpetsTo 34 = .ok (.goto (-30), 3) := by decide +kernel
theorem dX4_carpetsTo_37 : decode cX4_carpetsTo 37 = .ok (.iload_n 2, 1) := by decide +kernel
theorem dX4_carpetsTo_38 : decode cX4_carpetsTo 38 = .ok (.ireturn, 1) := by decide +kernel
theorem dX4_climbersOn_0 : decode cX4_climbersOn 0 = .ok (.iconst 0, 1) := by decide +kernel
theorem dX4_climbersOn_1 : decode cX4_climbersOn 1 = .ok (.istore_n 2, 1) := by decide +kernel
theorem dX4_climbersOn_2 : decode cX4_climbersOn 2 = .ok (.iconst 0, 1) := by decide +kernel
theorem dX4_climbersOn_3 : decode cX4_climbersOn 3 = .ok (.istore_n 3, 1) := by decide +kernel
theorem dX4_climbersOn_4 : decode cX4_climbersOn 4 = .ok (.iload_n 3, 1) := by decide +kernel
theorem dX4_climbersOn_5 : decode cX4_climbersOn 5 = .ok (.aload_n 0, 1) := by decide +kernel
theorem dX4_climbersOn_6 : decode cX4_climbersOn 6 = .ok (.getfield 7, 3) := by decide +kernel
theorem dX4_climbersOn_9 : decode cX4_climbersOn 9 = .ok (.iconst 1, 1) := by decide +kernel
theorem dX4_climbersOn_10 : decode cX4_climbersOn 10 = .ok (.iaload, 1) := by decide +kernel
theorem dX4_climbersOn_11 : decode cX4_climbersOn 11 = .ok (.if_icmp .ge 29, 3) := by decide +kernel
theorem dX4_climbersOn_14 : decode cX4_climbersOn 14 = .ok (.iload_n 2, 1) := by decide +kernel
theorem dX4_climbersOn_15 : decode cX4_climbersOn 15 = .ok (.aload_n 0, 1) := by decide +kernel
theorem dX4_climbersOn_16 : decode cX4_climbersOn 16 = .ok (.iload_n 3, 1) := by decide +kernel
theorem dX4_climbersOn_17 : decode cX4_climbersOn 17 = .ok (.iconst 0, 1) := by decide +kernel
theorem dX4_climbersOn_18 : decode cX4_climbersOn 18 = .ok (.invokevirtual 54, 3) := by decide +kernel
theorem dX4_climbersOn_21 : decode cX4_climbersOn 21 = .ok (.iload_n 1, 1) := by decide +kernel
theorem dX4_climbersOn_22 : decode cX4_climbersOn 22 = .ok (.if_icmp .ne 9, 3) := by decide +kernel
theorem dX4_climbersOn_25 : decode cX4_climbersOn 25 = .ok (.iconst 1, 1) := by decide +kernel
theorem dX4_climbersOn_26 : decode cX4_climbersOn 26 = .ok (.iload_n 3, 1) := by decide +kernel
theorem dX4_climbersOn_27 : decode cX4_climbersOn 27 = .ok (.ishl, 1) := by decide +kernel
theorem dX4_climbersOn_28 : decode cX4_climbersOn 28 = .ok (.goto 4, 3) := by decide +kernel
theorem dX4_climbersOn_31 : decode cX4_climbersOn 31 = .ok (.iconst 0, 1) := by decide +kernel
theorem dX4_climbersOn_32 : decode cX4_climbersOn 32 = .ok (.ior, 1) := by decide +kernel
theorem dX4_climbersOn_33 : decode cX4_climbersOn 33 = .ok (.istore_n 2, 1) := by decide +kernel
theorem dX4_climbersOn_34 : decode cX4_climbersOn 34 = .ok (.iinc 3 1, 3) := by decide +kernel
theorem dX4_climbersOn_37 : decode cX4_climbersOn 37 = .ok (.goto (-33), 3) := by decide +kernel
theorem dX4_climbersOn_40 : decode cX4_climbersOn 40 = .ok (.iload_n 2, 1) := by decide +kernel
theorem dX4_climbersOn_41 : decode cX4_climbersOn 41 = .ok (.ireturn, 1) := by decide +kernel
theorem dX4_bits_0 : decode cX4_bits 0 = .ok (.iconst 0, 1) := by decide +kernel
theorem dX4_bits_1 : decode cX4_bits 1 = .ok (.istore_n 1, 1) := by decide +kernel
theorem dX4_bits_2 : decode cX4_bits 2 = .ok (.iconst 0, 1) := by decide +kernel
theorem dX4_bits_3 : decode cX4_bits 3 = .ok (.istore_n 2, 1) := by decide +kernel
theorem dX4_bits_4 : decode cX4_bits 4 = .ok (.iload_n 2, 1) := by decide +kernel
theorem dX4_bits_5 : decode cX4_bits 5 = .ok (.bipush 6, 2) := by decide +kernel
theorem dX4_bits_7 : decode cX4_bits 7 = .ok (.if_icmp .ge 17, 3) := by decide +kernel
theorem dX4_bits_10 : decode cX4_bits 10 = .ok (.iload_n 1, 1) := by decide +kernel
theorem dX4_bits_11 : decode cX4_bits 11 = .ok (.iload_n 0, 1) := by decide +kernel
theorem dX4_bits_12 : decode cX4_bits 12 = .ok (.iload_n 2, 1) := by decide +kernel
theorem dX4_bits_13 : decode cX4_bits 13 = .ok (.ishr, 1) := by decide +kernel
theorem dX4_bits_14 : decode cX4_bits 14 = .ok (.iconst 1, 1) := by decide +kernel
theorem dX4_bits_15 : decode cX4_bits 15 = .ok (.iand, 1) := by decide +kernel
theorem dX4_bits_16 : decode cX4_bits 16 = .ok (.iadd, 1) := by decide +kernel
theorem dX4_bits_17 : decode cX4_bits 17 = .ok (.istore_n 1, 1) := by decide +kernel
theorem dX4_bits_18 : decode cX4_bits 18 = .ok (.iinc 2 1, 3) := by decide +kernel
theorem dX4_bits_21 : decode cX4_bits 21 = .ok (.goto (-17), 3) := by decide +kernel
theorem dX4_bits_24 : decode cX4_bits 24 = .ok (.iload_n 1, 1) := by decide +kernel
theorem dX4_bits_25 : decode cX4_bits 25 = .ok (.ireturn, 1) := by decide +kernel
theorem dX4_setTop_0 : decode cX4_setTop 0 = .ok (.iload_n 1, 1) := by decide +kernel
theorem dX4_setTop_1 : decode cX4_setTop 1 = .ok (.bipush 10, 2) := by decide +kernel
theorem dX4_setTop_3 : decode cX4_setTop 3 = .ok (.bipush 60, 2) := by decide +kernel
theorem dX4_setTop_5 : decode cX4_setTop 5 = .ok (.invokestatic 43, 3) := by decide +kernel
theorem dX4_setTop_8 : decode cX4_setTop 8 = .ok (.ifCond .ne 6, 3) := by decide +kernel
theorem dX4_setTop_11 : decode cX4_setTop 11 = .ok (.bipush (-2), 2) := by decide +kernel
theorem dX4_setTop_13 : decode cX4_setTop 13 = .ok (.ireturn, 1) := by decide +kernel
theorem dX4_setTop_14 : decode cX4_setTop 14 = .ok (.iload_n 1, 1) := by decide +kernel
theorem dX4_setTop_15 : decode cX4_setTop 15 = .ok (.istore_n 2, 1) := by decide +kernel
theorem dX4_setTop_16 : decode cX4_setTop 16 = .ok (.iload_n 2, 1) := by decide +kernel
theorem dX4_setTop_17 : decode cX4_setTop 17 = .ok (.bipush 61, 2) := by decide +kernel
theorem dX4_setTop_19 : decode cX4_setTop 19 = .ok (.if_icmp .ge 38, 3) := by decide +kernel
theorem dX4_setTop_22 : decode cX4_setTop 22 = .ok (.aload_n 0, 1) := by decide +kernel
theorem dX4_setTop_23 : decode cX4_setTop 23 = .ok (.iload_n 2, 1) := by decide +kernel
theorem dX4_setTop_24 : decode cX4_setTop 24 = .ok (.invokevirtual 58, 3) := by decide +kernel
theorem dX4_setTop_27 : decode cX4_setTop 27 = .ok (.ifCond .ne 21, 3) := by decide +kernel
theorem dX4_setTop_30 : decode cX4_setTop 30 = .ok (.aload_n 0, 1) := by decide +kernel
theorem dX4_setTop_31 : decode cX4_setTop 31 = .ok (.iload_n 2, 1) := by decide +kernel
theorem dX4_setTop_32 : decode cX4_setTop 32 = .ok (.invokevirtual 61, 3) := by decide +kernel
theorem dX4_setTop_35 : decode cX4_setTop 35 = .ok (.ifCond .ne 13, 3) := by decide +kernel
theorem dX4_setTop_38 : decode cX4_setTop 38 = .ok (.aload_n 0, 1) := by decide +kernel
theorem dX4_setTop_39 : decode cX4_setTop 39 = .ok (.iload_n 2, 1) := by decide +kernel
theorem dX4_setTop_40 : decode cX4_setTop 40 = .ok (.invokevirtual 65, 3) := by decide +kernel
theorem dX4_setTop_43 : decode cX4_setTop 43 = .ok (.bipush (-6), 2) := by decide +kernel
theorem dX4_setTop_45 : decode cX4_setTop 45 = .ok (.if_icmp .eq 6, 3) := by decide +kernel
theorem dX4_setTop_48 : decode cX4_setTop 48 = .ok (.bipush (-3), 2) := by decide +kernel
theorem dX4_setTop_50 : decode cX4_setTop 50 = .ok (.ireturn, 1) := by decide +kernel
theorem dX4_setTop_51 : decode cX4_setTop 51 = .ok (.iinc 2 1, 3) := by decide +kernel
theorem dX4_setTop_54 : decode cX4_setTop 54 = .ok (.goto (-38), 3) := by decide +kernel
theorem dX4_setTop_57 : decode cX4_setTop 57 = .ok (.aload_n 0, 1) := by decide +kernel
theorem dX4_setTop_58 : decode cX4_setTop 58 = .ok (.invokevirtual 40, 3) := by decide +kernel
theorem dX4_setTop_61 : decode cX4_setTop 61 = .ok (.aload_n 0, 1) := by decide +kernel
theorem dX4_setTop_62 : decode cX4_setTop 62 = .ok (.getfield 7, 3) := by decide +kernel
theorem dX4_setTop_65 : decode cX4_setTop 65 = .ok (.iconst 0, 1) := by decide +kernel
theorem dX4_setTop_66 : decode cX4_setTop 66 = .ok (.iaload, 1) := by decide +kernel
theorem dX4_setTop_67 : decode cX4_setTop 67 = .ok (.istore_n 2, 1) := by decide +kernel
theorem dX4_setTop_68 : decode cX4_setTop 68 = .ok (.aload_n 0, 1) := by decide +kernel
theorem dX4_setTop_69 : decode cX4_setTop 69 = .ok (.getfield 7, 3) := by decide +kernel
theorem dX4_setTop_72 : decode cX4_setTop 72 = .ok (.iconst 0, 1) := by decide +kernel
theorem dX4_setTop_73 : decode cX4_setTop 73 = .ok (.iload_n 1, 1) := by decide +kernel
theorem dX4_setTop_74 : decode cX4_setTop 74 = .ok (.iastore, 1) := by decide +kernel
theorem dX4_setTop_75 : decode cX4_setTop 75 = .ok (.iload_n 2, 1) := by decide +kernel
theorem dX4_setTop_76 : decode cX4_setTop 76 = .ok (.ireturn, 1) := by decide +kernel
theorem dX4_whyNotLay_0 : decode cX4_whyNotLay 0 = .ok (.aload_n 0, 1) := by decide +kernel
theorem dX4_whyNotLay_1 : decode cX4_whyNotLay 1 = .ok (.iload_n 1, 1) := by decide +kernel
theorem dX4_whyNotLay_2 : decode cX4_whyNotLay 2 = .ok (.invokevirtual 68, 3) := by decide +kernel
theorem dX4_whyNotLay_5 : decode cX4_whyNotLay 5 = .ok (.ifCond .ne 5, 3) := by decide +kernel
theorem dX4_whyNotLay_8 : decode cX4_whyNotLay 8 = .ok (.iconst (-1), 1) := by decide +kernel
theorem dX4_whyNotLay_9 : decode cX4_whyNotLay 9 = .ok (.ireturn, 1) := by decide +kernel
theorem dX4_whyNotLay_10 : decode cX4_whyNotLay 10 = .ok (.iload_n 2, 1) := by decide +kernel
theorem dX4_whyNotLay_11 : decode cX4_whyNotLay 11 = .ok (.iconst 0, 1) := by decide +kernel
theorem dX4_whyNotLay_12 : decode cX4_whyNotLay 12 = .ok (.iload_n 1, 1) := by decide +kernel
theorem dX4_whyNotLay_13 : decode cX4_whyNotLay 13 = .ok (.iconst 1, 1) := by decide +kernel
theorem dX4_whyNotLay_14 : decode cX4_whyNotLay 14 = .ok (.isub, 1) := by decide +kernel
theorem dX4_whyNotLay_15 : decode cX4_whyNotLay 15 = .ok (.invokestatic 43, 3) := by decide +kernel
theorem dX4_whyNotLay_18 : decode cX4_whyNotLay 18 = .ok (.ifCond .ne 6, 3) := by decide +kernel
theorem dX4_whyNotLay_21 : decode cX4_whyNotLay 21 = .ok (.bipush (-2), 2) := by decide +kernel
theorem dX4_whyNotLay_23 : decode cX4_whyNotLay 23 = .ok (.ireturn, 1) := by decide +kernel
theorem dX4_whyNotLay_24 : decode cX4_whyNotLay 24 = .ok (.aload_n 0, 1) := by decide +kernel
theorem dX4_whyNotLay_25 : decode cX4_whyNotLay 25 = .ok (.iload_n 1, 1) := by decide +kernel
theorem dX4_whyNotLay_26 : decode cX4_whyNotLay 26 = .ok (.invokevirtual 65, 3) := by decide +kernel
theorem dX4_whyNotLay_29 : decode cX4_whyNotLay 29 = .ok (.bipush (-6), 2) := by decide +kernel
theorem dX4_whyNotLay_31 : decode cX4_whyNotLay 31 = .ok (.if_icmp .ne 37, 3) := by decide +kernel
theorem dX4_whyNotLay_34 : decode cX4_whyNotLay 34 = .ok (.aload_n 0, 1) := by decide +kernel
theorem dX4_whyNotLay_35 : decode cX4_whyNotLay 35 = .ok (.iload_n 1, 1) := by decide +kernel
theorem dX4_whyNotLay_36 : decode cX4_whyNotLay 36 = .ok (.invokevirtual 71, 3) := by decide +kernel
theorem dX4_whyNotLay_39 : decode cX4_whyNotLay 39 = .ok (.ifCond .gt 29, 3) := by decide +kernel
theorem dX4_whyNotLay_42 : decode cX4_whyNotLay 42 = .ok (.aload_n 0, 1) := by decide +kernel
theorem dX4_whyNotLay_43 : decode cX4_whyNotLay 43 = .ok (.iload_n 2, 1) := by decide +kernel
theorem dX4_whyNotLay_44 : decode cX4_whyNotLay 44 = .ok (.invokevirtual 65, 3) := by decide +kernel
theorem dX4_whyNotLay_47 : decode cX4_whyNotLay 47 = .ok (.bipush (-6), 2) := by decide +kernel
theorem dX4_whyNotLay_49 : decode cX4_whyNotLay 49 = .ok (.if_icmp .ne 19, 3) := by decide +kernel
theorem dX4_whyNotLay_52 : decode cX4_whyNotLay 52 = .ok (.aload_n 0, 1) := by decide +kernel
theorem dX4_whyNotLay_53 : decode cX4_whyNotLay 53 = .ok (.iload_n 1, 1) := by decide +kernel
theorem dX4_whyNotLay_54 : decode cX4_whyNotLay 54 = .ok (.invokevirtual 61, 3) := by decide +kernel
theorem dX4_whyNotLay_57 : decode cX4_whyNotLay 57 = .ok (.ifCond .ne 11, 3) := by decide +kernel
theorem dX4_whyNotLay_60 : decode cX4_whyNotLay 60 = .ok (.aload_n 0, 1) := by decide +kernel
theorem dX4_whyNotLay_61 : decode cX4_whyNotLay 61 = .ok (.iload_n 1, 1) := by decide +kernel
theorem dX4_whyNotLay_62 : decode cX4_whyNotLay 62 = .ok (.invokevirtual 58, 3) := by decide +kernel
theorem dX4_whyNotLay_65 : decode cX4_whyNotLay 65 = .ok (.ifCond .eq 6, 3) := by decide +kernel
theorem dX4_whyNotLay_68 : decode cX4_whyNotLay 68 = .ok (.bipush (-3), 2) := by decide +kernel
theorem dX4_whyNotLay_70 : decode cX4_whyNotLay 70 = .ok (.ireturn, 1) := by decide +kernel
theorem dX4_whyNotLay_71 : decode cX4_whyNotLay 71 = .ok (.aload_n 0, 1) := by decide +kernel
theorem dX4_whyNotLay_72 : decode cX4_whyNotLay 72 = .ok (.getfield 7, 3) := by decide +kernel
theorem dX4_whyNotLay_75 : decode cX4_whyNotLay 75 = .ok (.iconst 3, 1) := by decide +kernel
theorem dX4_whyNotLay_76 : decode cX4_whyNotLay 76 = .ok (.iaload, 1) := by decide +kernel
theorem dX4_whyNotLay_77 : decode cX4_whyNotLay 77 = .ok (.bipush 6, 2) := by decide +kernel
theorem dX4_whyNotLay_79 : decode cX4_whyNotLay 79 = .ok (.if_icmp .ne 8, 3) := by decide +kernel
theorem dX4_whyNotLay_82 : decode cX4_whyNotLay 82 = .ok (.bipush (-4), 2) := by decide +kernel
theorem dX4_whyNotLay_84 : decode cX4_whyNotLay 84 = .ok (.goto 4, 3) := by decide +kernel
theorem dX4_whyNotLay_87 : decode cX4_whyNotLay 87 = .ok (.iconst 0, 1) := by decide +kernel
theorem dX4_whyNotLay_88 : decode cX4_whyNotLay 88 = .ok (.ireturn, 1) := by decide +kernel
theorem dX4_laysCarpet_0 : decode cX4_laysCarpet 0 = .ok (.aload_n 0, 1) := by decide +kernel
theorem dX4_laysCarpet_1 : decode cX4_laysCarpet 1 = .ok (.getfield 7, 3) := by decide +kernel
theorem dX4_laysCarpet_4 : decode cX4_laysCarpet 4 = .ok (.bipush 44, 2) := by decide +kernel
theorem dX4_laysCarpet_6 : decode cX4_laysCarpet 6 = .ok (.iconst 2, 1) := by decide +kernel
theorem dX4_laysCarpet_7 : decode cX4_laysCarpet 7 = .ok (.aload_n 0, 1) := by decide +kernel
theorem dX4_laysCarpet_8 : decode cX4_laysCarpet 8 = .ok (.getfield 7, 3) := by decide +kernel
theorem dX4_laysCarpet_11 : decode cX4_laysCarpet 11 = .ok (.iconst 3, 1) := by decide +kernel
theorem dX4_laysCarpet_12 : decode cX4_laysCarpet 12 = .ok (.iaload, 1) := by decide +kernel
theorem dX4_laysCarpet_13 : decode cX4_laysCarpet 13 = .ok (.imul, 1) := by decide +kernel
theorem dX4_laysCarpet_14 : decode cX4_laysCarpet 14 = .ok (.iadd, 1) := by decide +kernel
theorem dX4_laysCarpet_15 : decode cX4_laysCarpet 15 = .ok (.iload_n 1, 1) := by decide +kernel
theorem dX4_laysCarpet_16 : decode cX4_laysCarpet 16 = .ok (.iastore, 1) := by decide +kernel
theorem dX4_laysCarpet_17 : decode cX4_laysCarpet 17 = .ok (.aload_n 0, 1) := by decide +kernel
theorem dX4_laysCarpet_18 : decode cX4_laysCarpet 18 = .ok (.getfield 7, 3) := by decide +kernel
theorem dX4_laysCarpet_21 : decode cX4_laysCarpet 21 = .ok (.bipush 44, 2) := by decide +kernel
theorem dX4_laysCarpet_23 : decode cX4_laysCarpet 23 = .ok (.iconst 2, 1) := by decide +kernel
theorem dX4_laysCarpet_24 : decode cX4_laysCarpet 24 = .ok (.aload_n 0, 1) := by decide +kernel
theorem dX4_laysCarpet_25 : decode cX4_laysCarpet 25 = .ok (.getfield 7, 3) := by decide +kernel
theorem dX4_laysCarpet_28 : decode cX4_laysCarpet 28 = .ok (.iconst 3, 1) := by decide +kernel
theorem dX4_laysCarpet_29 : decode cX4_laysCarpet 29 = .ok (.iaload, 1) := by decide +kernel
theorem dX4_laysCarpet_30 : decode cX4_laysCarpet 30 = .ok (.imul, 1) := by decide +kernel
theorem dX4_laysCarpet_31 : decode cX4_laysCarpet 31 = .ok (.iadd, 1) := by decide +kernel
theorem dX4_laysCarpet_32 : decode cX4_laysCarpet 32 = .ok (.iconst 1, 1) := by decide +kernel
theorem dX4_laysCarpet_33 : decode cX4_laysCarpet 33 = .ok (.iadd, 1) := by decide +kernel
theorem dX4_laysCarpet_34 : decode cX4_laysCarpet 34 = .ok (.iload_n 2, 1) := by decide +kernel
theorem dX4_laysCarpet_35 : decode cX4_laysCarpet 35 = .ok (.iastore, 1) := by decide +kernel
theorem dX4_laysCarpet_36 : decode cX4_laysCarpet 36 = .ok (.aload_n 0, 1) := by decide +kernel
theorem dX4_laysCarpet_37 : decode cX4_laysCarpet 37 = .ok (.getfield 7, 3) := by decide +kernel
theorem dX4_laysCarpet_40 : decode cX4_laysCarpet 40 = .ok (.iconst 3, 1) := by decide +kernel
theorem dX4_laysCarpet_41 : decode cX4_laysCarpet 41 = .ok (.dup2, 1) := by decide +kernel
theorem dX4_laysCarpet_42 : decode cX4_laysCarpet 42 = .ok (.iaload, 1) := by decide +kernel
theorem dX4_laysCarpet_43 : decode cX4_laysCarpet 43 = .ok (.iconst 1, 1) := by decide +kernel
theorem dX4_laysCarpet_44 : decode cX4_laysCarpet 44 = .ok (.iadd, 1) := by decide +kernel
theorem dX4_laysCarpet_45 : decode cX4_laysCarpet 45 = .ok (.iastore, 1) := by decide +kernel
theorem dX4_laysCarpet_46 : decode cX4_laysCarpet 46 = .ok (.aload_n 0, 1) := by decide +kernel
theorem dX4_laysCarpet_47 : decode cX4_laysCarpet 47 = .ok (.getfield 7, 3) := by decide +kernel
theorem dX4_laysCarpet_50 : decode cX4_laysCarpet 50 = .ok (.iconst 3, 1) := by decide +kernel
theorem dX4_laysCarpet_51 : decode cX4_laysCarpet 51 = .ok (.iaload, 1) := by decide +kernel
theorem dX4_laysCarpet_52 : decode cX4_laysCarpet 52 = .ok (.ireturn, 1) := by decide +kernel
theorem dX4_lay_0 : decode cX4_lay 0 = .ok (.aload_n 0, 1) := by decide +kernel
theorem dX4_lay_1 : decode cX4_lay 1 = .ok (.iload_n 1, 1) := by decide +kernel
theorem dX4_lay_2 : decode cX4_lay 2 = .ok (.iload_n 2, 1) := by decide +kernel
theorem dX4_lay_3 : decode cX4_lay 3 = .ok (.invokevirtual 74, 3) := by decide +kernel
theorem dX4_lay_6 : decode cX4_lay 6 = .ok (.istore_n 3, 1) := by decide +kernel
theorem dX4_lay_7 : decode cX4_lay 7 = .ok (.iload_n 3, 1) := by decide +kernel
theorem dX4_lay_8 : decode cX4_lay 8 = .ok (.ifCond .ge 5, 3) := by decide +kernel
theorem dX4_lay_11 : decode cX4_lay 11 = .ok (.iload_n 3, 1) := by decide +kernel
theorem dX4_lay_12 : decode cX4_lay 12 = .ok (.ireturn, 1) := by decide +kernel
theorem dX4_lay_13 : decode cX4_lay 13 = .ok (.aload_n 0, 1) := by decide +kernel
theorem dX4_lay_14 : decode cX4_lay 14 = .ok (.invokevirtual 40, 3) := by decide +kernel
theorem dX4_lay_17 : decode cX4_lay 17 = .ok (.aload_n 0, 1) := by decide +kernel
theorem dX4_lay_18 : decode cX4_lay 18 = .ok (.iload_n 1, 1) := by decide +kernel
theorem dX4_lay_19 : decode cX4_lay 19 = .ok (.iload_n 2, 1) := by decide +kernel
theorem dX4_lay_20 : decode cX4_lay 20 = .ok (.invokevirtual 77, 3) := by decide +kernel
theorem dX4_lay_23 : decode cX4_lay 23 = .ok (.ireturn, 1) := by decide +kernel
theorem dX4_take_0 : decode cX4_take 0 = .ok (.aload_n 0, 1) := by decide +kernel
theorem dX4_take_1 : decode cX4_take 1 = .ok (.iload_n 1, 1) := by decide +kernel
theorem dX4_take_2 : decode cX4_take 2 = .ok (.invokevirtual 65, 3) := by decide +kernel
theorem dX4_take_5 : decode cX4_take 5 = .ok (.istore_n 2, 1) := by decide +kernel
theorem dX4_take_6 : decode cX4_take 6 = .ok (.iload_n 2, 1) := by decide +kernel
theorem dX4_take_7 : decode cX4_take 7 = .ok (.bipush (-6), 2) := by decide +kernel
theorem dX4_take_9 : decode cX4_take 9 = .ok (.if_icmp .ne 5, 3) := by decide +kernel
theorem dX4_take_12 : decode cX4_take 12 = .ok (.iconst (-1), 1) := by decide +kernel
theorem dX4_take_13 : decode cX4_take 13 = .ok (.ireturn, 1) := by decide +kernel
theorem dX4_take_14 : decode cX4_take 14 = .ok (.aload_n 0, 1) := by decide +kernel
theorem dX4_take_15 : decode cX4_take 15 = .ok (.invokevirtual 40, 3) := by decide +kernel
theorem dX4_take_18 : decode cX4_take 18 = .ok (.aload_n 0, 1) := by decide +kernel
theorem dX4_take_19 : decode cX4_take 19 = .ok (.iload_n 2, 1) := by decide +kernel
theorem dX4_take_20 : decode cX4_take 20 = .ok (.invokevirtual 51, 3) := by decide +kernel
theorem dX4_take_23 : decode cX4_take 23 = .ok (.istore_n 3, 1) := by decide +kernel
theorem dX4_take_24 : decode cX4_take 24 = .ok (.aload_n 0, 1) := by decide +kernel
theorem dX4_take_25 : decode cX4_take 25 = .ok (.getfield 7, 3) := by decide +kernel
theorem dX4_take_28 : decode cX4_take 28 = .ok (.iconst 3, 1) := by decide +kernel
theorem dX4_take_29 : decode cX4_take 29 = .ok (.dup2, 1) := by decide +kernel
theorem dX4_take_30 : decode cX4_take 30 = .ok (.iaload, 1) := by decide +kernel
theorem dX4_take_31 : decode cX4_take 31 = .ok (.iconst 1, 1) := by decide +kernel
theorem dX4_take_32 : decode cX4_take 32 = .ok (.isub, 1) := by decide +kernel
theorem dX4_take_33 : decode cX4_take 33 = .ok (.iastore, 1) := by decide +kernel
theorem dX4_take_34 : decode cX4_take 34 = .ok (.aload_n 0, 1) := by decide +kernel
theorem dX4_take_35 : decode cX4_take 35 = .ok (.getfield 7, 3) := by decide +kernel
theorem dX4_take_38 : decode cX4_take 38 = .ok (.bipush 44, 2) := by decide +kernel
theorem dX4_take_40 : decode cX4_take 40 = .ok (.iconst 2, 1) := by decide +kernel
theorem dX4_take_41 : decode cX4_take 41 = .ok (.iload_n 2, 1) := by decide +kernel
theorem dX4_take_42 : decode cX4_take 42 = .ok (.imul, 1) := by decide +kernel
theorem dX4_take_43 : decode cX4_take 43 = .ok (.iadd, 1) := by decide +kernel
theorem dX4_take_44 : decode cX4_take 44 = .ok (.aload_n 0, 1) := by decide +kernel
theorem dX4_take_45 : decode cX4_take 45 = .ok (.aload_n 0, 1) := by decide +kernel
theorem dX4_take_46 : decode cX4_take 46 = .ok (.getfield 7, 3) := by decide +kernel
theorem dX4_take_49 : decode cX4_take 49 = .ok (.iconst 3, 1) := by decide +kernel
theorem dX4_take_50 : decode cX4_take 50 = .ok (.iaload, 1) := by decide +kernel
theorem dX4_take_51 : decode cX4_take 51 = .ok (.invokevirtual 47, 3) := by decide +kernel
theorem dX4_take_54 : decode cX4_take 54 = .ok (.iastore, 1) := by decide +kernel
theorem dX4_take_55 : decode cX4_take 55 = .ok (.aload_n 0, 1) := by decide +kernel
theorem dX4_take_56 : decode cX4_take 56 = .ok (.getfield 7, 3) := by decide +kernel
theorem dX4_take_59 : decode cX4_take 59 = .ok (.bipush 44, 2) := by decide +kernel
theorem dX4_take_61 : decode cX4_take 61 = .ok (.iconst 2, 1) := by decide +kernel
theorem dX4_take_62 : decode cX4_take 62 = .ok (.iload_n 2, 1) := by decide +kernel
theorem dX4_take_63 : decode cX4_take 63 = .ok (.imul, 1) := by decide +kernel
theorem dX4_take_64 : decode cX4_take 64 = .ok (.iadd, 1) := by decide +kernel
theorem dX4_take_65 : decode cX4_take 65 = .ok (.iconst 1, 1) := by decide +kernel
theorem dX4_take_66 : decode cX4_take 66 = .ok (.iadd, 1) := by decide +kernel
theorem dX4_take_67 : decode cX4_take 67 = .ok (.aload_n 0, 1) := by decide +kernel
theorem dX4_take_68 : decode cX4_take 68 = .ok (.aload_n 0, 1) := by decide +kernel
theorem dX4_take_69 : decode cX4_take 69 = .ok (.getfield 7, 3) := by decide +kernel
theorem dX4_take_72 : decode cX4_take 72 = .ok (.iconst 3, 1) := by decide +kernel
theorem dX4_take_73 : decode cX4_take 73 = .ok (.iaload, 1) := by decide +kernel
theorem dX4_take_74 : decode cX4_take 74 = .ok (.invokevirtual 51, 3) := by decide +kernel
theorem dX4_take_77 : decode cX4_take 77 = .ok (.iastore, 1) := by decide +kernel
theorem dX4_take_78 : decode cX4_take 78 = .ok (.iload_n 3, 1) := by decide +kernel
theorem dX4_take_79 : decode cX4_take 79 = .ok (.ireturn, 1) := by decide +kernel
theorem dX4_landings_0 : decode cX4_landings 0 = .ok (.iconst 0, 1) := by decide +kernel
theorem dX4_landings_1 : decode cX4_landings 1 = .ok (.istore_n 1, 1) := by decide +kernel
theorem dX4_landings_2 : decode cX4_landings 2 = .ok (.iconst 0, 1) := by decide +kernel
theorem dX4_landings_3 : decode cX4_landings 3 = .ok (.istore_n 2, 1) := by decide +kernel
theorem dX4_landings_4 : decode cX4_landings 4 = .ok (.iload_n 2, 1) := by decide +kernel
theorem dX4_landings_5 : decode cX4_landings 5 = .ok (.bipush 61, 2) := by decide +kernel
theorem dX4_landings_7 : decode cX4_landings 7 = .ok (.if_icmp .ge 21, 3) := by decide +kernel
theorem dX4_landings_10 : decode cX4_landings 10 = .ok (.iload_n 1, 1) := by decide +kernel
theorem dX4_landings_11 : decode cX4_landings 11 = .ok (.aload_n 0, 1) := by decide +kernel
theorem dX4_landings_12 : decode cX4_landings 12 = .ok (.getfield 7, 3) := by decide +kernel
theorem dX4_landings_15 : decode cX4_landings 15 = .ok (.bipush 57, 2) := by decide +kernel
theorem dX4_landings_17 : decode cX4_landings 17 = .ok (.iload_n 2, 1) := by decide +kernel
theorem dX4_landings_18 : decode cX4_landings 18 = .ok (.iadd, 1) := by decide +kernel
theorem dX4_landings_19 : decode cX4_landings 19 = .ok (.iaload, 1) := by decide +kernel
theorem dX4_landings_20 : decode cX4_landings 20 = .ok (.iadd, 1) := by decide +kernel
theorem dX4_landings_21 : decode cX4_landings 21 = .ok (.istore_n 1, 1) := by decide +kernel
theorem dX4_landings_22 : decode cX4_landings 22 = .ok (.iinc 2 1, 3) := by decide +kernel
theorem dX4_landings_25 : decode cX4_landings 25 = .ok (.goto (-21), 3) := by decide +kernel
theorem dX4_landings_28 : decode cX4_landings 28 = .ok (.iload_n 1, 1) := by decide +kernel
theorem dX4_landings_29 : decode cX4_landings 29 = .ok (.ireturn, 1) := by decide +kernel
theorem dX4_whyNotPut_0 : decode cX4_whyNotPut 0 = .ok (.aload_n 0, 1) := by decide +kernel
theorem dX4_whyNotPut_1 : decode cX4_whyNotPut 1 = .ok (.iload_n 1, 1) := by decide +kernel
theorem dX4_whyNotPut_2 : decode cX4_whyNotPut 2 = .ok (.invokevirtual 68, 3) := by decide +kernel
theorem dX4_whyNotPut_5 : decode cX4_whyNotPut 5 = .ok (.ifCond .ne 7, 3) := by decide +kernel
theorem dX4_whyNotPut_8 : decode cX4_whyNotPut 8 = .ok (.iconst (-1), 1) := by decide +kernel
theorem dX4_whyNotPut_9 : decode cX4_whyNotPut 9 = .ok (.goto 27, 3) := by decide +kernel
theorem dX4_whyNotPut_12 : decode cX4_whyNotPut 12 = .ok (.aload_n 0, 1) := by decide +kernel
theorem dX4_whyNotPut_13 : decode cX4_whyNotPut 13 = .ok (.iload_n 1, 1) := by decide +kernel
theorem dX4_whyNotPut_14 : decode cX4_whyNotPut 14 = .ok (.invokevirtual 61, 3) := by decide +kernel
theorem dX4_whyNotPut_17 : decode cX4_whyNotPut 17 = .ok (.ifCond .ne 13, 3) := by decide +kernel
theorem dX4_whyNotPut_20 : decode cX4_whyNotPut 20 = .ok (.aload_n 0, 1) := by decide +kernel
theorem dX4_whyNotPut_21 : decode cX4_whyNotPut 21 = .ok (.iload_n 1, 1) := by decide +kernel
theorem dX4_whyNotPut_22 : decode cX4_whyNotPut 22 = .ok (.invokevirtual 65, 3) := by decide +kernel
theorem dX4_whyNotPut_25 : decode cX4_whyNotPut 25 = .ok (.bipush (-6), 2) := by decide +kernel
theorem dX4_whyNotPut_27 : decode cX4_whyNotPut 27 = .ok (.if_icmp .eq 8, 3) := by decide +kernel
theorem dX4_whyNotPut_30 : decode cX4_whyNotPut 30 = .ok (.bipush (-3), 2) := by decide +kernel
theorem dX4_whyNotPut_32 : decode cX4_whyNotPut 32 = .ok (.goto 4, 3) := by decide +kernel
theorem dX4_whyNotPut_35 : decode cX4_whyNotPut 35 = .ok (.iconst 0, 1) := by decide +kernel
theorem dX4_whyNotPut_36 : decode cX4_whyNotPut 36 = .ok (.ireturn, 1) := by decide +kernel
theorem dX4_puts_0 : decode cX4_puts 0 = .ok (.aload_n 0, 1) := by decide +kernel
theorem dX4_puts_1 : decode cX4_puts 1 = .ok (.getfield 7, 3) := by decide +kernel
theorem dX4_puts_4 : decode cX4_puts 4 = .ok (.bipush 57, 2) := by decide +kernel
theorem dX4_puts_6 : decode cX4_puts 6 = .ok (.iload_n 1, 1) := by decide +kernel
theorem dX4_puts_7 : decode cX4_puts 7 = .ok (.iadd, 1) := by decide +kernel
theorem dX4_puts_8 : decode cX4_puts 8 = .ok (.iconst 1, 1) := by decide +kernel
theorem dX4_puts_9 : decode cX4_puts 9 = .ok (.iastore, 1) := by decide +kernel
theorem dX4_puts_10 : decode cX4_puts 10 = .ok (.aload_n 0, 1) := by decide +kernel
theorem dX4_puts_11 : decode cX4_puts 11 = .ok (.invokevirtual 80, 3) := by decide +kernel
theorem dX4_puts_14 : decode cX4_puts 14 = .ok (.ireturn, 1) := by decide +kernel
theorem dX4_put_0 : decode cX4_put 0 = .ok (.aload_n 0, 1) := by decide +kernel
theorem dX4_put_1 : decode cX4_put 1 = .ok (.iload_n 1, 1) := by decide +kernel
theorem dX4_put_2 : decode cX4_put 2 = .ok (.invokevirtual 84, 3) := by decide +kernel
theorem dX4_put_5 : decode cX4_put 5 = .ok (.istore_n 2, 1) := by decide +kernel
theorem dX4_put_6 : decode cX4_put 6 = .ok (.iload_n 2, 1) := by decide +kernel
theorem dX4_put_7 : decode cX4_put 7 = .ok (.ifCond .ge 5, 3) := by decide +kernel
theorem dX4_put_10 : decode cX4_put 10 = .ok (.iload_n 2, 1) := by decide +kernel
theorem dX4_put_11 : decode cX4_put 11 = .ok (.ireturn, 1) := by decide +kernel
theorem dX4_put_12 : decode cX4_put 12 = .ok (.aload_n 0, 1) := by decide +kernel
theorem dX4_put_13 : decode cX4_put 13 = .ok (.invokevirtual 40, 3) := by decide +kernel
theorem dX4_put_16 : decode cX4_put 16 = .ok (.aload_n 0, 1) := by decide +kernel
theorem dX4_put_17 : decode cX4_put 17 = .ok (.iload_n 1, 1) := by decide +kernel
theorem dX4_put_18 : decode cX4_put 18 = .ok (.invokevirtual 87, 3) := by decide +kernel
theorem dX4_put_21 : decode cX4_put 21 = .ok (.ireturn, 1) := by decide +kernel
theorem dX4_remove_0 : decode cX4_remove 0 = .ok (.aload_n 0, 1) := by decide +kernel
theorem dX4_remove_1 : decode cX4_remove 1 = .ok (.iload_n 1, 1) := by decide +kernel
theorem dX4_remove_2 : decode cX4_remove 2 = .ok (.invokevirtual 68, 3) := by decide +kernel
theorem dX4_remove_5 : decode cX4_remove 5 = .ok (.ifCond .eq 11, 3) := by decide +kernel
theorem dX4_remove_8 : decode cX4_remove 8 = .ok (.aload_n 0, 1) := by decide +kernel
theorem dX4_remove_9 : decode cX4_remove 9 = .ok (.iload_n 1, 1) := by decide +kernel
theorem dX4_remove_10 : decode cX4_remove 10 = .ok (.invokevirtual 61, 3) := by decide +kernel
theorem dX4_remove_13 : decode cX4_remove 13 = .ok (.ifCond .ne 5, 3) := by decide +kernel
theorem dX4_remove_16 : decode cX4_remove 16 = .ok (.iconst (-1), 1) := by decide +kernel
theorem dX4_remove_17 : decode cX4_remove 17 = .ok (.ireturn, 1) := by decide +kernel
theorem dX4_remove_18 : decode cX4_remove 18 = .ok (.aload_n 0, 1) := by decide +kernel
theorem dX4_remove_19 : decode cX4_remove 19 = .ok (.invokevirtual 40, 3) := by decide +kernel
theorem dX4_remove_22 : decode cX4_remove 22 = .ok (.aload_n 0, 1) := by decide +kernel
theorem dX4_remove_23 : decode cX4_remove 23 = .ok (.getfield 7, 3) := by decide +kernel
theorem dX4_remove_26 : decode cX4_remove 26 = .ok (.bipush 57, 2) := by decide +kernel
theorem dX4_remove_28 : decode cX4_remove 28 = .ok (.iload_n 1, 1) := by decide +kernel
theorem dX4_remove_29 : decode cX4_remove 29 = .ok (.iadd, 1) := by decide +kernel
theorem dX4_remove_30 : decode cX4_remove 30 = .ok (.iconst 0, 1) := by decide +kernel
theorem dX4_remove_31 : decode cX4_remove 31 = .ok (.iastore, 1) := by decide +kernel
theorem dX4_remove_32 : decode cX4_remove 32 = .ok (.aload_n 0, 1) := by decide +kernel
theorem dX4_remove_33 : decode cX4_remove 33 = .ok (.iload_n 1, 1) := by decide +kernel
theorem dX4_remove_34 : decode cX4_remove 34 = .ok (.invokevirtual 58, 3) := by decide +kernel
theorem dX4_remove_37 : decode cX4_remove 37 = .ok (.invokestatic 90, 3) := by decide +kernel
theorem dX4_remove_40 : decode cX4_remove 40 = .ok (.ireturn, 1) := by decide +kernel
theorem dX4_joins_0 : decode cX4_joins 0 = .ok (.iconst 0, 1) := by decide +kernel
theorem dX4_joins_1 : decode cX4_joins 1 = .ok (.istore_n 1, 1) := by decide +kernel
theorem dX4_joins_2 : decode cX4_joins 2 = .ok (.iload_n 1, 1) := by decide +kernel
theorem dX4_joins_3 : decode cX4_joins 3 = .ok (.bipush 6, 2) := by decide +kernel
theorem dX4_joins_5 : decode cX4_joins 5 = .ok (.if_icmp .ge 21, 3) := by decide +kernel
theorem dX4_joins_8 : decode cX4_joins 8 = .ok (.aload_n 0, 1) := by decide +kernel
theorem dX4_joins_9 : decode cX4_joins 9 = .ok (.aload_n 0, 1) := by decide +kernel
theorem dX4_joins_10 : decode cX4_joins 10 = .ok (.getfield 7, 3) := by decide +kernel
theorem dX4_joins_13 : decode cX4_joins 13 = .ok (.iconst 1, 1) := by decide +kernel
theorem dX4_joins_14 : decode cX4_joins 14 = .ok (.iaload, 1) := by decide +kernel
theorem dX4_joins_15 : decode cX4_joins 15 = .ok (.iload_n 1, 1) := by decide +kernel
theorem dX4_joins_16 : decode cX4_joins 16 = .ok (.iconst 0, 1) := by decide +kernel
theorem dX4_joins_17 : decode cX4_joins 17 = .ok (.invokevirtual 93, 3) := by decide +kernel
theorem dX4_joins_20 : decode cX4_joins 20 = .ok (.iinc 1 1, 3) := by decide +kernel
theorem dX4_joins_23 : decode cX4_joins 23 = .ok (.goto (-21), 3) := by decide +kernel
theorem dX4_joins_26 : decode cX4_joins 26 = .ok (.aload_n 0, 1) := by decide +kernel
theorem dX4_joins_27 : decode cX4_joins 27 = .ok (.getfield 7, 3) := by decide +kernel
theorem dX4_joins_30 : decode cX4_joins 30 = .ok (.iconst 1, 1) := by decide +kernel
theorem dX4_joins_31 : decode cX4_joins 31 = .ok (.dup2, 1) := by decide +kernel
theorem dX4_joins_32 : decode cX4_joins 32 = .ok (.iaload, 1) := by decide +kernel
theorem dX4_joins_33 : decode cX4_joins 33 = .ok (.iconst 1, 1) := by decide +kernel
theorem dX4_joins_34 : decode cX4_joins 34 = .ok (.iadd, 1) := by decide +kernel
theorem dX4_joins_35 : decode cX4_joins 35 = .ok (.iastore, 1) := by decide +kernel
theorem dX4_joins_36 : decode cX4_joins 36 = .ok (.aload_n 0, 1) := by decide +kernel
theorem dX4_joins_37 : decode cX4_joins 37 = .ok (.getfield 7, 3) := by decide +kernel
theorem dX4_joins_40 : decode cX4_joins 40 = .ok (.iconst 1, 1) := by decide +kernel
theorem dX4_joins_41 : decode cX4_joins 41 = .ok (.iaload, 1) := by decide +kernel
theorem dX4_joins_42 : decode cX4_joins 42 = .ok (.iconst 1, 1) := by decide +kernel
theorem dX4_joins_43 : decode cX4_joins 43 = .ok (.isub, 1) := by decide +kernel
theorem dX4_joins_44 : decode cX4_joins 44 = .ok (.ireturn, 1) := by decide +kernel
theorem dX4_join_0 : decode cX4_join 0 = .ok (.aload_n 0, 1) := by decide +kernel
theorem dX4_join_1 : decode cX4_join 1 = .ok (.getfield 7, 3) := by decide +kernel
theorem dX4_join_4 : decode cX4_join 4 = .ok (.iconst 1, 1) := by decide +kernel
theorem dX4_join_5 : decode cX4_join 5 = .ok (.iaload, 1) := by decide +kernel
theorem dX4_join_6 : decode cX4_join 6 = .ok (.bipush 6, 2) := by decide +kernel
theorem dX4_join_8 : decode cX4_join 8 = .ok (.if_icmp .ne 6, 3) := by decide +kernel
theorem dX4_join_11 : decode cX4_join 11 = .ok (.bipush (-4), 2) := by decide +kernel
theorem dX4_join_13 : decode cX4_join 13 = .ok (.ireturn, 1) := by decide +kernel
theorem dX4_join_14 : decode cX4_join 14 = .ok (.aload_n 0, 1) := by decide +kernel
theorem dX4_join_15 : decode cX4_join 15 = .ok (.invokevirtual 40, 3) := by decide +kernel
theorem dX4_join_18 : decode cX4_join 18 = .ok (.aload_n 0, 1) := by decide +kernel
theorem dX4_join_19 : decode cX4_join 19 = .ok (.invokevirtual 97, 3) := by decide +kernel
theorem dX4_join_22 : decode cX4_join 22 = .ok (.ireturn, 1) := by decide +kernel
theorem dX4_comes_0 : decode cX4_comes 0 = .ok (.iload_n 2, 1) := by decide +kernel
theorem dX4_comes_1 : decode cX4_comes 1 = .ok (.aload_n 0, 1) := by decide +kernel
theorem dX4_comes_2 : decode cX4_comes 2 = .ok (.getfield 7, 3) := by decide +kernel
theorem dX4_comes_5 : decode cX4_comes 5 = .ok (.iconst 0, 1) := by decide +kernel
theorem dX4_comes_6 : decode cX4_comes 6 = .ok (.iaload, 1) := by decide +kernel
theorem dX4_comes_7 : decode cX4_comes 7 = .ok (.if_icmp .lt 25, 3) := by decide +kernel
theorem dX4_comes_10 : decode cX4_comes 10 = .ok (.aload_n 0, 1) := by decide +kernel
theorem dX4_comes_11 : decode cX4_comes 11 = .ok (.iload_n 1, 1) := by decide +kernel
theorem dX4_comes_12 : decode cX4_comes 12 = .ok (.iconst 1, 1) := by decide +kernel
theorem dX4_comes_13 : decode cX4_comes 13 = .ok (.aload_n 0, 1) := by decide +kernel
theorem dX4_comes_14 : decode cX4_comes 14 = .ok (.iload_n 1, 1) := by decide +kernel
theorem dX4_comes_15 : decode cX4_comes 15 = .ok (.iconst 1, 1) := by decide +kernel
theorem dX4_comes_16 : decode cX4_comes 16 = .ok (.invokevirtual 54, 3) := by decide +kernel
theorem dX4_comes_19 : decode cX4_comes 19 = .ok (.iconst 1, 1) := by decide +kernel
theorem dX4_comes_20 : decode cX4_comes 20 = .ok (.iadd, 1) := by decide +kernel
theorem dX4_comes_21 : decode cX4_comes 21 = .ok (.invokevirtual 93, 3) := by decide +kernel
theorem dX4_comes_24 : decode cX4_comes 24 = .ok (.aload_n 0, 1) := by decide +kernel
theorem dX4_comes_25 : decode cX4_comes 25 = .ok (.iload_n 1, 1) := by decide +kernel
theorem dX4_comes_26 : decode cX4_comes 26 = .ok (.iconst 0, 1) := by decide +kernel
theorem dX4_comes_27 : decode cX4_comes 27 = .ok (.iconst 0, 1) := by decide +kernel
theorem dX4_comes_28 : decode cX4_comes 28 = .ok (.invokevirtual 93, 3) := by decide +kernel
theorem dX4_comes_31 : decode cX4_comes 31 = .ok (.return_, 1) := by decide +kernel
theorem dX4_comes_32 : decode cX4_comes 32 = .ok (.aload_n 0, 1) := by decide +kernel
theorem dX4_comes_33 : decode cX4_comes 33 = .ok (.iload_n 2, 1) := by decide +kernel
theorem dX4_comes_34 : decode cX4_comes 34 = .ok (.invokevirtual 65, 3) := by decide +kernel
theorem dX4_comes_37 : decode cX4_comes 37 = .ok (.istore_n 3, 1) := by decide +kernel
theorem dX4_comes_38 : decode cX4_comes 38 = .ok (.aload_n 0, 1) := by decide +kernel
theorem dX4_comes_39 : decode cX4_comes 39 = .ok (.iload_n 1, 1) := by decide +kernel
theorem dX4_comes_40 : decode cX4_comes 40 = .ok (.iconst 0, 1) := by decide +kernel
theorem dX4_comes_41 : decode cX4_comes 41 = .ok (.iload_n 3, 1) := by decide +kernel
theorem dX4_comes_42 : decode cX4_comes 42 = .ok (.bipush (-6), 2) := by decide +kernel
theorem dX4_comes_44 : decode cX4_comes 44 = .ok (.if_icmp .ne 7, 3) := by decide +kernel
theorem dX4_comes_47 : decode cX4_comes 47 = .ok (.iload_n 2, 1) := by decide +kernel
theorem dX4_comes_48 : decode cX4_comes 48 = .ok (.goto 8, 3) := by decide +kernel
theorem dX4_comes_51 : decode cX4_comes 51 = .ok (.aload_n 0, 1) := by decide +kernel
theorem dX4_comes_52 : decode cX4_comes 52 = .ok (.iload_n 3, 1) := by decide +kernel
theorem dX4_comes_53 : decode cX4_comes 53 = .ok (.invokevirtual 51, 3) := by decide +kernel
theorem dX4_comes_56 : decode cX4_comes 56 = .ok (.invokevirtual 93, 3) := by decide +kernel
theorem dX4_comes_59 : decode cX4_comes 59 = .ok (.aload_n 0, 1) := by decide +kernel
theorem dX4_comes_60 : decode cX4_comes 60 = .ok (.iload_n 1, 1) := by decide +kernel
theorem dX4_comes_61 : decode cX4_comes 61 = .ok (.iconst 5, 1) := by decide +kernel
theorem dX4_comes_62 : decode cX4_comes 62 = .ok (.aload_n 0, 1) := by decide +kernel
theorem dX4_comes_63 : decode cX4_comes 63 = .ok (.iload_n 1, 1) := by decide +kernel
theorem dX4_comes_64 : decode cX4_comes 64 = .ok (.iconst 5, 1) := by decide +kernel
theorem dX4_comes_65 : decode cX4_comes 65 = .ok (.invokevirtual 54, 3) := by decide +kernel
theorem dX4_comes_68 : decode cX4_comes 68 = .ok (.iload_n 3, 1) := by decide +kernel
theorem dX4_comes_69 : decode cX4_comes 69 = .ok (.bipush (-6), 2) := by decide +kernel
theorem dX4_comes_71 : decode cX4_comes 71 = .ok (.if_icmp .ne 7, 3) := by decide +kernel
theorem dX4_comes_74 : decode cX4_comes 74 = .ok (.iconst 0, 1) := by decide +kernel
theorem dX4_comes_75 : decode cX4_comes 75 = .ok (.goto 4, 3) := by decide +kernel
theorem dX4_comes_78 : decode cX4_comes 78 = .ok (.iconst 1, 1) := by decide +kernel
theorem dX4_comes_79 : decode cX4_comes 79 = .ok (.iadd, 1) := by decide +kernel
theorem dX4_comes_80 : decode cX4_comes 80 = .ok (.invokevirtual 93, 3) := by decide +kernel
theorem dX4_comes_83 : decode cX4_comes 83 = .ok (.aload_n 0, 1) := by decide +kernel
theorem dX4_comes_84 : decode cX4_comes 84 = .ok (.getfield 7, 3) := by decide +kernel
theorem dX4_comes_87 : decode cX4_comes 87 = .ok (.bipush 6, 2) := by decide +kernel
theorem dX4_comes_89 : decode cX4_comes 89 = .ok (.dup2, 1) := by decide +kernel
theorem dX4_comes_90 : decode cX4_comes 90 = .ok (.iaload, 1) := by decide +kernel
theorem dX4_comes_91 : decode cX4_comes 91 = .ok (.iload_n 3, 1) := by decide +kernel
theorem dX4_comes_92 : decode cX4_comes 92 = .ok (.bipush (-6), 2) := by decide +kernel
theorem dX4_comes_94 : decode cX4_comes 94 = .ok (.if_icmp .ne 7, 3) := by decide +kernel
theorem dX4_comes_97 : decode cX4_comes 97 = .ok (.iconst 0, 1) := by decide +kernel
theorem dX4_comes_98 : decode cX4_comes 98 = .ok (.goto 4, 3) := by decide +kernel
theorem dX4_comes_101 : decode cX4_comes 101 = .ok (.iconst 1, 1) := by decide +kernel
theorem dX4_comes_102 : decode cX4_comes 102 = .ok (.iadd, 1) := by decide +kernel
theorem dX4_comes_103 : decode cX4_comes 103 = .ok (.iastore, 1) := by decide +kernel
theorem dX4_comes_104 : decode cX4_comes 104 = .ok (.return_, 1) := by decide +kernel
theorem dX4_isPassed_0 : decode cX4_isPassed 0 = .ok (.aload_n 0, 1) := by decide +kernel
theorem dX4_isPassed_1 : decode cX4_isPassed 1 = .ok (.aload_n 0, 1) := by decide +kernel
theorem dX4_isPassed_2 : decode cX4_isPassed 2 = .ok (.getfield 7, 3) := by decide +kernel
theorem dX4_isPassed_5 : decode cX4_isPassed 5 = .ok (.iconst 2, 1) := by decide +kernel
theorem dX4_isPassed_6 : decode cX4_isPassed 6 = .ok (.iaload, 1) := by decide +kernel
theorem dX4_isPassed_7 : decode cX4_isPassed 7 = .ok (.iconst 0, 1) := by decide +kernel
theorem dX4_isPassed_8 : decode cX4_isPassed 8 = .ok (.invokevirtual 54, 3) := by decide +kernel
theorem dX4_isPassed_11 : decode cX4_isPassed 11 = .ok (.istore_n 3, 1) := by decide +kernel
theorem dX4_isPassed_12 : decode cX4_isPassed 12 = .ok (.iload_n 1, 1) := by decide +kernel
theorem dX4_isPassed_13 : decode cX4_isPassed 13 = .ok (.aload_n 0, 1) := by decide +kernel
theorem dX4_isPassed_14 : decode cX4_isPassed 14 = .ok (.getfield 7, 3) := by decide +kernel
theorem dX4_isPassed_17 : decode cX4_isPassed 17 = .ok (.iconst 2, 1) := by decide +kernel
theorem dX4_isPassed_18 : decode cX4_isPassed 18 = .ok (.iaload, 1) := by decide +kernel
theorem dX4_isPassed_19 : decode cX4_isPassed 19 = .ok (.if_icmp .eq 42, 3) := by decide +kernel
theorem dX4_isPassed_22 : decode cX4_isPassed 22 = .ok (.aload_n 0, 1) := by decide +kernel
theorem dX4_isPassed_23 : decode cX4_isPassed 23 = .ok (.iload_n 1, 1) := by decide +kernel
theorem dX4_isPassed_24 : decode cX4_isPassed 24 = .ok (.iconst 0, 1) := by decide +kernel
theorem dX4_isPassed_25 : decode cX4_isPassed 25 = .ok (.invokevirtual 54, 3) := by decide +kernel
theorem dX4_isPassed_28 : decode cX4_isPassed 28 = .ok (.iload_n 3, 1) := by decide +kernel
theorem dX4_isPassed_29 : decode cX4_isPassed 29 = .ok (.if_icmp .le 32, 3) := by decide +kernel
theorem dX4_isPassed_32 : decode cX4_isPassed 32 = .ok (.aload_n 0, 1) := by decide +kernel
theorem dX4_isPassed_33 : decode cX4_isPassed 33 = .ok (.iload_n 1, 1) := by decide +kernel
theorem dX4_isPassed_34 : decode cX4_isPassed 34 = .ok (.iconst 0, 1) := by decide +kernel
theorem dX4_isPassed_35 : decode cX4_isPassed 35 = .ok (.invokevirtual 54, 3) := by decide +kernel
theorem dX4_isPassed_38 : decode cX4_isPassed 38 = .ok (.iload_n 3, 1) := by decide +kernel
theorem dX4_isPassed_39 : decode cX4_isPassed 39 = .ok (.iload_n 2, 1) := by decide +kernel
theorem dX4_isPassed_40 : decode cX4_isPassed 40 = .ok (.iadd, 1) := by decide +kernel
theorem dX4_isPassed_41 : decode cX4_isPassed 41 = .ok (.if_icmp .ge 20, 3) := by decide +kernel
theorem dX4_isPassed_44 : decode cX4_isPassed 44 = .ok (.aload_n 0, 1) := by decide +kernel
theorem dX4_isPassed_45 : decode cX4_isPassed 45 = .ok (.aload_n 0, 1) := by decide +kernel
theorem dX4_isPassed_46 : decode cX4_isPassed 46 = .ok (.iload_n 1, 1) := by decide +kernel
theorem dX4_isPassed_47 : decode cX4_isPassed 47 = .ok (.iconst 0, 1) := by decide +kernel
theorem dX4_isPassed_48 : decode cX4_isPassed 48 = .ok (.invokevirtual 54, 3) := by decide +kernel
theorem dX4_isPassed_51 : decode cX4_isPassed 51 = .ok (.invokevirtual 61, 3) := by decide +kernel
theorem dX4_isPassed_54 : decode cX4_isPassed 54 = .ok (.ifCond .ne 7, 3) := by decide +kernel
theorem dX4_isPassed_57 : decode cX4_isPassed 57 = .ok (.iconst 1, 1) := by decide +kernel
theorem dX4_isPassed_58 : decode cX4_isPassed 58 = .ok (.goto 4, 3) := by decide +kernel
theorem dX4_isPassed_61 : decode cX4_isPassed 61 = .ok (.iconst 0, 1) := by decide +kernel
theorem dX4_isPassed_62 : decode cX4_isPassed 62 = .ok (.ireturn, 1) := by decide +kernel
theorem dX4_passedBy_0 : decode cX4_passedBy 0 = .ok (.iconst 0, 1) := by decide +kernel
theorem dX4_passedBy_1 : decode cX4_passedBy 1 = .ok (.istore_n 2, 1) := by decide +kernel
theorem dX4_passedBy_2 : decode cX4_passedBy 2 = .ok (.iconst 0, 1) := by decide +kernel
theorem dX4_passedBy_3 : decode cX4_passedBy 3 = .ok (.istore_n 3, 1) := by decide +kernel
theorem dX4_passedBy_4 : decode cX4_passedBy 4 = .ok (.iload_n 3, 1) := by decide +kernel
theorem dX4_passedBy_5 : decode cX4_passedBy 5 = .ok (.aload_n 0, 1) := by decide +kernel
theorem dX4_passedBy_6 : decode cX4_passedBy 6 = .ok (.getfield 7, 3) := by decide +kernel
theorem dX4_passedBy_9 : decode cX4_passedBy 9 = .ok (.iconst 1, 1) := by decide +kernel
theorem dX4_passedBy_10 : decode cX4_passedBy 10 = .ok (.iaload, 1) := by decide +kernel
theorem dX4_passedBy_11 : decode cX4_passedBy 11 = .ok (.if_icmp .ge 28, 3) := by decide +kernel
theorem dX4_passedBy_14 : decode cX4_passedBy 14 = .ok (.iload_n 2, 1) := by decide +kernel
theorem dX4_passedBy_15 : decode cX4_passedBy 15 = .ok (.aload_n 0, 1) := by decide +kernel
theorem dX4_passedBy_16 : decode cX4_passedBy 16 = .ok (.iload_n 3, 1) := by decide +kernel
theorem dX4_passedBy_17 : decode cX4_passedBy 17 = .ok (.iload_n 1, 1) := by decide +kernel
theorem dX4_passedBy_18 : decode cX4_passedBy 18 = .ok (.invokevirtual 100, 3) := by decide +kernel
theorem dX4_passedBy_21 : decode cX4_passedBy 21 = .ok (.ifCond .eq 9, 3) := by decide +kernel
theorem dX4_passedBy_24 : decode cX4_passedBy 24 = .ok (.iconst 1, 1) := by decide +kernel
theorem dX4_passedBy_25 : decode cX4_passedBy 25 = .ok (.iload_n 3, 1) := by decide +kernel
theorem dX4_passedBy_26 : decode cX4_passedBy 26 = .ok (.ishl, 1) := by decide +kernel
theorem dX4_passedBy_27 : decode cX4_passedBy 27 = .ok (.goto 4, 3) := by decide +kernel
theorem dX4_passedBy_30 : decode cX4_passedBy 30 = .ok (.iconst 0, 1) := by decide +kernel
theorem dX4_passedBy_31 : decode cX4_passedBy 31 = .ok (.ior, 1) := by decide +kernel
theorem dX4_passedBy_32 : decode cX4_passedBy 32 = .ok (.istore_n 2, 1) := by decide +kernel
theorem dX4_passedBy_33 : decode cX4_passedBy 33 = .ok (.iinc 3 1, 3) := by decide +kernel
theorem dX4_passedBy_36 : decode cX4_passedBy 36 = .ok (.goto (-32), 3) := by decide +kernel
theorem dX4_passedBy_39 : decode cX4_passedBy 39 = .ok (.iload_n 2, 1) := by decide +kernel
theorem dX4_passedBy_40 : decode cX4_passedBy 40 = .ok (.ireturn, 1) := by decide +kernel
theorem dX4_highest_0 : decode cX4_highest 0 = .ok (.bipush (-6), 2) := by decide +kernel
theorem dX4_highest_2 : decode cX4_highest 2 = .ok (.istore_n 2, 1) := by decide +kernel
theorem dX4_highest_3 : decode cX4_highest 3 = .ok (.iconst 0, 1) := by decide +kernel
theorem dX4_highest_4 : decode cX4_highest 4 = .ok (.istore_n 3, 1) := by decide +kernel
theorem dX4_highest_5 : decode cX4_highest 5 = .ok (.iload_n 3, 1) := by decide +kernel
theorem dX4_highest_6 : decode cX4_highest 6 = .ok (.aload_n 0, 1) := by decide +kernel
theorem dX4_highest_7 : decode cX4_highest 7 = .ok (.getfield 7, 3) := by decide +kernel
theorem dX4_highest_10 : decode cX4_highest 10 = .ok (.iconst 1, 1) := by decide +kernel
theorem dX4_highest_11 : decode cX4_highest 11 = .ok (.iaload, 1) := by decide +kernel
theorem dX4_highest_12 : decode cX4_highest 12 = .ok (.if_icmp .ge 45, 3) := by decide +kernel
theorem dX4_highest_15 : decode cX4_highest 15 = .ok (.iload_n 1, 1) := by decide +kernel
theorem dX4_highest_16 : decode cX4_highest 16 = .ok (.iload_n 3, 1) := by decide +kernel
theorem dX4_highest_17 : decode cX4_highest 17 = .ok (.ishr, 1) := by decide +kernel
theorem dX4_highest_18 : decode cX4_highest 18 = .ok (.iconst 1, 1) := by decide +kernel
theorem dX4_highest_19 : decode cX4_highest 19 = .ok (.iand, 1) := by decide +kernel
theorem dX4_highest_20 : decode cX4_highest 20 = .ok (.iconst 1, 1) := by decide +kernel
theorem dX4_highest_21 : decode cX4_highest 21 = .ok (.if_icmp .ne 28, 3) := by decide +kernel
theorem dX4_highest_24 : decode cX4_highest 24 = .ok (.iload_n 2, 1) := by decide +kernel
theorem dX4_highest_25 : decode cX4_highest 25 = .ok (.bipush (-6), 2) := by decide +kernel
theorem dX4_highest_27 : decode cX4_highest 27 = .ok (.if_icmp .eq 18, 3) := by decide +kernel
theorem dX4_highest_30 : decode cX4_highest 30 = .ok (.aload_n 0, 1) := by decide +kernel
theorem dX4_highest_31 : decode cX4_highest 31 = .ok (.iload_n 3, 1) := by decide +kernel
theorem dX4_highest_32 : decode cX4_highest 32 = .ok (.iconst 0, 1) := by decide +kernel
theorem dX4_highest_33 : decode cX4_highest 33 = .ok (.invokevirtual 54, 3) := by decide +kernel
theorem dX4_highest_36 : decode cX4_highest 36 = .ok (.aload_n 0, 1) := by decide +kernel
theorem dX4_highest_37 : decode cX4_highest 37 = .ok (.iload_n 2, 1) := by decide +kernel
theorem dX4_highest_38 : decode cX4_highest 38 = .ok (.iconst 0, 1) := by decide +kernel
theorem dX4_highest_39 : decode cX4_highest 39 = .ok (.invokevirtual 54, 3) := by decide +kernel
theorem dX4_highest_42 : decode cX4_highest 42 = .ok (.if_icmp .le 7, 3) := by decide +kernel
theorem dX4_highest_45 : decode cX4_highest 45 = .ok (.iload_n 3, 1) := by decide +kernel
theorem dX4_highest_46 : decode cX4_highest 46 = .ok (.goto 4, 3) := by decide +kernel
theorem dX4_highest_49 : decode cX4_highest 49 = .ok (.iload_n 2, 1) := by decide +kernel
theorem dX4_highest_50 : decode cX4_highest 50 = .ok (.istore_n 2, 1) := by decide +kernel
theorem dX4_highest_51 : decode cX4_highest 51 = .ok (.iinc 3 1, 3) := by decide +kernel
theorem dX4_highest_54 : decode cX4_highest 54 = .ok (.goto (-49), 3) := by decide +kernel
theorem dX4_highest_57 : decode cX4_highest 57 = .ok (.iload_n 2, 1) := by decide +kernel
theorem dX4_highest_58 : decode cX4_highest 58 = .ok (.ireturn, 1) := by decide +kernel
theorem dX4_nextMover_0 : decode cX4_nextMover 0 = .ok (.aload_n 0, 1) := by decide +kernel
theorem dX4_nextMover_1 : decode cX4_nextMover 1 = .ok (.getfield 7, 3) := by decide +kernel
theorem dX4_nextMover_4 : decode cX4_nextMover 4 = .ok (.iconst 2, 1) := by decide +kernel
theorem dX4_nextMover_5 : decode cX4_nextMover 5 = .ok (.iaload, 1) := by decide +kernel
theorem dX4_nextMover_6 : decode cX4_nextMover 6 = .ok (.iconst 1, 1) := by decide +kernel
theorem dX4_nextMover_7 : decode cX4_nextMover 7 = .ok (.iadd, 1) := by decide +kernel
theorem dX4_nextMover_8 : decode cX4_nextMover 8 = .ok (.aload_n 0, 1) := by decide +kernel
theorem dX4_nextMover_9 : decode cX4_nextMover 9 = .ok (.getfield 7, 3) := by decide +kernel
theorem dX4_nextMover_12 : decode cX4_nextMover 12 = .ok (.iconst 1, 1) := by decide +kernel
theorem dX4_nextMover_13 : decode cX4_nextMover 13 = .ok (.iaload, 1) := by decide +kernel
theorem dX4_nextMover_14 : decode cX4_nextMover 14 = .ok (.irem, 1) := by decide +kernel
theorem dX4_nextMover_15 : decode cX4_nextMover 15 = .ok (.istore_n 1, 1) := by decide +kernel
theorem dX4_nextMover_16 : decode cX4_nextMover 16 = .ok (.aload_n 0, 1) := by decide +kernel
theorem dX4_nextMover_17 : decode cX4_nextMover 17 = .ok (.iload_n 1, 1) := by decide +kernel
theorem dX4_nextMover_18 : decode cX4_nextMover 18 = .ok (.iconst 2, 1) := by decide +kernel
theorem dX4_nextMover_19 : decode cX4_nextMover 19 = .ok (.invokevirtual 54, 3) := by decide +kernel
theorem dX4_nextMover_22 : decode cX4_nextMover 22 = .ok (.ifCond .le 42, 3) := by decide +kernel
theorem dX4_nextMover_25 : decode cX4_nextMover 25 = .ok (.aload_n 0, 1) := by decide +kernel
theorem dX4_nextMover_26 : decode cX4_nextMover 26 = .ok (.iload_n 1, 1) := by decide +kernel
theorem dX4_nextMover_27 : decode cX4_nextMover 27 = .ok (.iconst 2, 1) := by decide +kernel
theorem dX4_nextMover_28 : decode cX4_nextMover 28 = .ok (.aload_n 0, 1) := by decide +kernel
theorem dX4_nextMover_29 : decode cX4_nextMover 29 = .ok (.iload_n 1, 1) := by decide +kernel
theorem dX4_nextMover_30 : decode cX4_nextMover 30 = .ok (.iconst 2, 1) := by decide +kernel
theorem dX4_nextMover_31 : decode cX4_nextMover 31 = .ok (.invokevirtual 54, 3) := by decide +kernel
theorem dX4_nextMover_34 : decode cX4_nextMover 34 = .ok (.iconst 1, 1) := by decide +kernel
theorem dX4_nextMover_35 : decode cX4_nextMover 35 = .ok (.isub, 1) := by decide +kernel
theorem dX4_nextMover_36 : decode cX4_nextMover 36 = .ok (.invokevirtual 93, 3) := by decide +kernel
theorem dX4_nextMover_39 : decode cX4_nextMover 39 = .ok (.aload_n 0, 1) := by decide +kernel
theorem dX4_nextMover_40 : decode cX4_nextMover 40 = .ok (.getfield 7, 3) := by decide +kernel
theorem dX4_nextMover_43 : decode cX4_nextMover 43 = .ok (.bipush 7, 2) := by decide +kernel
theorem dX4_nextMover_45 : decode cX4_nextMover 45 = .ok (.dup2, 1) := by decide +kernel
theorem dX4_nextMover_46 : decode cX4_nextMover 46 = .ok (.iaload, 1) := by decide +kernel
theorem dX4_nextMover_47 : decode cX4_nextMover 47 = .ok (.iconst 1, 1) := by decide +kernel
theorem dX4_nextMover_48 : decode cX4_nextMover 48 = .ok (.iadd, 1) := by decide +kernel
theorem dX4_nextMover_49 : decode cX4_nextMover 49 = .ok (.iastore, 1) := by decide +kernel
theorem dX4_nextMover_50 : decode cX4_nextMover 50 = .ok (.iload_n 1, 1) := by decide +kernel
theorem dX4_nextMover_51 : decode cX4_nextMover 51 = .ok (.iconst 1, 1) := by decide +kernel
theorem dX4_nextMover_52 : decode cX4_nextMover 52 = .ok (.iadd, 1) := by decide +kernel
theorem dX4_nextMover_53 : decode cX4_nextMover 53 = .ok (.aload_n 0, 1) := by decide +kernel
theorem dX4_nextMover_54 : decode cX4_nextMover 54 = .ok (.getfield 7, 3) := by decide +kernel
theorem dX4_nextMover_57 : decode cX4_nextMover 57 = .ok (.iconst 1, 1) := by decide +kernel
theorem dX4_nextMover_58 : decode cX4_nextMover 58 = .ok (.iaload, 1) := by decide +kernel
theorem dX4_nextMover_59 : decode cX4_nextMover 59 = .ok (.irem, 1) := by decide +kernel
theorem dX4_nextMover_60 : decode cX4_nextMover 60 = .ok (.istore_n 1, 1) := by decide +kernel
theorem dX4_nextMover_61 : decode cX4_nextMover 61 = .ok (.goto (-45), 3) := by decide +kernel
theorem dX4_nextMover_64 : decode cX4_nextMover 64 = .ok (.aload_n 0, 1) := by decide +kernel
theorem dX4_nextMover_65 : decode cX4_nextMover 65 = .ok (.getfield 7, 3) := by decide +kernel
theorem dX4_nextMover_68 : decode cX4_nextMover 68 = .ok (.iconst 2, 1) := by decide +kernel
theorem dX4_nextMover_69 : decode cX4_nextMover 69 = .ok (.iload_n 1, 1) := by decide +kernel
theorem dX4_nextMover_70 : decode cX4_nextMover 70 = .ok (.iastore, 1) := by decide +kernel
theorem dX4_nextMover_71 : decode cX4_nextMover 71 = .ok (.return_, 1) := by decide +kernel
theorem dX4_rolls_0 : decode cX4_rolls 0 = .ok (.aload_n 0, 1) := by decide +kernel
theorem dX4_rolls_1 : decode cX4_rolls 1 = .ok (.getfield 7, 3) := by decide +kernel
theorem dX4_rolls_4 : decode cX4_rolls 4 = .ok (.iconst 2, 1) := by decide +kernel
theorem dX4_rolls_5 : decode cX4_rolls 5 = .ok (.iaload, 1) := by decide +kernel
theorem dX4_rolls_6 : decode cX4_rolls 6 = .ok (.istore_n 2, 1) := by decide +kernel
theorem dX4_rolls_7 : decode cX4_rolls 7 = .ok (.aload_n 0, 1) := by decide +kernel
theorem dX4_rolls_8 : decode cX4_rolls 8 = .ok (.iload_n 2, 1) := by decide +kernel
theorem dX4_rolls_9 : decode cX4_rolls 9 = .ok (.iconst 0, 1) := by decide +kernel
theorem dX4_rolls_10 : decode cX4_rolls 10 = .ok (.invokevirtual 54, 3) := by decide +kernel
theorem dX4_rolls_13 : decode cX4_rolls 13 = .ok (.iload_n 1, 1) := by decide +kernel
theorem dX4_rolls_14 : decode cX4_rolls 14 = .ok (.iadd, 1) := by decide +kernel
theorem dX4_rolls_15 : decode cX4_rolls 15 = .ok (.istore_n 3, 1) := by decide +kernel
theorem dX4_rolls_16 : decode cX4_rolls 16 = .ok (.aload_n 0, 1) := by decide +kernel
theorem dX4_rolls_17 : decode cX4_rolls 17 = .ok (.iload_n 1, 1) := by decide +kernel
theorem dX4_rolls_18 : decode cX4_rolls 18 = .ok (.invokevirtual 104, 3) := by decide +kernel
theorem dX4_rolls_21 : decode cX4_rolls 21 = .ok (.istore 4, 2) := by decide +kernel
theorem dX4_rolls_23 : decode cX4_rolls 23 = .ok (.aload_n 0, 1) := by decide +kernel
theorem dX4_rolls_24 : decode cX4_rolls 24 = .ok (.iload_n 2, 1) := by decide +kernel
theorem dX4_rolls_25 : decode cX4_rolls 25 = .ok (.iconst 4, 1) := by decide +kernel
theorem dX4_rolls_26 : decode cX4_rolls 26 = .ok (.aload_n 0, 1) := by decide +kernel
theorem dX4_rolls_27 : decode cX4_rolls 27 = .ok (.iload_n 2, 1) := by decide +kernel
theorem dX4_rolls_28 : decode cX4_rolls 28 = .ok (.iconst 4, 1) := by decide +kernel
theorem dX4_rolls_29 : decode cX4_rolls 29 = .ok (.invokevirtual 54, 3) := by decide +kernel
theorem dX4_rolls_32 : decode cX4_rolls 32 = .ok (.iload 4, 2) := by decide +kernel
theorem dX4_rolls_34 : decode cX4_rolls 34 = .ok (.invokestatic 90, 3) := by decide +kernel
theorem dX4_rolls_37 : decode cX4_rolls 37 = .ok (.iadd, 1) := by decide +kernel
theorem dX4_rolls_38 : decode cX4_rolls 38 = .ok (.invokevirtual 93, 3) := by decide +kernel
theorem dX4_rolls_41 : decode cX4_rolls 41 = .ok (.aload_n 0, 1) := by decide +kernel
theorem dX4_rolls_42 : decode cX4_rolls 42 = .ok (.getfield 7, 3) := by decide +kernel
theorem dX4_rolls_45 : decode cX4_rolls 45 = .ok (.iconst 5, 1) := by decide +kernel
theorem dX4_rolls_46 : decode cX4_rolls 46 = .ok (.dup2, 1) := by decide +kernel
theorem dX4_rolls_47 : decode cX4_rolls 47 = .ok (.iaload, 1) := by decide +kernel
theorem dX4_rolls_48 : decode cX4_rolls 48 = .ok (.iload 4, 2) := by decide +kernel
theorem dX4_rolls_50 : decode cX4_rolls 50 = .ok (.invokestatic 90, 3) := by decide +kernel
theorem dX4_rolls_53 : decode cX4_rolls 53 = .ok (.iadd, 1) := by decide +kernel
theorem dX4_rolls_54 : decode cX4_rolls 54 = .ok (.iastore, 1) := by decide +kernel
theorem dX4_rolls_55 : decode cX4_rolls 55 = .ok (.aload_n 0, 1) := by decide +kernel
theorem dX4_rolls_56 : decode cX4_rolls 56 = .ok (.getfield 7, 3) := by decide +kernel
theorem dX4_rolls_59 : decode cX4_rolls 59 = .ok (.iconst 4, 1) := by decide +kernel
theorem dX4_rolls_60 : decode cX4_rolls 60 = .ok (.dup2, 1) := by decide +kernel
theorem dX4_rolls_61 : decode cX4_rolls 61 = .ok (.iaload, 1) := by decide +kernel
theorem dX4_rolls_62 : decode cX4_rolls 62 = .ok (.iconst 1, 1) := by decide +kernel
theorem dX4_rolls_63 : decode cX4_rolls 63 = .ok (.iadd, 1) := by decide +kernel
theorem dX4_rolls_64 : decode cX4_rolls 64 = .ok (.iastore, 1) := by decide +kernel
theorem dX4_rolls_65 : decode cX4_rolls 65 = .ok (.iload 4, 2) := by decide +kernel
theorem dX4_rolls_67 : decode cX4_rolls 67 = .ok (.ifCond .eq 54, 3) := by decide +kernel
theorem dX4_rolls_70 : decode cX4_rolls 70 = .ok (.aload_n 0, 1) := by decide +kernel
theorem dX4_rolls_71 : decode cX4_rolls 71 = .ok (.iload 4, 2) := by decide +kernel
theorem dX4_rolls_73 : decode cX4_rolls 73 = .ok (.invokevirtual 107, 3) := by decide +kernel
theorem dX4_rolls_76 : decode cX4_rolls 76 = .ok (.istore 5, 2) := by decide +kernel
theorem dX4_rolls_78 : decode cX4_rolls 78 = .ok (.iload 4, 2) := by decide +kernel
theorem dX4_rolls_80 : decode cX4_rolls 80 = .ok (.iconst 1, 1) := by decide +kernel
theorem dX4_rolls_81 : decode cX4_rolls 81 = .ok (.iload 5, 2) := by decide +kernel
theorem dX4_rolls_83 : decode cX4_rolls 83 = .ok (.ishl, 1) := by decide +kernel
theorem dX4_rolls_84 : decode cX4_rolls 84 = .ok (.isub, 1) := by decide +kernel
theorem dX4_rolls_85 : decode cX4_rolls 85 = .ok (.istore 4, 2) := by decide +kernel
theorem dX4_rolls_87 : decode cX4_rolls 87 = .ok (.aload_n 0, 1) := by decide +kernel
theorem dX4_rolls_88 : decode cX4_rolls 88 = .ok (.iload 5, 2) := by decide +kernel
theorem dX4_rolls_90 : decode cX4_rolls 90 = .ok (.iconst 3, 1) := by decide +kernel
theorem dX4_rolls_91 : decode cX4_rolls 91 = .ok (.aload_n 0, 1) := by decide +kernel
theorem dX4_rolls_92 : decode cX4_rolls 92 = .ok (.iload 5, 2) := by decide +kernel
theorem dX4_rolls_94 : decode cX4_rolls 94 = .ok (.iconst 3, 1) := by decide +kernel
theorem dX4_rolls_95 : decode cX4_rolls 95 = .ok (.invokevirtual 54, 3) := by decide +kernel
theorem dX4_rolls_98 : decode cX4_rolls 98 = .ok (.iconst 1, 1) := by decide +kernel
theorem dX4_rolls_99 : decode cX4_rolls 99 = .ok (.iadd, 1) := by decide +kernel
theorem dX4_rolls_100 : decode cX4_rolls 100 = .ok (.invokevirtual 93, 3) := by decide +kernel
theorem dX4_rolls_103 : decode cX4_rolls 103 = .ok (.aload_n 0, 1) := by decide +kernel
theorem dX4_rolls_104 : decode cX4_rolls 104 = .ok (.iload 5, 2) := by decide +kernel
theorem dX4_rolls_106 : decode cX4_rolls 106 = .ok (.aload_n 0, 1) := by decide +kernel
theorem dX4_rolls_107 : decode cX4_rolls 107 = .ok (.iload 5, 2) := by decide +kernel
theorem dX4_rolls_109 : decode cX4_rolls 109 = .ok (.iconst 0, 1) := by decide +kernel
theorem dX4_rolls_110 : decode cX4_rolls 110 = .ok (.invokevirtual 54, 3) := by decide +kernel
theorem dX4_rolls_113 : decode cX4_rolls 113 = .ok (.iconst 1, 1) := by decide +kernel
theorem dX4_rolls_114 : decode cX4_rolls 114 = .ok (.iadd, 1) := by decide +kernel
theorem dX4_rolls_115 : decode cX4_rolls 115 = .ok (.invokevirtual 110, 3) := by decide +kernel
theorem dX4_rolls_118 : decode cX4_rolls 118 = .ok (.goto (-53), 3) := by decide +kernel
theorem dX4_rolls_121 : decode cX4_rolls 121 = .ok (.aload_n 0, 1) := by decide +kernel
theorem dX4_rolls_122 : decode cX4_rolls 122 = .ok (.iload_n 2, 1) := by decide +kernel
theorem dX4_rolls_123 : decode cX4_rolls 123 = .ok (.iload_n 3, 1) := by decide +kernel
theorem dX4_rolls_124 : decode cX4_rolls 124 = .ok (.invokevirtual 110, 3) := by decide +kernel
theorem dX4_rolls_127 : decode cX4_rolls 127 = .ok (.iload_n 3, 1) := by decide +kernel
theorem dX4_rolls_128 : decode cX4_rolls 128 = .ok (.aload_n 0, 1) := by decide +kernel
theorem dX4_rolls_129 : decode cX4_rolls 129 = .ok (.getfield 7, 3) := by decide +kernel
theorem dX4_rolls_132 : decode cX4_rolls 132 = .ok (.iconst 0, 1) := by decide +kernel
theorem dX4_rolls_133 : decode cX4_rolls 133 = .ok (.iaload, 1) := by decide +kernel
theorem dX4_rolls_134 : decode cX4_rolls 134 = .ok (.if_icmp .ge 25, 3) := by decide +kernel
theorem dX4_rolls_137 : decode cX4_rolls 137 = .ok (.aload_n 0, 1) := by decide +kernel
theorem dX4_rolls_138 : decode cX4_rolls 138 = .ok (.iload_n 3, 1) := by decide +kernel
theorem dX4_rolls_139 : decode cX4_rolls 139 = .ok (.invokevirtual 61, 3) := by decide +kernel
theorem dX4_rolls_142 : decode cX4_rolls 142 = .ok (.ifCond .eq 17, 3) := by decide +kernel
theorem dX4_rolls_145 : decode cX4_rolls 145 = .ok (.aload_n 0, 1) := by decide +kernel
theorem dX4_rolls_146 : decode cX4_rolls 146 = .ok (.iload_n 2, 1) := by decide +kernel
theorem dX4_rolls_147 : decode cX4_rolls 147 = .ok (.iconst 2, 1) := by decide +kernel
theorem dX4_rolls_148 : decode cX4_rolls 148 = .ok (.aload_n 0, 1) := by decide +kernel
theorem dX4_rolls_149 : decode cX4_rolls 149 = .ok (.iload_n 2, 1) := by decide +kernel
theorem dX4_rolls_150 : decode cX4_rolls 150 = .ok (.iconst 2, 1) := by decide +kernel
theorem dX4_rolls_151 : decode cX4_rolls 151 = .ok (.invokevirtual 54, 3) := by decide +kernel
theorem dX4_rolls_154 : decode cX4_rolls 154 = .ok (.iconst 1, 1) := by decide +kernel
theorem dX4_rolls_155 : decode cX4_rolls 155 = .ok (.iadd, 1) := by decide +kernel
theorem dX4_rolls_156 : decode cX4_rolls 156 = .ok (.invokevirtual 93, 3) := by decide +kernel
theorem dX4_rolls_159 : decode cX4_rolls 159 = .ok (.aload_n 0, 1) := by decide +kernel
theorem dX4_rolls_160 : decode cX4_rolls 160 = .ok (.invokevirtual 114, 3) := by decide +kernel
theorem dX4_rolls_163 : decode cX4_rolls 163 = .ok (.aload_n 0, 1) := by decide +kernel
theorem dX4_rolls_164 : decode cX4_rolls 164 = .ok (.iload_n 2, 1) := by decide +kernel
theorem dX4_rolls_165 : decode cX4_rolls 165 = .ok (.iconst 0, 1) := by decide +kernel
theorem dX4_rolls_166 : decode cX4_rolls 166 = .ok (.invokevirtual 54, 3) := by decide +kernel
theorem dX4_rolls_169 : decode cX4_rolls 169 = .ok (.ireturn, 1) := by decide +kernel
theorem dX4_whyNotRoll_0 : decode cX4_whyNotRoll 0 = .ok (.iload_n 1, 1) := by decide +kernel
theorem dX4_whyNotRoll_1 : decode cX4_whyNotRoll 1 = .ok (.iconst 1, 1) := by decide +kernel
theorem dX4_whyNotRoll_2 : decode cX4_whyNotRoll 2 = .ok (.bipush 6, 2) := by decide +kernel
theorem dX4_whyNotRoll_4 : decode cX4_whyNotRoll 4 = .ok (.invokestatic 43, 3) := by decide +kernel
theorem dX4_whyNotRoll_7 : decode cX4_whyNotRoll 7 = .ok (.ifCond .ne 8, 3) := by decide +kernel
theorem dX4_whyNotRoll_10 : decode cX4_whyNotRoll 10 = .ok (.bipush (-2), 2) := by decide +kernel
theorem dX4_whyNotRoll_12 : decode cX4_whyNotRoll 12 = .ok (.goto 18, 3) := by decide +kernel
theorem dX4_whyNotRoll_15 : decode cX4_whyNotRoll 15 = .ok (.aload_n 0, 1) := by decide +kernel
theorem dX4_whyNotRoll_16 : decode cX4_whyNotRoll 16 = .ok (.getfield 7, 3) := by decide +kernel
theorem dX4_whyNotRoll_19 : decode cX4_whyNotRoll 19 = .ok (.iconst 1, 1) := by decide +kernel
theorem dX4_whyNotRoll_20 : decode cX4_whyNotRoll 20 = .ok (.iaload, 1) := by decide +kernel
theorem dX4_whyNotRoll_21 : decode cX4_whyNotRoll 21 = .ok (.ifCond .ne 8, 3) := by decide +kernel
theorem dX4_whyNotRoll_24 : decode cX4_whyNotRoll 24 = .ok (.bipush (-3), 2) := by decide +kernel
theorem dX4_whyNotRoll_26 : decode cX4_whyNotRoll 26 = .ok (.goto 4, 3) := by decide +kernel
theorem dX4_whyNotRoll_29 : decode cX4_whyNotRoll 29 = .ok (.iconst 0, 1) := by decide +kernel
theorem dX4_whyNotRoll_30 : decode cX4_whyNotRoll 30 = .ok (.ireturn, 1) := by decide +kernel
theorem dX4_roll_0 : decode cX4_roll 0 = .ok (.aload_n 0, 1) := by decide +kernel
theorem dX4_roll_1 : decode cX4_roll 1 = .ok (.iload_n 1, 1) := by decide +kernel
theorem dX4_roll_2 : decode cX4_roll 2 = .ok (.invokevirtual 117, 3) := by decide +kernel
theorem dX4_roll_5 : decode cX4_roll 5 = .ok (.istore_n 2, 1) := by decide +kernel
theorem dX4_roll_6 : decode cX4_roll 6 = .ok (.iload_n 2, 1) := by decide +kernel
theorem dX4_roll_7 : decode cX4_roll 7 = .ok (.ifCond .ge 5, 3) := by decide +kernel
theorem dX4_roll_10 : decode cX4_roll 10 = .ok (.iload_n 2, 1) := by decide +kernel
theorem dX4_roll_11 : decode cX4_roll 11 = .ok (.ireturn, 1) := by decide +kernel
theorem dX4_roll_12 : decode cX4_roll 12 = .ok (.aload_n 0, 1) := by decide +kernel
theorem dX4_roll_13 : decode cX4_roll 13 = .ok (.invokevirtual 40, 3) := by decide +kernel
theorem dX4_roll_16 : decode cX4_roll 16 = .ok (.aload_n 0, 1) := by decide +kernel
theorem dX4_roll_17 : decode cX4_roll 17 = .ok (.iload_n 1, 1) := by decide +kernel
theorem dX4_roll_18 : decode cX4_roll 18 = .ok (.invokevirtual 120, 3) := by decide +kernel
theorem dX4_roll_21 : decode cX4_roll 21 = .ok (.ireturn, 1) := by decide +kernel
theorem dX4_pass_0 : decode cX4_pass 0 = .ok (.aload_n 0, 1) := by decide +kernel
theorem dX4_pass_1 : decode cX4_pass 1 = .ok (.getfield 7, 3) := by decide +kernel
theorem dX4_pass_4 : decode cX4_pass 4 = .ok (.iconst 1, 1) := by decide +kernel
theorem dX4_pass_5 : decode cX4_pass 5 = .ok (.iaload, 1) := by decide +kernel
theorem dX4_pass_6 : decode cX4_pass 6 = .ok (.ifCond .ne 6, 3) := by decide +kernel
theorem dX4_pass_9 : decode cX4_pass 9 = .ok (.bipush (-3), 2) := by decide +kernel
theorem dX4_pass_11 : decode cX4_pass 11 = .ok (.ireturn, 1) := by decide +kernel
theorem dX4_pass_12 : decode cX4_pass 12 = .ok (.aload_n 0, 1) := by decide +kernel
theorem dX4_pass_13 : decode cX4_pass 13 = .ok (.invokevirtual 40, 3) := by decide +kernel
theorem dX4_pass_16 : decode cX4_pass 16 = .ok (.aload_n 0, 1) := by decide +kernel
theorem dX4_pass_17 : decode cX4_pass 17 = .ok (.invokevirtual 114, 3) := by decide +kernel
theorem dX4_pass_20 : decode cX4_pass 20 = .ok (.aload_n 0, 1) := by decide +kernel
theorem dX4_pass_21 : decode cX4_pass 21 = .ok (.getfield 7, 3) := by decide +kernel
theorem dX4_pass_24 : decode cX4_pass 24 = .ok (.iconst 2, 1) := by decide +kernel
theorem dX4_pass_25 : decode cX4_pass 25 = .ok (.iaload, 1) := by decide +kernel
theorem dX4_pass_26 : decode cX4_pass 26 = .ok (.ireturn, 1) := by decide +kernel
theorem dX4_progress_0 : decode cX4_progress 0 = .ok (.aload_n 0, 1) := by decide +kernel
theorem dX4_progress_1 : decode cX4_progress 1 = .ok (.iload_n 1, 1) := by decide +kernel
theorem dX4_progress_2 : decode cX4_progress 2 = .ok (.iconst 1, 1) := by decide +kernel
theorem dX4_progress_3 : decode cX4_progress 3 = .ok (.invokevirtual 54, 3) := by decide +kernel
theorem dX4_progress_6 : decode cX4_progress 6 = .ok (.aload_n 0, 1) := by decide +kernel
theorem dX4_progress_7 : decode cX4_progress 7 = .ok (.getfield 7, 3) := by decide +kernel
theorem dX4_progress_10 : decode cX4_progress 10 = .ok (.iconst 0, 1) := by decide +kernel
theorem dX4_progress_11 : decode cX4_progress 11 = .ok (.iaload, 1) := by decide +kernel
theorem dX4_progress_12 : decode cX4_progress 12 = .ok (.imul, 1) := by decide +kernel
theorem dX4_progress_13 : decode cX4_progress 13 = .ok (.aload_n 0, 1) := by decide +kernel
theorem dX4_progress_14 : decode cX4_progress 14 = .ok (.iload_n 1, 1) := by decide +kernel
theorem dX4_progress_15 : decode cX4_progress 15 = .ok (.iconst 0, 1) := by decide +kernel
theorem dX4_progress_16 : decode cX4_progress 16 = .ok (.invokevirtual 54, 3) := by decide +kernel
theorem dX4_progress_19 : decode cX4_progress 19 = .ok (.iadd, 1) := by decide +kernel
theorem dX4_progress_20 : decode cX4_progress 20 = .ok (.ireturn, 1) := by decide +kernel
theorem dX4_isClimber_0 : decode cX4_isClimber 0 = .ok (.iload_n 1, 1) := by decide +kernel
theorem dX4_isClimber_1 : decode cX4_isClimber 1 = .ok (.iconst 0, 1) := by decide +kernel
theorem dX4_isClimber_2 : decode cX4_isClimber 2 = .ok (.aload_n 0, 1) := by decide +kernel
theorem dX4_isClimber_3 : decode cX4_isClimber 3 = .ok (.getfield 7, 3) := by decide +kernel
theorem dX4_isClimber_6 : decode cX4_isClimber 6 = .ok (.iconst 1, 1) := by decide +kernel
theorem dX4_isClimber_7 : decode cX4_isClimber 7 = .ok (.iaload, 1) := by decide +kernel
theorem dX4_isClimber_8 : decode cX4_isClimber 8 = .ok (.iconst 1, 1) := by decide +kernel
theorem dX4_isClimber_9 : decode cX4_isClimber 9 = .ok (.isub, 1) := by decide +kernel
theorem dX4_isClimber_10 : decode cX4_isClimber 10 = .ok (.invokestatic 43, 3) := by decide +kernel
theorem dX4_isClimber_13 : decode cX4_isClimber 13 = .ok (.ireturn, 1) := by decide +kernel
theorem dX4_climber_0 : decode cX4_climber 0 = .ok (.aload_n 0, 1) := by decide +kernel
theorem dX4_climber_1 : decode cX4_climber 1 = .ok (.iload_n 1, 1) := by decide +kernel
theorem dX4_climber_2 : decode cX4_climber 2 = .ok (.invokevirtual 123, 3) := by decide +kernel
theorem dX4_climber_5 : decode cX4_climber 5 = .ok (.ifCond .ne 5, 3) := by decide +kernel
theorem dX4_climber_8 : decode cX4_climber 8 = .ok (.iconst (-1), 1) := by decide +kernel
theorem dX4_climber_9 : decode cX4_climber 9 = .ok (.ireturn, 1) := by decide +kernel
theorem dX4_climber_10 : decode cX4_climber 10 = .ok (.iload_n 2, 1) := by decide +kernel
theorem dX4_climber_11 : decode cX4_climber 11 = .ok (.bipush 6, 2) := by decide +kernel
theorem dX4_climber_13 : decode cX4_climber 13 = .ok (.if_icmp .ne 11, 3) := by decide +kernel
theorem dX4_climber_16 : decode cX4_climber 16 = .ok (.aload_n 0, 1) := by decide +kernel
theorem dX4_climber_17 : decode cX4_climber 17 = .ok (.iload_n 1, 1) := by decide +kernel
theorem dX4_climber_18 : decode cX4_climber 18 = .ok (.invokevirtual 126, 3) := by decide +kernel
theorem dX4_climber_21 : decode cX4_climber 21 = .ok (.goto 23, 3) := by decide +kernel
theorem dX4_climber_24 : decode cX4_climber 24 = .ok (.iload_n 2, 1) := by decide +kernel
theorem dX4_climber_25 : decode cX4_climber 25 = .ok (.iconst 0, 1) := by decide +kernel
theorem dX4_climber_26 : decode cX4_climber 26 = .ok (.iconst 5, 1) := by decide +kernel
theorem dX4_climber_27 : decode cX4_climber 27 = .ok (.invokestatic 43, 3) := by decide +kernel
theorem dX4_climber_30 : decode cX4_climber 30 = .ok (.ifCond .eq 12, 3) := by decide +kernel
theorem dX4_climber_33 : decode cX4_climber 33 = .ok (.aload_n 0, 1) := by decide +kernel
theorem dX4_climber_34 : decode cX4_climber 34 = .ok (.iload_n 1, 1) := by decide +kernel
theorem dX4_climber_35 : decode cX4_climber 35 = .ok (.iload_n 2, 1) := by decide +kernel
theorem dX4_climber_36 : decode cX4_climber 36 = .ok (.invokevirtual 54, 3) := by decide +kernel
theorem dX4_climber_39 : decode cX4_climber 39 = .ok (.goto 5, 3) := by decide +kernel
theorem dX4_climber_42 : decode cX4_climber 42 = .ok (.bipush (-2), 2) := by decide +kernel
theorem dX4_climber_44 : decode cX4_climber 44 = .ok (.ireturn, 1) := by decide +kernel
theorem dX4_turn_0 : decode cX4_turn 0 = .ok (.aload_n 0, 1) := by decide +kernel
theorem dX4_turn_1 : decode cX4_turn 1 = .ok (.getfield 7, 3) := by decide +kernel
theorem dX4_turn_4 : decode cX4_turn 4 = .ok (.iconst 1, 1) := by decide +kernel
theorem dX4_turn_5 : decode cX4_turn 5 = .ok (.iaload, 1) := by decide +kernel
theorem dX4_turn_6 : decode cX4_turn 6 = .ok (.ifCond .ne 8, 3) := by decide +kernel
theorem dX4_turn_9 : decode cX4_turn 9 = .ok (.bipush (-6), 2) := by decide +kernel
theorem dX4_turn_11 : decode cX4_turn 11 = .ok (.goto 9, 3) := by decide +kernel
theorem dX4_turn_14 : decode cX4_turn 14 = .ok (.aload_n 0, 1) := by decide +kernel
theorem dX4_turn_15 : decode cX4_turn 15 = .ok (.getfield 7, 3) := by decide +kernel
theorem dX4_turn_18 : decode cX4_turn 18 = .ok (.iconst 2, 1) := by decide +kernel
theorem dX4_turn_19 : decode cX4_turn 19 = .ok (.iaload, 1) := by decide +kernel
theorem dX4_turn_20 : decode cX4_turn 20 = .ok (.ireturn, 1) := by decide +kernel
theorem dX4_on_0 : decode cX4_on 0 = .ok (.iload_n 1, 1) := by decide +kernel
theorem dX4_on_1 : decode cX4_on 1 = .ok (.iconst 0, 1) := by decide +kernel
theorem dX4_on_2 : decode cX4_on 2 = .ok (.aload_n 0, 1) := by decide +kernel
theorem dX4_on_3 : decode cX4_on 3 = .ok (.getfield 7, 3) := by decide +kernel
theorem dX4_on_6 : decode cX4_on 6 = .ok (.iconst 0, 1) := by decide +kernel
theorem dX4_on_7 : decode cX4_on 7 = .ok (.iaload, 1) := by decide +kernel
theorem dX4_on_8 : decode cX4_on 8 = .ok (.iconst 1, 1) := by decide +kernel
theorem dX4_on_9 : decode cX4_on 9 = .ok (.isub, 1) := by decide +kernel
theorem dX4_on_10 : decode cX4_on 10 = .ok (.invokestatic 43, 3) := by decide +kernel
theorem dX4_on_13 : decode cX4_on 13 = .ok (.ifCond .eq 11, 3) := by decide +kernel
theorem dX4_on_16 : decode cX4_on 16 = .ok (.aload_n 0, 1) := by decide +kernel
theorem dX4_on_17 : decode cX4_on 17 = .ok (.iload_n 1, 1) := by decide +kernel
theorem dX4_on_18 : decode cX4_on 18 = .ok (.invokevirtual 58, 3) := by decide +kernel
theorem dX4_on_21 : decode cX4_on 21 = .ok (.goto 4, 3) := by decide +kernel
theorem dX4_on_24 : decode cX4_on 24 = .ok (.iconst (-1), 1) := by decide +kernel
theorem dX4_on_25 : decode cX4_on 25 = .ok (.ireturn, 1) := by decide +kernel
theorem dX4_step_0 : decode cX4_step 0 = .ok (.iload_n 1, 1) := by decide +kernel
theorem dX4_step_1 : decode cX4_step 1 = .ok (.iconst 0, 1) := by decide +kernel
theorem dX4_step_2 : decode cX4_step 2 = .ok (.aload_n 0, 1) := by decide +kernel
theorem dX4_step_3 : decode cX4_step 3 = .ok (.getfield 7, 3) := by decide +kernel
theorem dX4_step_6 : decode cX4_step 6 = .ok (.iconst 0, 1) := by decide +kernel
theorem dX4_step_7 : decode cX4_step 7 = .ok (.iaload, 1) := by decide +kernel
theorem dX4_step_8 : decode cX4_step 8 = .ok (.invokestatic 43, 3) := by decide +kernel
theorem dX4_step_11 : decode cX4_step 11 = .ok (.ifCond .ne 5, 3) := by decide +kernel
theorem dX4_step_14 : decode cX4_step 14 = .ok (.iconst (-1), 1) := by decide +kernel
theorem dX4_step_15 : decode cX4_step 15 = .ok (.ireturn, 1) := by decide +kernel
theorem dX4_step_16 : decode cX4_step 16 = .ok (.aload_n 0, 1) := by decide +kernel
theorem dX4_step_17 : decode cX4_step 17 = .ok (.iload_n 1, 1) := by decide +kernel
theorem dX4_step_18 : decode cX4_step 18 = .ok (.invokevirtual 65, 3) := by decide +kernel
theorem dX4_step_21 : decode cX4_step 21 = .ok (.istore_n 3, 1) := by decide +kernel
theorem dX4_step_22 : decode cX4_step 22 = .ok (.iload_n 2, 1) := by decide +kernel
theorem dX4_step_23 : decode cX4_step 23 = .ok (.tableswitch 58 0 2 #[25, 35, 52], 25) := by decide +kernel
theorem dX4_step_48 : decode cX4_step 48 = .ok (.aload_n 0, 1) := by decide +kernel
theorem dX4_step_49 : decode cX4_step 49 = .ok (.getfield 7, 3) := by decide +kernel
theorem dX4_step_52 : decode cX4_step 52 = .ok (.bipush 57, 2) := by decide +kernel
theorem dX4_step_54 : decode cX4_step 54 = .ok (.iload_n 1, 1) := by decide +kernel
theorem dX4_step_55 : decode cX4_step 55 = .ok (.iadd, 1) := by decide +kernel
theorem dX4_step_56 : decode cX4_step 56 = .ok (.iaload, 1) := by decide +kernel
theorem dX4_step_57 : decode cX4_step 57 = .ok (.ireturn, 1) := by decide +kernel
theorem dX4_step_58 : decode cX4_step 58 = .ok (.iload_n 3, 1) := by decide +kernel
theorem dX4_step_59 : decode cX4_step 59 = .ok (.bipush (-6), 2) := by decide +kernel
theorem dX4_step_61 : decode cX4_step 61 = .ok (.if_icmp .ne 8, 3) := by decide +kernel
theorem dX4_step_64 : decode cX4_step 64 = .ok (.bipush (-6), 2) := by decide +kernel
theorem dX4_step_66 : decode cX4_step 66 = .ok (.goto 8, 3) := by decide +kernel
theorem dX4_step_69 : decode cX4_step 69 = .ok (.aload_n 0, 1) := by decide +kernel
theorem dX4_step_70 : decode cX4_step 70 = .ok (.iload_n 3, 1) := by decide +kernel
theorem dX4_step_71 : decode cX4_step 71 = .ok (.invokevirtual 51, 3) := by decide +kernel
theorem dX4_step_74 : decode cX4_step 74 = .ok (.ireturn, 1) := by decide +kernel
theorem dX4_step_75 : decode cX4_step 75 = .ok (.aload_n 0, 1) := by decide +kernel
theorem dX4_step_76 : decode cX4_step 76 = .ok (.iload_n 1, 1) := by decide +kernel
theorem dX4_step_77 : decode cX4_step 77 = .ok (.invokevirtual 71, 3) := by decide +kernel
theorem dX4_step_80 : decode cX4_step 80 = .ok (.ireturn, 1) := by decide +kernel
theorem dX4_step_81 : decode cX4_step 81 = .ok (.bipush (-2), 2) := by decide +kernel
theorem dX4_step_83 : decode cX4_step 83 = .ok (.ireturn, 1) := by decide +kernel
theorem dX4_allTops_0 : decode cX4_allTops 0 = .ok (.iconst 0, 1) := by decide +kernel
theorem dX4_allTops_1 : decode cX4_allTops 1 = .ok (.istore_n 1, 1) := by decide +kernel
theorem dX4_allTops_2 : decode cX4_allTops 2 = .ok (.iconst 0, 1) := by decide +kernel
theorem dX4_allTops_3 : decode cX4_allTops 3 = .ok (.istore_n 2, 1) := by decide +kernel
theorem dX4_allTops_4 : decode cX4_allTops 4 = .ok (.iload_n 2, 1) := by decide +kernel
theorem dX4_allTops_5 : decode cX4_allTops 5 = .ok (.aload_n 0, 1) := by decide +kernel
theorem dX4_allTops_6 : decode cX4_allTops 6 = .ok (.getfield 7, 3) := by decide +kernel
theorem dX4_allTops_9 : decode cX4_allTops 9 = .ok (.iconst 1, 1) := by decide +kernel
theorem dX4_allTops_10 : decode cX4_allTops 10 = .ok (.iaload, 1) := by decide +kernel
theorem dX4_allTops_11 : decode cX4_allTops 11 = .ok (.if_icmp .ge 18, 3) := by decide +kernel
theorem dX4_allTops_14 : decode cX4_allTops 14 = .ok (.iload_n 1, 1) := by decide +kernel
theorem dX4_allTops_15 : decode cX4_allTops 15 = .ok (.aload_n 0, 1) := by decide +kernel
theorem dX4_allTops_16 : decode cX4_allTops 16 = .ok (.iload_n 2, 1) := by decide +kernel
theorem dX4_allTops_17 : decode cX4_allTops 17 = .ok (.iconst 1, 1) := by decide +kernel
theorem dX4_allTops_18 : decode cX4_allTops 18 = .ok (.invokevirtual 54, 3) := by decide +kernel
theorem dX4_allTops_21 : decode cX4_allTops 21 = .ok (.iadd, 1) := by decide +kernel
theorem dX4_allTops_22 : decode cX4_allTops 22 = .ok (.istore_n 1, 1) := by decide +kernel
theorem dX4_allTops_23 : decode cX4_allTops 23 = .ok (.iinc 2 1, 3) := by decide +kernel
theorem dX4_allTops_26 : decode cX4_allTops 26 = .ok (.goto (-22), 3) := by decide +kernel
theorem dX4_allTops_29 : decode cX4_allTops 29 = .ok (.iload_n 1, 1) := by decide +kernel
theorem dX4_allTops_30 : decode cX4_allTops 30 = .ok (.ireturn, 1) := by decide +kernel
theorem dX4_total_0 : decode cX4_total 0 = .ok (.iload_n 1, 1) := by decide +kernel
theorem dX4_total_1 : decode cX4_total 1 = .ok (.tableswitch 112 0 8 #[51, 58, 65, 72, 77, 84, 91, 99, 104], 51) := by decide +kernel
theorem dX4_total_52 : decode cX4_total 52 = .ok (.aload_n 0, 1) := by decide +kernel
theorem dX4_total_53 : decode cX4_total 53 = .ok (.getfield 7, 3) := by decide +kernel
theorem dX4_total_56 : decode cX4_total 56 = .ok (.iconst 0, 1) := by decide +kernel
theorem dX4_total_57 : decode cX4_total 57 = .ok (.iaload, 1) := by decide +kernel
theorem dX4_total_58 : decode cX4_total 58 = .ok (.ireturn, 1) := by decide +kernel
theorem dX4_total_59 : decode cX4_total 59 = .ok (.aload_n 0, 1) := by decide +kernel
theorem dX4_total_60 : decode cX4_total 60 = .ok (.getfield 7, 3) := by decide +kernel
theorem dX4_total_63 : decode cX4_total 63 = .ok (.iconst 1, 1) := by decide +kernel
theorem dX4_total_64 : decode cX4_total 64 = .ok (.iaload, 1) := by decide +kernel
theorem dX4_total_65 : decode cX4_total 65 = .ok (.ireturn, 1) := by decide +kernel
theorem dX4_total_66 : decode cX4_total 66 = .ok (.aload_n 0, 1) := by decide +kernel
theorem dX4_total_67 : decode cX4_total 67 = .ok (.getfield 7, 3) := by decide +kernel
theorem dX4_total_70 : decode cX4_total 70 = .ok (.iconst 3, 1) := by decide +kernel
theorem dX4_total_71 : decode cX4_total 71 = .ok (.iaload, 1) := by decide +kernel
theorem dX4_total_72 : decode cX4_total 72 = .ok (.ireturn, 1) := by decide +kernel
theorem dX4_total_73 : decode cX4_total 73 = .ok (.aload_n 0, 1) := by decide +kernel
theorem dX4_total_74 : decode cX4_total 74 = .ok (.invokevirtual 80, 3) := by decide +kernel
theorem dX4_total_77 : decode cX4_total 77 = .ok (.ireturn, 1) := by decide +kernel
theorem dX4_total_78 : decode cX4_total 78 = .ok (.aload_n 0, 1) := by decide +kernel
theorem dX4_total_79 : decode cX4_total 79 = .ok (.getfield 7, 3) := by decide +kernel
theorem dX4_total_82 : decode cX4_total 82 = .ok (.iconst 4, 1) := by decide +kernel
theorem dX4_total_83 : decode cX4_total 83 = .ok (.iaload, 1) := by decide +kernel
theorem dX4_total_84 : decode cX4_total 84 = .ok (.ireturn, 1) := by decide +kernel
theorem dX4_total_85 : decode cX4_total 85 = .ok (.aload_n 0, 1) := by decide +kernel
theorem dX4_total_86 : decode cX4_total 86 = .ok (.getfield 7, 3) := by decide +kernel
theorem dX4_total_89 : decode cX4_total 89 = .ok (.iconst 5, 1) := by decide +kernel
theorem dX4_total_90 : decode cX4_total 90 = .ok (.iaload, 1) := by decide +kernel
theorem dX4_total_91 : decode cX4_total 91 = .ok (.ireturn, 1) := by decide +kernel
theorem dX4_total_92 : decode cX4_total 92 = .ok (.aload_n 0, 1) := by decide +kernel
theorem dX4_total_93 : decode cX4_total 93 = .ok (.getfield 7, 3) := by decide +kernel
theorem dX4_total_96 : decode cX4_total 96 = .ok (.bipush 6, 2) := by decide +kernel
theorem dX4_total_98 : decode cX4_total 98 = .ok (.iaload, 1) := by decide +kernel
theorem dX4_total_99 : decode cX4_total 99 = .ok (.ireturn, 1) := by decide +kernel
theorem dX4_total_100 : decode cX4_total 100 = .ok (.aload_n 0, 1) := by decide +kernel
theorem dX4_total_101 : decode cX4_total 101 = .ok (.invokevirtual 129, 3) := by decide +kernel
theorem dX4_total_104 : decode cX4_total 104 = .ok (.ireturn, 1) := by decide +kernel
theorem dX4_total_105 : decode cX4_total 105 = .ok (.aload_n 0, 1) := by decide +kernel
theorem dX4_total_106 : decode cX4_total 106 = .ok (.getfield 7, 3) := by decide +kernel
theorem dX4_total_109 : decode cX4_total 109 = .ok (.bipush 7, 2) := by decide +kernel
theorem dX4_total_111 : decode cX4_total 111 = .ok (.iaload, 1) := by decide +kernel
theorem dX4_total_112 : decode cX4_total 112 = .ok (.ireturn, 1) := by decide +kernel
theorem dX4_total_113 : decode cX4_total 113 = .ok (.bipush (-2), 2) := by decide +kernel
theorem dX4_total_115 : decode cX4_total 115 = .ok (.ireturn, 1) := by decide +kernel
theorem dX4_ahead_0 : decode cX4_ahead 0 = .ok (.iconst 0, 1) := by decide +kernel
theorem dX4_ahead_1 : decode cX4_ahead 1 = .ok (.istore_n 2, 1) := by decide +kernel
theorem dX4_ahead_2 : decode cX4_ahead 2 = .ok (.iconst 0, 1) := by decide +kernel
theorem dX4_ahead_3 : decode cX4_ahead 3 = .ok (.istore_n 3, 1) := by decide +kernel
theorem dX4_ahead_4 : decode cX4_ahead 4 = .ok (.iload_n 3, 1) := by decide +kernel
theorem dX4_ahead_5 : decode cX4_ahead 5 = .ok (.aload_n 0, 1) := by decide +kernel
theorem dX4_ahead_6 : decode cX4_ahead 6 = .ok (.getfield 7, 3) := by decide +kernel
theorem dX4_ahead_9 : decode cX4_ahead 9 = .ok (.iconst 1, 1) := by decide +kernel
theorem dX4_ahead_10 : decode cX4_ahead 10 = .ok (.iaload, 1) := by decide +kernel
theorem dX4_ahead_11 : decode cX4_ahead 11 = .ok (.if_icmp .ge 48, 3) := by decide +kernel
theorem dX4_ahead_14 : decode cX4_ahead 14 = .ok (.iload_n 2, 1) := by decide +kernel
theorem dX4_ahead_15 : decode cX4_ahead 15 = .ok (.aload_n 0, 1) := by decide +kernel
theorem dX4_ahead_16 : decode cX4_ahead 16 = .ok (.iload_n 3, 1) := by decide +kernel
theorem dX4_ahead_17 : decode cX4_ahead 17 = .ok (.invokevirtual 126, 3) := by decide +kernel
theorem dX4_ahead_20 : decode cX4_ahead 20 = .ok (.aload_n 0, 1) := by decide +kernel
theorem dX4_ahead_21 : decode cX4_ahead 21 = .ok (.iload_n 1, 1) := by decide +kernel
theorem dX4_ahead_22 : decode cX4_ahead 22 = .ok (.invokevirtual 126, 3) := by decide +kernel
theorem dX4_ahead_25 : decode cX4_ahead 25 = .ok (.if_icmp .gt 21, 3) := by decide +kernel
theorem dX4_ahead_28 : decode cX4_ahead 28 = .ok (.aload_n 0, 1) := by decide +kernel
theorem dX4_ahead_29 : decode cX4_ahead 29 = .ok (.iload_n 3, 1) := by decide +kernel
theorem dX4_ahead_30 : decode cX4_ahead 30 = .ok (.invokevirtual 126, 3) := by decide +kernel
theorem dX4_ahead_33 : decode cX4_ahead 33 = .ok (.aload_n 0, 1) := by decide +kernel
theorem dX4_ahead_34 : decode cX4_ahead 34 = .ok (.iload_n 1, 1) := by decide +kernel
theorem dX4_ahead_35 : decode cX4_ahead 35 = .ok (.invokevirtual 126, 3) := by decide +kernel
theorem dX4_ahead_38 : decode cX4_ahead 38 = .ok (.if_icmp .ne 12, 3) := by decide +kernel
theorem dX4_ahead_41 : decode cX4_ahead 41 = .ok (.iload_n 3, 1) := by decide +kernel
theorem dX4_ahead_42 : decode cX4_ahead 42 = .ok (.iload_n 1, 1) := by decide +kernel
theorem dX4_ahead_43 : decode cX4_ahead 43 = .ok (.if_icmp .ge 7, 3) := by decide +kernel
theorem dX4_ahead_46 : decode cX4_ahead 46 = .ok (.iconst 1, 1) := by decide +kernel
theorem dX4_ahead_47 : decode cX4_ahead 47 = .ok (.goto 4, 3) := by decide +kernel
theorem dX4_ahead_50 : decode cX4_ahead 50 = .ok (.iconst 0, 1) := by decide +kernel
theorem dX4_ahead_51 : decode cX4_ahead 51 = .ok (.iadd, 1) := by decide +kernel
theorem dX4_ahead_52 : decode cX4_ahead 52 = .ok (.istore_n 2, 1) := by decide +kernel
theorem dX4_ahead_53 : decode cX4_ahead 53 = .ok (.iinc 3 1, 3) := by decide +kernel
theorem dX4_ahead_56 : decode cX4_ahead 56 = .ok (.goto (-52), 3) := by decide +kernel
theorem dX4_ahead_59 : decode cX4_ahead 59 = .ok (.iload_n 2, 1) := by decide +kernel
theorem dX4_ahead_60 : decode cX4_ahead 60 = .ok (.ireturn, 1) := by decide +kernel
theorem dX4_rank_0 : decode cX4_rank 0 = .ok (.iload_n 1, 1) := by decide +kernel
theorem dX4_rank_1 : decode cX4_rank 1 = .ok (.ifCond .ge 6, 3) := by decide +kernel
theorem dX4_rank_4 : decode cX4_rank 4 = .ok (.bipush (-2), 2) := by decide +kernel
theorem dX4_rank_6 : decode cX4_rank 6 = .ok (.ireturn, 1) := by decide +kernel
theorem dX4_rank_7 : decode cX4_rank 7 = .ok (.bipush (-6), 2) := by decide +kernel
theorem dX4_rank_9 : decode cX4_rank 9 = .ok (.istore_n 2, 1) := by decide +kernel
theorem dX4_rank_10 : decode cX4_rank 10 = .ok (.iconst 0, 1) := by decide +kernel
theorem dX4_rank_11 : decode cX4_rank 11 = .ok (.istore_n 3, 1) := by decide +kernel
theorem dX4_rank_12 : decode cX4_rank 12 = .ok (.iload_n 3, 1) := by decide +kernel
theorem dX4_rank_13 : decode cX4_rank 13 = .ok (.aload_n 0, 1) := by decide +kernel
theorem dX4_rank_14 : decode cX4_rank 14 = .ok (.getfield 7, 3) := by decide +kernel
theorem dX4_rank_17 : decode cX4_rank 17 = .ok (.iconst 1, 1) := by decide +kernel
theorem dX4_rank_18 : decode cX4_rank 18 = .ok (.iaload, 1) := by decide +kernel
theorem dX4_rank_19 : decode cX4_rank 19 = .ok (.if_icmp .ge 24, 3) := by decide +kernel
theorem dX4_rank_22 : decode cX4_rank 22 = .ok (.aload_n 0, 1) := by decide +kernel
theorem dX4_rank_23 : decode cX4_rank 23 = .ok (.iload_n 3, 1) := by decide +kernel
theorem dX4_rank_24 : decode cX4_rank 24 = .ok (.invokevirtual 132, 3) := by decide +kernel
theorem dX4_rank_27 : decode cX4_rank 27 = .ok (.iload_n 1, 1) := by decide +kernel
theorem dX4_rank_28 : decode cX4_rank 28 = .ok (.if_icmp .ne 7, 3) := by decide +kernel
theorem dX4_rank_31 : decode cX4_rank 31 = .ok (.iload_n 3, 1) := by decide +kernel
theorem dX4_rank_32 : decode cX4_rank 32 = .ok (.goto 4, 3) := by decide +kernel
theorem dX4_rank_35 : decode cX4_rank 35 = .ok (.iload_n 2, 1) := by decide +kernel
theorem dX4_rank_36 : decode cX4_rank 36 = .ok (.istore_n 2, 1) := by decide +kernel
theorem dX4_rank_37 : decode cX4_rank 37 = .ok (.iinc 3 1, 3) := by decide +kernel
theorem dX4_rank_40 : decode cX4_rank 40 = .ok (.goto (-28), 3) := by decide +kernel
theorem dX4_rank_43 : decode cX4_rank 43 = .ok (.iload_n 2, 1) := by decide +kernel
theorem dX4_rank_44 : decode cX4_rank 44 = .ok (.ireturn, 1) := by decide +kernel
theorem dX4_putAside_0 : decode cX4_putAside 0 = .ok (.iconst 0, 1) := by decide +kernel
theorem dX4_putAside_1 : decode cX4_putAside 1 = .ok (.istore_n 1, 1) := by decide +kernel
theorem dX4_putAside_2 : decode cX4_putAside 2 = .ok (.iload_n 1, 1) := by decide +kernel
theorem dX4_putAside_3 : decode cX4_putAside 3 = .ok (.bipush 118, 2) := by decide +kernel
theorem dX4_putAside_5 : decode cX4_putAside 5 = .ok (.if_icmp .ge 21, 3) := by decide +kernel
theorem dX4_putAside_8 : decode cX4_putAside 8 = .ok (.aload_n 0, 1) := by decide +kernel
theorem dX4_putAside_9 : decode cX4_putAside 9 = .ok (.getfield 19, 3) := by decide +kernel
theorem dX4_putAside_12 : decode cX4_putAside 12 = .ok (.iload_n 1, 1) := by decide +kernel
theorem dX4_putAside_13 : decode cX4_putAside 13 = .ok (.aload_n 0, 1) := by decide +kernel
theorem dX4_putAside_14 : decode cX4_putAside 14 = .ok (.getfield 7, 3) := by decide +kernel
theorem dX4_putAside_17 : decode cX4_putAside 17 = .ok (.iload_n 1, 1) := by decide +kernel
theorem dX4_putAside_18 : decode cX4_putAside 18 = .ok (.iaload, 1) := by decide +kernel
theorem dX4_putAside_19 : decode cX4_putAside 19 = .ok (.iastore, 1) := by decide +kernel
theorem dX4_putAside_20 : decode cX4_putAside 20 = .ok (.iinc 1 1, 3) := by decide +kernel
theorem dX4_putAside_23 : decode cX4_putAside 23 = .ok (.goto (-21), 3) := by decide +kernel
theorem dX4_putAside_26 : decode cX4_putAside 26 = .ok (.return_, 1) := by decide +kernel
theorem dX4_takeBack_0 : decode cX4_takeBack 0 = .ok (.iconst 0, 1) := by decide +kernel
theorem dX4_takeBack_1 : decode cX4_takeBack 1 = .ok (.istore_n 1, 1) := by decide +kernel
theorem dX4_takeBack_2 : decode cX4_takeBack 2 = .ok (.iload_n 1, 1) := by decide +kernel
theorem dX4_takeBack_3 : decode cX4_takeBack 3 = .ok (.bipush 118, 2) := by decide +kernel
theorem dX4_takeBack_5 : decode cX4_takeBack 5 = .ok (.if_icmp .ge 21, 3) := by decide +kernel
theorem dX4_takeBack_8 : decode cX4_takeBack 8 = .ok (.aload_n 0, 1) := by decide +kernel
theorem dX4_takeBack_9 : decode cX4_takeBack 9 = .ok (.getfield 7, 3) := by decide +kernel
theorem dX4_takeBack_12 : decode cX4_takeBack 12 = .ok (.iload_n 1, 1) := by decide +kernel
theorem dX4_takeBack_13 : decode cX4_takeBack 13 = .ok (.aload_n 0, 1) := by decide +kernel
theorem dX4_takeBack_14 : decode cX4_takeBack 14 = .ok (.getfield 19, 3) := by decide +kernel
theorem dX4_takeBack_17 : decode cX4_takeBack 17 = .ok (.iload_n 1, 1) := by decide +kernel
theorem dX4_takeBack_18 : decode cX4_takeBack 18 = .ok (.iaload, 1) := by decide +kernel
theorem dX4_takeBack_19 : decode cX4_takeBack 19 = .ok (.iastore, 1) := by decide +kernel
theorem dX4_takeBack_20 : decode cX4_takeBack 20 = .ok (.iinc 1 1, 3) := by decide +kernel
theorem dX4_takeBack_23 : decode cX4_takeBack 23 = .ok (.goto (-21), 3) := by decide +kernel
theorem dX4_takeBack_26 : decode cX4_takeBack 26 = .ok (.return_, 1) := by decide +kernel
theorem dX4_ifRolled_0 : decode cX4_ifRolled 0 = .ok (.iload_n 1, 1) := by decide +kernel
theorem dX4_ifRolled_1 : decode cX4_ifRolled 1 = .ok (.iconst 1, 1) := by decide +kernel
theorem dX4_ifRolled_2 : decode cX4_ifRolled 2 = .ok (.bipush 6, 2) := by decide +kernel
theorem dX4_ifRolled_4 : decode cX4_ifRolled 4 = .ok (.invokestatic 43, 3) := by decide +kernel
theorem dX4_ifRolled_7 : decode cX4_ifRolled 7 = .ok (.ifCond .eq 12, 3) := by decide +kernel
theorem dX4_ifRolled_10 : decode cX4_ifRolled 10 = .ok (.iload_n 2, 1) := by decide +kernel
theorem dX4_ifRolled_11 : decode cX4_ifRolled 11 = .ok (.iconst 0, 1) := by decide +kernel
theorem dX4_ifRolled_12 : decode cX4_ifRolled 12 = .ok (.iconst 4, 1) := by decide +kernel
theorem dX4_ifRolled_13 : decode cX4_ifRolled 13 = .ok (.invokestatic 43, 3) := by decide +kernel
theorem dX4_ifRolled_16 : decode cX4_ifRolled 16 = .ok (.ifCond .ne 6, 3) := by decide +kernel
theorem dX4_ifRolled_19 : decode cX4_ifRolled 19 = .ok (.bipush (-2), 2) := by decide +kernel
theorem dX4_ifRolled_21 : decode cX4_ifRolled 21 = .ok (.ireturn, 1) := by decide +kernel
theorem dX4_ifRolled_22 : decode cX4_ifRolled 22 = .ok (.aload_n 0, 1) := by decide +kernel
theorem dX4_ifRolled_23 : decode cX4_ifRolled 23 = .ok (.getfield 7, 3) := by decide +kernel
theorem dX4_ifRolled_26 : decode cX4_ifRolled 26 = .ok (.iconst 1, 1) := by decide +kernel
theorem dX4_ifRolled_27 : decode cX4_ifRolled 27 = .ok (.iaload, 1) := by decide +kernel
theorem dX4_ifRolled_28 : decode cX4_ifRolled 28 = .ok (.ifCond .ne 6, 3) := by decide +kernel
theorem dX4_ifRolled_31 : decode cX4_ifRolled 31 = .ok (.bipush (-3), 2) := by decide +kernel
theorem dX4_ifRolled_33 : decode cX4_ifRolled 33 = .ok (.ireturn, 1) := by decide +kernel
theorem dX4_ifRolled_34 : decode cX4_ifRolled 34 = .ok (.aload_n 0, 1) := by decide +kernel
theorem dX4_ifRolled_35 : decode cX4_ifRolled 35 = .ok (.invokevirtual 129, 3) := by decide +kernel
theorem dX4_ifRolled_38 : decode cX4_ifRolled 38 = .ok (.istore_n 3, 1) := by decide +kernel
theorem dX4_ifRolled_39 : decode cX4_ifRolled 39 = .ok (.aload_n 0, 1) := by decide +kernel
theorem dX4_ifRolled_40 : decode cX4_ifRolled 40 = .ok (.invokevirtual 135, 3) := by decide +kernel
theorem dX4_ifRolled_43 : decode cX4_ifRolled 43 = .ok (.aload_n 0, 1) := by decide +kernel
theorem dX4_ifRolled_44 : decode cX4_ifRolled 44 = .ok (.iload_n 1, 1) := by decide +kernel
theorem dX4_ifRolled_45 : decode cX4_ifRolled 45 = .ok (.invokevirtual 120, 3) := by decide +kernel
theorem dX4_ifRolled_48 : decode cX4_ifRolled 48 = .ok (.istore 4, 2) := by decide +kernel
theorem dX4_ifRolled_50 : decode cX4_ifRolled 50 = .ok (.iload_n 2, 1) := by decide +kernel
theorem dX4_ifRolled_51 : decode cX4_ifRolled 51 = .ok (.ifCond .ne 8, 3) := by decide +kernel
theorem dX4_ifRolled_54 : decode cX4_ifRolled 54 = .ok (.iload 4, 2) := by decide +kernel
theorem dX4_ifRolled_56 : decode cX4_ifRolled 56 = .ok (.goto 67, 3) := by decide +kernel
theorem dX4_ifRolled_59 : decode cX4_ifRolled 59 = .ok (.iload_n 2, 1) := by decide +kernel
theorem dX4_ifRolled_60 : decode cX4_ifRolled 60 = .ok (.iconst 1, 1) := by decide +kernel
theorem dX4_ifRolled_61 : decode cX4_ifRolled 61 = .ok (.if_icmp .ne 19, 3) := by decide +kernel
theorem dX4_ifRolled_64 : decode cX4_ifRolled 64 = .ok (.aload_n 0, 1) := by decide +kernel
theorem dX4_ifRolled_65 : decode cX4_ifRolled 65 = .ok (.getfield 7, 3) := by decide +kernel
theorem dX4_ifRolled_68 : decode cX4_ifRolled 68 = .ok (.iconst 5, 1) := by decide +kernel
theorem dX4_ifRolled_69 : decode cX4_ifRolled 69 = .ok (.iaload, 1) := by decide +kernel
theorem dX4_ifRolled_70 : decode cX4_ifRolled 70 = .ok (.aload_n 0, 1) := by decide +kernel
theorem dX4_ifRolled_71 : decode cX4_ifRolled 71 = .ok (.getfield 19, 3) := by decide +kernel
theorem dX4_ifRolled_74 : decode cX4_ifRolled 74 = .ok (.iconst 5, 1) := by decide +kernel
theorem dX4_ifRolled_75 : decode cX4_ifRolled 75 = .ok (.iaload, 1) := by decide +kernel
theorem dX4_ifRolled_76 : decode cX4_ifRolled 76 = .ok (.isub, 1) := by decide +kernel
theorem dX4_ifRolled_77 : decode cX4_ifRolled 77 = .ok (.goto 46, 3) := by decide +kernel
theorem dX4_ifRolled_80 : decode cX4_ifRolled 80 = .ok (.iload_n 2, 1) := by decide +kernel
theorem dX4_ifRolled_81 : decode cX4_ifRolled 81 = .ok (.iconst 2, 1) := by decide +kernel
theorem dX4_ifRolled_82 : decode cX4_ifRolled 82 = .ok (.if_icmp .ne 12, 3) := by decide +kernel
theorem dX4_ifRolled_85 : decode cX4_ifRolled 85 = .ok (.aload_n 0, 1) := by decide +kernel
theorem dX4_ifRolled_86 : decode cX4_ifRolled 86 = .ok (.invokevirtual 129, 3) := by decide +kernel
theorem dX4_ifRolled_89 : decode cX4_ifRolled 89 = .ok (.iload_n 3, 1) := by decide +kernel
theorem dX4_ifRolled_90 : decode cX4_ifRolled 90 = .ok (.isub, 1) := by decide +kernel
theorem dX4_ifRolled_91 : decode cX4_ifRolled 91 = .ok (.goto 32, 3) := by decide +kernel
theorem dX4_ifRolled_94 : decode cX4_ifRolled 94 = .ok (.iload_n 2, 1) := by decide +kernel
theorem dX4_ifRolled_95 : decode cX4_ifRolled 95 = .ok (.iconst 3, 1) := by decide +kernel
theorem dX4_ifRolled_96 : decode cX4_ifRolled 96 = .ok (.if_icmp .ne 21, 3) := by decide +kernel
theorem dX4_ifRolled_99 : decode cX4_ifRolled 99 = .ok (.aload_n 0, 1) := by decide +kernel
theorem dX4_ifRolled_100 : decode cX4_ifRolled 100 = .ok (.getfield 7, 3) := by decide +kernel
theorem dX4_ifRolled_103 : decode cX4_ifRolled 103 = .ok (.bipush 6, 2) := by decide +kernel
theorem dX4_ifRolled_105 : decode cX4_ifRolled 105 = .ok (.iaload, 1) := by decide +kernel
theorem dX4_ifRolled_106 : decode cX4_ifRolled 106 = .ok (.aload_n 0, 1) := by decide +kernel
theorem dX4_ifRolled_107 : decode cX4_ifRolled 107 = .ok (.getfield 19, 3) := by decide +kernel
theorem dX4_ifRolled_110 : decode cX4_ifRolled 110 = .ok (.bipush 6, 2) := by decide +kernel
theorem dX4_ifRolled_112 : decode cX4_ifRolled 112 = .ok (.iaload, 1) := by decide +kernel
theorem dX4_ifRolled_113 : decode cX4_ifRolled 113 = .ok (.isub, 1) := by decide +kernel
theorem dX4_ifRolled_114 : decode cX4_ifRolled 114 = .ok (.goto 9, 3) := by decide +kernel
theorem dX4_ifRolled_117 : decode cX4_ifRolled 117 = .ok (.aload_n 0, 1) := by decide +kernel
theorem dX4_ifRolled_118 : decode cX4_ifRolled 118 = .ok (.getfield 7, 3) := by decide +kernel
theorem dX4_ifRolled_121 : decode cX4_ifRolled 121 = .ok (.iconst 2, 1) := by decide +kernel
theorem dX4_ifRolled_122 : decode cX4_ifRolled 122 = .ok (.iaload, 1) := by decide +kernel
theorem dX4_ifRolled_123 : decode cX4_ifRolled 123 = .ok (.istore 4, 2) := by decide +kernel
theorem dX4_ifRolled_125 : decode cX4_ifRolled 125 = .ok (.aload_n 0, 1) := by decide +kernel
theorem dX4_ifRolled_126 : decode cX4_ifRolled 126 = .ok (.invokevirtual 138, 3) := by decide +kernel
theorem dX4_ifRolled_129 : decode cX4_ifRolled 129 = .ok (.iload 4, 2) := by decide +kernel
theorem dX4_ifRolled_131 : decode cX4_ifRolled 131 = .ok (.ireturn, 1) := by decide +kernel
theorem dX4_worth_0 : decode cX4_worth 0 = .ok (.iconst 2, 1) := by decide +kernel
theorem dX4_worth_1 : decode cX4_worth 1 = .ok (.aload_n 0, 1) := by decide +kernel
theorem dX4_worth_2 : decode cX4_worth 2 = .ok (.iload_n 1, 1) := by decide +kernel
theorem dX4_worth_3 : decode cX4_worth 3 = .ok (.invokevirtual 126, 3) := by decide +kernel
theorem dX4_worth_6 : decode cX4_worth 6 = .ok (.imul, 1) := by decide +kernel
theorem dX4_worth_7 : decode cX4_worth 7 = .ok (.istore_n 2, 1) := by decide +kernel
theorem dX4_worth_8 : decode cX4_worth 8 = .ok (.iconst 0, 1) := by decide +kernel
theorem dX4_worth_9 : decode cX4_worth 9 = .ok (.istore_n 3, 1) := by decide +kernel
theorem dX4_worth_10 : decode cX4_worth 10 = .ok (.iload_n 3, 1) := by decide +kernel
theorem dX4_worth_11 : decode cX4_worth 11 = .ok (.aload_n 0, 1) := by decide +kernel
theorem dX4_worth_12 : decode cX4_worth 12 = .ok (.getfield 7, 3) := by decide +kernel
theorem dX4_worth_15 : decode cX4_worth 15 = .ok (.iconst 1, 1) := by decide +kernel
theorem dX4_worth_16 : decode cX4_worth 16 = .ok (.iaload, 1) := by decide +kernel
theorem dX4_worth_17 : decode cX4_worth 17 = .ok (.if_icmp .ge 17, 3) := by decide +kernel
theorem dX4_worth_20 : decode cX4_worth 20 = .ok (.iload_n 2, 1) := by decide +kernel
theorem dX4_worth_21 : decode cX4_worth 21 = .ok (.aload_n 0, 1) := by decide +kernel
theorem dX4_worth_22 : decode cX4_worth 22 = .ok (.iload_n 3, 1) := by decide +kernel
theorem dX4_worth_23 : decode cX4_worth 23 = .ok (.invokevirtual 126, 3) := by decide +kernel
theorem dX4_worth_26 : decode cX4_worth 26 = .ok (.isub, 1) := by decide +kernel
theorem dX4_worth_27 : decode cX4_worth 27 = .ok (.istore_n 2, 1) := by decide +kernel
theorem dX4_worth_28 : decode cX4_worth 28 = .ok (.iinc 3 1, 3) := by decide +kernel
theorem dX4_worth_31 : decode cX4_worth 31 = .ok (.goto (-21), 3) := by decide +kernel
theorem dX4_worth_34 : decode cX4_worth 34 = .ok (.iload_n 2, 1) := by decide +kernel
theorem dX4_worth_35 : decode cX4_worth 35 = .ok (.ireturn, 1) := by decide +kernel
theorem dX4_bestRoll_0 : decode cX4_bestRoll 0 = .ok (.aload_n 0, 1) := by decide +kernel
theorem dX4_bestRoll_1 : decode cX4_bestRoll 1 = .ok (.getfield 7, 3) := by decide +kernel
theorem dX4_bestRoll_4 : decode cX4_bestRoll 4 = .ok (.iconst 1, 1) := by decide +kernel
theorem dX4_bestRoll_5 : decode cX4_bestRoll 5 = .ok (.iaload, 1) := by decide +kernel
theorem dX4_bestRoll_6 : decode cX4_bestRoll 6 = .ok (.ifCond .ne 6, 3) := by decide +kernel
theorem dX4_bestRoll_9 : decode cX4_bestRoll 9 = .ok (.bipush (-6), 2) := by decide +kernel
theorem dX4_bestRoll_11 : decode cX4_bestRoll 11 = .ok (.ireturn, 1) := by decide +kernel
theorem dX4_bestRoll_12 : decode cX4_bestRoll 12 = .ok (.aload_n 0, 1) := by decide +kernel
theorem dX4_bestRoll_13 : decode cX4_bestRoll 13 = .ok (.getfield 7, 3) := by decide +kernel
theorem dX4_bestRoll_16 : decode cX4_bestRoll 16 = .ok (.iconst 2, 1) := by decide +kernel
theorem dX4_bestRoll_17 : decode cX4_bestRoll 17 = .ok (.iaload, 1) := by decide +kernel
theorem dX4_bestRoll_18 : decode cX4_bestRoll 18 = .ok (.istore_n 1, 1) := by decide +kernel
theorem dX4_bestRoll_19 : decode cX4_bestRoll 19 = .ok (.bipush (-6), 2) := by decide +kernel
theorem dX4_bestRoll_21 : decode cX4_bestRoll 21 = .ok (.istore_n 2, 1) := by decide +kernel
theorem dX4_bestRoll_22 : decode cX4_bestRoll 22 = .ok (.iconst 0, 1) := by decide +kernel
theorem dX4_bestRoll_23 : decode cX4_bestRoll 23 = .ok (.istore_n 3, 1) := by decide +kernel
theorem dX4_bestRoll_24 : decode cX4_bestRoll 24 = .ok (.iconst 1, 1) := by decide +kernel
theorem dX4_bestRoll_25 : decode cX4_bestRoll 25 = .ok (.istore 4, 2) := by decide +kernel
theorem dX4_bestRoll_27 : decode cX4_bestRoll 27 = .ok (.iload 4, 2) := by decide +kernel
theorem dX4_bestRoll_29 : decode cX4_bestRoll 29 = .ok (.bipush 6, 2) := by decide +kernel
theorem dX4_bestRoll_31 : decode cX4_bestRoll 31 = .ok (.if_icmp .gt 74, 3) := by decide +kernel
theorem dX4_bestRoll_34 : decode cX4_bestRoll 34 = .ok (.aload_n 0, 1) := by decide +kernel
theorem dX4_bestRoll_35 : decode cX4_bestRoll 35 = .ok (.invokevirtual 135, 3) := by decide +kernel
theorem dX4_bestRoll_38 : decode cX4_bestRoll 38 = .ok (.aload_n 0, 1) := by decide +kernel
theorem dX4_bestRoll_39 : decode cX4_bestRoll 39 = .ok (.iload 4, 2) := by decide +kernel
theorem dX4_bestRoll_41 : decode cX4_bestRoll 41 = .ok (.invokevirtual 120, 3) := by decide +kernel
theorem dX4_bestRoll_44 : decode cX4_bestRoll 44 = .ok (.pop, 1) := by decide +kernel
theorem dX4_bestRoll_45 : decode cX4_bestRoll 45 = .ok (.aload_n 0, 1) := by decide +kernel
theorem dX4_bestRoll_46 : decode cX4_bestRoll 46 = .ok (.iload_n 1, 1) := by decide +kernel
theorem dX4_bestRoll_47 : decode cX4_bestRoll 47 = .ok (.invokevirtual 141, 3) := by decide +kernel
theorem dX4_bestRoll_50 : decode cX4_bestRoll 50 = .ok (.istore 5, 2) := by decide +kernel
theorem dX4_bestRoll_52 : decode cX4_bestRoll 52 = .ok (.aload_n 0, 1) := by decide +kernel
theorem dX4_bestRoll_53 : decode cX4_bestRoll 53 = .ok (.invokevirtual 138, 3) := by decide +kernel
theorem dX4_bestRoll_56 : decode cX4_bestRoll 56 = .ok (.iload_n 2, 1) := by decide +kernel
theorem dX4_bestRoll_57 : decode cX4_bestRoll 57 = .ok (.bipush (-6), 2) := by decide +kernel
theorem dX4_bestRoll_59 : decode cX4_bestRoll 59 = .ok (.if_icmp .eq 9, 3) := by decide +kernel
theorem dX4_bestRoll_62 : decode cX4_bestRoll 62 = .ok (.iload 5, 2) := by decide +kernel
theorem dX4_bestRoll_64 : decode cX4_bestRoll 64 = .ok (.iload_n 3, 1) := by decide +kernel
theorem dX4_bestRoll_65 : decode cX4_bestRoll 65 = .ok (.if_icmp .le 7, 3) := by decide +kernel
theorem dX4_bestRoll_68 : decode cX4_bestRoll 68 = .ok (.iconst 1, 1) := by decide +kernel
theorem dX4_bestRoll_69 : decode cX4_bestRoll 69 = .ok (.goto 4, 3) := by decide +kernel
theorem dX4_bestRoll_72 : decode cX4_bestRoll 72 = .ok (.iconst 0, 1) := by decide +kernel
theorem dX4_bestRoll_73 : decode cX4_bestRoll 73 = .ok (.istore 6, 2) := by decide +kernel
theorem dX4_bestRoll_75 : decode cX4_bestRoll 75 = .ok (.iload 6, 2) := by decide +kernel
theorem dX4_bestRoll_77 : decode cX4_bestRoll 77 = .ok (.ifCond .eq 8, 3) := by decide +kernel
theorem dX4_bestRoll_80 : decode cX4_bestRoll 80 = .ok (.iload 4, 2) := by decide +kernel
theorem dX4_bestRoll_82 : decode cX4_bestRoll 82 = .ok (.goto 4, 3) := by decide +kernel
theorem dX4_bestRoll_85 : decode cX4_bestRoll 85 = .ok (.iload_n 2, 1) := by decide +kernel
theorem dX4_bestRoll_86 : decode cX4_bestRoll 86 = .ok (.istore_n 2, 1) := by decide +kernel
theorem dX4_bestRoll_87 : decode cX4_bestRoll 87 = .ok (.iload 6, 2) := by decide +kernel
theorem dX4_bestRoll_89 : decode cX4_bestRoll 89 = .ok (.ifCond .eq 8, 3) := by decide +kernel
theorem dX4_bestRoll_92 : decode cX4_bestRoll 92 = .ok (.iload 5, 2) := by decide +kernel
theorem dX4_bestRoll_94 : decode cX4_bestRoll 94 = .ok (.goto 4, 3) := by decide +kernel
theorem dX4_bestRoll_97 : decode cX4_bestRoll 97 = .ok (.iload_n 3, 1) := by decide +kernel
theorem dX4_bestRoll_98 : decode cX4_bestRoll 98 = .ok (.istore_n 3, 1) := by decide +kernel
theorem dX4_bestRoll_99 : decode cX4_bestRoll 99 = .ok (.iinc 4 1, 3) := by decide +kernel
theorem dX4_bestRoll_102 : decode cX4_bestRoll 102 = .ok (.goto (-75), 3) := by decide +kernel
theorem dX4_bestRoll_105 : decode cX4_bestRoll 105 = .ok (.iload_n 2, 1) := by decide +kernel
theorem dX4_bestRoll_106 : decode cX4_bestRoll 106 = .ok (.ireturn, 1) := by decide +kernel
theorem dX4_quietRolls_0 : decode cX4_quietRolls 0 = .ok (.aload_n 0, 1) := by decide +kernel
theorem dX4_quietRolls_1 : decode cX4_quietRolls 1 = .ok (.getfield 7, 3) := by decide +kernel
theorem dX4_quietRolls_4 : decode cX4_quietRolls 4 = .ok (.iconst 1, 1) := by decide +kernel
theorem dX4_quietRolls_5 : decode cX4_quietRolls 5 = .ok (.iaload, 1) := by decide +kernel
theorem dX4_quietRolls_6 : decode cX4_quietRolls 6 = .ok (.ifCond .ne 6, 3) := by decide +kernel
theorem dX4_quietRolls_9 : decode cX4_quietRolls 9 = .ok (.bipush (-6), 2) := by decide +kernel
theorem dX4_quietRolls_11 : decode cX4_quietRolls 11 = .ok (.ireturn, 1) := by decide +kernel
theorem dX4_quietRolls_12 : decode cX4_quietRolls 12 = .ok (.iconst 0, 1) := by decide +kernel
theorem dX4_quietRolls_13 : decode cX4_quietRolls 13 = .ok (.istore_n 1, 1) := by decide +kernel
theorem dX4_quietRolls_14 : decode cX4_quietRolls 14 = .ok (.iconst 1, 1) := by decide +kernel
theorem dX4_quietRolls_15 : decode cX4_quietRolls 15 = .ok (.istore_n 2, 1) := by decide +kernel
theorem dX4_quietRolls_16 : decode cX4_quietRolls 16 = .ok (.iload_n 2, 1) := by decide +kernel
theorem dX4_quietRolls_17 : decode cX4_quietRolls 17 = .ok (.bipush 6, 2) := by decide +kernel
theorem dX4_quietRolls_19 : decode cX4_quietRolls 19 = .ok (.if_icmp .gt 27, 3) := by decide +kernel
theorem dX4_quietRolls_22 : decode cX4_quietRolls 22 = .ok (.iload_n 1, 1) := by decide +kernel
theorem dX4_quietRolls_23 : decode cX4_quietRolls 23 = .ok (.aload_n 0, 1) := by decide +kernel
theorem dX4_quietRolls_24 : decode cX4_quietRolls 24 = .ok (.iload_n 2, 1) := by decide +kernel
theorem dX4_quietRolls_25 : decode cX4_quietRolls 25 = .ok (.invokevirtual 104, 3) := by decide +kernel
theorem dX4_quietRolls_28 : decode cX4_quietRolls 28 = .ok (.ifCond .ne 9, 3) := by decide +kernel
theorem dX4_quietRolls_31 : decode cX4_quietRolls 31 = .ok (.iconst 1, 1) := by decide +kernel
theorem dX4_quietRolls_32 : decode cX4_quietRolls 32 = .ok (.iload_n 2, 1) := by decide +kernel
theorem dX4_quietRolls_33 : decode cX4_quietRolls 33 = .ok (.ishl, 1) := by decide +kernel
theorem dX4_quietRolls_34 : decode cX4_quietRolls 34 = .ok (.goto 4, 3) := by decide +kernel
theorem dX4_quietRolls_37 : decode cX4_quietRolls 37 = .ok (.iconst 0, 1) := by decide +kernel
theorem dX4_quietRolls_38 : decode cX4_quietRolls 38 = .ok (.ior, 1) := by decide +kernel
theorem dX4_quietRolls_39 : decode cX4_quietRolls 39 = .ok (.istore_n 1, 1) := by decide +kernel
theorem dX4_quietRolls_40 : decode cX4_quietRolls 40 = .ok (.iinc 2 1, 3) := by decide +kernel
theorem dX4_quietRolls_43 : decode cX4_quietRolls 43 = .ok (.goto (-27), 3) := by decide +kernel
theorem dX4_quietRolls_46 : decode cX4_quietRolls 46 = .ok (.iload_n 1, 1) := by decide +kernel
theorem dX4_quietRolls_47 : decode cX4_quietRolls 47 = .ok (.ireturn, 1) := by decide +kernel
theorem dX4_rollsToTop_0 : decode cX4_rollsToTop 0 = .ok (.aload_n 0, 1) := by decide +kernel
theorem dX4_rollsToTop_1 : decode cX4_rollsToTop 1 = .ok (.iload_n 1, 1) := by decide +kernel
theorem dX4_rollsToTop_2 : decode cX4_rollsToTop 2 = .ok (.invokevirtual 123, 3) := by decide +kernel
theorem dX4_rollsToTop_5 : decode cX4_rollsToTop 5 = .ok (.ifCond .ne 5, 3) := by decide +kernel
theorem dX4_rollsToTop_8 : decode cX4_rollsToTop 8 = .ok (.iconst (-1), 1) := by decide +kernel
theorem dX4_rollsToTop_9 : decode cX4_rollsToTop 9 = .ok (.ireturn, 1) := by decide +kernel
theorem dX4_rollsToTop_10 : decode cX4_rollsToTop 10 = .ok (.iconst 0, 1) := by decide +kernel
theorem dX4_rollsToTop_11 : decode cX4_rollsToTop 11 = .ok (.istore_n 2, 1) := by decide +kernel
theorem dX4_rollsToTop_12 : decode cX4_rollsToTop 12 = .ok (.iload_n 2, 1) := by decide +kernel
theorem dX4_rollsToTop_13 : decode cX4_rollsToTop 13 = .ok (.bipush 61, 2) := by decide +kernel
theorem dX4_rollsToTop_15 : decode cX4_rollsToTop 15 = .ok (.if_icmp .ge 17, 3) := by decide +kernel
theorem dX4_rollsToTop_18 : decode cX4_rollsToTop 18 = .ok (.aload_n 0, 1) := by decide +kernel
theorem dX4_rollsToTop_19 : decode cX4_rollsToTop 19 = .ok (.getfield 26, 3) := by decide +kernel
theorem dX4_rollsToTop_22 : decode cX4_rollsToTop 22 = .ok (.iload_n 2, 1) := by decide +kernel
theorem dX4_rollsToTop_23 : decode cX4_rollsToTop 23 = .ok (.bipush (-6), 2) := by decide +kernel
theorem dX4_rollsToTop_25 : decode cX4_rollsToTop 25 = .ok (.iastore, 1) := by decide +kernel
theorem dX4_rollsToTop_26 : decode cX4_rollsToTop 26 = .ok (.iinc 2 1, 3) := by decide +kernel
theorem dX4_rollsToTop_29 : decode cX4_rollsToTop 29 = .ok (.goto (-17), 3) := by decide +kernel
theorem dX4_rollsToTop_32 : decode cX4_rollsToTop 32 = .ok (.aload_n 0, 1) := by decide +kernel
theorem dX4_rollsToTop_33 : decode cX4_rollsToTop 33 = .ok (.getfield 26, 3) := by decide +kernel
theorem dX4_rollsToTop_36 : decode cX4_rollsToTop 36 = .ok (.aload_n 0, 1) := by decide +kernel
theorem dX4_rollsToTop_37 : decode cX4_rollsToTop 37 = .ok (.iload_n 1, 1) := by decide +kernel
theorem dX4_rollsToTop_38 : decode cX4_rollsToTop 38 = .ok (.iconst 0, 1) := by decide +kernel
theorem dX4_rollsToTop_39 : decode cX4_rollsToTop 39 = .ok (.invokevirtual 54, 3) := by decide +kernel
theorem dX4_rollsToTop_42 : decode cX4_rollsToTop 42 = .ok (.iconst 0, 1) := by decide +kernel
theorem dX4_rollsToTop_43 : decode cX4_rollsToTop 43 = .ok (.iastore, 1) := by decide +kernel
theorem dX4_rollsToTop_44 : decode cX4_rollsToTop 44 = .ok (.iconst 1, 1) := by decide +kernel
theorem dX4_rollsToTop_45 : decode cX4_rollsToTop 45 = .ok (.istore_n 2, 1) := by decide +kernel
theorem dX4_rollsToTop_46 : decode cX4_rollsToTop 46 = .ok (.iload_n 2, 1) := by decide +kernel
theorem dX4_rollsToTop_47 : decode cX4_rollsToTop 47 = .ok (.bipush 61, 2) := by decide +kernel
theorem dX4_rollsToTop_49 : decode cX4_rollsToTop 49 = .ok (.if_icmp .gt 132, 3) := by decide +kernel
theorem dX4_rollsToTop_52 : decode cX4_rollsToTop 52 = .ok (.iconst 0, 1) := by decide +kernel
theorem dX4_rollsToTop_53 : decode cX4_rollsToTop 53 = .ok (.istore_n 3, 1) := by decide +kernel
theorem dX4_rollsToTop_54 : decode cX4_rollsToTop 54 = .ok (.iload_n 3, 1) := by decide +kernel
theorem dX4_rollsToTop_55 : decode cX4_rollsToTop 55 = .ok (.aload_n 0, 1) := by decide +kernel
theorem dX4_rollsToTop_56 : decode cX4_rollsToTop 56 = .ok (.getfield 7, 3) := by decide +kernel
theorem dX4_rollsToTop_59 : decode cX4_rollsToTop 59 = .ok (.iconst 0, 1) := by decide +kernel
theorem dX4_rollsToTop_60 : decode cX4_rollsToTop 60 = .ok (.iaload, 1) := by decide +kernel
theorem dX4_rollsToTop_61 : decode cX4_rollsToTop 61 = .ok (.if_icmp .ge 114, 3) := by decide +kernel
theorem dX4_rollsToTop_64 : decode cX4_rollsToTop 64 = .ok (.iconst 1, 1) := by decide +kernel
theorem dX4_rollsToTop_65 : decode cX4_rollsToTop 65 = .ok (.istore 4, 2) := by decide +kernel
theorem dX4_rollsToTop_67 : decode cX4_rollsToTop 67 = .ok (.iload 4, 2) := by decide +kernel
theorem dX4_rollsToTop_69 : decode cX4_rollsToTop 69 = .ok (.bipush 6, 2) := by decide +kernel
theorem dX4_rollsToTop_71 : decode cX4_rollsToTop 71 = .ok (.if_icmp .gt 98, 3) := by decide +kernel
theorem dX4_rollsToTop_74 : decode cX4_rollsToTop 74 = .ok (.aload_n 0, 1) := by decide +kernel
theorem dX4_rollsToTop_75 : decode cX4_rollsToTop 75 = .ok (.getfield 26, 3) := by decide +kernel
theorem dX4_rollsToTop_78 : decode cX4_rollsToTop 78 = .ok (.iload_n 3, 1) := by decide +kernel
theorem dX4_rollsToTop_79 : decode cX4_rollsToTop 79 = .ok (.iaload, 1) := by decide +kernel
theorem dX4_rollsToTop_80 : decode cX4_rollsToTop 80 = .ok (.iload_n 2, 1) := by decide +kernel
theorem dX4_rollsToTop_81 : decode cX4_rollsToTop 81 = .ok (.iconst 1, 1) := by decide +kernel
theorem dX4_rollsToTop_82 : decode cX4_rollsToTop 82 = .ok (.isub, 1) := by decide +kernel
theorem dX4_rollsToTop_83 : decode cX4_rollsToTop 83 = .ok (.if_icmp .ne 86, 3) := by decide +kernel
theorem dX4_rollsToTop_86 : decode cX4_rollsToTop 86 = .ok (.iload_n 3, 1) := by decide +kernel
theorem dX4_rollsToTop_87 : decode cX4_rollsToTop 87 = .ok (.iload 4, 2) := by decide +kernel
theorem dX4_rollsToTop_89 : decode cX4_rollsToTop 89 = .ok (.iadd, 1) := by decide +kernel
theorem dX4_rollsToTop_90 : decode cX4_rollsToTop 90 = .ok (.istore 5, 2) := by decide +kernel
theorem dX4_rollsToTop_92 : decode cX4_rollsToTop 92 = .ok (.iload 5, 2) := by decide +kernel
theorem dX4_rollsToTop_94 : decode cX4_rollsToTop 94 = .ok (.aload_n 0, 1) := by decide +kernel
theorem dX4_rollsToTop_95 : decode cX4_rollsToTop 95 = .ok (.getfield 7, 3) := by decide +kernel
theorem dX4_rollsToTop_98 : decode cX4_rollsToTop 98 = .ok (.iconst 0, 1) := by decide +kernel
theorem dX4_rollsToTop_99 : decode cX4_rollsToTop 99 = .ok (.iaload, 1) := by decide +kernel
theorem dX4_rollsToTop_100 : decode cX4_rollsToTop 100 = .ok (.if_icmp .lt 5, 3) := by decide +kernel
theorem dX4_rollsToTop_103 : decode cX4_rollsToTop 103 = .ok (.iload_n 2, 1) := by decide +kernel
theorem dX4_rollsToTop_104 : decode cX4_rollsToTop 104 = .ok (.ireturn, 1) := by decide +kernel
theorem dX4_rollsToTop_105 : decode cX4_rollsToTop 105 = .ok (.aload_n 0, 1) := by decide +kernel
theorem dX4_rollsToTop_106 : decode cX4_rollsToTop 106 = .ok (.iload 5, 2) := by decide +kernel
theorem dX4_rollsToTop_108 : decode cX4_rollsToTop 108 = .ok (.invokevirtual 65, 3) := by decide +kernel
theorem dX4_rollsToTop_111 : decode cX4_rollsToTop 111 = .ok (.istore 6, 2) := by decide +kernel
theorem dX4_rollsToTop_113 : decode cX4_rollsToTop 113 = .ok (.iload 6, 2) := by decide +kernel
theorem dX4_rollsToTop_115 : decode cX4_rollsToTop 115 = .ok (.bipush (-6), 2) := by decide +kernel
theorem dX4_rollsToTop_117 : decode cX4_rollsToTop 117 = .ok (.if_icmp .ne 8, 3) := by decide +kernel
theorem dX4_rollsToTop_120 : decode cX4_rollsToTop 120 = .ok (.iload 5, 2) := by decide +kernel
theorem dX4_rollsToTop_122 : decode cX4_rollsToTop 122 = .ok (.goto 9, 3) := by decide +kernel
theorem dX4_rollsToTop_125 : decode cX4_rollsToTop 125 = .ok (.aload_n 0, 1) := by decide +kernel
theorem dX4_rollsToTop_126 : decode cX4_rollsToTop 126 = .ok (.iload 6, 2) := by decide +kernel
theorem dX4_rollsToTop_128 : decode cX4_rollsToTop 128 = .ok (.invokevirtual 51, 3) := by decide +kernel
theorem dX4_rollsToTop_131 : decode cX4_rollsToTop 131 = .ok (.istore 5, 2) := by decide +kernel
theorem dX4_rollsToTop_133 : decode cX4_rollsToTop 133 = .ok (.aload_n 0, 1) := by decide +kernel
theorem dX4_rollsToTop_134 : decode cX4_rollsToTop 134 = .ok (.getfield 26, 3) := by decide +kernel
theorem dX4_rollsToTop_137 : decode cX4_rollsToTop 137 = .ok (.iload 5, 2) := by decide +kernel
theorem dX4_rollsToTop_139 : decode cX4_rollsToTop 139 = .ok (.aload_n 0, 1) := by decide +kernel
theorem dX4_rollsToTop_140 : decode cX4_rollsToTop 140 = .ok (.getfield 26, 3) := by decide +kernel
theorem dX4_rollsToTop_143 : decode cX4_rollsToTop 143 = .ok (.iload 5, 2) := by decide +kernel
theorem dX4_rollsToTop_145 : decode cX4_rollsToTop 145 = .ok (.iaload, 1) := by decide +kernel
theorem dX4_rollsToTop_146 : decode cX4_rollsToTop 146 = .ok (.bipush (-6), 2) := by decide +kernel
theorem dX4_rollsToTop_148 : decode cX4_rollsToTop 148 = .ok (.if_icmp .ne 7, 3) := by decide +kernel
theorem dX4_rollsToTop_151 : decode cX4_rollsToTop 151 = .ok (.iload_n 2, 1) := by decide +kernel
theorem dX4_rollsToTop_152 : decode cX4_rollsToTop 152 = .ok (.goto 10, 3) := by decide +kernel
theorem dX4_rollsToTop_155 : decode cX4_rollsToTop 155 = .ok (.aload_n 0, 1) := by decide +kernel
theorem dX4_rollsToTop_156 : decode cX4_rollsToTop 156 = .ok (.getfield 26, 3) := by decide +kernel
theorem dX4_rollsToTop_159 : decode cX4_rollsToTop 159 = .ok (.iload 5, 2) := by decide +kernel
theorem dX4_rollsToTop_161 : decode cX4_rollsToTop 161 = .ok (.iaload, 1) := by decide +kernel
theorem dX4_rollsToTop_162 : decode cX4_rollsToTop 162 = .ok (.iastore, 1) := by decide +kernel
theorem dX4_rollsToTop_163 : decode cX4_rollsToTop 163 = .ok (.iinc 4 1, 3) := by decide +kernel
theorem dX4_rollsToTop_166 : decode cX4_rollsToTop 166 = .ok (.goto (-99), 3) := by decide +kernel
theorem dX4_rollsToTop_169 : decode cX4_rollsToTop 169 = .ok (.iinc 3 1, 3) := by decide +kernel
theorem dX4_rollsToTop_172 : decode cX4_rollsToTop 172 = .ok (.goto (-118), 3) := by decide +kernel
theorem dX4_rollsToTop_175 : decode cX4_rollsToTop 175 = .ok (.iinc 2 1, 3) := by decide +kernel
theorem dX4_rollsToTop_178 : decode cX4_rollsToTop 178 = .ok (.goto (-132), 3) := by decide +kernel
theorem dX4_rollsToTop_181 : decode cX4_rollsToTop 181 = .ok (.bipush (-6), 2) := by decide +kernel
theorem dX4_rollsToTop_183 : decode cX4_rollsToTop 183 = .ok (.ireturn, 1) := by decide +kernel
theorem dX4_append_0 : decode cX4_append 0 = .ok (.iload_n 1, 1) := by decide +kernel
theorem dX4_append_1 : decode cX4_append 1 = .ok (.bipush 33, 2) := by decide +kernel
theorem dX4_append_3 : decode cX4_append 3 = .ok (.bipush 126, 2) := by decide +kernel
theorem dX4_append_5 : decode cX4_append 5 = .ok (.invokestatic 43, 3) := by decide +kernel
theorem dX4_append_8 : decode cX4_append 8 = .ok (.ifCond .ne 6, 3) := by decide +kernel
theorem dX4_append_11 : decode cX4_append 11 = .ok (.bipush (-2), 2) := by decide +kernel
theorem dX4_append_13 : decode cX4_append 13 = .ok (.ireturn, 1) := by decide +kernel
theorem dX4_append_14 : decode cX4_append 14 = .ok (.aload_n 0, 1) := by decide +kernel
theorem dX4_append_15 : decode cX4_append 15 = .ok (.getfield 144, 3) := by decide +kernel
theorem dX4_append_18 : decode cX4_append 18 = .ok (.bipush 60, 2) := by decide +kernel
theorem dX4_append_20 : decode cX4_append 20 = .ok (.if_icmp .ne 6, 3) := by decide +kernel
theorem dX4_append_23 : decode cX4_append 23 = .ok (.bipush (-4), 2) := by decide +kernel
theorem dX4_append_25 : decode cX4_append 25 = .ok (.ireturn, 1) := by decide +kernel
theorem dX4_append_26 : decode cX4_append 26 = .ok (.aload_n 0, 1) := by decide +kernel
theorem dX4_append_27 : decode cX4_append 27 = .ok (.getfield 22, 3) := by decide +kernel
theorem dX4_append_30 : decode cX4_append 30 = .ok (.aload_n 0, 1) := by decide +kernel
theorem dX4_append_31 : decode cX4_append 31 = .ok (.getfield 144, 3) := by decide +kernel
theorem dX4_append_34 : decode cX4_append 34 = .ok (.iload_n 1, 1) := by decide +kernel
theorem dX4_append_35 : decode cX4_append 35 = .ok (.i2c, 1) := by decide +kernel
theorem dX4_append_36 : decode cX4_append 36 = .ok (.castore, 1) := by decide +kernel
theorem dX4_append_37 : decode cX4_append 37 = .ok (.aload_n 0, 1) := by decide +kernel
theorem dX4_append_38 : decode cX4_append 38 = .ok (.dup, 1) := by decide +kernel
theorem dX4_append_39 : decode cX4_append 39 = .ok (.getfield 144, 3) := by decide +kernel
theorem dX4_append_42 : decode cX4_append 42 = .ok (.iconst 1, 1) := by decide +kernel
theorem dX4_append_43 : decode cX4_append 43 = .ok (.iadd, 1) := by decide +kernel
theorem dX4_append_44 : decode cX4_append 44 = .ok (.putfield 144, 3) := by decide +kernel
theorem dX4_append_47 : decode cX4_append 47 = .ok (.aload_n 0, 1) := by decide +kernel
theorem dX4_append_48 : decode cX4_append 48 = .ok (.getfield 144, 3) := by decide +kernel
theorem dX4_append_51 : decode cX4_append 51 = .ok (.ireturn, 1) := by decide +kernel
theorem dX4_clearText_0 : decode cX4_clearText 0 = .ok (.aload_n 0, 1) := by decide +kernel
theorem dX4_clearText_1 : decode cX4_clearText 1 = .ok (.getfield 144, 3) := by decide +kernel
theorem dX4_clearText_4 : decode cX4_clearText 4 = .ok (.istore_n 1, 1) := by decide +kernel
theorem dX4_clearText_5 : decode cX4_clearText 5 = .ok (.aload_n 0, 1) := by decide +kernel
theorem dX4_clearText_6 : decode cX4_clearText 6 = .ok (.iconst 0, 1) := by decide +kernel
theorem dX4_clearText_7 : decode cX4_clearText 7 = .ok (.putfield 144, 3) := by decide +kernel
theorem dX4_clearText_10 : decode cX4_clearText 10 = .ok (.iload_n 1, 1) := by decide +kernel
theorem dX4_clearText_11 : decode cX4_clearText 11 = .ok (.ireturn, 1) := by decide +kernel
theorem dX4_letter_0 : decode cX4_letter 0 = .ok (.aload_n 0, 1) := by decide +kernel
theorem dX4_letter_1 : decode cX4_letter 1 = .ok (.getfield 147, 3) := by decide +kernel
theorem dX4_letter_4 : decode cX4_letter 4 = .ok (.aload_n 0, 1) := by decide +kernel
theorem dX4_letter_5 : decode cX4_letter 5 = .ok (.getfield 144, 3) := by decide +kernel
theorem dX4_letter_8 : decode cX4_letter 8 = .ok (.if_icmp .ge 15, 3) := by decide +kernel
theorem dX4_letter_11 : decode cX4_letter 11 = .ok (.aload_n 0, 1) := by decide +kernel
theorem dX4_letter_12 : decode cX4_letter 12 = .ok (.getfield 22, 3) := by decide +kernel
theorem dX4_letter_15 : decode cX4_letter 15 = .ok (.aload_n 0, 1) := by decide +kernel
theorem dX4_letter_16 : decode cX4_letter 16 = .ok (.getfield 147, 3) := by decide +kernel
theorem dX4_letter_19 : decode cX4_letter 19 = .ok (.caload, 1) := by decide +kernel
theorem dX4_letter_20 : decode cX4_letter 20 = .ok (.goto 5, 3) := by decide +kernel
theorem dX4_letter_23 : decode cX4_letter 23 = .ok (.bipush (-6), 2) := by decide +kernel
theorem dX4_letter_25 : decode cX4_letter 25 = .ok (.ireturn, 1) := by decide +kernel
theorem dX4_wants_0 : decode cX4_wants 0 = .ok (.aload_n 0, 1) := by decide +kernel
theorem dX4_wants_1 : decode cX4_wants 1 = .ok (.getfield 150, 3) := by decide +kernel
theorem dX4_wants_4 : decode cX4_wants 4 = .ok (.bipush (-6), 2) := by decide +kernel
theorem dX4_wants_6 : decode cX4_wants 6 = .ok (.if_icmp .ne 30, 3) := by decide +kernel
theorem dX4_wants_9 : decode cX4_wants 9 = .ok (.aload_n 0, 1) := by decide +kernel
theorem dX4_wants_10 : decode cX4_wants 10 = .ok (.iload_n 1, 1) := by decide +kernel
theorem dX4_wants_11 : decode cX4_wants 11 = .ok (.ifCond .eq 8, 3) := by decide +kernel
theorem dX4_wants_14 : decode cX4_wants 14 = .ok (.bipush (-6), 2) := by decide +kernel
theorem dX4_wants_16 : decode cX4_wants 16 = .ok (.goto 7, 3) := by decide +kernel
theorem dX4_wants_19 : decode cX4_wants 19 = .ok (.aload_n 0, 1) := by decide +kernel
theorem dX4_wants_20 : decode cX4_wants 20 = .ok (.getfield 147, 3) := by decide +kernel
theorem dX4_wants_23 : decode cX4_wants 23 = .ok (.putfield 150, 3) := by decide +kernel
theorem dX4_wants_26 : decode cX4_wants 26 = .ok (.aload_n 0, 1) := by decide +kernel
theorem dX4_wants_27 : decode cX4_wants 27 = .ok (.dup, 1) := by decide +kernel
theorem dX4_wants_28 : decode cX4_wants 28 = .ok (.getfield 147, 3) := by decide +kernel
theorem dX4_wants_31 : decode cX4_wants 31 = .ok (.iconst 1, 1) := by decide +kernel
theorem dX4_wants_32 : decode cX4_wants 32 = .ok (.iadd, 1) := by decide +kernel
theorem dX4_wants_33 : decode cX4_wants 33 = .ok (.putfield 147, 3) := by decide +kernel
theorem dX4_wants_36 : decode cX4_wants 36 = .ok (.return_, 1) := by decide +kernel
theorem dX4_number_0 : decode cX4_number 0 = .ok (.aload_n 0, 1) := by decide +kernel
theorem dX4_number_1 : decode cX4_number 1 = .ok (.invokevirtual 153, 3) := by decide +kernel
theorem dX4_number_4 : decode cX4_number 4 = .ok (.bipush 48, 2) := by decide +kernel
theorem dX4_number_6 : decode cX4_number 6 = .ok (.isub, 1) := by decide +kernel
theorem dX4_number_7 : decode cX4_number 7 = .ok (.istore_n 1, 1) := by decide +kernel
theorem dX4_number_8 : decode cX4_number 8 = .ok (.aload_n 0, 1) := by decide +kernel
theorem dX4_number_9 : decode cX4_number 9 = .ok (.iload_n 1, 1) := by decide +kernel
theorem dX4_number_10 : decode cX4_number 10 = .ok (.iconst 0, 1) := by decide +kernel
theorem dX4_number_11 : decode cX4_number 11 = .ok (.bipush 9, 2) := by decide +kernel
theorem dX4_number_13 : decode cX4_number 13 = .ok (.invokestatic 43, 3) := by decide +kernel
theorem dX4_number_16 : decode cX4_number 16 = .ok (.invokevirtual 156, 3) := by decide +kernel
theorem dX4_number_19 : decode cX4_number 19 = .ok (.aload_n 0, 1) := by decide +kernel
theorem dX4_number_20 : decode cX4_number 20 = .ok (.invokevirtual 153, 3) := by decide +kernel
theorem dX4_number_23 : decode cX4_number 23 = .ok (.bipush 48, 2) := by decide +kernel
theorem dX4_number_25 : decode cX4_number 25 = .ok (.isub, 1) := by decide +kernel
theorem dX4_number_26 : decode cX4_number 26 = .ok (.istore_n 2, 1) := by decide +kernel
theorem dX4_number_27 : decode cX4_number 27 = .ok (.aload_n 0, 1) := by decide +kernel
theorem dX4_number_28 : decode cX4_number 28 = .ok (.getfield 150, 3) := by decide +kernel
theorem dX4_number_31 : decode cX4_number 31 = .ok (.bipush (-6), 2) := by decide +kernel
theorem dX4_number_33 : decode cX4_number 33 = .ok (.if_icmp .ne 34, 3) := by decide +kernel
theorem dX4_number_36 : decode cX4_number 36 = .ok (.iload_n 1, 1) := by decide +kernel
theorem dX4_number_37 : decode cX4_number 37 = .ok (.ifCond .le 30, 3) := by decide +kernel
theorem dX4_number_40 : decode cX4_number 40 = .ok (.iload_n 2, 1) := by decide +kernel
theorem dX4_number_41 : decode cX4_number 41 = .ok (.iconst 0, 1) := by decide +kernel
theorem dX4_number_42 : decode cX4_number 42 = .ok (.bipush 9, 2) := by decide +kernel
theorem dX4_number_44 : decode cX4_number 44 = .ok (.invokestatic 43, 3) := by decide +kernel
theorem dX4_number_47 : decode cX4_number 47 = .ok (.ifCond .eq 20, 3) := by decide +kernel
theorem dX4_number_50 : decode cX4_number 50 = .ok (.aload_n 0, 1) := by decide +kernel
theorem dX4_number_51 : decode cX4_number 51 = .ok (.dup, 1) := by decide +kernel
theorem dX4_number_52 : decode cX4_number 52 = .ok (.getfield 147, 3) := by decide +kernel
theorem dX4_number_55 : decode cX4_number 55 = .ok (.iconst 1, 1) := by decide +kernel
theorem dX4_number_56 : decode cX4_number 56 = .ok (.iadd, 1) := by decide +kernel
theorem dX4_number_57 : decode cX4_number 57 = .ok (.putfield 147, 3) := by decide +kernel
theorem dX4_number_60 : decode cX4_number 60 = .ok (.bipush 10, 2) := by decide +kernel
theorem dX4_number_62 : decode cX4_number 62 = .ok (.iload_n 1, 1) := by decide +kernel
theorem dX4_number_63 : decode cX4_number 63 = .ok (.imul, 1) := by decide +kernel
theorem dX4_number_64 : decode cX4_number 64 = .ok (.iload_n 2, 1) := by decide +kernel
theorem dX4_number_65 : decode cX4_number 65 = .ok (.iadd, 1) := by decide +kernel
theorem dX4_number_66 : decode cX4_number 66 = .ok (.ireturn, 1) := by decide +kernel
theorem dX4_number_67 : decode cX4_number 67 = .ok (.iload_n 1, 1) := by decide +kernel
theorem dX4_number_68 : decode cX4_number 68 = .ok (.ireturn, 1) := by decide +kernel
theorem dX4_readMove_0 : decode cX4_readMove 0 = .ok (.aload_n 0, 1) := by decide +kernel
theorem dX4_readMove_1 : decode cX4_readMove 1 = .ok (.invokevirtual 153, 3) := by decide +kernel
theorem dX4_readMove_4 : decode cX4_readMove 4 = .ok (.istore_n 1, 1) := by decide +kernel
theorem dX4_readMove_5 : decode cX4_readMove 5 = .ok (.aload_n 0, 1) := by decide +kernel
theorem dX4_readMove_6 : decode cX4_readMove 6 = .ok (.iload_n 1, 1) := by decide +kernel
theorem dX4_readMove_7 : decode cX4_readMove 7 = .ok (.bipush 49, 2) := by decide +kernel
theorem dX4_readMove_9 : decode cX4_readMove 9 = .ok (.bipush 54, 2) := by decide +kernel
theorem dX4_readMove_11 : decode cX4_readMove 11 = .ok (.invokestatic 43, 3) := by decide +kernel
theorem dX4_readMove_14 : decode cX4_readMove 14 = .ok (.ifCond .ne 27, 3) := by decide +kernel
theorem dX4_readMove_17 : decode cX4_readMove 17 = .ok (.iload_n 1, 1) := by decide +kernel
theorem dX4_readMove_18 : decode cX4_readMove 18 = .ok (.bipush 112, 2) := by decide +kernel
theorem dX4_readMove_20 : decode cX4_readMove 20 = .ok (.if_icmp .eq 21, 3) := by decide +kernel
theorem dX4_readMove_23 : decode cX4_readMove 23 = .ok (.iload_n 1, 1) := by decide +kernel
theorem dX4_readMove_24 : decode cX4_readMove 24 = .ok (.bipush 106, 2) := by decide +kernel
theorem dX4_readMove_26 : decode cX4_readMove 26 = .ok (.if_icmp .eq 15, 3) := by decide +kernel
theorem dX4_readMove_29 : decode cX4_readMove 29 = .ok (.iload_n 1, 1) := by decide +kernel
theorem dX4_readMove_30 : decode cX4_readMove 30 = .ok (.bipush 99, 2) := by decide +kernel
theorem dX4_readMove_32 : decode cX4_readMove 32 = .ok (.if_icmp .eq 9, 3) := by decide +kernel
theorem dX4_readMove_35 : decode cX4_readMove 35 = .ok (.iload_n 1, 1) := by decide +kernel
theorem dX4_readMove_36 : decode cX4_readMove 36 = .ok (.bipush 108, 2) := by decide +kernel
theorem dX4_readMove_38 : decode cX4_readMove 38 = .ok (.if_icmp .ne 7, 3) := by decide +kernel
theorem dX4_readMove_41 : decode cX4_readMove 41 = .ok (.iconst 1, 1) := by decide +kernel
theorem dX4_readMove_42 : decode cX4_readMove 42 = .ok (.goto 4, 3) := by decide +kernel
theorem dX4_readMove_45 : decode cX4_readMove 45 = .ok (.iconst 0, 1) := by decide +kernel
theorem dX4_readMove_46 : decode cX4_readMove 46 = .ok (.invokevirtual 156, 3) := by decide +kernel
theorem dX4_readMove_49 : decode cX4_readMove 49 = .ok (.iconst 3, 1) := by decide +kernel
theorem dX4_readMove_50 : decode cX4_readMove 50 = .ok (.aload_n 0, 1) := by decide +kernel
theorem dX4_readMove_51 : decode cX4_readMove 51 = .ok (.getfield 160, 3) := by decide +kernel
theorem dX4_readMove_54 : decode cX4_readMove 54 = .ok (.imul, 1) := by decide +kernel
theorem dX4_readMove_55 : decode cX4_readMove 55 = .ok (.istore_n 2, 1) := by decide +kernel
theorem dX4_readMove_56 : decode cX4_readMove 56 = .ok (.aload_n 0, 1) := by decide +kernel
theorem dX4_readMove_57 : decode cX4_readMove 57 = .ok (.getfield 29, 3) := by decide +kernel
theorem dX4_readMove_60 : decode cX4_readMove 60 = .ok (.iload_n 2, 1) := by decide +kernel
theorem dX4_readMove_61 : decode cX4_readMove 61 = .ok (.iload_n 1, 1) := by decide +kernel
theorem dX4_readMove_62 : decode cX4_readMove 62 = .ok (.iastore, 1) := by decide +kernel
theorem dX4_readMove_63 : decode cX4_readMove 63 = .ok (.iload_n 1, 1) := by decide +kernel
theorem dX4_readMove_64 : decode cX4_readMove 64 = .ok (.bipush 99, 2) := by decide +kernel
theorem dX4_readMove_66 : decode cX4_readMove 66 = .ok (.if_icmp .eq 9, 3) := by decide +kernel
theorem dX4_readMove_69 : decode cX4_readMove 69 = .ok (.iload_n 1, 1) := by decide +kernel
theorem dX4_readMove_70 : decode cX4_readMove 70 = .ok (.bipush 108, 2) := by decide +kernel
theorem dX4_readMove_72 : decode cX4_readMove 72 = .ok (.if_icmp .ne 15, 3) := by decide +kernel
theorem dX4_readMove_75 : decode cX4_readMove 75 = .ok (.aload_n 0, 1) := by decide +kernel
theorem dX4_readMove_76 : decode cX4_readMove 76 = .ok (.getfield 29, 3) := by decide +kernel
theorem dX4_readMove_79 : decode cX4_readMove 79 = .ok (.iload_n 2, 1) := by decide +kernel
theorem dX4_readMove_80 : decode cX4_readMove 80 = .ok (.iconst 1, 1) := by decide +kernel
theorem dX4_readMove_81 : decode cX4_readMove 81 = .ok (.iadd, 1) := by decide +kernel
theorem dX4_readMove_82 : decode cX4_readMove 82 = .ok (.aload_n 0, 1) := by decide +kernel
theorem dX4_readMove_83 : decode cX4_readMove 83 = .ok (.invokevirtual 163, 3) := by decide +kernel
theorem dX4_readMove_86 : decode cX4_readMove 86 = .ok (.iastore, 1) := by decide +kernel
theorem dX4_readMove_87 : decode cX4_readMove 87 = .ok (.iload_n 1, 1) := by decide +kernel
theorem dX4_readMove_88 : decode cX4_readMove 88 = .ok (.bipush 99, 2) := by decide +kernel
theorem dX4_readMove_90 : decode cX4_readMove 90 = .ok (.if_icmp .ne 33, 3) := by decide +kernel
theorem dX4_readMove_93 : decode cX4_readMove 93 = .ok (.aload_n 0, 1) := by decide +kernel
theorem dX4_readMove_94 : decode cX4_readMove 94 = .ok (.aload_n 0, 1) := by decide +kernel
theorem dX4_readMove_95 : decode cX4_readMove 95 = .ok (.invokevirtual 153, 3) := by decide +kernel
theorem dX4_readMove_98 : decode cX4_readMove 98 = .ok (.bipush 62, 2) := by decide +kernel
theorem dX4_readMove_100 : decode cX4_readMove 100 = .ok (.if_icmp .ne 7, 3) := by decide +kernel
theorem dX4_readMove_103 : decode cX4_readMove 103 = .ok (.iconst 1, 1) := by decide +kernel
theorem dX4_readMove_104 : decode cX4_readMove 104 = .ok (.goto 4, 3) := by decide +kernel
theorem dX4_readMove_107 : decode cX4_readMove 107 = .ok (.iconst 0, 1) := by decide +kernel
theorem dX4_readMove_108 : decode cX4_readMove 108 = .ok (.invokevirtual 156, 3) := by decide +kernel
theorem dX4_readMove_111 : decode cX4_readMove 111 = .ok (.aload_n 0, 1) := by decide +kernel
theorem dX4_readMove_112 : decode cX4_readMove 112 = .ok (.getfield 29, 3) := by decide +kernel
theorem dX4_readMove_115 : decode cX4_readMove 115 = .ok (.iload_n 2, 1) := by decide +kernel
theorem dX4_readMove_116 : decode cX4_readMove 116 = .ok (.iconst 2, 1) := by decide +kernel
theorem dX4_readMove_117 : decode cX4_readMove 117 = .ok (.iadd, 1) := by decide +kernel
theorem dX4_readMove_118 : decode cX4_readMove 118 = .ok (.aload_n 0, 1) := by decide +kernel
theorem dX4_readMove_119 : decode cX4_readMove 119 = .ok (.invokevirtual 163, 3) := by decide +kernel
theorem dX4_readMove_122 : decode cX4_readMove 122 = .ok (.iastore, 1) := by decide +kernel
theorem dX4_readMove_123 : decode cX4_readMove 123 = .ok (.aload_n 0, 1) := by decide +kernel
theorem dX4_readMove_124 : decode cX4_readMove 124 = .ok (.dup, 1) := by decide +kernel
theorem dX4_readMove_125 : decode cX4_readMove 125 = .ok (.getfield 160, 3) := by decide +kernel
theorem dX4_readMove_128 : decode cX4_readMove 128 = .ok (.iconst 1, 1) := by decide +kernel
theorem dX4_readMove_129 : decode cX4_readMove 129 = .ok (.iadd, 1) := by decide +kernel
theorem dX4_readMove_130 : decode cX4_readMove 130 = .ok (.putfield 160, 3) := by decide +kernel
theorem dX4_readMove_133 : decode cX4_readMove 133 = .ok (.return_, 1) := by decide +kernel
theorem dX4_errorPosition_0 : decode cX4_errorPosition 0 = .ok (.aload_n 0, 1) := by decide +kernel
theorem dX4_errorPosition_1 : decode cX4_errorPosition 1 = .ok (.iconst 0, 1) := by decide +kernel
theorem dX4_errorPosition_2 : decode cX4_errorPosition 2 = .ok (.putfield 160, 3) := by decide +kernel
theorem dX4_errorPosition_5 : decode cX4_errorPosition 5 = .ok (.aload_n 0, 1) := by decide +kernel
theorem dX4_errorPosition_6 : decode cX4_errorPosition 6 = .ok (.iconst 0, 1) := by decide +kernel
theorem dX4_errorPosition_7 : decode cX4_errorPosition 7 = .ok (.putfield 147, 3) := by decide +kernel
theorem dX4_errorPosition_10 : decode cX4_errorPosition 10 = .ok (.aload_n 0, 1) := by decide +kernel
theorem dX4_errorPosition_11 : decode cX4_errorPosition 11 = .ok (.bipush (-6), 2) := by decide +kernel
theorem dX4_errorPosition_13 : decode cX4_errorPosition 13 = .ok (.putfield 150, 3) := by decide +kernel
theorem dX4_errorPosition_16 : decode cX4_errorPosition 16 = .ok (.iconst 1, 1) := by decide +kernel
theorem dX4_errorPosition_17 : decode cX4_errorPosition 17 = .ok (.istore_n 1, 1) := by decide +kernel
theorem dX4_errorPosition_18 : decode cX4_errorPosition 18 = .ok (.iload_n 1, 1) := by decide +kernel
theorem dX4_errorPosition_19 : decode cX4_errorPosition 19 = .ok (.ifCond .eq 73, 3) := by decide +kernel
theorem dX4_errorPosition_22 : decode cX4_errorPosition 22 = .ok (.aload_n 0, 1) := by decide +kernel
theorem dX4_errorPosition_23 : decode cX4_errorPosition 23 = .ok (.invokevirtual 166, 3) := by decide +kernel
theorem dX4_errorPosition_26 : decode cX4_errorPosition 26 = .ok (.aload_n 0, 1) := by decide +kernel
theorem dX4_errorPosition_27 : decode cX4_errorPosition 27 = .ok (.getfield 150, 3) := by decide +kernel
theorem dX4_errorPosition_30 : decode cX4_errorPosition 30 = .ok (.bipush (-6), 2) := by decide +kernel
theorem dX4_errorPosition_32 : decode cX4_errorPosition 32 = .ok (.if_icmp .ne 18, 3) := by decide +kernel
theorem dX4_errorPosition_35 : decode cX4_errorPosition 35 = .ok (.aload_n 0, 1) := by decide +kernel
theorem dX4_errorPosition_36 : decode cX4_errorPosition 36 = .ok (.getfield 147, 3) := by decide +kernel
theorem dX4_errorPosition_39 : decode cX4_errorPosition 39 = .ok (.aload_n 0, 1) := by decide +kernel
theorem dX4_errorPosition_40 : decode cX4_errorPosition 40 = .ok (.getfield 144, 3) := by decide +kernel
theorem dX4_errorPosition_43 : decode cX4_errorPosition 43 = .ok (.if_icmp .ge 7, 3) := by decide +kernel
theorem dX4_errorPosition_46 : decode cX4_errorPosition 46 = .ok (.iconst 1, 1) := by decide +kernel
theorem dX4_errorPosition_47 : decode cX4_errorPosition 47 = .ok (.goto 4, 3) := by decide +kernel
theorem dX4_errorPosition_50 : decode cX4_errorPosition 50 = .ok (.iconst 0, 1) := by decide +kernel
theorem dX4_errorPosition_51 : decode cX4_errorPosition 51 = .ok (.istore_n 1, 1) := by decide +kernel
theorem dX4_errorPosition_52 : decode cX4_errorPosition 52 = .ok (.iload_n 1, 1) := by decide +kernel
theorem dX4_errorPosition_53 : decode cX4_errorPosition 53 = .ok (.ifCond .eq (-35), 3) := by decide +kernel
theorem dX4_errorPosition_56 : decode cX4_errorPosition 56 = .ok (.aload_n 0, 1) := by decide +kernel
theorem dX4_errorPosition_57 : decode cX4_errorPosition 57 = .ok (.aload_n 0, 1) := by decide +kernel
theorem dX4_errorPosition_58 : decode cX4_errorPosition 58 = .ok (.invokevirtual 153, 3) := by decide +kernel
theorem dX4_errorPosition_61 : decode cX4_errorPosition 61 = .ok (.bipush 44, 2) := by decide +kernel
theorem dX4_errorPosition_63 : decode cX4_errorPosition 63 = .ok (.if_icmp .ne 7, 3) := by decide +kernel
theorem dX4_errorPosition_66 : decode cX4_errorPosition 66 = .ok (.iconst 1, 1) := by decide +kernel
theorem dX4_errorPosition_67 : decode cX4_errorPosition 67 = .ok (.goto 4, 3) := by decide +kernel
theorem dX4_errorPosition_70 : decode cX4_errorPosition 70 = .ok (.iconst 0, 1) := by decide +kernel
theorem dX4_errorPosition_71 : decode cX4_errorPosition 71 = .ok (.invokevirtual 156, 3) := by decide +kernel
theorem dX4_errorPosition_74 : decode cX4_errorPosition 74 = .ok (.aload_n 0, 1) := by decide +kernel
theorem dX4_errorPosition_75 : decode cX4_errorPosition 75 = .ok (.getfield 150, 3) := by decide +kernel
theorem dX4_errorPosition_78 : decode cX4_errorPosition 78 = .ok (.bipush (-6), 2) := by decide +kernel
theorem dX4_errorPosition_80 : decode cX4_errorPosition 80 = .ok (.if_icmp .ne 7, 3) := by decide +kernel
theorem dX4_errorPosition_83 : decode cX4_errorPosition 83 = .ok (.iconst 1, 1) := by decide +kernel
theorem dX4_errorPosition_84 : decode cX4_errorPosition 84 = .ok (.goto 4, 3) := by decide +kernel
theorem dX4_errorPosition_87 : decode cX4_errorPosition 87 = .ok (.iconst 0, 1) := by decide +kernel
theorem dX4_errorPosition_88 : decode cX4_errorPosition 88 = .ok (.istore_n 1, 1) := by decide +kernel
theorem dX4_errorPosition_89 : decode cX4_errorPosition 89 = .ok (.goto (-71), 3) := by decide +kernel
theorem dX4_errorPosition_92 : decode cX4_errorPosition 92 = .ok (.aload_n 0, 1) := by decide +kernel
theorem dX4_errorPosition_93 : decode cX4_errorPosition 93 = .ok (.getfield 150, 3) := by decide +kernel
theorem dX4_errorPosition_96 : decode cX4_errorPosition 96 = .ok (.ireturn, 1) := by decide +kernel
theorem dX4_makeOne_0 : decode cX4_makeOne 0 = .ok (.aload_n 0, 1) := by decide +kernel
theorem dX4_makeOne_1 : decode cX4_makeOne 1 = .ok (.getfield 29, 3) := by decide +kernel
theorem dX4_makeOne_4 : decode cX4_makeOne 4 = .ok (.iload_n 1, 1) := by decide +kernel
theorem dX4_makeOne_5 : decode cX4_makeOne 5 = .ok (.iconst 1, 1) := by decide +kernel
theorem dX4_makeOne_6 : decode cX4_makeOne 6 = .ok (.iadd, 1) := by decide +kernel
theorem dX4_makeOne_7 : decode cX4_makeOne 7 = .ok (.iaload, 1) := by decide +kernel
theorem dX4_makeOne_8 : decode cX4_makeOne 8 = .ok (.istore_n 2, 1) := by decide +kernel
theorem dX4_makeOne_9 : decode cX4_makeOne 9 = .ok (.aload_n 0, 1) := by decide +kernel
theorem dX4_makeOne_10 : decode cX4_makeOne 10 = .ok (.getfield 29, 3) := by decide +kernel
theorem dX4_makeOne_13 : decode cX4_makeOne 13 = .ok (.iload_n 1, 1) := by decide +kernel
theorem dX4_makeOne_14 : decode cX4_makeOne 14 = .ok (.iconst 2, 1) := by decide +kernel
theorem dX4_makeOne_15 : decode cX4_makeOne 15 = .ok (.iadd, 1) := by decide +kernel
theorem dX4_makeOne_16 : decode cX4_makeOne 16 = .ok (.iaload, 1) := by decide +kernel
theorem dX4_makeOne_17 : decode cX4_makeOne 17 = .ok (.istore_n 3, 1) := by decide +kernel
theorem dX4_makeOne_18 : decode cX4_makeOne 18 = .ok (.iconst 0, 1) := by decide +kernel
theorem dX4_makeOne_19 : decode cX4_makeOne 19 = .ok (.istore 4, 2) := by decide +kernel
theorem dX4_makeOne_21 : decode cX4_makeOne 21 = .ok (.aload_n 0, 1) := by decide +kernel
theorem dX4_makeOne_22 : decode cX4_makeOne 22 = .ok (.getfield 29, 3) := by decide +kernel
theorem dX4_makeOne_25 : decode cX4_makeOne 25 = .ok (.iload_n 1, 1) := by decide +kernel
theorem dX4_makeOne_26 : decode cX4_makeOne 26 = .ok (.iaload, 1) := by decide +kernel
theorem dX4_makeOne_27 : decode cX4_makeOne 27 = .ok (.lookupswitch 146 #[(99, 102), (106, 70), (108, 125), (112, 41)], 41) := by decide +kernel
theorem dX4_makeOne_68 : decode cX4_makeOne 68 = .ok (.aload_n 0, 1) := by decide +kernel
theorem dX4_makeOne_69 : decode cX4_makeOne 69 = .ok (.getfield 7, 3) := by decide +kernel
theorem dX4_makeOne_72 : decode cX4_makeOne 72 = .ok (.iconst 1, 1) := by decide +kernel
theorem dX4_makeOne_73 : decode cX4_makeOne 73 = .ok (.iaload, 1) := by decide +kernel
theorem dX4_makeOne_74 : decode cX4_makeOne 74 = .ok (.ifCond .ne 8, 3) := by decide +kernel
theorem dX4_makeOne_77 : decode cX4_makeOne 77 = .ok (.bipush (-3), 2) := by decide +kernel
theorem dX4_makeOne_79 : decode cX4_makeOne 79 = .ok (.goto 4, 3) := by decide +kernel
theorem dX4_makeOne_82 : decode cX4_makeOne 82 = .ok (.iconst 0, 1) := by decide +kernel
theorem dX4_makeOne_83 : decode cX4_makeOne 83 = .ok (.istore 4, 2) := by decide +kernel
theorem dX4_makeOne_85 : decode cX4_makeOne 85 = .ok (.iload 4, 2) := by decide +kernel
theorem dX4_makeOne_87 : decode cX4_makeOne 87 = .ok (.ifCond .ne 120, 3) := by decide +kernel
theorem dX4_makeOne_90 : decode cX4_makeOne 90 = .ok (.aload_n 0, 1) := by decide +kernel
theorem dX4_makeOne_91 : decode cX4_makeOne 91 = .ok (.invokevirtual 114, 3) := by decide +kernel
theorem dX4_makeOne_94 : decode cX4_makeOne 94 = .ok (.goto 113, 3) := by decide +kernel
theorem dX4_makeOne_97 : decode cX4_makeOne 97 = .ok (.aload_n 0, 1) := by decide +kernel
theorem dX4_makeOne_98 : decode cX4_makeOne 98 = .ok (.getfield 7, 3) := by decide +kernel
theorem dX4_makeOne_101 : decode cX4_makeOne 101 = .ok (.iconst 1, 1) := by decide +kernel
theorem dX4_makeOne_102 : decode cX4_makeOne 102 = .ok (.iaload, 1) := by decide +kernel
theorem dX4_makeOne_103 : decode cX4_makeOne 103 = .ok (.bipush 6, 2) := by decide +kernel
theorem dX4_makeOne_105 : decode cX4_makeOne 105 = .ok (.if_icmp .ne 8, 3) := by decide +kernel
theorem dX4_makeOne_108 : decode cX4_makeOne 108 = .ok (.bipush (-4), 2) := by decide +kernel
theorem dX4_makeOne_110 : decode cX4_makeOne 110 = .ok (.goto 4, 3) := by decide +kernel
theorem dX4_makeOne_113 : decode cX4_makeOne 113 = .ok (.iconst 0, 1) := by decide +kernel
theorem dX4_makeOne_114 : decode cX4_makeOne 114 = .ok (.istore 4, 2) := by decide +kernel
theorem dX4_makeOne_116 : decode cX4_makeOne 116 = .ok (.iload 4, 2) := by decide +kernel
theorem dX4_makeOne_118 : decode cX4_makeOne 118 = .ok (.ifCond .ne 89, 3) := by decide +kernel
theorem dX4_makeOne_121 : decode cX4_makeOne 121 = .ok (.aload_n 0, 1) := by decide +kernel
theorem dX4_makeOne_122 : decode cX4_makeOne 122 = .ok (.invokevirtual 97, 3) := by decide +kernel
theorem dX4_makeOne_125 : decode cX4_makeOne 125 = .ok (.pop, 1) := by decide +kernel
theorem dX4_makeOne_126 : decode cX4_makeOne 126 = .ok (.goto 81, 3) := by decide +kernel
theorem dX4_makeOne_129 : decode cX4_makeOne 129 = .ok (.aload_n 0, 1) := by decide +kernel
theorem dX4_makeOne_130 : decode cX4_makeOne 130 = .ok (.iload_n 2, 1) := by decide +kernel
theorem dX4_makeOne_131 : decode cX4_makeOne 131 = .ok (.iload_n 3, 1) := by decide +kernel
theorem dX4_makeOne_132 : decode cX4_makeOne 132 = .ok (.invokevirtual 74, 3) := by decide +kernel
theorem dX4_makeOne_135 : decode cX4_makeOne 135 = .ok (.istore 4, 2) := by decide +kernel
theorem dX4_makeOne_137 : decode cX4_makeOne 137 = .ok (.iload 4, 2) := by decide +kernel
theorem dX4_makeOne_139 : decode cX4_makeOne 139 = .ok (.ifCond .ne 68, 3) := by decide +kernel
theorem dX4_makeOne_142 : decode cX4_makeOne 142 = .ok (.aload_n 0, 1) := by decide +kernel
theorem dX4_makeOne_143 : decode cX4_makeOne 143 = .ok (.iload_n 2, 1) := by decide +kernel
theorem dX4_makeOne_144 : decode cX4_makeOne 144 = .ok (.iload_n 3, 1) := by decide +kernel
theorem dX4_makeOne_145 : decode cX4_makeOne 145 = .ok (.invokevirtual 77, 3) := by decide +kernel
theorem dX4_makeOne_148 : decode cX4_makeOne 148 = .ok (.pop, 1) := by decide +kernel
theorem dX4_makeOne_149 : decode cX4_makeOne 149 = .ok (.goto 58, 3) := by decide +kernel
theorem dX4_makeOne_152 : decode cX4_makeOne 152 = .ok (.aload_n 0, 1) := by decide +kernel
theorem dX4_makeOne_153 : decode cX4_makeOne 153 = .ok (.iload_n 2, 1) := by decide +kernel
theorem dX4_makeOne_154 : decode cX4_makeOne 154 = .ok (.invokevirtual 84, 3) := by decide +kernel
theorem dX4_makeOne_157 : decode cX4_makeOne 157 = .ok (.istore 4, 2) := by decide +kernel
theorem dX4_makeOne_159 : decode cX4_makeOne 159 = .ok (.iload 4, 2) := by decide +kernel
theorem dX4_makeOne_161 : decode cX4_makeOne 161 = .ok (.ifCond .ne 46, 3) := by decide +kernel
theorem dX4_makeOne_164 : decode cX4_makeOne 164 = .ok (.aload_n 0, 1) := by decide +kernel
theorem dX4_makeOne_165 : decode cX4_makeOne 165 = .ok (.iload_n 2, 1) := by decide +kernel
theorem dX4_makeOne_166 : decode cX4_makeOne 166 = .ok (.invokevirtual 87, 3) := by decide +kernel
theorem dX4_makeOne_169 : decode cX4_makeOne 169 = .ok (.pop, 1) := by decide +kernel
theorem dX4_makeOne_170 : decode cX4_makeOne 170 = .ok (.goto 37, 3) := by decide +kernel
theorem dX4_makeOne_173 : decode cX4_makeOne 173 = .ok (.aload_n 0, 1) := by decide +kernel
theorem dX4_makeOne_174 : decode cX4_makeOne 174 = .ok (.aload_n 0, 1) := by decide +kernel
theorem dX4_makeOne_175 : decode cX4_makeOne 175 = .ok (.getfield 29, 3) := by decide +kernel
theorem dX4_makeOne_178 : decode cX4_makeOne 178 = .ok (.iload_n 1, 1) := by decide +kernel
theorem dX4_makeOne_179 : decode cX4_makeOne 179 = .ok (.iaload, 1) := by decide +kernel
theorem dX4_makeOne_180 : decode cX4_makeOne 180 = .ok (.bipush 48, 2) := by decide +kernel
theorem dX4_makeOne_182 : decode cX4_makeOne 182 = .ok (.isub, 1) := by decide +kernel
theorem dX4_makeOne_183 : decode cX4_makeOne 183 = .ok (.invokevirtual 117, 3) := by decide +kernel
theorem dX4_makeOne_186 : decode cX4_makeOne 186 = .ok (.istore 4, 2) := by decide +kernel
theorem dX4_makeOne_188 : decode cX4_makeOne 188 = .ok (.iload 4, 2) := by decide +kernel
theorem dX4_makeOne_190 : decode cX4_makeOne 190 = .ok (.ifCond .ne 17, 3) := by decide +kernel
theorem dX4_makeOne_193 : decode cX4_makeOne 193 = .ok (.aload_n 0, 1) := by decide +kernel
theorem dX4_makeOne_194 : decode cX4_makeOne 194 = .ok (.aload_n 0, 1) := by decide +kernel
theorem dX4_makeOne_195 : decode cX4_makeOne 195 = .ok (.getfield 29, 3) := by decide +kernel
theorem dX4_makeOne_198 : decode cX4_makeOne 198 = .ok (.iload_n 1, 1) := by decide +kernel
theorem dX4_makeOne_199 : decode cX4_makeOne 199 = .ok (.iaload, 1) := by decide +kernel
theorem dX4_makeOne_200 : decode cX4_makeOne 200 = .ok (.bipush 48, 2) := by decide +kernel
theorem dX4_makeOne_202 : decode cX4_makeOne 202 = .ok (.isub, 1) := by decide +kernel
theorem dX4_makeOne_203 : decode cX4_makeOne 203 = .ok (.invokevirtual 120, 3) := by decide +kernel
theorem dX4_makeOne_206 : decode cX4_makeOne 206 = .ok (.pop, 1) := by decide +kernel
theorem dX4_makeOne_207 : decode cX4_makeOne 207 = .ok (.iload 4, 2) := by decide +kernel
theorem dX4_makeOne_209 : decode cX4_makeOne 209 = .ok (.ireturn, 1) := by decide +kernel
theorem dX4_play_0 : decode cX4_play 0 = .ok (.aload_n 0, 1) := by decide +kernel
theorem dX4_play_1 : decode cX4_play 1 = .ok (.invokevirtual 169, 3) := by decide +kernel
theorem dX4_play_4 : decode cX4_play 4 = .ok (.bipush (-6), 2) := by decide +kernel
theorem dX4_play_6 : decode cX4_play 6 = .ok (.if_icmp .eq 6, 3) := by decide +kernel
theorem dX4_play_9 : decode cX4_play 9 = .ok (.bipush (-5), 2) := by decide +kernel
theorem dX4_play_11 : decode cX4_play 11 = .ok (.ireturn, 1) := by decide +kernel
theorem dX4_play_12 : decode cX4_play 12 = .ok (.aload_n 0, 1) := by decide +kernel
theorem dX4_play_13 : decode cX4_play 13 = .ok (.invokevirtual 40, 3) := by decide +kernel
theorem dX4_play_16 : decode cX4_play 16 = .ok (.iconst 0, 1) := by decide +kernel
theorem dX4_play_17 : decode cX4_play 17 = .ok (.istore_n 1, 1) := by decide +kernel
theorem dX4_play_18 : decode cX4_play 18 = .ok (.iload_n 1, 1) := by decide +kernel
theorem dX4_play_19 : decode cX4_play 19 = .ok (.aload_n 0, 1) := by decide +kernel
theorem dX4_play_20 : decode cX4_play 20 = .ok (.getfield 160, 3) := by decide +kernel
theorem dX4_play_23 : decode cX4_play 23 = .ok (.if_icmp .ge 19, 3) := by decide +kernel
theorem dX4_play_26 : decode cX4_play 26 = .ok (.aload_n 0, 1) := by decide +kernel
theorem dX4_play_27 : decode cX4_play 27 = .ok (.iconst 3, 1) := by decide +kernel
theorem dX4_play_28 : decode cX4_play 28 = .ok (.iload_n 1, 1) := by decide +kernel
theorem dX4_play_29 : decode cX4_play 29 = .ok (.imul, 1) := by decide +kernel
theorem dX4_play_30 : decode cX4_play 30 = .ok (.invokevirtual 172, 3) := by decide +kernel
theorem dX4_play_33 : decode cX4_play 33 = .ok (.ifCond .ne 9, 3) := by decide +kernel
theorem dX4_play_36 : decode cX4_play 36 = .ok (.iinc 1 1, 3) := by decide +kernel
theorem dX4_play_39 : decode cX4_play 39 = .ok (.goto (-21), 3) := by decide +kernel
theorem dX4_play_42 : decode cX4_play 42 = .ok (.aload_n 0, 1) := by decide +kernel
theorem dX4_play_43 : decode cX4_play 43 = .ok (.iconst 0, 1) := by decide +kernel
theorem dX4_play_44 : decode cX4_play 44 = .ok (.putfield 144, 3) := by decide +kernel
theorem dX4_play_47 : decode cX4_play 47 = .ok (.iload_n 1, 1) := by decide +kernel
theorem dX4_play_48 : decode cX4_play 48 = .ok (.ireturn, 1) := by decide +kernel
theorem dJ6_bitCount_0f7a4_0 : decode cJ6_bitCount_0f7a4 0 = .ok (.iload_n 0, 1) := by decide +kernel
theorem dJ6_bitCount_0f7a4_1 : decode cJ6_bitCount_0f7a4 1 = .ok (.iload_n 0, 1) := by decide +kernel
theorem dJ6_bitCount_0f7a4_2 : decode cJ6_bitCount_0f7a4 2 = .ok (.iconst 1, 1) := by decide +kernel
theorem dJ6_bitCount_0f7a4_3 : decode cJ6_bitCount_0f7a4 3 = .ok (.iushr, 1) := by decide +kernel
theorem dJ6_bitCount_0f7a4_4 : decode cJ6_bitCount_0f7a4 4 = .ok (.ldc_w 265, 3) := by decide +kernel
theorem dJ6_bitCount_0f7a4_7 : decode cJ6_bitCount_0f7a4 7 = .ok (.iand, 1) := by decide +kernel
theorem dJ6_bitCount_0f7a4_8 : decode cJ6_bitCount_0f7a4 8 = .ok (.isub, 1) := by decide +kernel
theorem dJ6_bitCount_0f7a4_9 : decode cJ6_bitCount_0f7a4 9 = .ok (.istore_n 0, 1) := by decide +kernel
theorem dJ6_bitCount_0f7a4_10 : decode cJ6_bitCount_0f7a4 10 = .ok (.iload_n 0, 1) := by decide +kernel
theorem dJ6_bitCount_0f7a4_11 : decode cJ6_bitCount_0f7a4 11 = .ok (.ldc_w 266, 3) := by decide +kernel
theorem dJ6_bitCount_0f7a4_14 : decode cJ6_bitCount_0f7a4 14 = .ok (.iand, 1) := by decide +kernel
theorem dJ6_bitCount_0f7a4_15 : decode cJ6_bitCount_0f7a4 15 = .ok (.iload_n 0, 1) := by decide +kernel
theorem dJ6_bitCount_0f7a4_16 : decode cJ6_bitCount_0f7a4 16 = .ok (.iconst 2, 1) := by decide +kernel
theorem dJ6_bitCount_0f7a4_17 : decode cJ6_bitCount_0f7a4 17 = .ok (.iushr, 1) := by decide +kernel
theorem dJ6_bitCount_0f7a4_18 : decode cJ6_bitCount_0f7a4 18 = .ok (.ldc_w 266, 3) := by decide +kernel
theorem dJ6_bitCount_0f7a4_21 : decode cJ6_bitCount_0f7a4 21 = .ok (.iand, 1) := by decide +kernel
theorem dJ6_bitCount_0f7a4_22 : decode cJ6_bitCount_0f7a4 22 = .ok (.iadd, 1) := by decide +kernel
theorem dJ6_bitCount_0f7a4_23 : decode cJ6_bitCount_0f7a4 23 = .ok (.istore_n 0, 1) := by decide +kernel
theorem dJ6_bitCount_0f7a4_24 : decode cJ6_bitCount_0f7a4 24 = .ok (.iload_n 0, 1) := by decide +kernel
theorem dJ6_bitCount_0f7a4_25 : decode cJ6_bitCount_0f7a4 25 = .ok (.iload_n 0, 1) := by decide +kernel
theorem dJ6_bitCount_0f7a4_26 : decode cJ6_bitCount_0f7a4 26 = .ok (.iconst 4, 1) := by decide +kernel
theorem dJ6_bitCount_0f7a4_27 : decode cJ6_bitCount_0f7a4 27 = .ok (.iushr, 1) := by decide +kernel
theorem dJ6_bitCount_0f7a4_28 : decode cJ6_bitCount_0f7a4 28 = .ok (.iadd, 1) := by decide +kernel
theorem dJ6_bitCount_0f7a4_29 : decode cJ6_bitCount_0f7a4 29 = .ok (.ldc_w 267, 3) := by decide +kernel
theorem dJ6_bitCount_0f7a4_32 : decode cJ6_bitCount_0f7a4 32 = .ok (.iand, 1) := by decide +kernel
theorem dJ6_bitCount_0f7a4_33 : decode cJ6_bitCount_0f7a4 33 = .ok (.istore_n 0, 1) := by decide +kernel
theorem dJ6_bitCount_0f7a4_34 : decode cJ6_bitCount_0f7a4 34 = .ok (.iload_n 0, 1) := by decide +kernel
theorem dJ6_bitCount_0f7a4_35 : decode cJ6_bitCount_0f7a4 35 = .ok (.iload_n 0, 1) := by decide +kernel
theorem dJ6_bitCount_0f7a4_36 : decode cJ6_bitCount_0f7a4 36 = .ok (.bipush 8, 2) := by decide +kernel
theorem dJ6_bitCount_0f7a4_38 : decode cJ6_bitCount_0f7a4 38 = .ok (.iushr, 1) := by decide +kernel
theorem dJ6_bitCount_0f7a4_39 : decode cJ6_bitCount_0f7a4 39 = .ok (.iadd, 1) := by decide +kernel
theorem dJ6_bitCount_0f7a4_40 : decode cJ6_bitCount_0f7a4 40 = .ok (.istore_n 0, 1) := by decide +kernel
theorem dJ6_bitCount_0f7a4_41 : decode cJ6_bitCount_0f7a4 41 = .ok (.iload_n 0, 1) := by decide +kernel
theorem dJ6_bitCount_0f7a4_42 : decode cJ6_bitCount_0f7a4 42 = .ok (.iload_n 0, 1) := by decide +kernel
theorem dJ6_bitCount_0f7a4_43 : decode cJ6_bitCount_0f7a4 43 = .ok (.bipush 16, 2) := by decide +kernel
theorem dJ6_bitCount_0f7a4_45 : decode cJ6_bitCount_0f7a4 45 = .ok (.iushr, 1) := by decide +kernel
theorem dJ6_bitCount_0f7a4_46 : decode cJ6_bitCount_0f7a4 46 = .ok (.iadd, 1) := by decide +kernel
theorem dJ6_bitCount_0f7a4_47 : decode cJ6_bitCount_0f7a4 47 = .ok (.istore_n 0, 1) := by decide +kernel
theorem dJ6_bitCount_0f7a4_48 : decode cJ6_bitCount_0f7a4 48 = .ok (.iload_n 0, 1) := by decide +kernel
theorem dJ6_bitCount_0f7a4_49 : decode cJ6_bitCount_0f7a4 49 = .ok (.bipush 63, 2) := by decide +kernel
theorem dJ6_bitCount_0f7a4_51 : decode cJ6_bitCount_0f7a4 51 = .ok (.iand, 1) := by decide +kernel
theorem dJ6_bitCount_0f7a4_52 : decode cJ6_bitCount_0f7a4 52 = .ok (.ireturn, 1) := by decide +kernel
theorem dL_law_0 : decode cL_law 0 = .ok (.new 7, 3) := by decide +kernel
theorem dL_law_3 : decode cL_law 3 = .ok (.dup, 1) := by decide +kernel
theorem dL_law_4 : decode cL_law 4 = .ok (.invokespecial 9, 3) := by decide +kernel
theorem dL_law_7 : decode cL_law 7 = .ok (.astore_n 1, 1) := by decide +kernel
theorem dL_law_8 : decode cL_law 8 = .ok (.new 10, 3) := by decide +kernel
theorem dL_law_11 : decode cL_law 11 = .ok (.dup, 1) := by decide +kernel
theorem dL_law_12 : decode cL_law 12 = .ok (.invokespecial 12, 3) := by decide +kernel
theorem dL_law_15 : decode cL_law 15 = .ok (.astore_n 2, 1) := by decide +kernel
theorem dL_law_16 : decode cL_law 16 = .ok (.iconst 0, 1) := by decide +kernel
theorem dL_law_17 : decode cL_law 17 = .ok (.istore_n 3, 1) := by decide +kernel
theorem dL_law_18 : decode cL_law 18 = .ok (.iload_n 3, 1) := by decide +kernel
theorem dL_law_19 : decode cL_law 19 = .ok (.aload_n 0, 1) := by decide +kernel
theorem dL_law_20 : decode cL_law 20 = .ok (.arraylength, 1) := by decide +kernel
theorem dL_law_21 : decode cL_law 21 = .ok (.iconst 3, 1) := by decide +kernel
theorem dL_law_22 : decode cL_law 22 = .ok (.isub, 1) := by decide +kernel
theorem dL_law_23 : decode cL_law 23 = .ok (.if_icmp .gt 636, 3) := by decide +kernel
theorem dL_law_26 : decode cL_law 26 = .ok (.aload_n 0, 1) := by decide +kernel
theorem dL_law_27 : decode cL_law 27 = .ok (.iload_n 3, 1) := by decide +kernel
theorem dL_law_28 : decode cL_law 28 = .ok (.iaload, 1) := by decide +kernel
theorem dL_law_29 : decode cL_law 29 = .ok (.bipush 31, 2) := by decide +kernel
theorem dL_law_31 : decode cL_law 31 = .ok (.iand, 1) := by decide +kernel
theorem dL_law_32 : decode cL_law 32 = .ok (.tableswitch 621 0 24 #[116, 139, 172, 195, 218, 241, 254, 277, 290, 323, 336, 359, 392, 415, 438, 471, 484, 497, 520, 543, 556, 569, 582, 595, 608], 116) := by decide +kernel
theorem dL_law_148 : decode cL_law 148 = .ok (.aload_n 1, 1) := by decide +kernel
theorem dL_law_149 : decode cL_law 149 = .ok (.aload_n 0, 1) := by decide +kernel
theorem dL_law_150 : decode cL_law 150 = .ok (.iload_n 3, 1) := by decide +kernel
theorem dL_law_151 : decode cL_law 151 = .ok (.iconst 1, 1) := by decide +kernel
theorem dL_law_152 : decode cL_law 152 = .ok (.iadd, 1) := by decide +kernel
theorem dL_law_153 : decode cL_law 153 = .ok (.iaload, 1) := by decide +kernel
theorem dL_law_154 : decode cL_law 154 = .ok (.invokevirtual 13, 3) := by decide +kernel
theorem dL_law_157 : decode cL_law 157 = .ok (.aload_n 2, 1) := by decide +kernel
theorem dL_law_158 : decode cL_law 158 = .ok (.aload_n 0, 1) := by decide +kernel
theorem dL_law_159 : decode cL_law 159 = .ok (.iload_n 3, 1) := by decide +kernel
theorem dL_law_160 : decode cL_law 160 = .ok (.iconst 1, 1) := by decide +kernel
theorem dL_law_161 : decode cL_law 161 = .ok (.iadd, 1) := by decide +kernel
theorem dL_law_162 : decode cL_law 162 = .ok (.iaload, 1) := by decide +kernel
theorem dL_law_163 : decode cL_law 163 = .ok (.invokevirtual 17, 3) := by decide +kernel
theorem dL_law_166 : decode cL_law 166 = .ok (.if_icmp .eq 487, 3) := by decide +kernel
theorem dL_law_169 : decode cL_law 169 = .ok (.iconst 0, 1) := by decide +kernel
theorem dL_law_170 : decode cL_law 170 = .ok (.ireturn, 1) := by decide +kernel
theorem dL_law_171 : decode cL_law 171 = .ok (.aload_n 1, 1) := by decide +kernel
theorem dL_law_172 : decode cL_law 172 = .ok (.aload_n 0, 1) := by decide +kernel
theorem dL_law_173 : decode cL_law 173 = .ok (.iload_n 3, 1) := by decide +kernel
theorem dL_law_174 : decode cL_law 174 = .ok (.iconst 1, 1) := by decide +kernel
theorem dL_law_175 : decode cL_law 175 = .ok (.iadd, 1) := by decide +kernel
theorem dL_law_176 : decode cL_law 176 = .ok (.iaload, 1) := by decide +kernel
theorem dL_law_177 : decode cL_law 177 = .ok (.aload_n 0, 1) := by decide +kernel
theorem dL_law_178 : decode cL_law 178 = .ok (.iload_n 3, 1) := by decide +kernel
theorem dL_law_179 : decode cL_law 179 = .ok (.iconst 2, 1) := by decide +kernel
theorem dL_law_180 : decode cL_law 180 = .ok (.iadd, 1) := by decide +kernel
theorem dL_law_181 : decode cL_law 181 = .ok (.iaload, 1) := by decide +kernel
theorem dL_law_182 : decode cL_law 182 = .ok (.invokevirtual 18, 3) := by decide +kernel
theorem dL_law_185 : decode cL_law 185 = .ok (.aload_n 2, 1) := by decide +kernel
theorem dL_law_186 : decode cL_law 186 = .ok (.aload_n 0, 1) := by decide +kernel
theorem dL_law_187 : decode cL_law 187 = .ok (.iload_n 3, 1) := by decide +kernel
theorem dL_law_188 : decode cL_law 188 = .ok (.iconst 1, 1) := by decide +kernel
theorem dL_law_189 : decode cL_law 189 = .ok (.iadd, 1) := by decide +kernel
theorem dL_law_190 : decode cL_law 190 = .ok (.iaload, 1) := by decide +kernel
theorem dL_law_191 : decode cL_law 191 = .ok (.aload_n 0, 1) := by decide +kernel
theorem dL_law_192 : decode cL_law 192 = .ok (.iload_n 3, 1) := by decide +kernel
theorem dL_law_193 : decode cL_law 193 = .ok (.iconst 2, 1) := by decide +kernel
theorem dL_law_194 : decode cL_law 194 = .ok (.iadd, 1) := by decide +kernel
theorem dL_law_195 : decode cL_law 195 = .ok (.iaload, 1) := by decide +kernel
theorem dL_law_196 : decode cL_law 196 = .ok (.invokevirtual 22, 3) := by decide +kernel
theorem dL_law_199 : decode cL_law 199 = .ok (.if_icmp .eq 454, 3) := by decide +kernel
theorem dL_law_202 : decode cL_law 202 = .ok (.iconst 0, 1) := by decide +kernel
theorem dL_law_203 : decode cL_law 203 = .ok (.ireturn, 1) := by decide +kernel
theorem dL_law_204 : decode cL_law 204 = .ok (.aload_n 1, 1) := by decide +kernel
theorem dL_law_205 : decode cL_law 205 = .ok (.aload_n 0, 1) := by decide +kernel
theorem dL_law_206 : decode cL_law 206 = .ok (.iload_n 3, 1) := by decide +kernel
theorem dL_law_207 : decode cL_law 207 = .ok (.iconst 1, 1) := by decide +kernel
theorem dL_law_208 : decode cL_law 208 = .ok (.iadd, 1) := by decide +kernel
theorem dL_law_209 : decode cL_law 209 = .ok (.iaload, 1) := by decide +kernel
theorem dL_law_210 : decode cL_law 210 = .ok (.invokevirtual 23, 3) := by decide +kernel
theorem dL_law_213 : decode cL_law 213 = .ok (.aload_n 2, 1) := by decide +kernel
theorem dL_law_214 : decode cL_law 214 = .ok (.aload_n 0, 1) := by decide +kernel
theorem dL_law_215 : decode cL_law 215 = .ok (.iload_n 3, 1) := by decide +kernel
theorem dL_law_216 : decode cL_law 216 = .ok (.iconst 1, 1) := by decide +kernel
theorem dL_law_217 : decode cL_law 217 = .ok (.iadd, 1) := by decide +kernel
theorem dL_law_218 : decode cL_law 218 = .ok (.iaload, 1) := by decide +kernel
theorem dL_law_219 : decode cL_law 219 = .ok (.invokevirtual 26, 3) := by decide +kernel
theorem dL_law_222 : decode cL_law 222 = .ok (.if_icmp .eq 431, 3) := by decide +kernel
theorem dL_law_225 : decode cL_law 225 = .ok (.iconst 0, 1) := by decide +kernel
theorem dL_law_226 : decode cL_law 226 = .ok (.ireturn, 1) := by decide +kernel
theorem dL_law_227 : decode cL_law 227 = .ok (.aload_n 1, 1) := by decide +kernel
theorem dL_law_228 : decode cL_law 228 = .ok (.aload_n 0, 1) := by decide +kernel
theorem dL_law_229 : decode cL_law 229 = .ok (.iload_n 3, 1) := by decide +kernel
theorem dL_law_230 : decode cL_law 230 = .ok (.iconst 1, 1) := by decide +kernel
theorem dL_law_231 : decode cL_law 231 = .ok (.iadd, 1) := by decide +kernel
theorem dL_law_232 : decode cL_law 232 = .ok (.iaload, 1) := by decide +kernel
theorem dL_law_233 : decode cL_law 233 = .ok (.invokevirtual 27, 3) := by decide +kernel
theorem dL_law_236 : decode cL_law 236 = .ok (.aload_n 2, 1) := by decide +kernel
theorem dL_law_237 : decode cL_law 237 = .ok (.aload_n 0, 1) := by decide +kernel
theorem dL_law_238 : decode cL_law 238 = .ok (.iload_n 3, 1) := by decide +kernel
theorem dL_law_239 : decode cL_law 239 = .ok (.iconst 1, 1) := by decide +kernel
theorem dL_law_240 : decode cL_law 240 = .ok (.iadd, 1) := by decide +kernel
theorem dL_law_241 : decode cL_law 241 = .ok (.iaload, 1) := by decide +kernel
theorem dL_law_242 : decode cL_law 242 = .ok (.invokevirtual 30, 3) := by decide +kernel
theorem dL_law_245 : decode cL_law 245 = .ok (.if_icmp .eq 408, 3) := by decide +kernel
theorem dL_law_248 : decode cL_law 248 = .ok (.iconst 0, 1) := by decide +kernel
theorem dL_law_249 : decode cL_law 249 = .ok (.ireturn, 1) := by decide +kernel
theorem dL_law_250 : decode cL_law 250 = .ok (.aload_n 1, 1) := by decide +kernel
theorem dL_law_251 : decode cL_law 251 = .ok (.aload_n 0, 1) := by decide +kernel
theorem dL_law_252 : decode cL_law 252 = .ok (.iload_n 3, 1) := by decide +kernel
theorem dL_law_253 : decode cL_law 253 = .ok (.iconst 1, 1) := by decide +kernel
theorem dL_law_254 : decode cL_law 254 = .ok (.iadd, 1) := by decide +kernel
theorem dL_law_255 : decode cL_law 255 = .ok (.iaload, 1) := by decide +kernel
theorem dL_law_256 : decode cL_law 256 = .ok (.invokevirtual 31, 3) := by decide +kernel
theorem dL_law_259 : decode cL_law 259 = .ok (.aload_n 2, 1) := by decide +kernel
theorem dL_law_260 : decode cL_law 260 = .ok (.aload_n 0, 1) := by decide +kernel
theorem dL_law_261 : decode cL_law 261 = .ok (.iload_n 3, 1) := by decide +kernel
theorem dL_law_262 : decode cL_law 262 = .ok (.iconst 1, 1) := by decide +kernel
theorem dL_law_263 : decode cL_law 263 = .ok (.iadd, 1) := by decide +kernel
theorem dL_law_264 : decode cL_law 264 = .ok (.iaload, 1) := by decide +kernel
theorem dL_law_265 : decode cL_law 265 = .ok (.invokevirtual 34, 3) := by decide +kernel
theorem dL_law_268 : decode cL_law 268 = .ok (.if_icmp .eq 385, 3) := by decide +kernel
theorem dL_law_271 : decode cL_law 271 = .ok (.iconst 0, 1) := by decide +kernel
theorem dL_law_272 : decode cL_law 272 = .ok (.ireturn, 1) := by decide +kernel
theorem dL_law_273 : decode cL_law 273 = .ok (.aload_n 1, 1) := by decide +kernel
theorem dL_law_274 : decode cL_law 274 = .ok (.invokevirtual 35, 3) := by decide +kernel
theorem dL_law_277 : decode cL_law 277 = .ok (.aload_n 2, 1) := by decide +kernel
theorem dL_law_278 : decode cL_law 278 = .ok (.invokevirtual 39, 3) := by decide +kernel
theorem dL_law_281 : decode cL_law 281 = .ok (.if_icmp .eq 372, 3) := by decide +kernel
theorem dL_law_284 : decode cL_law 284 = .ok (.iconst 0, 1) := by decide +kernel
theorem dL_law_285 : decode cL_law 285 = .ok (.ireturn, 1) := by decide +kernel
theorem dL_law_286 : decode cL_law 286 = .ok (.aload_n 1, 1) := by decide +kernel
theorem dL_law_287 : decode cL_law 287 = .ok (.aload_n 0, 1) := by decide +kernel
theorem dL_law_288 : decode cL_law 288 = .ok (.iload_n 3, 1) := by decide +kernel
theorem dL_law_289 : decode cL_law 289 = .ok (.iconst 1, 1) := by decide +kernel
theorem dL_law_290 : decode cL_law 290 = .ok (.iadd, 1) := by decide +kernel
theorem dL_law_291 : decode cL_law 291 = .ok (.iaload, 1) := by decide +kernel
theorem dL_law_292 : decode cL_law 292 = .ok (.invokevirtual 40, 3) := by decide +kernel
theorem dL_law_295 : decode cL_law 295 = .ok (.aload_n 2, 1) := by decide +kernel
theorem dL_law_296 : decode cL_law 296 = .ok (.aload_n 0, 1) := by decide +kernel
theorem dL_law_297 : decode cL_law 297 = .ok (.iload_n 3, 1) := by decide +kernel
theorem dL_law_298 : decode cL_law 298 = .ok (.iconst 1, 1) := by decide +kernel
theorem dL_law_299 : decode cL_law 299 = .ok (.iadd, 1) := by decide +kernel
theorem dL_law_300 : decode cL_law 300 = .ok (.iaload, 1) := by decide +kernel
theorem dL_law_301 : decode cL_law 301 = .ok (.invokevirtual 43, 3) := by decide +kernel
theorem dL_law_304 : decode cL_law 304 = .ok (.if_icmp .eq 349, 3) := by decide +kernel
theorem dL_law_307 : decode cL_law 307 = .ok (.iconst 0, 1) := by decide +kernel
theorem dL_law_308 : decode cL_law 308 = .ok (.ireturn, 1) := by decide +kernel
theorem dL_law_309 : decode cL_law 309 = .ok (.aload_n 1, 1) := by decide +kernel
theorem dL_law_310 : decode cL_law 310 = .ok (.invokevirtual 44, 3) := by decide +kernel
theorem dL_law_313 : decode cL_law 313 = .ok (.aload_n 2, 1) := by decide +kernel
theorem dL_law_314 : decode cL_law 314 = .ok (.invokevirtual 47, 3) := by decide +kernel
theorem dL_law_317 : decode cL_law 317 = .ok (.if_icmp .eq 336, 3) := by decide +kernel
theorem dL_law_320 : decode cL_law 320 = .ok (.iconst 0, 1) := by decide +kernel
theorem dL_law_321 : decode cL_law 321 = .ok (.ireturn, 1) := by decide +kernel
theorem dL_law_322 : decode cL_law 322 = .ok (.aload_n 1, 1) := by decide +kernel
theorem dL_law_323 : decode cL_law 323 = .ok (.aload_n 0, 1) := by decide +kernel
theorem dL_law_324 : decode cL_law 324 = .ok (.iload_n 3, 1) := by decide +kernel
theorem dL_law_325 : decode cL_law 325 = .ok (.iconst 1, 1) := by decide +kernel
theorem dL_law_326 : decode cL_law 326 = .ok (.iadd, 1) := by decide +kernel
theorem dL_law_327 : decode cL_law 327 = .ok (.iaload, 1) := by decide +kernel
theorem dL_law_328 : decode cL_law 328 = .ok (.aload_n 0, 1) := by decide +kernel
theorem dL_law_329 : decode cL_law 329 = .ok (.iload_n 3, 1) := by decide +kernel
theorem dL_law_330 : decode cL_law 330 = .ok (.iconst 2, 1) := by decide +kernel
theorem dL_law_331 : decode cL_law 331 = .ok (.iadd, 1) := by decide +kernel
theorem dL_law_332 : decode cL_law 332 = .ok (.iaload, 1) := by decide +kernel
theorem dL_law_333 : decode cL_law 333 = .ok (.invokevirtual 48, 3) := by decide +kernel
theorem dL_law_336 : decode cL_law 336 = .ok (.aload_n 2, 1) := by decide +kernel
theorem dL_law_337 : decode cL_law 337 = .ok (.aload_n 0, 1) := by decide +kernel
theorem dL_law_338 : decode cL_law 338 = .ok (.iload_n 3, 1) := by decide +kernel
theorem dL_law_339 : decode cL_law 339 = .ok (.iconst 1, 1) := by decide +kernel
theorem dL_law_340 : decode cL_law 340 = .ok (.iadd, 1) := by decide +kernel
theorem dL_law_341 : decode cL_law 341 = .ok (.iaload, 1) := by decide +kernel
theorem dL_law_342 : decode cL_law 342 = .ok (.aload_n 0, 1) := by decide +kernel
theorem dL_law_343 : decode cL_law 343 = .ok (.iload_n 3, 1) := by decide +kernel
theorem dL_law_344 : decode cL_law 344 = .ok (.iconst 2, 1) := by decide +kernel
theorem dL_law_345 : decode cL_law 345 = .ok (.iadd, 1) := by decide +kernel
theorem dL_law_346 : decode cL_law 346 = .ok (.iaload, 1) := by decide +kernel
theorem dL_law_347 : decode cL_law 347 = .ok (.invokevirtual 51, 3) := by decide +kernel
theorem dL_law_350 : decode cL_law 350 = .ok (.if_icmp .eq 303, 3) := by decide +kernel
theorem dL_law_353 : decode cL_law 353 = .ok (.iconst 0, 1) := by decide +kernel
theorem dL_law_354 : decode cL_law 354 = .ok (.ireturn, 1) := by decide +kernel
theorem dL_law_355 : decode cL_law 355 = .ok (.aload_n 1, 1) := by decide +kernel
theorem dL_law_356 : decode cL_law 356 = .ok (.invokevirtual 52, 3) := by decide +kernel
theorem dL_law_359 : decode cL_law 359 = .ok (.aload_n 2, 1) := by decide +kernel
theorem dL_law_360 : decode cL_law 360 = .ok (.invokevirtual 55, 3) := by decide +kernel
theorem dL_law_363 : decode cL_law 363 = .ok (.if_icmp .eq 290, 3) := by decide +kernel
theorem dL_law_366 : decode cL_law 366 = .ok (.iconst 0, 1) := by decide +kernel
theorem dL_law_367 : decode cL_law 367 = .ok (.ireturn, 1) := by decide +kernel
theorem dL_law_368 : decode cL_law 368 = .ok (.aload_n 1, 1) := by decide +kernel
theorem dL_law_369 : decode cL_law 369 = .ok (.aload_n 0, 1) := by decide +kernel
theorem dL_law_370 : decode cL_law 370 = .ok (.iload_n 3, 1) := by decide +kernel
theorem dL_law_371 : decode cL_law 371 = .ok (.iconst 1, 1) := by decide +kernel
theorem dL_law_372 : decode cL_law 372 = .ok (.iadd, 1) := by decide +kernel
theorem dL_law_373 : decode cL_law 373 = .ok (.iaload, 1) := by decide +kernel
theorem dL_law_374 : decode cL_law 374 = .ok (.invokevirtual 56, 3) := by decide +kernel
theorem dL_law_377 : decode cL_law 377 = .ok (.aload_n 2, 1) := by decide +kernel
theorem dL_law_378 : decode cL_law 378 = .ok (.aload_n 0, 1) := by decide +kernel
theorem dL_law_379 : decode cL_law 379 = .ok (.iload_n 3, 1) := by decide +kernel
theorem dL_law_380 : decode cL_law 380 = .ok (.iconst 1, 1) := by decide +kernel
theorem dL_law_381 : decode cL_law 381 = .ok (.iadd, 1) := by decide +kernel
theorem dL_law_382 : decode cL_law 382 = .ok (.iaload, 1) := by decide +kernel
theorem dL_law_383 : decode cL_law 383 = .ok (.invokevirtual 59, 3) := by decide +kernel
theorem dL_law_386 : decode cL_law 386 = .ok (.if_icmp .eq 267, 3) := by decide +kernel
theorem dL_law_389 : decode cL_law 389 = .ok (.iconst 0, 1) := by decide +kernel
theorem dL_law_390 : decode cL_law 390 = .ok (.ireturn, 1) := by decide +kernel
theorem dL_law_391 : decode cL_law 391 = .ok (.aload_n 1, 1) := by decide +kernel
theorem dL_law_392 : decode cL_law 392 = .ok (.aload_n 0, 1) := by decide +kernel
theorem dL_law_393 : decode cL_law 393 = .ok (.iload_n 3, 1) := by decide +kernel
theorem dL_law_394 : decode cL_law 394 = .ok (.iconst 1, 1) := by decide +kernel
theorem dL_law_395 : decode cL_law 395 = .ok (.iadd, 1) := by decide +kernel
theorem dL_law_396 : decode cL_law 396 = .ok (.iaload, 1) := by decide +kernel
theorem dL_law_397 : decode cL_law 397 = .ok (.aload_n 0, 1) := by decide +kernel
theorem dL_law_398 : decode cL_law 398 = .ok (.iload_n 3, 1) := by decide +kernel
theorem dL_law_399 : decode cL_law 399 = .ok (.iconst 2, 1) := by decide +kernel
theorem dL_law_400 : decode cL_law 400 = .ok (.iadd, 1) := by decide +kernel
theorem dL_law_401 : decode cL_law 401 = .ok (.iaload, 1) := by decide +kernel
theorem dL_law_402 : decode cL_law 402 = .ok (.invokevirtual 60, 3) := by decide +kernel
theorem dL_law_405 : decode cL_law 405 = .ok (.aload_n 2, 1) := by decide +kernel
theorem dL_law_406 : decode cL_law 406 = .ok (.aload_n 0, 1) := by decide +kernel
theorem dL_law_407 : decode cL_law 407 = .ok (.iload_n 3, 1) := by decide +kernel
theorem dL_law_408 : decode cL_law 408 = .ok (.iconst 1, 1) := by decide +kernel
theorem dL_law_409 : decode cL_law 409 = .ok (.iadd, 1) := by decide +kernel
theorem dL_law_410 : decode cL_law 410 = .ok (.iaload, 1) := by decide +kernel
theorem dL_law_411 : decode cL_law 411 = .ok (.aload_n 0, 1) := by decide +kernel
theorem dL_law_412 : decode cL_law 412 = .ok (.iload_n 3, 1) := by decide +kernel
theorem dL_law_413 : decode cL_law 413 = .ok (.iconst 2, 1) := by decide +kernel
theorem dL_law_414 : decode cL_law 414 = .ok (.iadd, 1) := by decide +kernel
theorem dL_law_415 : decode cL_law 415 = .ok (.iaload, 1) := by decide +kernel
theorem dL_law_416 : decode cL_law 416 = .ok (.invokevirtual 63, 3) := by decide +kernel
theorem dL_law_419 : decode cL_law 419 = .ok (.if_icmp .eq 234, 3) := by decide +kernel
theorem dL_law_422 : decode cL_law 422 = .ok (.iconst 0, 1) := by decide +kernel
theorem dL_law_423 : decode cL_law 423 = .ok (.ireturn, 1) := by decide +kernel
theorem dL_law_424 : decode cL_law 424 = .ok (.aload_n 1, 1) := by decide +kernel
theorem dL_law_425 : decode cL_law 425 = .ok (.aload_n 0, 1) := by decide +kernel
theorem dL_law_426 : decode cL_law 426 = .ok (.iload_n 3, 1) := by decide +kernel
theorem dL_law_427 : decode cL_law 427 = .ok (.iconst 1, 1) := by decide +kernel
theorem dL_law_428 : decode cL_law 428 = .ok (.iadd, 1) := by decide +kernel
theorem dL_law_429 : decode cL_law 429 = .ok (.iaload, 1) := by decide +kernel
theorem dL_law_430 : decode cL_law 430 = .ok (.invokevirtual 64, 3) := by decide +kernel
theorem dL_law_433 : decode cL_law 433 = .ok (.aload_n 2, 1) := by decide +kernel
theorem dL_law_434 : decode cL_law 434 = .ok (.aload_n 0, 1) := by decide +kernel
theorem dL_law_435 : decode cL_law 435 = .ok (.iload_n 3, 1) := by decide +kernel
theorem dL_law_436 : decode cL_law 436 = .ok (.iconst 1, 1) := by decide +kernel
theorem dL_law_437 : decode cL_law 437 = .ok (.iadd, 1) := by decide +kernel
theorem dL_law_438 : decode cL_law 438 = .ok (.iaload, 1) := by decide +kernel
theorem dL_law_439 : decode cL_law 439 = .ok (.invokevirtual 67, 3) := by decide +kernel
theorem dL_law_442 : decode cL_law 442 = .ok (.if_icmp .eq 211, 3) := by decide +kernel
theorem dL_law_445 : decode cL_law 445 = .ok (.iconst 0, 1) := by decide +kernel
theorem dL_law_446 : decode cL_law 446 = .ok (.ireturn, 1) := by decide +kernel
theorem dL_law_447 : decode cL_law 447 = .ok (.aload_n 1, 1) := by decide +kernel
theorem dL_law_448 : decode cL_law 448 = .ok (.aload_n 0, 1) := by decide +kernel
theorem dL_law_449 : decode cL_law 449 = .ok (.iload_n 3, 1) := by decide +kernel
theorem dL_law_450 : decode cL_law 450 = .ok (.iconst 1, 1) := by decide +kernel
theorem dL_law_451 : decode cL_law 451 = .ok (.iadd, 1) := by decide +kernel
theorem dL_law_452 : decode cL_law 452 = .ok (.iaload, 1) := by decide +kernel
theorem dL_law_453 : decode cL_law 453 = .ok (.invokevirtual 68, 3) := by decide +kernel
theorem dL_law_456 : decode cL_law 456 = .ok (.aload_n 2, 1) := by decide +kernel
theorem dL_law_457 : decode cL_law 457 = .ok (.aload_n 0, 1) := by decide +kernel
theorem dL_law_458 : decode cL_law 458 = .ok (.iload_n 3, 1) := by decide +kernel
theorem dL_law_459 : decode cL_law 459 = .ok (.iconst 1, 1) := by decide +kernel
theorem dL_law_460 : decode cL_law 460 = .ok (.iadd, 1) := by decide +kernel
theorem dL_law_461 : decode cL_law 461 = .ok (.iaload, 1) := by decide +kernel
theorem dL_law_462 : decode cL_law 462 = .ok (.invokevirtual 71, 3) := by decide +kernel
theorem dL_law_465 : decode cL_law 465 = .ok (.if_icmp .eq 188, 3) := by decide +kernel
theorem dL_law_468 : decode cL_law 468 = .ok (.iconst 0, 1) := by decide +kernel
theorem dL_law_469 : decode cL_law 469 = .ok (.ireturn, 1) := by decide +kernel
theorem dL_law_470 : decode cL_law 470 = .ok (.aload_n 1, 1) := by decide +kernel
theorem dL_law_471 : decode cL_law 471 = .ok (.aload_n 0, 1) := by decide +kernel
theorem dL_law_472 : decode cL_law 472 = .ok (.iload_n 3, 1) := by decide +kernel
theorem dL_law_473 : decode cL_law 473 = .ok (.iconst 1, 1) := by decide +kernel
theorem dL_law_474 : decode cL_law 474 = .ok (.iadd, 1) := by decide +kernel
theorem dL_law_475 : decode cL_law 475 = .ok (.iaload, 1) := by decide +kernel
theorem dL_law_476 : decode cL_law 476 = .ok (.aload_n 0, 1) := by decide +kernel
theorem dL_law_477 : decode cL_law 477 = .ok (.iload_n 3, 1) := by decide +kernel
theorem dL_law_478 : decode cL_law 478 = .ok (.iconst 2, 1) := by decide +kernel
theorem dL_law_479 : decode cL_law 479 = .ok (.iadd, 1) := by decide +kernel
theorem dL_law_480 : decode cL_law 480 = .ok (.iaload, 1) := by decide +kernel
theorem dL_law_481 : decode cL_law 481 = .ok (.invokevirtual 72, 3) := by decide +kernel
theorem dL_law_484 : decode cL_law 484 = .ok (.aload_n 2, 1) := by decide +kernel
theorem dL_law_485 : decode cL_law 485 = .ok (.aload_n 0, 1) := by decide +kernel
theorem dL_law_486 : decode cL_law 486 = .ok (.iload_n 3, 1) := by decide +kernel
theorem dL_law_487 : decode cL_law 487 = .ok (.iconst 1, 1) := by decide +kernel
theorem dL_law_488 : decode cL_law 488 = .ok (.iadd, 1) := by decide +kernel
theorem dL_law_489 : decode cL_law 489 = .ok (.iaload, 1) := by decide +kernel
theorem dL_law_490 : decode cL_law 490 = .ok (.aload_n 0, 1) := by decide +kernel
theorem dL_law_491 : decode cL_law 491 = .ok (.iload_n 3, 1) := by decide +kernel
theorem dL_law_492 : decode cL_law 492 = .ok (.iconst 2, 1) := by decide +kernel
theorem dL_law_493 : decode cL_law 493 = .ok (.iadd, 1) := by decide +kernel
theorem dL_law_494 : decode cL_law 494 = .ok (.iaload, 1) := by decide +kernel
theorem dL_law_495 : decode cL_law 495 = .ok (.invokevirtual 75, 3) := by decide +kernel
theorem dL_law_498 : decode cL_law 498 = .ok (.if_icmp .eq 155, 3) := by decide +kernel
theorem dL_law_501 : decode cL_law 501 = .ok (.iconst 0, 1) := by decide +kernel
theorem dL_law_502 : decode cL_law 502 = .ok (.ireturn, 1) := by decide +kernel
theorem dL_law_503 : decode cL_law 503 = .ok (.aload_n 1, 1) := by decide +kernel
theorem dL_law_504 : decode cL_law 504 = .ok (.invokevirtual 76, 3) := by decide +kernel
theorem dL_law_507 : decode cL_law 507 = .ok (.aload_n 2, 1) := by decide +kernel
theorem dL_law_508 : decode cL_law 508 = .ok (.invokevirtual 79, 3) := by decide +kernel
theorem dL_law_511 : decode cL_law 511 = .ok (.if_icmp .eq 142, 3) := by decide +kernel
theorem dL_law_514 : decode cL_law 514 = .ok (.iconst 0, 1) := by decide +kernel
theorem dL_law_515 : decode cL_law 515 = .ok (.ireturn, 1) := by decide +kernel
theorem dL_law_516 : decode cL_law 516 = .ok (.aload_n 1, 1) := by decide +kernel
theorem dL_law_517 : decode cL_law 517 = .ok (.invokevirtual 80, 3) := by decide +kernel
theorem dL_law_520 : decode cL_law 520 = .ok (.aload_n 2, 1) := by decide +kernel
theorem dL_law_521 : decode cL_law 521 = .ok (.invokevirtual 83, 3) := by decide +kernel
theorem dL_law_524 : decode cL_law 524 = .ok (.if_icmp .eq 129, 3) := by decide +kernel
theorem dL_law_527 : decode cL_law 527 = .ok (.iconst 0, 1) := by decide +kernel
theorem dL_law_528 : decode cL_law 528 = .ok (.ireturn, 1) := by decide +kernel
theorem dL_law_529 : decode cL_law 529 = .ok (.aload_n 1, 1) := by decide +kernel
theorem dL_law_530 : decode cL_law 530 = .ok (.aload_n 0, 1) := by decide +kernel
theorem dL_law_531 : decode cL_law 531 = .ok (.iload_n 3, 1) := by decide +kernel
theorem dL_law_532 : decode cL_law 532 = .ok (.iconst 1, 1) := by decide +kernel
theorem dL_law_533 : decode cL_law 533 = .ok (.iadd, 1) := by decide +kernel
theorem dL_law_534 : decode cL_law 534 = .ok (.iaload, 1) := by decide +kernel
theorem dL_law_535 : decode cL_law 535 = .ok (.invokevirtual 84, 3) := by decide +kernel
theorem dL_law_538 : decode cL_law 538 = .ok (.aload_n 2, 1) := by decide +kernel
theorem dL_law_539 : decode cL_law 539 = .ok (.aload_n 0, 1) := by decide +kernel
theorem dL_law_540 : decode cL_law 540 = .ok (.iload_n 3, 1) := by decide +kernel
theorem dL_law_541 : decode cL_law 541 = .ok (.iconst 1, 1) := by decide +kernel
theorem dL_law_542 : decode cL_law 542 = .ok (.iadd, 1) := by decide +kernel
theorem dL_law_543 : decode cL_law 543 = .ok (.iaload, 1) := by decide +kernel
theorem dL_law_544 : decode cL_law 544 = .ok (.invokevirtual 87, 3) := by decide +kernel
theorem dL_law_547 : decode cL_law 547 = .ok (.if_icmp .eq 106, 3) := by decide +kernel
theorem dL_law_550 : decode cL_law 550 = .ok (.iconst 0, 1) := by decide +kernel
theorem dL_law_551 : decode cL_law 551 = .ok (.ireturn, 1) := by decide +kernel
theorem dL_law_552 : decode cL_law 552 = .ok (.aload_n 1, 1) := by decide +kernel
theorem dL_law_553 : decode cL_law 553 = .ok (.aload_n 0, 1) := by decide +kernel
theorem dL_law_554 : decode cL_law 554 = .ok (.iload_n 3, 1) := by decide +kernel
theorem dL_law_555 : decode cL_law 555 = .ok (.iconst 1, 1) := by decide +kernel
theorem dL_law_556 : decode cL_law 556 = .ok (.iadd, 1) := by decide +kernel
theorem dL_law_557 : decode cL_law 557 = .ok (.iaload, 1) := by decide +kernel
theorem dL_law_558 : decode cL_law 558 = .ok (.invokevirtual 88, 3) := by decide +kernel
theorem dL_law_561 : decode cL_law 561 = .ok (.aload_n 2, 1) := by decide +kernel
theorem dL_law_562 : decode cL_law 562 = .ok (.aload_n 0, 1) := by decide +kernel
theorem dL_law_563 : decode cL_law 563 = .ok (.iload_n 3, 1) := by decide +kernel
theorem dL_law_564 : decode cL_law 564 = .ok (.iconst 1, 1) := by decide +kernel
theorem dL_law_565 : decode cL_law 565 = .ok (.iadd, 1) := by decide +kernel
theorem dL_law_566 : decode cL_law 566 = .ok (.iaload, 1) := by decide +kernel
theorem dL_law_567 : decode cL_law 567 = .ok (.invokevirtual 91, 3) := by decide +kernel
theorem dL_law_570 : decode cL_law 570 = .ok (.if_icmp .eq 83, 3) := by decide +kernel
theorem dL_law_573 : decode cL_law 573 = .ok (.iconst 0, 1) := by decide +kernel
theorem dL_law_574 : decode cL_law 574 = .ok (.ireturn, 1) := by decide +kernel
theorem dL_law_575 : decode cL_law 575 = .ok (.aload_n 1, 1) := by decide +kernel
theorem dL_law_576 : decode cL_law 576 = .ok (.invokevirtual 92, 3) := by decide +kernel
theorem dL_law_579 : decode cL_law 579 = .ok (.aload_n 2, 1) := by decide +kernel
theorem dL_law_580 : decode cL_law 580 = .ok (.invokevirtual 95, 3) := by decide +kernel
theorem dL_law_583 : decode cL_law 583 = .ok (.if_icmp .eq 70, 3) := by decide +kernel
theorem dL_law_586 : decode cL_law 586 = .ok (.iconst 0, 1) := by decide +kernel
theorem dL_law_587 : decode cL_law 587 = .ok (.ireturn, 1) := by decide +kernel
theorem dL_law_588 : decode cL_law 588 = .ok (.aload_n 1, 1) := by decide +kernel
theorem dL_law_589 : decode cL_law 589 = .ok (.invokevirtual 96, 3) := by decide +kernel
theorem dL_law_592 : decode cL_law 592 = .ok (.aload_n 2, 1) := by decide +kernel
theorem dL_law_593 : decode cL_law 593 = .ok (.invokevirtual 99, 3) := by decide +kernel
theorem dL_law_596 : decode cL_law 596 = .ok (.if_icmp .eq 57, 3) := by decide +kernel
theorem dL_law_599 : decode cL_law 599 = .ok (.iconst 0, 1) := by decide +kernel
theorem dL_law_600 : decode cL_law 600 = .ok (.ireturn, 1) := by decide +kernel
theorem dL_law_601 : decode cL_law 601 = .ok (.aload_n 1, 1) := by decide +kernel
theorem dL_law_602 : decode cL_law 602 = .ok (.invokevirtual 100, 3) := by decide +kernel
theorem dL_law_605 : decode cL_law 605 = .ok (.aload_n 2, 1) := by decide +kernel
theorem dL_law_606 : decode cL_law 606 = .ok (.invokevirtual 103, 3) := by decide +kernel
theorem dL_law_609 : decode cL_law 609 = .ok (.if_icmp .eq 44, 3) := by decide +kernel
theorem dL_law_612 : decode cL_law 612 = .ok (.iconst 0, 1) := by decide +kernel
theorem dL_law_613 : decode cL_law 613 = .ok (.ireturn, 1) := by decide +kernel
theorem dL_law_614 : decode cL_law 614 = .ok (.aload_n 1, 1) := by decide +kernel
theorem dL_law_615 : decode cL_law 615 = .ok (.invokevirtual 104, 3) := by decide +kernel
theorem dL_law_618 : decode cL_law 618 = .ok (.aload_n 2, 1) := by decide +kernel
theorem dL_law_619 : decode cL_law 619 = .ok (.invokevirtual 107, 3) := by decide +kernel
theorem dL_law_622 : decode cL_law 622 = .ok (.if_icmp .eq 31, 3) := by decide +kernel
theorem dL_law_625 : decode cL_law 625 = .ok (.iconst 0, 1) := by decide +kernel
theorem dL_law_626 : decode cL_law 626 = .ok (.ireturn, 1) := by decide +kernel
theorem dL_law_627 : decode cL_law 627 = .ok (.aload_n 1, 1) := by decide +kernel
theorem dL_law_628 : decode cL_law 628 = .ok (.invokevirtual 108, 3) := by decide +kernel
theorem dL_law_631 : decode cL_law 631 = .ok (.aload_n 2, 1) := by decide +kernel
theorem dL_law_632 : decode cL_law 632 = .ok (.invokevirtual 111, 3) := by decide +kernel
theorem dL_law_635 : decode cL_law 635 = .ok (.if_icmp .eq 18, 3) := by decide +kernel
theorem dL_law_638 : decode cL_law 638 = .ok (.iconst 0, 1) := by decide +kernel
theorem dL_law_639 : decode cL_law 639 = .ok (.ireturn, 1) := by decide +kernel
theorem dL_law_640 : decode cL_law 640 = .ok (.aload_n 1, 1) := by decide +kernel
theorem dL_law_641 : decode cL_law 641 = .ok (.invokevirtual 112, 3) := by decide +kernel
theorem dL_law_644 : decode cL_law 644 = .ok (.aload_n 2, 1) := by decide +kernel
theorem dL_law_645 : decode cL_law 645 = .ok (.invokevirtual 115, 3) := by decide +kernel
theorem dL_law_648 : decode cL_law 648 = .ok (.if_icmp .eq 5, 3) := by decide +kernel
theorem dL_law_651 : decode cL_law 651 = .ok (.iconst 0, 1) := by decide +kernel
theorem dL_law_652 : decode cL_law 652 = .ok (.ireturn, 1) := by decide +kernel
theorem dL_law_653 : decode cL_law 653 = .ok (.iinc 3 3, 3) := by decide +kernel
theorem dL_law_656 : decode cL_law 656 = .ok (.goto (-638), 3) := by decide +kernel
theorem dL_law_659 : decode cL_law 659 = .ok (.iconst 1, 1) := by decide +kernel
theorem dL_law_660 : decode cL_law 660 = .ok (.ireturn, 1) := by decide +kernel
abbrev vwCl : List vw_C := [(RX0, TX0, 13), (RX1, TX1, 2), (RX2, TX2, 2), (RX3, TX3, 7), (RX4, TX4, 13)]
