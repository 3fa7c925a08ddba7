theorem goodIn_r {big : List Cond} (ws : List Cond) (ps : List Nat) (hp : ws = ps.filterMap (fun i => big[i]?)) (h : ws.all goodWord = true) : GoodIn big ws := by
  intro w hw
  have h1 := List.all_eq_true.mp h w hw
  rw [hp] at hw
  obtain ⟨i, -, hi⟩ := List.mem_filterMap.mp hw
  have hm : w ∈ big := by first | exact List.mem_of_getElem? hi | exact List.getElem?_mem hi
  exact ⟨hm, good_of_word h1⟩
theorem goodIn_app {big a b : List Cond} (ha : GoodIn big a) (hb : GoodIn big b) : GoodIn big (a ++ b) := fun w h => (List.mem_append.mp h).elim (ha w) (hb w)
theorem goodIn_ca {big a b : List Cond} {c : Cond} (ha : GoodIn big (c :: a)) (hb : GoodIn big b) : GoodIn big (c :: (a ++ b)) := fun w h => (List.mem_cons.mp h).elim (fun e => ha w (List.mem_cons.mpr (Or.inl e))) (fun h => (List.mem_append.mp h).elim (fun h => ha w (List.mem_cons.mpr (Or.inr h))) (hb w))
theorem goodIn_sub {big ws : List Cond} (hm : ∀ w ∈ ws, w ∈ big) (h : ws.all goodWord = true) : GoodIn big ws := fun w hw => ⟨hm w hw, good_of_word (List.all_eq_true.mp h w hw)⟩
def RX0 : String := "LiftingStairs$Game"
def TX0 : u_T := fun k => match k with
  | 0 => ("LiftingStairs$Game", "lowerEnds", "[I", true)
  | 1 => ("LiftingStairs$Game", "landings", "[Z", true)
  | 2 => ("LiftingStairs$Game", "places", "[I", true)
  | 3 => ("LiftingStairs$Game", "tops", "[I", true)
  | 4 => ("LiftingStairs$Game", "rests", "[I", true)
  | 5 => ("LiftingStairs$Game", "timesLifted", "[I", true)
  | 6 => ("LiftingStairs$Game", "liftsMade", "[I", true)
  | 7 => ("LiftingStairs$Game", "slips", "[I", true)
  | 8 => ("LiftingStairs$Game", "top", "I", false)
  | 9 => ("LiftingStairs$Game", "climbers", "I", false)
  | 10 => ("LiftingStairs$Game", "mover", "I", false)
  | 11 => ("LiftingStairs$Game", "rolls", "I", false)
  | _ => ("LiftingStairs$Game", "turnsLeftOut", "I", false)
def tyX0 : Nat → FieldType := fun k => match k with
  | 0 => .array .int
  | 1 => .array .boolean
  | 2 => .array .int
  | 3 => .array .int
  | 4 => .array .int
  | 5 => .array .int
  | 6 => .array .int
  | 7 => .array .int
  | 8 => .int
  | 9 => .int
  | 10 => .int
  | 11 => .int
  | _ => .int
abbrev wsX00 : List Cond := u_ws RX0 TX0 13
theorem nmX0 : ∀ a, a < 13 → ∀ b, b < 13 → a ≠ b → (TX0 a).2.1 ≠ (TX0 b).2.1 := by decide +kernel
theorem tyX0_ok : ∀ k, k < 13 → parseFieldDescriptor (TX0 k).2.2.1 = some (tyX0 k) := by decide +kernel
abbrev cX0_init : ByteArray := prog_2_method_1_code
def yX0_init : MethodName := ⟨RX0, "<init>", "()V"⟩
abbrev cX0_copyFrom : ByteArray := prog_2_method_2_code
def yX0_copyFrom : MethodName := ⟨RX0, "copyFrom", "(LLiftingStairs$Game;)V"⟩
abbrev cX0_isBelowTop : ByteArray := prog_2_method_3_code
def yX0_isBelowTop : MethodName := ⟨RX0, "isBelowTop", "(I)Z"⟩
abbrev cX0_isClimber : ByteArray := prog_2_method_4_code
def yX0_isClimber : MethodName := ⟨RX0, "isClimber", "(I)Z"⟩
abbrev cX0_hasMover : ByteArray := prog_2_method_5_code
def yX0_hasMover : MethodName := ⟨RX0, "hasMover", "()Z"⟩
abbrev cX0_changeTop : ByteArray := prog_2_method_6_code
def yX0_changeTop : MethodName := ⟨RX0, "changeTop", "(I)I"⟩
abbrev cX0_layCarpet : ByteArray := prog_2_method_7_code
def yX0_layCarpet : MethodName := ⟨RX0, "layCarpet", "(II)I"⟩
abbrev cX0_takeCarpet : ByteArray := prog_2_method_8_code
def yX0_takeCarpet : MethodName := ⟨RX0, "takeCarpet", "(I)I"⟩
abbrev cX0_putLanding : ByteArray := prog_2_method_9_code
def yX0_putLanding : MethodName := ⟨RX0, "putLanding", "(I)I"⟩
abbrev cX0_removeLanding : ByteArray := prog_2_method_10_code
def yX0_removeLanding : MethodName := ⟨RX0, "removeLanding", "(I)I"⟩
abbrev cX0_addClimber : ByteArray := prog_2_method_11_code
def yX0_addClimber : MethodName := ⟨RX0, "addClimber", "()I"⟩
abbrev cX0_makeRoll : ByteArray := prog_2_method_12_code
def yX0_makeRoll : MethodName := ⟨RX0, "makeRoll", "(I)I"⟩
abbrev cX0_makePass : ByteArray := prog_2_method_13_code
def yX0_makePass : MethodName := ⟨RX0, "makePass", "()I"⟩
abbrev cX0_wouldLift : ByteArray := prog_2_method_14_code
def yX0_wouldLift : MethodName := ⟨RX0, "wouldLift", "(I)Z"⟩
abbrev cX0_isPassed : ByteArray := prog_2_method_15_code
def yX0_isPassed : MethodName := ⟨RX0, "isPassed", "(II)Z"⟩
abbrev cX0_liftThosePassed : ByteArray := prog_2_method_16_code
def yX0_liftThosePassed : MethodName := ⟨RX0, "liftThosePassed", "(I)V"⟩
abbrev cX0_comeTo : ByteArray := prog_2_method_17_code
def yX0_comeTo : MethodName := ⟨RX0, "comeTo", "(II)V"⟩
abbrev cX0_goToNextMover : ByteArray := prog_2_method_18_code
def yX0_goToNextMover : MethodName := ⟨RX0, "goToNextMover", "()V"⟩
abbrev cX0_behind : ByteArray := prog_2_method_19_code
def yX0_behind : MethodName := ⟨RX0, "behind", "(I)I"⟩
abbrev cX0_isLanding : ByteArray := prog_2_method_20_code
def yX0_isLanding : MethodName := ⟨RX0, "isLanding", "(I)Z"⟩
abbrev cX0_isUpperEnd : ByteArray := prog_2_method_21_code
def yX0_isUpperEnd : MethodName := ⟨RX0, "isUpperEnd", "(I)Z"⟩
abbrev cX0_climbersOn : ByteArray := prog_2_method_22_code
def yX0_climbersOn : MethodName := ⟨RX0, "climbersOn", "(I)I"⟩
abbrev cX0_countCarpets : ByteArray := prog_2_method_23_code
def yX0_countCarpets : MethodName := ⟨RX0, "countCarpets", "()I"⟩
abbrev cX0_countLandings : ByteArray := prog_2_method_24_code
def yX0_countLandings : MethodName := ⟨RX0, "countLandings", "()I"⟩
abbrev cX0_lowerEndsAt : ByteArray := prog_2_method_25_code
def yX0_lowerEndsAt : MethodName := ⟨RX0, "lowerEndsAt", "(I)I"⟩
abbrev cX0_partOfStep : ByteArray := prog_2_method_26_code
def yX0_partOfStep : MethodName := ⟨RX0, "partOfStep", "(II)I"⟩
abbrev cX0_partOfClimber : ByteArray := prog_2_method_27_code
def yX0_partOfClimber : MethodName := ⟨RX0, "partOfClimber", "(II)I"⟩
abbrev cX0_progressOf : ByteArray := prog_2_method_28_code
def yX0_progressOf : MethodName := ⟨RX0, "progressOf", "(I)I"⟩
abbrev cX0_totalOf : ByteArray := prog_2_method_29_code
def yX0_totalOf : MethodName := ⟨RX0, "totalOf", "(I)I"⟩
abbrev cX0_liftsOfAll : ByteArray := prog_2_method_30_code
def yX0_liftsOfAll : MethodName := ⟨RX0, "liftsOfAll", "()I"⟩
abbrev cX0_slipsOfAll : ByteArray := prog_2_method_31_code
def yX0_slipsOfAll : MethodName := ⟨RX0, "slipsOfAll", "()I"⟩
abbrev cX0_topsOfAll : ByteArray := prog_2_method_32_code
def yX0_topsOfAll : MethodName := ⟨RX0, "topsOfAll", "()I"⟩
abbrev cX0_sumOf : ByteArray := prog_2_method_33_code
def yX0_sumOf : MethodName := ⟨RX0, "sumOf", "([I)I"⟩
abbrev cX0_climberAtPlace : ByteArray := prog_2_method_34_code
def yX0_climberAtPlace : MethodName := ⟨RX0, "climberAtPlace", "(I)I"⟩
abbrev cX0_climbersAheadOf : ByteArray := prog_2_method_35_code
def yX0_climbersAheadOf : MethodName := ⟨RX0, "climbersAheadOf", "(I)I"⟩
abbrev cX0_fewestRollsOf : ByteArray := prog_2_method_36_code
def yX0_fewestRollsOf : MethodName := ⟨RX0, "fewestRollsOf", "(I)I"⟩
abbrev cX0_reachedWithOneMore : ByteArray := prog_2_method_37_code
def yX0_reachedWithOneMore : MethodName := ⟨RX0, "reachedWithOneMore", "(J)J"⟩
abbrev cX0_reachedFrom : ByteArray := prog_2_method_38_code
def yX0_reachedFrom : MethodName := ⟨RX0, "reachedFrom", "(I)J"⟩
def RX1 : String := "LiftingStairs$History"
def TX1 : u_T := fun k => match k with
  | 0 => ("LiftingStairs$History", "games", "[LLiftingStairs$Game;", true)
  | _ => ("LiftingStairs$History", "count", "I", false)
def tyX1 : Nat → FieldType := fun k => match k with
  | 0 => .array (.object "LiftingStairs$Game")
  | _ => .int
abbrev wsX10 : List Cond := u_ws RX1 TX1 2
theorem nmX1 : ∀ a, a < 2 → ∀ b, b < 2 → a ≠ b → (TX1 a).2.1 ≠ (TX1 b).2.1 := by decide +kernel
theorem tyX1_ok : ∀ k, k < 2 → parseFieldDescriptor (TX1 k).2.2.1 = some (tyX1 k) := by decide +kernel
abbrev cX1_init : ByteArray := prog_3_method_1_code
def yX1_init : MethodName := ⟨RX1, "<init>", "()V"⟩
abbrev cX1_keep : ByteArray := prog_3_method_3_code
def yX1_keep : MethodName := ⟨RX1, "keep", "(LLiftingStairs$Game;)V"⟩
abbrev cX1_makeOldestLast : ByteArray := prog_3_method_5_code
def yX1_makeOldestLast : MethodName := ⟨RX1, "makeOldestLast", "()V"⟩
def RX2 : String := "LiftingStairs$MoveText"
def TX2 : u_T := fun k => match k with
  | 0 => ("LiftingStairs$MoveText", "signs", "[C", true)
  | _ => ("LiftingStairs$MoveText", "length", "I", false)
def tyX2 : Nat → FieldType := fun k => match k with
  | 0 => .array .char
  | _ => .int
abbrev wsX20 : List Cond := u_ws RX2 TX2 2
theorem nmX2 : ∀ a, a < 2 → ∀ b, b < 2 → a ≠ b → (TX2 a).2.1 ≠ (TX2 b).2.1 := by decide +kernel
theorem tyX2_ok : ∀ k, k < 2 → parseFieldDescriptor (TX2 k).2.2.1 = some (tyX2 k) := by decide +kernel
abbrev cX2_init : ByteArray := prog_4_method_1_code
def yX2_init : MethodName := ⟨RX2, "<init>", "()V"⟩
def RX3 : String := "LiftingStairs"
def TX3 : u_T := fun k => match k with
  | 0 => ("LiftingStairs", "game", "LLiftingStairs$Game;", true)
  | 1 => ("LiftingStairs", "ahead", "LLiftingStairs$Game;", true)
  | 2 => ("LiftingStairs", "trial", "LLiftingStairs$Game;", true)
  | 3 => ("LiftingStairs", "saved", "LLiftingStairs$Game;", true)
  | 4 => ("LiftingStairs", "history", "LLiftingStairs$History;", true)
  | 5 => ("LiftingStairs", "text", "LLiftingStairs$MoveText;", true)
  | _ => ("LiftingStairs", "hasSaved", "Z", false)
def tyX3 : Nat → FieldType := fun k => match k with
  | 0 => .object "LiftingStairs$Game"
  | 1 => .object "LiftingStairs$Game"
  | 2 => .object "LiftingStairs$Game"
  | 3 => .object "LiftingStairs$Game"
  | 4 => .object "LiftingStairs$History"
  | 5 => .object "LiftingStairs$MoveText"
  | _ => .boolean
abbrev wsX30 : List Cond := u_ws RX3 TX3 7
theorem nmX3 : ∀ a, a < 7 → ∀ b, b < 7 → a ≠ b → (TX3 a).2.1 ≠ (TX3 b).2.1 := by decide +kernel
theorem tyX3_ok : ∀ k, k < 7 → parseFieldDescriptor (TX3 k).2.2.1 = some (tyX3 k) := by decide +kernel
abbrev cX3_init : ByteArray := prog_1_method_1_code
def yX3_init : MethodName := ⟨RX3, "<init>", "()V"⟩
abbrev cX3_setTop : ByteArray := prog_1_method_2_code
def yX3_setTop : MethodName := ⟨RX3, "setTop", "(I)I"⟩
abbrev cX3_lay : ByteArray := prog_1_method_3_code
def yX3_lay : MethodName := ⟨RX3, "lay", "(II)I"⟩
abbrev cX3_take : ByteArray := prog_1_method_4_code
def yX3_take : MethodName := ⟨RX3, "take", "(I)I"⟩
abbrev cX3_put : ByteArray := prog_1_method_5_code
def yX3_put : MethodName := ⟨RX3, "put", "(I)I"⟩
abbrev cX3_remove : ByteArray := prog_1_method_6_code
def yX3_remove : MethodName := ⟨RX3, "remove", "(I)I"⟩
abbrev cX3_join : ByteArray := prog_1_method_7_code
def yX3_join : MethodName := ⟨RX3, "join", "()I"⟩
abbrev cX3_roll : ByteArray := prog_1_method_8_code
def yX3_roll : MethodName := ⟨RX3, "roll", "(I)I"⟩
abbrev cX3_pass : ByteArray := prog_1_method_9_code
def yX3_pass : MethodName := ⟨RX3, "pass", "()I"⟩
abbrev cX3_climber : ByteArray := prog_1_method_10_code
def yX3_climber : MethodName := ⟨RX3, "climber", "(II)I"⟩
abbrev cX3_turn : ByteArray := prog_1_method_11_code
def yX3_turn : MethodName := ⟨RX3, "turn", "()I"⟩
abbrev cX3_on : ByteArray := prog_1_method_12_code
def yX3_on : MethodName := ⟨RX3, "on", "(I)I"⟩
abbrev cX3_step : ByteArray := prog_1_method_13_code
def yX3_step : MethodName := ⟨RX3, "step", "(II)I"⟩
abbrev cX3_total : ByteArray := prog_1_method_14_code
def yX3_total : MethodName := ⟨RX3, "total", "(I)I"⟩
abbrev cX3_rank : ByteArray := prog_1_method_15_code
def yX3_rank : MethodName := ⟨RX3, "rank", "(I)I"⟩
abbrev cX3_ifRolled : ByteArray := prog_1_method_16_code
def yX3_ifRolled : MethodName := ⟨RX3, "ifRolled", "(II)I"⟩
abbrev cX3_bestRoll : ByteArray := prog_1_method_17_code
def yX3_bestRoll : MethodName := ⟨RX3, "bestRoll", "()I"⟩
abbrev cX3_quietRolls : ByteArray := prog_1_method_18_code
def yX3_quietRolls : MethodName := ⟨RX3, "quietRolls", "()I"⟩
abbrev cX3_rollsToTop : ByteArray := prog_1_method_19_code
def yX3_rollsToTop : MethodName := ⟨RX3, "rollsToTop", "(I)I"⟩
abbrev cX3_recordUnlessError : ByteArray := prog_1_method_27_code
def yX3_recordUnlessError : MethodName := ⟨RX3, "recordUnlessError", "(I)I"⟩
abbrev cX3_rollInTrial : ByteArray := prog_1_method_28_code
def yX3_rollInTrial : MethodName := ⟨RX3, "rollInTrial", "(I)I"⟩
abbrev cX3_gainOfRoll : ByteArray := prog_1_method_29_code
def yX3_gainOfRoll : MethodName := ⟨RX3, "gainOfRoll", "(I)I"⟩
abbrev cX3_isRoll : ByteArray := prog_1_method_32_code
def yX3_isRoll : MethodName := ⟨RX3, "isRoll", "(I)Z"⟩
def RX4 : String := "LiftingStairsModel"
def TX4 : u_T := fun k => match k with
  | _ => ("", "", "", false)
def tyX4 : Nat → FieldType := fun k => match k with
  | _ => .int
abbrev wsX40 : List Cond := u_ws RX4 TX4 0
theorem nmX4 : ∀ a, a < 0 → ∀ b, b < 0 → a ≠ b → (TX4 a).2.1 ≠ (TX4 b).2.1 := by decide +kernel
theorem tyX4_ok : ∀ k, k < 0 → parseFieldDescriptor (TX4 k).2.2.1 = some (tyX4 k) := by decide +kernel
def RJ6 : String := "java/lang/Integer"
def TJ6 : u_T := fun k => match k with
  | _ => ("", "", "", false)
def tyJ6 : Nat → FieldType := fun k => match k with
  | _ => .int
abbrev wsJ60 : List Cond := u_ws RJ6 TJ6 0
theorem nmJ6 : ∀ a, a < 0 → ∀ b, b < 0 → a ≠ b → (TJ6 a).2.1 ≠ (TJ6 b).2.1 := by decide +kernel
theorem tyJ6_ok : ∀ k, k < 0 → parseFieldDescriptor (TJ6 k).2.2.1 = some (tyJ6 k) := by decide +kernel
abbrev cJ6_bitCount_0f7a4 : ByteArray := prog_7_method_49_code
def yJ6_bitCount_0f7a4 : MethodName := ⟨RJ6, "bitCount", "(I)I"⟩
def RJ10 : String := "java/lang/System"
def TJ10 : u_T := fun k => match k with
  | _ => ("", "", "", false)
def tyJ10 : Nat → FieldType := fun k => match k with
  | _ => .int
abbrev wsJ100 : List Cond := u_ws RJ10 TJ10 0
theorem nmJ10 : ∀ a, a < 0 → ∀ b, b < 0 → a ≠ b → (TJ10 a).2.1 ≠ (TJ10 b).2.1 := by decide +kernel
theorem tyJ10_ok : ∀ k, k < 0 → parseFieldDescriptor (TJ10 k).2.2.1 = some (tyJ10 k) := by decide +kernel
def RL : String := "LiftingStairsLaw"
abbrev cL_cell : ByteArray := method_2_code
def yL_cell : MethodName := ⟨RL, "cell", "([II)I"⟩
abbrev cL_low : ByteArray := method_3_code
def yL_low : MethodName := ⟨RL, "low", "(II)I"⟩
abbrev cL_come : ByteArray := method_4_code
def yL_come : MethodName := ⟨RL, "come", "([I[I[III)V"⟩
abbrev cL_next : ByteArray := method_5_code
def yL_next : MethodName := ⟨RL, "next", "([I[I)V"⟩
abbrev cL_roll : ByteArray := method_6_code
def yL_roll : MethodName := ⟨RL, "roll", "([I[I[I[II)I"⟩
abbrev cL_progress : ByteArray := method_7_code
def yL_progress : MethodName := ⟨RL, "progress", "([I[II)I"⟩
abbrev cL_tops : ByteArray := method_8_code
def yL_tops : MethodName := ⟨RL, "tops", "([I[I)I"⟩
abbrev cL_copy : ByteArray := method_9_code
def yL_copy : MethodName := ⟨RL, "copy", "([I[I)V"⟩
abbrev cL_sum : ByteArray := method_10_code
def yL_sum : MethodName := ⟨RL, "sum", "([I)I"⟩
abbrev cL_ahead : ByteArray := method_11_code
def yL_ahead : MethodName := ⟨RL, "ahead", "(LLiftingStairs;[I[I[I[I)Z"⟩
abbrev cL_fewest : ByteArray := method_12_code
def yL_fewest : MethodName := ⟨RL, "fewest", "([I[II)I"⟩
abbrev cL_game : ByteArray := method_13_code
def yL_game : MethodName := ⟨RL, "game", "(LLiftingStairs;[I[I[I[II)Z"⟩
abbrev cL_law : ByteArray := code
def yL_law : MethodName := ⟨RL, "law", "([I)Z"⟩
theorem dX0_init_0 : decode cX0_init 0 = .ok (.aload_n 0, 1) := by decide +kernel
theorem dX0_init_1 : decode cX0_init 1 = .ok (.invokespecial 3, 3) := by decide +kernel
theorem dX0_init_4 : decode cX0_init 4 = .ok (.aload_n 0, 1) := by decide +kernel
theorem dX0_init_5 : decode cX0_init 5 = .ok (.bipush 60, 2) := by decide +kernel
theorem dX0_init_7 : decode cX0_init 7 = .ok (.newarray .int, 2) := by decide +kernel
theorem dX0_init_9 : decode cX0_init 9 = .ok (.putfield 9, 3) := by decide +kernel
theorem dX0_init_12 : decode cX0_init 12 = .ok (.aload_n 0, 1) := by decide +kernel
theorem dX0_init_13 : decode cX0_init 13 = .ok (.bipush 60, 2) := by decide +kernel
theorem dX0_init_15 : decode cX0_init 15 = .ok (.newarray .boolean, 2) := by decide +kernel
theorem dX0_init_17 : decode cX0_init 17 = .ok (.putfield 15, 3) := by decide +kernel
theorem dX0_init_20 : decode cX0_init 20 = .ok (.aload_n 0, 1) := by decide +kernel
theorem dX0_init_21 : decode cX0_init 21 = .ok (.bipush 6, 2) := by decide +kernel
theorem dX0_init_23 : decode cX0_init 23 = .ok (.newarray .int, 2) := by decide +kernel
theorem dX0_init_25 : decode cX0_init 25 = .ok (.putfield 19, 3) := by decide +kernel
theorem dX0_init_28 : decode cX0_init 28 = .ok (.aload_n 0, 1) := by decide +kernel
theorem dX0_init_29 : decode cX0_init 29 = .ok (.bipush 6, 2) := by decide +kernel
theorem dX0_init_31 : decode cX0_init 31 = .ok (.newarray .int, 2) := by decide +kernel
theorem dX0_init_33 : decode cX0_init 33 = .ok (.putfield 22, 3) := by decide +kernel
theorem dX0_init_36 : decode cX0_init 36 = .ok (.aload_n 0, 1) := by decide +kernel
theorem dX0_init_37 : decode cX0_init 37 = .ok (.bipush 6, 2) := by decide +kernel
theorem dX0_init_39 : decode cX0_init 39 = .ok (.newarray .int, 2) := by decide +kernel
theorem dX0_init_41 : decode cX0_init 41 = .ok (.putfield 25, 3) := by decide +kernel
theorem dX0_init_44 : decode cX0_init 44 = .ok (.aload_n 0, 1) := by decide +kernel
theorem dX0_init_45 : decode cX0_init 45 = .ok (.bipush 6, 2) := by decide +kernel
theorem dX0_init_47 : decode cX0_init 47 = .ok (.newarray .int, 2) := by decide +kernel
theorem dX0_init_49 : decode cX0_init 49 = .ok (.putfield 28, 3) := by decide +kernel
theorem dX0_init_52 : decode cX0_init 52 = .ok (.aload_n 0, 1) := by decide +kernel
theorem dX0_init_53 : decode cX0_init 53 = .ok (.bipush 6, 2) := by decide +kernel
theorem dX0_init_55 : decode cX0_init 55 = .ok (.newarray .int, 2) := by decide +kernel
theorem dX0_init_57 : decode cX0_init 57 = .ok (.putfield 31, 3) := by decide +kernel
theorem dX0_init_60 : decode cX0_init 60 = .ok (.aload_n 0, 1) := by decide +kernel
theorem dX0_init_61 : decode cX0_init 61 = .ok (.bipush 6, 2) := by decide +kernel
theorem dX0_init_63 : decode cX0_init 63 = .ok (.newarray .int, 2) := by decide +kernel
theorem dX0_init_65 : decode cX0_init 65 = .ok (.putfield 34, 3) := by decide +kernel
theorem dX0_init_68 : decode cX0_init 68 = .ok (.aload_n 0, 1) := by decide +kernel
theorem dX0_init_69 : decode cX0_init 69 = .ok (.bipush 30, 2) := by decide +kernel
theorem dX0_init_71 : decode cX0_init 71 = .ok (.putfield 37, 3) := by decide +kernel
theorem dX0_init_74 : decode cX0_init 74 = .ok (.aload_n 0, 1) := by decide +kernel
theorem dX0_init_75 : decode cX0_init 75 = .ok (.iconst 0, 1) := by decide +kernel
theorem dX0_init_76 : decode cX0_init 76 = .ok (.putfield 41, 3) := by decide +kernel
theorem dX0_init_79 : decode cX0_init 79 = .ok (.aload_n 0, 1) := by decide +kernel
theorem dX0_init_80 : decode cX0_init 80 = .ok (.iconst 0, 1) := by decide +kernel
theorem dX0_init_81 : decode cX0_init 81 = .ok (.putfield 44, 3) := by decide +kernel
theorem dX0_init_84 : decode cX0_init 84 = .ok (.aload_n 0, 1) := by decide +kernel
theorem dX0_init_85 : decode cX0_init 85 = .ok (.iconst 0, 1) := by decide +kernel
theorem dX0_init_86 : decode cX0_init 86 = .ok (.putfield 47, 3) := by decide +kernel
theorem dX0_init_89 : decode cX0_init 89 = .ok (.aload_n 0, 1) := by decide +kernel
theorem dX0_init_90 : decode cX0_init 90 = .ok (.iconst 0, 1) := by decide +kernel
theorem dX0_init_91 : decode cX0_init 91 = .ok (.putfield 50, 3) := by decide +kernel
theorem dX0_init_94 : decode cX0_init 94 = .ok (.iconst 0, 1) := by decide +kernel
theorem dX0_init_95 : decode cX0_init 95 = .ok (.istore_n 1, 1) := by decide +kernel
theorem dX0_init_96 : decode cX0_init 96 = .ok (.iload_n 1, 1) := by decide +kernel
theorem dX0_init_97 : decode cX0_init 97 = .ok (.bipush 60, 2) := by decide +kernel
theorem dX0_init_99 : decode cX0_init 99 = .ok (.if_icmp .ge 17, 3) := by decide +kernel
theorem dX0_init_102 : decode cX0_init 102 = .ok (.aload_n 0, 1) := by decide +kernel
theorem dX0_init_103 : decode cX0_init 103 = .ok (.getfield 9, 3) := by decide +kernel
theorem dX0_init_106 : decode cX0_init 106 = .ok (.iload_n 1, 1) := by decide +kernel
theorem dX0_init_107 : decode cX0_init 107 = .ok (.bipush (-6), 2) := by decide +kernel
theorem dX0_init_109 : decode cX0_init 109 = .ok (.iastore, 1) := by decide +kernel
theorem dX0_init_110 : decode cX0_init 110 = .ok (.iinc 1 1, 3) := by decide +kernel
theorem dX0_init_113 : decode cX0_init 113 = .ok (.goto (-17), 3) := by decide +kernel
theorem dX0_init_116 : decode cX0_init 116 = .ok (.return_, 1) := by decide +kernel
theorem dX0_copyFrom_0 : decode cX0_copyFrom 0 = .ok (.aload_n 1, 1) := by decide +kernel
theorem dX0_copyFrom_1 : decode cX0_copyFrom 1 = .ok (.ifnonnull 4, 3) := by decide +kernel
theorem dX0_copyFrom_4 : decode cX0_copyFrom 4 = .ok (.return_, 1) := by decide +kernel
theorem dX0_copyFrom_5 : decode cX0_copyFrom 5 = .ok (.aload_n 1, 1) := by decide +kernel
theorem dX0_copyFrom_6 : decode cX0_copyFrom 6 = .ok (.getfield 9, 3) := by decide +kernel
theorem dX0_copyFrom_9 : decode cX0_copyFrom 9 = .ok (.iconst 0, 1) := by decide +kernel
theorem dX0_copyFrom_10 : decode cX0_copyFrom 10 = .ok (.aload_n 0, 1) := by decide +kernel
theorem dX0_copyFrom_11 : decode cX0_copyFrom 11 = .ok (.getfield 9, 3) := by decide +kernel
theorem dX0_copyFrom_14 : decode cX0_copyFrom 14 = .ok (.iconst 0, 1) := by decide +kernel
theorem dX0_copyFrom_15 : decode cX0_copyFrom 15 = .ok (.bipush 60, 2) := by decide +kernel
theorem dX0_copyFrom_17 : decode cX0_copyFrom 17 = .ok (.invokestatic 53, 3) := by decide +kernel
theorem dX0_copyFrom_20 : decode cX0_copyFrom 20 = .ok (.aload_n 1, 1) := by decide +kernel
theorem dX0_copyFrom_21 : decode cX0_copyFrom 21 = .ok (.getfield 15, 3) := by decide +kernel
theorem dX0_copyFrom_24 : decode cX0_copyFrom 24 = .ok (.iconst 0, 1) := by decide +kernel
theorem dX0_copyFrom_25 : decode cX0_copyFrom 25 = .ok (.aload_n 0, 1) := by decide +kernel
theorem dX0_copyFrom_26 : decode cX0_copyFrom 26 = .ok (.getfield 15, 3) := by decide +kernel
theorem dX0_copyFrom_29 : decode cX0_copyFrom 29 = .ok (.iconst 0, 1) := by decide +kernel
theorem dX0_copyFrom_30 : decode cX0_copyFrom 30 = .ok (.bipush 60, 2) := by decide +kernel
theorem dX0_copyFrom_32 : decode cX0_copyFrom 32 = .ok (.invokestatic 53, 3) := by decide +kernel
theorem dX0_copyFrom_35 : decode cX0_copyFrom 35 = .ok (.aload_n 1, 1) := by decide +kernel
theorem dX0_copyFrom_36 : decode cX0_copyFrom 36 = .ok (.getfield 19, 3) := by decide +kernel
theorem dX0_copyFrom_39 : decode cX0_copyFrom 39 = .ok (.iconst 0, 1) := by decide +kernel
theorem dX0_copyFrom_40 : decode cX0_copyFrom 40 = .ok (.aload_n 0, 1) := by decide +kernel
theorem dX0_copyFrom_41 : decode cX0_copyFrom 41 = .ok (.getfield 19, 3) := by decide +kernel
theorem dX0_copyFrom_44 : decode cX0_copyFrom 44 = .ok (.iconst 0, 1) := by decide +kernel
theorem dX0_copyFrom_45 : decode cX0_copyFrom 45 = .ok (.bipush 6, 2) := by decide +kernel
theorem dX0_copyFrom_47 : decode cX0_copyFrom 47 = .ok (.invokestatic 53, 3) := by decide +kernel
theorem dX0_copyFrom_50 : decode cX0_copyFrom 50 = .ok (.aload_n 1, 1) := by decide +kernel
theorem dX0_copyFrom_51 : decode cX0_copyFrom 51 = .ok (.getfield 22, 3) := by decide +kernel
theorem dX0_copyFrom_54 : decode cX0_copyFrom 54 = .ok (.iconst 0, 1) := by decide +kernel
theorem dX0_copyFrom_55 : decode cX0_copyFrom 55 = .ok (.aload_n 0, 1) := by decide +kernel
theorem dX0_copyFrom_56 : decode cX0_copyFrom 56 = .ok (.getfield 22, 3) := by decide +kernel
theorem dX0_copyFrom_59 : decode cX0_copyFrom 59 = .ok (.iconst 0, 1) := by decide +kernel
theorem dX0_copyFrom_60 : decode cX0_copyFrom 60 = .ok (.bipush 6, 2) := by decide +kernel
theorem dX0_copyFrom_62 : decode cX0_copyFrom 62 = .ok (.invokestatic 53, 3) := by decide +kernel
theorem dX0_copyFrom_65 : decode cX0_copyFrom 65 = .ok (.aload_n 1, 1) := by decide +kernel
theorem dX0_copyFrom_66 : decode cX0_copyFrom 66 = .ok (.getfield 25, 3) := by decide +kernel
theorem dX0_copyFrom_69 : decode cX0_copyFrom 69 = .ok (.iconst 0, 1) := by decide +kernel
theorem dX0_copyFrom_70 : decode cX0_copyFrom 70 = .ok (.aload_n 0, 1) := by decide +kernel
theorem dX0_copyFrom_71 : decode cX0_copyFrom 71 = .ok (.getfield 25, 3) := by decide +kernel
theorem dX0_copyFrom_74 : decode cX0_copyFrom 74 = .ok (.iconst 0, 1) := by decide +kernel
theorem dX0_copyFrom_75 : decode cX0_copyFrom 75 = .ok (.bipush 6, 2) := by decide +kernel
theorem dX0_copyFrom_77 : decode cX0_copyFrom 77 = .ok (.invokestatic 53, 3) := by decide +kernel
theorem dX0_copyFrom_80 : decode cX0_copyFrom 80 = .ok (.aload_n 1, 1) := by decide +kernel
theorem dX0_copyFrom_81 : decode cX0_copyFrom 81 = .ok (.getfield 28, 3) := by decide +kernel
theorem dX0_copyFrom_84 : decode cX0_copyFrom 84 = .ok (.iconst 0, 1) := by decide +kernel
theorem dX0_copyFrom_85 : decode cX0_copyFrom 85 = .ok (.aload_n 0, 1) := by decide +kernel
theorem dX0_copyFrom_86 : decode cX0_copyFrom 86 = .ok (.getfield 28, 3) := by decide +kernel
theorem dX0_copyFrom_89 : decode cX0_copyFrom 89 = .ok (.iconst 0, 1) := by decide +kernel
theorem dX0_copyFrom_90 : decode cX0_copyFrom 90 = .ok (.bipush 6, 2) := by decide +kernel
theorem dX0_copyFrom_92 : decode cX0_copyFrom 92 = .ok (.invokestatic 53, 3) := by decide +kernel
theorem dX0_copyFrom_95 : decode cX0_copyFrom 95 = .ok (.aload_n 1, 1) := by decide +kernel
theorem dX0_copyFrom_96 : decode cX0_copyFrom 96 = .ok (.getfield 31, 3) := by decide +kernel
theorem dX0_copyFrom_99 : decode cX0_copyFrom 99 = .ok (.iconst 0, 1) := by decide +kernel
theorem dX0_copyFrom_100 : decode cX0_copyFrom 100 = .ok (.aload_n 0, 1) := by decide +kernel
theorem dX0_copyFrom_101 : decode cX0_copyFrom 101 = .ok (.getfield 31, 3) := by decide +kernel
theorem dX0_copyFrom_104 : decode cX0_copyFrom 104 = .ok (.iconst 0, 1) := by decide +kernel
theorem dX0_copyFrom_105 : decode cX0_copyFrom 105 = .ok (.bipush 6, 2) := by decide +kernel
theorem dX0_copyFrom_107 : decode cX0_copyFrom 107 = .ok (.invokestatic 53, 3) := by decide +kernel
theorem dX0_copyFrom_110 : decode cX0_copyFrom 110 = .ok (.aload_n 1, 1) := by decide +kernel
theorem dX0_copyFrom_111 : decode cX0_copyFrom 111 = .ok (.getfield 34, 3) := by decide +kernel
theorem dX0_copyFrom_114 : decode cX0_copyFrom 114 = .ok (.iconst 0, 1) := by decide +kernel
theorem dX0_copyFrom_115 : decode cX0_copyFrom 115 = .ok (.aload_n 0, 1) := by decide +kernel
theorem dX0_copyFrom_116 : decode cX0_copyFrom 116 = .ok (.getfield 34, 3) := by decide +kernel
theorem dX0_copyFrom_119 : decode cX0_copyFrom 119 = .ok (.iconst 0, 1) := by decide +kernel
theorem dX0_copyFrom_120 : decode cX0_copyFrom 120 = .ok (.bipush 6, 2) := by decide +kernel
theorem dX0_copyFrom_122 : decode cX0_copyFrom 122 = .ok (.invokestatic 53, 3) := by decide +kernel
theorem dX0_copyFrom_125 : decode cX0_copyFrom 125 = .ok (.aload_n 0, 1) := by decide +kernel
theorem dX0_copyFrom_126 : decode cX0_copyFrom 126 = .ok (.aload_n 1, 1) := by decide +kernel
theorem dX0_copyFrom_127 : decode cX0_copyFrom 127 = .ok (.getfield 37, 3) := by decide +kernel
theorem dX0_copyFrom_130 : decode cX0_copyFrom 130 = .ok (.putfield 37, 3) := by decide +kernel
theorem dX0_copyFrom_133 : decode cX0_copyFrom 133 = .ok (.aload_n 0, 1) := by decide +kernel
theorem dX0_copyFrom_134 : decode cX0_copyFrom 134 = .ok (.aload_n 1, 1) := by decide +kernel
theorem dX0_copyFrom_135 : decode cX0_copyFrom 135 = .ok (.getfield 41, 3) := by decide +kernel
theorem dX0_copyFrom_138 : decode cX0_copyFrom 138 = .ok (.putfield 41, 3) := by decide +kernel
theorem dX0_copyFrom_141 : decode cX0_copyFrom 141 = .ok (.aload_n 0, 1) := by decide +kernel
theorem dX0_copyFrom_142 : decode cX0_copyFrom 142 = .ok (.aload_n 1, 1) := by decide +kernel
theorem dX0_copyFrom_143 : decode cX0_copyFrom 143 = .ok (.getfield 44, 3) := by decide +kernel
theorem dX0_copyFrom_146 : decode cX0_copyFrom 146 = .ok (.putfield 44, 3) := by decide +kernel
theorem dX0_copyFrom_149 : decode cX0_copyFrom 149 = .ok (.aload_n 0, 1) := by decide +kernel
theorem dX0_copyFrom_150 : decode cX0_copyFrom 150 = .ok (.aload_n 1, 1) := by decide +kernel
theorem dX0_copyFrom_151 : decode cX0_copyFrom 151 = .ok (.getfield 47, 3) := by decide +kernel
theorem dX0_copyFrom_154 : decode cX0_copyFrom 154 = .ok (.putfield 47, 3) := by decide +kernel
theorem dX0_copyFrom_157 : decode cX0_copyFrom 157 = .ok (.aload_n 0, 1) := by decide +kernel
theorem dX0_copyFrom_158 : decode cX0_copyFrom 158 = .ok (.aload_n 1, 1) := by decide +kernel
theorem dX0_copyFrom_159 : decode cX0_copyFrom 159 = .ok (.getfield 50, 3) := by decide +kernel
theorem dX0_copyFrom_162 : decode cX0_copyFrom 162 = .ok (.putfield 50, 3) := by decide +kernel
theorem dX0_copyFrom_165 : decode cX0_copyFrom 165 = .ok (.return_, 1) := by decide +kernel
theorem dX0_isBelowTop_0 : decode cX0_isBelowTop 0 = .ok (.iload_n 1, 1) := by decide +kernel
theorem dX0_isBelowTop_1 : decode cX0_isBelowTop 1 = .ok (.ifCond .lt 15, 3) := by decide +kernel
theorem dX0_isBelowTop_4 : decode cX0_isBelowTop 4 = .ok (.iload_n 1, 1) := by decide +kernel
theorem dX0_isBelowTop_5 : decode cX0_isBelowTop 5 = .ok (.aload_n 0, 1) := by decide +kernel
theorem dX0_isBelowTop_6 : decode cX0_isBelowTop 6 = .ok (.getfield 37, 3) := by decide +kernel
theorem dX0_isBelowTop_9 : decode cX0_isBelowTop 9 = .ok (.if_icmp .ge 7, 3) := by decide +kernel
theorem dX0_isBelowTop_12 : decode cX0_isBelowTop 12 = .ok (.iconst 1, 1) := by decide +kernel
theorem dX0_isBelowTop_13 : decode cX0_isBelowTop 13 = .ok (.goto 4, 3) := by decide +kernel
theorem dX0_isBelowTop_16 : decode cX0_isBelowTop 16 = .ok (.iconst 0, 1) := by decide +kernel
theorem dX0_isBelowTop_17 : decode cX0_isBelowTop 17 = .ok (.ireturn, 1) := by decide +kernel
theorem dX0_isClimber_0 : decode cX0_isClimber 0 = .ok (.iload_n 1, 1) := by decide +kernel
theorem dX0_isClimber_1 : decode cX0_isClimber 1 = .ok (.ifCond .lt 15, 3) := by decide +kernel
theorem dX0_isClimber_4 : decode cX0_isClimber 4 = .ok (.iload_n 1, 1) := by decide +kernel
theorem dX0_isClimber_5 : decode cX0_isClimber 5 = .ok (.aload_n 0, 1) := by decide +kernel
theorem dX0_isClimber_6 : decode cX0_isClimber 6 = .ok (.getfield 41, 3) := by decide +kernel
theorem dX0_isClimber_9 : decode cX0_isClimber 9 = .ok (.if_icmp .ge 7, 3) := by decide +kernel
theorem dX0_isClimber_12 : decode cX0_isClimber 12 = .ok (.iconst 1, 1) := by decide +kernel
theorem dX0_isClimber_13 : decode cX0_isClimber 13 = .ok (.goto 4, 3) := by decide +kernel
theorem dX0_isClimber_16 : decode cX0_isClimber 16 = .ok (.iconst 0, 1) := by decide +kernel
theorem dX0_isClimber_17 : decode cX0_isClimber 17 = .ok (.ireturn, 1) := by decide +kernel
theorem dX0_hasMover_0 : decode cX0_hasMover 0 = .ok (.aload_n 0, 1) := by decide +kernel
theorem dX0_hasMover_1 : decode cX0_hasMover 1 = .ok (.aload_n 0, 1) := by decide +kernel
theorem dX0_hasMover_2 : decode cX0_hasMover 2 = .ok (.getfield 44, 3) := by decide +kernel
theorem dX0_hasMover_5 : decode cX0_hasMover 5 = .ok (.invokevirtual 59, 3) := by decide +kernel
theorem dX0_hasMover_8 : decode cX0_hasMover 8 = .ok (.ireturn, 1) := by decide +kernel
theorem dX0_changeTop_0 : decode cX0_changeTop 0 = .ok (.iload_n 1, 1) := by decide +kernel
theorem dX0_changeTop_1 : decode cX0_changeTop 1 = .ok (.bipush 10, 2) := by decide +kernel
theorem dX0_changeTop_3 : decode cX0_changeTop 3 = .ok (.if_icmp .lt 9, 3) := by decide +kernel
theorem dX0_changeTop_6 : decode cX0_changeTop 6 = .ok (.iload_n 1, 1) := by decide +kernel
theorem dX0_changeTop_7 : decode cX0_changeTop 7 = .ok (.bipush 60, 2) := by decide +kernel
theorem dX0_changeTop_9 : decode cX0_changeTop 9 = .ok (.if_icmp .le 6, 3) := by decide +kernel
theorem dX0_changeTop_12 : decode cX0_changeTop 12 = .ok (.bipush (-2), 2) := by decide +kernel
theorem dX0_changeTop_14 : decode cX0_changeTop 14 = .ok (.ireturn, 1) := by decide +kernel
theorem dX0_changeTop_15 : decode cX0_changeTop 15 = .ok (.iload_n 1, 1) := by decide +kernel
theorem dX0_changeTop_16 : decode cX0_changeTop 16 = .ok (.istore_n 2, 1) := by decide +kernel
theorem dX0_changeTop_17 : decode cX0_changeTop 17 = .ok (.iload_n 2, 1) := by decide +kernel
theorem dX0_changeTop_18 : decode cX0_changeTop 18 = .ok (.aload_n 0, 1) := by decide +kernel
theorem dX0_changeTop_19 : decode cX0_changeTop 19 = .ok (.getfield 37, 3) := by decide +kernel
theorem dX0_changeTop_22 : decode cX0_changeTop 22 = .ok (.if_icmp .ge 37, 3) := by decide +kernel
theorem dX0_changeTop_25 : decode cX0_changeTop 25 = .ok (.aload_n 0, 1) := by decide +kernel
theorem dX0_changeTop_26 : decode cX0_changeTop 26 = .ok (.getfield 15, 3) := by decide +kernel
theorem dX0_changeTop_29 : decode cX0_changeTop 29 = .ok (.iload_n 2, 1) := by decide +kernel
theorem dX0_changeTop_30 : decode cX0_changeTop 30 = .ok (.baload, 1) := by decide +kernel
theorem dX0_changeTop_31 : decode cX0_changeTop 31 = .ok (.ifCond .ne 19, 3) := by decide +kernel
theorem dX0_changeTop_34 : decode cX0_changeTop 34 = .ok (.aload_n 0, 1) := by decide +kernel
theorem dX0_changeTop_35 : decode cX0_changeTop 35 = .ok (.iload_n 2, 1) := by decide +kernel
theorem dX0_changeTop_36 : decode cX0_changeTop 36 = .ok (.invokevirtual 63, 3) := by decide +kernel
theorem dX0_changeTop_39 : decode cX0_changeTop 39 = .ok (.ifCond .ne 11, 3) := by decide +kernel
theorem dX0_changeTop_42 : decode cX0_changeTop 42 = .ok (.aload_n 0, 1) := by decide +kernel
theorem dX0_changeTop_43 : decode cX0_changeTop 43 = .ok (.iload_n 2, 1) := by decide +kernel
theorem dX0_changeTop_44 : decode cX0_changeTop 44 = .ok (.invokevirtual 66, 3) := by decide +kernel
theorem dX0_changeTop_47 : decode cX0_changeTop 47 = .ok (.ifCond .eq 6, 3) := by decide +kernel
theorem dX0_changeTop_50 : decode cX0_changeTop 50 = .ok (.bipush (-3), 2) := by decide +kernel
theorem dX0_changeTop_52 : decode cX0_changeTop 52 = .ok (.ireturn, 1) := by decide +kernel
theorem dX0_changeTop_53 : decode cX0_changeTop 53 = .ok (.iinc 2 1, 3) := by decide +kernel
theorem dX0_changeTop_56 : decode cX0_changeTop 56 = .ok (.goto (-39), 3) := by decide +kernel
theorem dX0_changeTop_59 : decode cX0_changeTop 59 = .ok (.aload_n 0, 1) := by decide +kernel
theorem dX0_changeTop_60 : decode cX0_changeTop 60 = .ok (.getfield 37, 3) := by decide +kernel
theorem dX0_changeTop_63 : decode cX0_changeTop 63 = .ok (.istore_n 2, 1) := by decide +kernel
theorem dX0_changeTop_64 : decode cX0_changeTop 64 = .ok (.aload_n 0, 1) := by decide +kernel
theorem dX0_changeTop_65 : decode cX0_changeTop 65 = .ok (.iload_n 1, 1) := by decide +kernel
theorem dX0_changeTop_66 : decode cX0_changeTop 66 = .ok (.putfield 37, 3) := by decide +kernel
theorem dX0_changeTop_69 : decode cX0_changeTop 69 = .ok (.iload_n 2, 1) := by decide +kernel
theorem dX0_changeTop_70 : decode cX0_changeTop 70 = .ok (.ireturn, 1) := by decide +kernel
theorem dX0_layCarpet_0 : decode cX0_layCarpet 0 = .ok (.iload_n 1, 1) := by decide +kernel
theorem dX0_layCarpet_1 : decode cX0_layCarpet 1 = .ok (.ifCond .eq 11, 3) := by decide +kernel
theorem dX0_layCarpet_4 : decode cX0_layCarpet 4 = .ok (.aload_n 0, 1) := by decide +kernel
theorem dX0_layCarpet_5 : decode cX0_layCarpet 5 = .ok (.iload_n 1, 1) := by decide +kernel
theorem dX0_layCarpet_6 : decode cX0_layCarpet 6 = .ok (.invokevirtual 70, 3) := by decide +kernel
theorem dX0_layCarpet_9 : decode cX0_layCarpet 9 = .ok (.ifCond .ne 5, 3) := by decide +kernel
theorem dX0_layCarpet_12 : decode cX0_layCarpet 12 = .ok (.iconst (-1), 1) := by decide +kernel
theorem dX0_layCarpet_13 : decode cX0_layCarpet 13 = .ok (.ireturn, 1) := by decide +kernel
theorem dX0_layCarpet_14 : decode cX0_layCarpet 14 = .ok (.iload_n 2, 1) := by decide +kernel
theorem dX0_layCarpet_15 : decode cX0_layCarpet 15 = .ok (.ifCond .lt 8, 3) := by decide +kernel
theorem dX0_layCarpet_18 : decode cX0_layCarpet 18 = .ok (.iload_n 2, 1) := by decide +kernel
theorem dX0_layCarpet_19 : decode cX0_layCarpet 19 = .ok (.iload_n 1, 1) := by decide +kernel
theorem dX0_layCarpet_20 : decode cX0_layCarpet 20 = .ok (.if_icmp .lt 6, 3) := by decide +kernel
theorem dX0_layCarpet_23 : decode cX0_layCarpet 23 = .ok (.bipush (-2), 2) := by decide +kernel
theorem dX0_layCarpet_25 : decode cX0_layCarpet 25 = .ok (.ireturn, 1) := by decide +kernel
theorem dX0_layCarpet_26 : decode cX0_layCarpet 26 = .ok (.aload_n 0, 1) := by decide +kernel
theorem dX0_layCarpet_27 : decode cX0_layCarpet 27 = .ok (.iload_n 1, 1) := by decide +kernel
theorem dX0_layCarpet_28 : decode cX0_layCarpet 28 = .ok (.invokevirtual 63, 3) := by decide +kernel
theorem dX0_layCarpet_31 : decode cX0_layCarpet 31 = .ok (.ifCond .ne 19, 3) := by decide +kernel
theorem dX0_layCarpet_34 : decode cX0_layCarpet 34 = .ok (.aload_n 0, 1) := by decide +kernel
theorem dX0_layCarpet_35 : decode cX0_layCarpet 35 = .ok (.iload_n 2, 1) := by decide +kernel
theorem dX0_layCarpet_36 : decode cX0_layCarpet 36 = .ok (.invokevirtual 63, 3) := by decide +kernel
theorem dX0_layCarpet_39 : decode cX0_layCarpet 39 = .ok (.ifCond .ne 11, 3) := by decide +kernel
theorem dX0_layCarpet_42 : decode cX0_layCarpet 42 = .ok (.aload_n 0, 1) := by decide +kernel
theorem dX0_layCarpet_43 : decode cX0_layCarpet 43 = .ok (.iload_n 1, 1) := by decide +kernel
theorem dX0_layCarpet_44 : decode cX0_layCarpet 44 = .ok (.invokevirtual 73, 3) := by decide +kernel
theorem dX0_layCarpet_47 : decode cX0_layCarpet 47 = .ok (.ifCond .le 6, 3) := by decide +kernel
theorem dX0_layCarpet_50 : decode cX0_layCarpet 50 = .ok (.bipush (-3), 2) := by decide +kernel
theorem dX0_layCarpet_52 : decode cX0_layCarpet 52 = .ok (.ireturn, 1) := by decide +kernel
theorem dX0_layCarpet_53 : decode cX0_layCarpet 53 = .ok (.aload_n 0, 1) := by decide +kernel
theorem dX0_layCarpet_54 : decode cX0_layCarpet 54 = .ok (.getfield 15, 3) := by decide +kernel
theorem dX0_layCarpet_57 : decode cX0_layCarpet 57 = .ok (.iload_n 1, 1) := by decide +kernel
theorem dX0_layCarpet_58 : decode cX0_layCarpet 58 = .ok (.baload, 1) := by decide +kernel
theorem dX0_layCarpet_59 : decode cX0_layCarpet 59 = .ok (.ifCond .ne 11, 3) := by decide +kernel
theorem dX0_layCarpet_62 : decode cX0_layCarpet 62 = .ok (.aload_n 0, 1) := by decide +kernel
theorem dX0_layCarpet_63 : decode cX0_layCarpet 63 = .ok (.iload_n 1, 1) := by decide +kernel
theorem dX0_layCarpet_64 : decode cX0_layCarpet 64 = .ok (.invokevirtual 66, 3) := by decide +kernel
theorem dX0_layCarpet_67 : decode cX0_layCarpet 67 = .ok (.ifCond .eq 6, 3) := by decide +kernel
theorem dX0_layCarpet_70 : decode cX0_layCarpet 70 = .ok (.bipush (-3), 2) := by decide +kernel
theorem dX0_layCarpet_72 : decode cX0_layCarpet 72 = .ok (.ireturn, 1) := by decide +kernel
theorem dX0_layCarpet_73 : decode cX0_layCarpet 73 = .ok (.aload_n 0, 1) := by decide +kernel
theorem dX0_layCarpet_74 : decode cX0_layCarpet 74 = .ok (.invokevirtual 76, 3) := by decide +kernel
theorem dX0_layCarpet_77 : decode cX0_layCarpet 77 = .ok (.bipush 6, 2) := by decide +kernel
theorem dX0_layCarpet_79 : decode cX0_layCarpet 79 = .ok (.if_icmp .lt 6, 3) := by decide +kernel
theorem dX0_layCarpet_82 : decode cX0_layCarpet 82 = .ok (.bipush (-4), 2) := by decide +kernel
theorem dX0_layCarpet_84 : decode cX0_layCarpet 84 = .ok (.ireturn, 1) := by decide +kernel
theorem dX0_layCarpet_85 : decode cX0_layCarpet 85 = .ok (.aload_n 0, 1) := by decide +kernel
theorem dX0_layCarpet_86 : decode cX0_layCarpet 86 = .ok (.getfield 9, 3) := by decide +kernel
theorem dX0_layCarpet_89 : decode cX0_layCarpet 89 = .ok (.iload_n 1, 1) := by decide +kernel
theorem dX0_layCarpet_90 : decode cX0_layCarpet 90 = .ok (.iload_n 2, 1) := by decide +kernel
theorem dX0_layCarpet_91 : decode cX0_layCarpet 91 = .ok (.iastore, 1) := by decide +kernel
theorem dX0_layCarpet_92 : decode cX0_layCarpet 92 = .ok (.aload_n 0, 1) := by decide +kernel
theorem dX0_layCarpet_93 : decode cX0_layCarpet 93 = .ok (.invokevirtual 76, 3) := by decide +kernel
theorem dX0_layCarpet_96 : decode cX0_layCarpet 96 = .ok (.ireturn, 1) := by decide +kernel
theorem dX0_takeCarpet_0 : decode cX0_takeCarpet 0 = .ok (.aload_n 0, 1) := by decide +kernel
theorem dX0_takeCarpet_1 : decode cX0_takeCarpet 1 = .ok (.iload_n 1, 1) := by decide +kernel
theorem dX0_takeCarpet_2 : decode cX0_takeCarpet 2 = .ok (.invokevirtual 63, 3) := by decide +kernel
theorem dX0_takeCarpet_5 : decode cX0_takeCarpet 5 = .ok (.ifCond .ne 5, 3) := by decide +kernel
theorem dX0_takeCarpet_8 : decode cX0_takeCarpet 8 = .ok (.iconst (-1), 1) := by decide +kernel
theorem dX0_takeCarpet_9 : decode cX0_takeCarpet 9 = .ok (.ireturn, 1) := by decide +kernel
theorem dX0_takeCarpet_10 : decode cX0_takeCarpet 10 = .ok (.aload_n 0, 1) := by decide +kernel
theorem dX0_takeCarpet_11 : decode cX0_takeCarpet 11 = .ok (.getfield 9, 3) := by decide +kernel
theorem dX0_takeCarpet_14 : decode cX0_takeCarpet 14 = .ok (.iload_n 1, 1) := by decide +kernel
theorem dX0_takeCarpet_15 : decode cX0_takeCarpet 15 = .ok (.iaload, 1) := by decide +kernel
theorem dX0_takeCarpet_16 : decode cX0_takeCarpet 16 = .ok (.istore_n 2, 1) := by decide +kernel
theorem dX0_takeCarpet_17 : decode cX0_takeCarpet 17 = .ok (.aload_n 0, 1) := by decide +kernel
theorem dX0_takeCarpet_18 : decode cX0_takeCarpet 18 = .ok (.getfield 9, 3) := by decide +kernel
theorem dX0_takeCarpet_21 : decode cX0_takeCarpet 21 = .ok (.iload_n 1, 1) := by decide +kernel
theorem dX0_takeCarpet_22 : decode cX0_takeCarpet 22 = .ok (.bipush (-6), 2) := by decide +kernel
theorem dX0_takeCarpet_24 : decode cX0_takeCarpet 24 = .ok (.iastore, 1) := by decide +kernel
theorem dX0_takeCarpet_25 : decode cX0_takeCarpet 25 = .ok (.iload_n 2, 1) := by decide +kernel
theorem dX0_takeCarpet_26 : decode cX0_takeCarpet 26 = .ok (.ireturn, 1) := by decide +kernel
theorem dX0_putLanding_0 : decode cX0_putLanding 0 = .ok (.iload_n 1, 1) := by decide +kernel
theorem dX0_putLanding_1 : decode cX0_putLanding 1 = .ok (.ifCond .eq 11, 3) := by decide +kernel
theorem dX0_putLanding_4 : decode cX0_putLanding 4 = .ok (.aload_n 0, 1) := by decide +kernel
theorem dX0_putLanding_5 : decode cX0_putLanding 5 = .ok (.iload_n 1, 1) := by decide +kernel
theorem dX0_putLanding_6 : decode cX0_putLanding 6 = .ok (.invokevirtual 70, 3) := by decide +kernel
theorem dX0_putLanding_9 : decode cX0_putLanding 9 = .ok (.ifCond .ne 5, 3) := by decide +kernel
theorem dX0_putLanding_12 : decode cX0_putLanding 12 = .ok (.iconst (-1), 1) := by decide +kernel
theorem dX0_putLanding_13 : decode cX0_putLanding 13 = .ok (.ireturn, 1) := by decide +kernel
theorem dX0_putLanding_14 : decode cX0_putLanding 14 = .ok (.aload_n 0, 1) := by decide +kernel
theorem dX0_putLanding_15 : decode cX0_putLanding 15 = .ok (.getfield 15, 3) := by decide +kernel
theorem dX0_putLanding_18 : decode cX0_putLanding 18 = .ok (.iload_n 1, 1) := by decide +kernel
theorem dX0_putLanding_19 : decode cX0_putLanding 19 = .ok (.baload, 1) := by decide +kernel
theorem dX0_putLanding_20 : decode cX0_putLanding 20 = .ok (.ifCond .ne 11, 3) := by decide +kernel
theorem dX0_putLanding_23 : decode cX0_putLanding 23 = .ok (.aload_n 0, 1) := by decide +kernel
theorem dX0_putLanding_24 : decode cX0_putLanding 24 = .ok (.iload_n 1, 1) := by decide +kernel
theorem dX0_putLanding_25 : decode cX0_putLanding 25 = .ok (.invokevirtual 63, 3) := by decide +kernel
theorem dX0_putLanding_28 : decode cX0_putLanding 28 = .ok (.ifCond .eq 6, 3) := by decide +kernel
theorem dX0_putLanding_31 : decode cX0_putLanding 31 = .ok (.bipush (-3), 2) := by decide +kernel
theorem dX0_putLanding_33 : decode cX0_putLanding 33 = .ok (.ireturn, 1) := by decide +kernel
theorem dX0_putLanding_34 : decode cX0_putLanding 34 = .ok (.aload_n 0, 1) := by decide +kernel
theorem dX0_putLanding_35 : decode cX0_putLanding 35 = .ok (.getfield 15, 3) := by decide +kernel
theorem dX0_putLanding_38 : decode cX0_putLanding 38 = .ok (.iload_n 1, 1) := by decide +kernel
theorem dX0_putLanding_39 : decode cX0_putLanding 39 = .ok (.iconst 1, 1) := by decide +kernel
theorem dX0_putLanding_40 : decode cX0_putLanding 40 = .ok (.bastore, 1) := by decide +kernel
theorem dX0_putLanding_41 : decode cX0_putLanding 41 = .ok (.aload_n 0, 1) := by decide +kernel
theorem dX0_putLanding_42 : decode cX0_putLanding 42 = .ok (.invokevirtual 80, 3) := by decide +kernel
theorem dX0_putLanding_45 : decode cX0_putLanding 45 = .ok (.ireturn, 1) := by decide +kernel
theorem dX0_removeLanding_0 : decode cX0_removeLanding 0 = .ok (.aload_n 0, 1) := by decide +kernel
theorem dX0_removeLanding_1 : decode cX0_removeLanding 1 = .ok (.iload_n 1, 1) := by decide +kernel
theorem dX0_removeLanding_2 : decode cX0_removeLanding 2 = .ok (.invokevirtual 83, 3) := by decide +kernel
theorem dX0_removeLanding_5 : decode cX0_removeLanding 5 = .ok (.ifCond .ne 5, 3) := by decide +kernel
theorem dX0_removeLanding_8 : decode cX0_removeLanding 8 = .ok (.iconst (-1), 1) := by decide +kernel
theorem dX0_removeLanding_9 : decode cX0_removeLanding 9 = .ok (.ireturn, 1) := by decide +kernel
theorem dX0_removeLanding_10 : decode cX0_removeLanding 10 = .ok (.aload_n 0, 1) := by decide +kernel
theorem dX0_removeLanding_11 : decode cX0_removeLanding 11 = .ok (.getfield 15, 3) := by decide +kernel
theorem dX0_removeLanding_14 : decode cX0_removeLanding 14 = .ok (.iload_n 1, 1) := by decide +kernel
theorem dX0_removeLanding_15 : decode cX0_removeLanding 15 = .ok (.iconst 0, 1) := by decide +kernel
theorem dX0_removeLanding_16 : decode cX0_removeLanding 16 = .ok (.bastore, 1) := by decide +kernel
theorem dX0_removeLanding_17 : decode cX0_removeLanding 17 = .ok (.aload_n 0, 1) := by decide +kernel
theorem dX0_removeLanding_18 : decode cX0_removeLanding 18 = .ok (.iload_n 1, 1) := by decide +kernel
theorem dX0_removeLanding_19 : decode cX0_removeLanding 19 = .ok (.invokevirtual 66, 3) := by decide +kernel
theorem dX0_removeLanding_22 : decode cX0_removeLanding 22 = .ok (.invokestatic 86, 3) := by decide +kernel
theorem dX0_removeLanding_25 : decode cX0_removeLanding 25 = .ok (.ireturn, 1) := by decide +kernel
theorem dX0_addClimber_0 : decode cX0_addClimber 0 = .ok (.aload_n 0, 1) := by decide +kernel
theorem dX0_addClimber_1 : decode cX0_addClimber 1 = .ok (.getfield 41, 3) := by decide +kernel
theorem dX0_addClimber_4 : decode cX0_addClimber 4 = .ok (.bipush 6, 2) := by decide +kernel
theorem dX0_addClimber_6 : decode cX0_addClimber 6 = .ok (.if_icmp .lt 6, 3) := by decide +kernel
theorem dX0_addClimber_9 : decode cX0_addClimber 9 = .ok (.bipush (-4), 2) := by decide +kernel
theorem dX0_addClimber_11 : decode cX0_addClimber 11 = .ok (.ireturn, 1) := by decide +kernel
theorem dX0_addClimber_12 : decode cX0_addClimber 12 = .ok (.aload_n 0, 1) := by decide +kernel
theorem dX0_addClimber_13 : decode cX0_addClimber 13 = .ok (.dup, 1) := by decide +kernel
theorem dX0_addClimber_14 : decode cX0_addClimber 14 = .ok (.getfield 41, 3) := by decide +kernel
theorem dX0_addClimber_17 : decode cX0_addClimber 17 = .ok (.iconst 1, 1) := by decide +kernel
theorem dX0_addClimber_18 : decode cX0_addClimber 18 = .ok (.iadd, 1) := by decide +kernel
theorem dX0_addClimber_19 : decode cX0_addClimber 19 = .ok (.putfield 41, 3) := by decide +kernel
theorem dX0_addClimber_22 : decode cX0_addClimber 22 = .ok (.aload_n 0, 1) := by decide +kernel
theorem dX0_addClimber_23 : decode cX0_addClimber 23 = .ok (.getfield 41, 3) := by decide +kernel
theorem dX0_addClimber_26 : decode cX0_addClimber 26 = .ok (.iconst 1, 1) := by decide +kernel
theorem dX0_addClimber_27 : decode cX0_addClimber 27 = .ok (.isub, 1) := by decide +kernel
theorem dX0_addClimber_28 : decode cX0_addClimber 28 = .ok (.ireturn, 1) := by decide +kernel
theorem dX0_makeRoll_0 : decode cX0_makeRoll 0 = .ok (.iload_n 1, 1) := by decide +kernel
theorem dX0_makeRoll_1 : decode cX0_makeRoll 1 = .ok (.invokestatic 91, 3) := by decide +kernel
theorem dX0_makeRoll_4 : decode cX0_makeRoll 4 = .ok (.ifCond .ne 6, 3) := by decide +kernel
theorem dX0_makeRoll_7 : decode cX0_makeRoll 7 = .ok (.bipush (-2), 2) := by decide +kernel
theorem dX0_makeRoll_9 : decode cX0_makeRoll 9 = .ok (.ireturn, 1) := by decide +kernel
theorem dX0_makeRoll_10 : decode cX0_makeRoll 10 = .ok (.aload_n 0, 1) := by decide +kernel
theorem dX0_makeRoll_11 : decode cX0_makeRoll 11 = .ok (.invokevirtual 94, 3) := by decide +kernel
theorem dX0_makeRoll_14 : decode cX0_makeRoll 14 = .ok (.ifCond .ne 6, 3) := by decide +kernel
theorem dX0_makeRoll_17 : decode cX0_makeRoll 17 = .ok (.bipush (-3), 2) := by decide +kernel
theorem dX0_makeRoll_19 : decode cX0_makeRoll 19 = .ok (.ireturn, 1) := by decide +kernel
theorem dX0_makeRoll_20 : decode cX0_makeRoll 20 = .ok (.aload_n 0, 1) := by decide +kernel
theorem dX0_makeRoll_21 : decode cX0_makeRoll 21 = .ok (.getfield 44, 3) := by decide +kernel
theorem dX0_makeRoll_24 : decode cX0_makeRoll 24 = .ok (.istore_n 2, 1) := by decide +kernel
theorem dX0_makeRoll_25 : decode cX0_makeRoll 25 = .ok (.aload_n 0, 1) := by decide +kernel
theorem dX0_makeRoll_26 : decode cX0_makeRoll 26 = .ok (.getfield 19, 3) := by decide +kernel
theorem dX0_makeRoll_29 : decode cX0_makeRoll 29 = .ok (.iload_n 2, 1) := by decide +kernel
theorem dX0_makeRoll_30 : decode cX0_makeRoll 30 = .ok (.iaload, 1) := by decide +kernel
theorem dX0_makeRoll_31 : decode cX0_makeRoll 31 = .ok (.iload_n 1, 1) := by decide +kernel
theorem dX0_makeRoll_32 : decode cX0_makeRoll 32 = .ok (.iadd, 1) := by decide +kernel
theorem dX0_makeRoll_33 : decode cX0_makeRoll 33 = .ok (.istore_n 3, 1) := by decide +kernel
theorem dX0_makeRoll_34 : decode cX0_makeRoll 34 = .ok (.aload_n 0, 1) := by decide +kernel
theorem dX0_makeRoll_35 : decode cX0_makeRoll 35 = .ok (.dup, 1) := by decide +kernel
theorem dX0_makeRoll_36 : decode cX0_makeRoll 36 = .ok (.getfield 47, 3) := by decide +kernel
theorem dX0_makeRoll_39 : decode cX0_makeRoll 39 = .ok (.iconst 1, 1) := by decide +kernel
theorem dX0_makeRoll_40 : decode cX0_makeRoll 40 = .ok (.iadd, 1) := by decide +kernel
theorem dX0_makeRoll_41 : decode cX0_makeRoll 41 = .ok (.putfield 47, 3) := by decide +kernel
theorem dX0_makeRoll_44 : decode cX0_makeRoll 44 = .ok (.aload_n 0, 1) := by decide +kernel
theorem dX0_makeRoll_45 : decode cX0_makeRoll 45 = .ok (.iload_n 1, 1) := by decide +kernel
theorem dX0_makeRoll_46 : decode cX0_makeRoll 46 = .ok (.invokevirtual 98, 3) := by decide +kernel
theorem dX0_makeRoll_49 : decode cX0_makeRoll 49 = .ok (.aload_n 0, 1) := by decide +kernel
theorem dX0_makeRoll_50 : decode cX0_makeRoll 50 = .ok (.iload_n 2, 1) := by decide +kernel
theorem dX0_makeRoll_51 : decode cX0_makeRoll 51 = .ok (.iload_n 3, 1) := by decide +kernel
theorem dX0_makeRoll_52 : decode cX0_makeRoll 52 = .ok (.invokevirtual 102, 3) := by decide +kernel
theorem dX0_makeRoll_55 : decode cX0_makeRoll 55 = .ok (.aload_n 0, 1) := by decide +kernel
theorem dX0_makeRoll_56 : decode cX0_makeRoll 56 = .ok (.iload_n 3, 1) := by decide +kernel
theorem dX0_makeRoll_57 : decode cX0_makeRoll 57 = .ok (.invokevirtual 83, 3) := by decide +kernel
theorem dX0_makeRoll_60 : decode cX0_makeRoll 60 = .ok (.ifCond .eq 13, 3) := by decide +kernel
theorem dX0_makeRoll_63 : decode cX0_makeRoll 63 = .ok (.aload_n 0, 1) := by decide +kernel
theorem dX0_makeRoll_64 : decode cX0_makeRoll 64 = .ok (.getfield 25, 3) := by decide +kernel
theorem dX0_makeRoll_67 : decode cX0_makeRoll 67 = .ok (.iload_n 2, 1) := by decide +kernel
theorem dX0_makeRoll_68 : decode cX0_makeRoll 68 = .ok (.dup2, 1) := by decide +kernel
theorem dX0_makeRoll_69 : decode cX0_makeRoll 69 = .ok (.iaload, 1) := by decide +kernel
theorem dX0_makeRoll_70 : decode cX0_makeRoll 70 = .ok (.iconst 1, 1) := by decide +kernel
theorem dX0_makeRoll_71 : decode cX0_makeRoll 71 = .ok (.iadd, 1) := by decide +kernel
theorem dX0_makeRoll_72 : decode cX0_makeRoll 72 = .ok (.iastore, 1) := by decide +kernel
theorem dX0_makeRoll_73 : decode cX0_makeRoll 73 = .ok (.aload_n 0, 1) := by decide +kernel
theorem dX0_makeRoll_74 : decode cX0_makeRoll 74 = .ok (.invokevirtual 106, 3) := by decide +kernel
theorem dX0_makeRoll_77 : decode cX0_makeRoll 77 = .ok (.aload_n 0, 1) := by decide +kernel
theorem dX0_makeRoll_78 : decode cX0_makeRoll 78 = .ok (.getfield 19, 3) := by decide +kernel
theorem dX0_makeRoll_81 : decode cX0_makeRoll 81 = .ok (.iload_n 2, 1) := by decide +kernel
theorem dX0_makeRoll_82 : decode cX0_makeRoll 82 = .ok (.iaload, 1) := by decide +kernel
theorem dX0_makeRoll_83 : decode cX0_makeRoll 83 = .ok (.ireturn, 1) := by decide +kernel
theorem dX0_makePass_0 : decode cX0_makePass 0 = .ok (.aload_n 0, 1) := by decide +kernel
theorem dX0_makePass_1 : decode cX0_makePass 1 = .ok (.invokevirtual 94, 3) := by decide +kernel
theorem dX0_makePass_4 : decode cX0_makePass 4 = .ok (.ifCond .ne 6, 3) := by decide +kernel
theorem dX0_makePass_7 : decode cX0_makePass 7 = .ok (.bipush (-3), 2) := by decide +kernel
theorem dX0_makePass_9 : decode cX0_makePass 9 = .ok (.ireturn, 1) := by decide +kernel
theorem dX0_makePass_10 : decode cX0_makePass 10 = .ok (.aload_n 0, 1) := by decide +kernel
theorem dX0_makePass_11 : decode cX0_makePass 11 = .ok (.invokevirtual 106, 3) := by decide +kernel
theorem dX0_makePass_14 : decode cX0_makePass 14 = .ok (.aload_n 0, 1) := by decide +kernel
theorem dX0_makePass_15 : decode cX0_makePass 15 = .ok (.getfield 44, 3) := by decide +kernel
theorem dX0_makePass_18 : decode cX0_makePass 18 = .ok (.ireturn, 1) := by decide +kernel
theorem dX0_wouldLift_0 : decode cX0_wouldLift 0 = .ok (.iconst 0, 1) := by decide +kernel
theorem dX0_wouldLift_1 : decode cX0_wouldLift 1 = .ok (.istore_n 2, 1) := by decide +kernel
theorem dX0_wouldLift_2 : decode cX0_wouldLift 2 = .ok (.iload_n 2, 1) := by decide +kernel
theorem dX0_wouldLift_3 : decode cX0_wouldLift 3 = .ok (.aload_n 0, 1) := by decide +kernel
theorem dX0_wouldLift_4 : decode cX0_wouldLift 4 = .ok (.getfield 41, 3) := by decide +kernel
theorem dX0_wouldLift_7 : decode cX0_wouldLift 7 = .ok (.if_icmp .ge 20, 3) := by decide +kernel
theorem dX0_wouldLift_10 : decode cX0_wouldLift 10 = .ok (.aload_n 0, 1) := by decide +kernel
theorem dX0_wouldLift_11 : decode cX0_wouldLift 11 = .ok (.iload_n 2, 1) := by decide +kernel
theorem dX0_wouldLift_12 : decode cX0_wouldLift 12 = .ok (.iload_n 1, 1) := by decide +kernel
theorem dX0_wouldLift_13 : decode cX0_wouldLift 13 = .ok (.invokevirtual 109, 3) := by decide +kernel
theorem dX0_wouldLift_16 : decode cX0_wouldLift 16 = .ok (.ifCond .eq 5, 3) := by decide +kernel
theorem dX0_wouldLift_19 : decode cX0_wouldLift 19 = .ok (.iconst 1, 1) := by decide +kernel
theorem dX0_wouldLift_20 : decode cX0_wouldLift 20 = .ok (.ireturn, 1) := by decide +kernel
theorem dX0_wouldLift_21 : decode cX0_wouldLift 21 = .ok (.iinc 2 1, 3) := by decide +kernel
theorem dX0_wouldLift_24 : decode cX0_wouldLift 24 = .ok (.goto (-22), 3) := by decide +kernel
theorem dX0_wouldLift_27 : decode cX0_wouldLift 27 = .ok (.iconst 0, 1) := by decide +kernel
theorem dX0_wouldLift_28 : decode cX0_wouldLift 28 = .ok (.ireturn, 1) := by decide +kernel
theorem dX0_isPassed_0 : decode cX0_isPassed 0 = .ok (.aload_n 0, 1) := by decide +kernel
theorem dX0_isPassed_1 : decode cX0_isPassed 1 = .ok (.getfield 19, 3) := by decide +kernel
theorem dX0_isPassed_4 : decode cX0_isPassed 4 = .ok (.iload_n 1, 1) := by decide +kernel
theorem dX0_isPassed_5 : decode cX0_isPassed 5 = .ok (.iaload, 1) := by decide +kernel
theorem dX0_isPassed_6 : decode cX0_isPassed 6 = .ok (.istore_n 3, 1) := by decide +kernel
theorem dX0_isPassed_7 : decode cX0_isPassed 7 = .ok (.aload_n 0, 1) := by decide +kernel
theorem dX0_isPassed_8 : decode cX0_isPassed 8 = .ok (.getfield 19, 3) := by decide +kernel
theorem dX0_isPassed_11 : decode cX0_isPassed 11 = .ok (.aload_n 0, 1) := by decide +kernel
theorem dX0_isPassed_12 : decode cX0_isPassed 12 = .ok (.getfield 44, 3) := by decide +kernel
theorem dX0_isPassed_15 : decode cX0_isPassed 15 = .ok (.iaload, 1) := by decide +kernel
theorem dX0_isPassed_16 : decode cX0_isPassed 16 = .ok (.istore 4, 2) := by decide +kernel
theorem dX0_isPassed_18 : decode cX0_isPassed 18 = .ok (.iload_n 3, 1) := by decide +kernel
theorem dX0_isPassed_19 : decode cX0_isPassed 19 = .ok (.iload 4, 2) := by decide +kernel
theorem dX0_isPassed_21 : decode cX0_isPassed 21 = .ok (.if_icmp .le 23, 3) := by decide +kernel
theorem dX0_isPassed_24 : decode cX0_isPassed 24 = .ok (.iload_n 3, 1) := by decide +kernel
theorem dX0_isPassed_25 : decode cX0_isPassed 25 = .ok (.iload 4, 2) := by decide +kernel
theorem dX0_isPassed_27 : decode cX0_isPassed 27 = .ok (.iload_n 2, 1) := by decide +kernel
theorem dX0_isPassed_28 : decode cX0_isPassed 28 = .ok (.iadd, 1) := by decide +kernel
theorem dX0_isPassed_29 : decode cX0_isPassed 29 = .ok (.if_icmp .ge 15, 3) := by decide +kernel
theorem dX0_isPassed_32 : decode cX0_isPassed 32 = .ok (.aload_n 0, 1) := by decide +kernel
theorem dX0_isPassed_33 : decode cX0_isPassed 33 = .ok (.iload_n 3, 1) := by decide +kernel
theorem dX0_isPassed_34 : decode cX0_isPassed 34 = .ok (.invokevirtual 83, 3) := by decide +kernel
theorem dX0_isPassed_37 : decode cX0_isPassed 37 = .ok (.ifCond .ne 7, 3) := by decide +kernel
theorem dX0_isPassed_40 : decode cX0_isPassed 40 = .ok (.iconst 1, 1) := by decide +kernel
theorem dX0_isPassed_41 : decode cX0_isPassed 41 = .ok (.goto 4, 3) := by decide +kernel
theorem dX0_isPassed_44 : decode cX0_isPassed 44 = .ok (.iconst 0, 1) := by decide +kernel
theorem dX0_isPassed_45 : decode cX0_isPassed 45 = .ok (.ireturn, 1) := by decide +kernel
theorem dX0_liftThosePassed_0 : decode cX0_liftThosePassed 0 = .ok (.iconst 0, 1) := by decide +kernel
theorem dX0_liftThosePassed_1 : decode cX0_liftThosePassed 1 = .ok (.istore_n 2, 1) := by decide +kernel
theorem dX0_liftThosePassed_2 : decode cX0_liftThosePassed 2 = .ok (.iload_n 2, 1) := by decide +kernel
theorem dX0_liftThosePassed_3 : decode cX0_liftThosePassed 3 = .ok (.aload_n 0, 1) := by decide +kernel
theorem dX0_liftThosePassed_4 : decode cX0_liftThosePassed 4 = .ok (.getfield 41, 3) := by decide +kernel
theorem dX0_liftThosePassed_7 : decode cX0_liftThosePassed 7 = .ok (.if_icmp .ge 54, 3) := by decide +kernel
theorem dX0_liftThosePassed_10 : decode cX0_liftThosePassed 10 = .ok (.aload_n 0, 1) := by decide +kernel
theorem dX0_liftThosePassed_11 : decode cX0_liftThosePassed 11 = .ok (.iload_n 2, 1) := by decide +kernel
theorem dX0_liftThosePassed_12 : decode cX0_liftThosePassed 12 = .ok (.iload_n 1, 1) := by decide +kernel
theorem dX0_liftThosePassed_13 : decode cX0_liftThosePassed 13 = .ok (.invokevirtual 109, 3) := by decide +kernel
theorem dX0_liftThosePassed_16 : decode cX0_liftThosePassed 16 = .ok (.ifCond .eq 39, 3) := by decide +kernel
theorem dX0_liftThosePassed_19 : decode cX0_liftThosePassed 19 = .ok (.aload_n 0, 1) := by decide +kernel
theorem dX0_liftThosePassed_20 : decode cX0_liftThosePassed 20 = .ok (.getfield 28, 3) := by decide +kernel
theorem dX0_liftThosePassed_23 : decode cX0_liftThosePassed 23 = .ok (.iload_n 2, 1) := by decide +kernel
theorem dX0_liftThosePassed_24 : decode cX0_liftThosePassed 24 = .ok (.dup2, 1) := by decide +kernel
theorem dX0_liftThosePassed_25 : decode cX0_liftThosePassed 25 = .ok (.iaload, 1) := by decide +kernel
theorem dX0_liftThosePassed_26 : decode cX0_liftThosePassed 26 = .ok (.iconst 1, 1) := by decide +kernel
theorem dX0_liftThosePassed_27 : decode cX0_liftThosePassed 27 = .ok (.iadd, 1) := by decide +kernel
theorem dX0_liftThosePassed_28 : decode cX0_liftThosePassed 28 = .ok (.iastore, 1) := by decide +kernel
theorem dX0_liftThosePassed_29 : decode cX0_liftThosePassed 29 = .ok (.aload_n 0, 1) := by decide +kernel
theorem dX0_liftThosePassed_30 : decode cX0_liftThosePassed 30 = .ok (.getfield 31, 3) := by decide +kernel
theorem dX0_liftThosePassed_33 : decode cX0_liftThosePassed 33 = .ok (.aload_n 0, 1) := by decide +kernel
theorem dX0_liftThosePassed_34 : decode cX0_liftThosePassed 34 = .ok (.getfield 44, 3) := by decide +kernel
theorem dX0_liftThosePassed_37 : decode cX0_liftThosePassed 37 = .ok (.dup2, 1) := by decide +kernel
theorem dX0_liftThosePassed_38 : decode cX0_liftThosePassed 38 = .ok (.iaload, 1) := by decide +kernel
theorem dX0_liftThosePassed_39 : decode cX0_liftThosePassed 39 = .ok (.iconst 1, 1) := by decide +kernel
theorem dX0_liftThosePassed_40 : decode cX0_liftThosePassed 40 = .ok (.iadd, 1) := by decide +kernel
theorem dX0_liftThosePassed_41 : decode cX0_liftThosePassed 41 = .ok (.iastore, 1) := by decide +kernel
theorem dX0_liftThosePassed_42 : decode cX0_liftThosePassed 42 = .ok (.aload_n 0, 1) := by decide +kernel
theorem dX0_liftThosePassed_43 : decode cX0_liftThosePassed 43 = .ok (.iload_n 2, 1) := by decide +kernel
theorem dX0_liftThosePassed_44 : decode cX0_liftThosePassed 44 = .ok (.aload_n 0, 1) := by decide +kernel
theorem dX0_liftThosePassed_45 : decode cX0_liftThosePassed 45 = .ok (.getfield 19, 3) := by decide +kernel
theorem dX0_liftThosePassed_48 : decode cX0_liftThosePassed 48 = .ok (.iload_n 2, 1) := by decide +kernel
theorem dX0_liftThosePassed_49 : decode cX0_liftThosePassed 49 = .ok (.iaload, 1) := by decide +kernel
theorem dX0_liftThosePassed_50 : decode cX0_liftThosePassed 50 = .ok (.iconst 1, 1) := by decide +kernel
theorem dX0_liftThosePassed_51 : decode cX0_liftThosePassed 51 = .ok (.iadd, 1) := by decide +kernel
theorem dX0_liftThosePassed_52 : decode cX0_liftThosePassed 52 = .ok (.invokevirtual 102, 3) := by decide +kernel
theorem dX0_liftThosePassed_55 : decode cX0_liftThosePassed 55 = .ok (.iinc 2 1, 3) := by decide +kernel
theorem dX0_liftThosePassed_58 : decode cX0_liftThosePassed 58 = .ok (.goto (-56), 3) := by decide +kernel
theorem dX0_liftThosePassed_61 : decode cX0_liftThosePassed 61 = .ok (.return_, 1) := by decide +kernel
theorem dX0_comeTo_0 : decode cX0_comeTo 0 = .ok (.aload_n 0, 1) := by decide +kernel
theorem dX0_comeTo_1 : decode cX0_comeTo 1 = .ok (.iload_n 2, 1) := by decide +kernel
theorem dX0_comeTo_2 : decode cX0_comeTo 2 = .ok (.invokevirtual 70, 3) := by decide +kernel
theorem dX0_comeTo_5 : decode cX0_comeTo 5 = .ok (.ifCond .ne 23, 3) := by decide +kernel
theorem dX0_comeTo_8 : decode cX0_comeTo 8 = .ok (.aload_n 0, 1) := by decide +kernel
theorem dX0_comeTo_9 : decode cX0_comeTo 9 = .ok (.getfield 22, 3) := by decide +kernel
theorem dX0_comeTo_12 : decode cX0_comeTo 12 = .ok (.iload_n 1, 1) := by decide +kernel
theorem dX0_comeTo_13 : decode cX0_comeTo 13 = .ok (.dup2, 1) := by decide +kernel
theorem dX0_comeTo_14 : decode cX0_comeTo 14 = .ok (.iaload, 1) := by decide +kernel
theorem dX0_comeTo_15 : decode cX0_comeTo 15 = .ok (.iconst 1, 1) := by decide +kernel
theorem dX0_comeTo_16 : decode cX0_comeTo 16 = .ok (.iadd, 1) := by decide +kernel
theorem dX0_comeTo_17 : decode cX0_comeTo 17 = .ok (.iastore, 1) := by decide +kernel
theorem dX0_comeTo_18 : decode cX0_comeTo 18 = .ok (.aload_n 0, 1) := by decide +kernel
theorem dX0_comeTo_19 : decode cX0_comeTo 19 = .ok (.getfield 19, 3) := by decide +kernel
theorem dX0_comeTo_22 : decode cX0_comeTo 22 = .ok (.iload_n 1, 1) := by decide +kernel
theorem dX0_comeTo_23 : decode cX0_comeTo 23 = .ok (.iconst 0, 1) := by decide +kernel
theorem dX0_comeTo_24 : decode cX0_comeTo 24 = .ok (.iastore, 1) := by decide +kernel
theorem dX0_comeTo_25 : decode cX0_comeTo 25 = .ok (.goto 46, 3) := by decide +kernel
theorem dX0_comeTo_28 : decode cX0_comeTo 28 = .ok (.aload_n 0, 1) := by decide +kernel
theorem dX0_comeTo_29 : decode cX0_comeTo 29 = .ok (.getfield 9, 3) := by decide +kernel
theorem dX0_comeTo_32 : decode cX0_comeTo 32 = .ok (.iload_n 2, 1) := by decide +kernel
theorem dX0_comeTo_33 : decode cX0_comeTo 33 = .ok (.iaload, 1) := by decide +kernel
theorem dX0_comeTo_34 : decode cX0_comeTo 34 = .ok (.bipush (-6), 2) := by decide +kernel
theorem dX0_comeTo_36 : decode cX0_comeTo 36 = .ok (.if_icmp .eq 28, 3) := by decide +kernel
theorem dX0_comeTo_39 : decode cX0_comeTo 39 = .ok (.aload_n 0, 1) := by decide +kernel
theorem dX0_comeTo_40 : decode cX0_comeTo 40 = .ok (.getfield 34, 3) := by decide +kernel
theorem dX0_comeTo_43 : decode cX0_comeTo 43 = .ok (.iload_n 1, 1) := by decide +kernel
theorem dX0_comeTo_44 : decode cX0_comeTo 44 = .ok (.dup2, 1) := by decide +kernel
theorem dX0_comeTo_45 : decode cX0_comeTo 45 = .ok (.iaload, 1) := by decide +kernel
theorem dX0_comeTo_46 : decode cX0_comeTo 46 = .ok (.iconst 1, 1) := by decide +kernel
theorem dX0_comeTo_47 : decode cX0_comeTo 47 = .ok (.iadd, 1) := by decide +kernel
theorem dX0_comeTo_48 : decode cX0_comeTo 48 = .ok (.iastore, 1) := by decide +kernel
theorem dX0_comeTo_49 : decode cX0_comeTo 49 = .ok (.aload_n 0, 1) := by decide +kernel
theorem dX0_comeTo_50 : decode cX0_comeTo 50 = .ok (.getfield 19, 3) := by decide +kernel
theorem dX0_comeTo_53 : decode cX0_comeTo 53 = .ok (.iload_n 1, 1) := by decide +kernel
theorem dX0_comeTo_54 : decode cX0_comeTo 54 = .ok (.aload_n 0, 1) := by decide +kernel
theorem dX0_comeTo_55 : decode cX0_comeTo 55 = .ok (.getfield 9, 3) := by decide +kernel
theorem dX0_comeTo_58 : decode cX0_comeTo 58 = .ok (.iload_n 2, 1) := by decide +kernel
theorem dX0_comeTo_59 : decode cX0_comeTo 59 = .ok (.iaload, 1) := by decide +kernel
theorem dX0_comeTo_60 : decode cX0_comeTo 60 = .ok (.iastore, 1) := by decide +kernel
theorem dX0_comeTo_61 : decode cX0_comeTo 61 = .ok (.goto 10, 3) := by decide +kernel
theorem dX0_comeTo_64 : decode cX0_comeTo 64 = .ok (.aload_n 0, 1) := by decide +kernel
theorem dX0_comeTo_65 : decode cX0_comeTo 65 = .ok (.getfield 19, 3) := by decide +kernel
theorem dX0_comeTo_68 : decode cX0_comeTo 68 = .ok (.iload_n 1, 1) := by decide +kernel
theorem dX0_comeTo_69 : decode cX0_comeTo 69 = .ok (.iload_n 2, 1) := by decide +kernel
theorem dX0_comeTo_70 : decode cX0_comeTo 70 = .ok (.iastore, 1) := by decide +kernel
theorem dX0_comeTo_71 : decode cX0_comeTo 71 = .ok (.return_, 1) := by decide +kernel
theorem dX0_goToNextMover_0 : decode cX0_goToNextMover 0 = .ok (.aload_n 0, 1) := by decide +kernel
theorem dX0_goToNextMover_1 : decode cX0_goToNextMover 1 = .ok (.aload_n 0, 1) := by decide +kernel
theorem dX0_goToNextMover_2 : decode cX0_goToNextMover 2 = .ok (.getfield 44, 3) := by decide +kernel
theorem dX0_goToNextMover_5 : decode cX0_goToNextMover 5 = .ok (.invokevirtual 113, 3) := by decide +kernel
theorem dX0_goToNextMover_8 : decode cX0_goToNextMover 8 = .ok (.istore_n 1, 1) := by decide +kernel
theorem dX0_goToNextMover_9 : decode cX0_goToNextMover 9 = .ok (.iconst 0, 1) := by decide +kernel
theorem dX0_goToNextMover_10 : decode cX0_goToNextMover 10 = .ok (.istore_n 2, 1) := by decide +kernel
theorem dX0_goToNextMover_11 : decode cX0_goToNextMover 11 = .ok (.iload_n 2, 1) := by decide +kernel
theorem dX0_goToNextMover_12 : decode cX0_goToNextMover 12 = .ok (.bipush 12, 2) := by decide +kernel
theorem dX0_goToNextMover_14 : decode cX0_goToNextMover 14 = .ok (.if_icmp .ge 44, 3) := by decide +kernel
theorem dX0_goToNextMover_17 : decode cX0_goToNextMover 17 = .ok (.aload_n 0, 1) := by decide +kernel
theorem dX0_goToNextMover_18 : decode cX0_goToNextMover 18 = .ok (.getfield 25, 3) := by decide +kernel
theorem dX0_goToNextMover_21 : decode cX0_goToNextMover 21 = .ok (.iload_n 1, 1) := by decide +kernel
theorem dX0_goToNextMover_22 : decode cX0_goToNextMover 22 = .ok (.iaload, 1) := by decide +kernel
theorem dX0_goToNextMover_23 : decode cX0_goToNextMover 23 = .ok (.ifCond .le 35, 3) := by decide +kernel
theorem dX0_goToNextMover_26 : decode cX0_goToNextMover 26 = .ok (.aload_n 0, 1) := by decide +kernel
theorem dX0_goToNextMover_27 : decode cX0_goToNextMover 27 = .ok (.getfield 25, 3) := by decide +kernel
theorem dX0_goToNextMover_30 : decode cX0_goToNextMover 30 = .ok (.iload_n 1, 1) := by decide +kernel
theorem dX0_goToNextMover_31 : decode cX0_goToNextMover 31 = .ok (.dup2, 1) := by decide +kernel
theorem dX0_goToNextMover_32 : decode cX0_goToNextMover 32 = .ok (.iaload, 1) := by decide +kernel
theorem dX0_goToNextMover_33 : decode cX0_goToNextMover 33 = .ok (.iconst 1, 1) := by decide +kernel
theorem dX0_goToNextMover_34 : decode cX0_goToNextMover 34 = .ok (.isub, 1) := by decide +kernel
theorem dX0_goToNextMover_35 : decode cX0_goToNextMover 35 = .ok (.iastore, 1) := by decide +kernel
theorem dX0_goToNextMover_36 : decode cX0_goToNextMover 36 = .ok (.aload_n 0, 1) := by decide +kernel
theorem dX0_goToNextMover_37 : decode cX0_goToNextMover 37 = .ok (.dup, 1) := by decide +kernel
theorem dX0_goToNextMover_38 : decode cX0_goToNextMover 38 = .ok (.getfield 50, 3) := by decide +kernel
theorem dX0_goToNextMover_41 : decode cX0_goToNextMover 41 = .ok (.iconst 1, 1) := by decide +kernel
theorem dX0_goToNextMover_42 : decode cX0_goToNextMover 42 = .ok (.iadd, 1) := by decide +kernel
theorem dX0_goToNextMover_43 : decode cX0_goToNextMover 43 = .ok (.putfield 50, 3) := by decide +kernel
theorem dX0_goToNextMover_46 : decode cX0_goToNextMover 46 = .ok (.aload_n 0, 1) := by decide +kernel
theorem dX0_goToNextMover_47 : decode cX0_goToNextMover 47 = .ok (.iload_n 1, 1) := by decide +kernel
theorem dX0_goToNextMover_48 : decode cX0_goToNextMover 48 = .ok (.invokevirtual 113, 3) := by decide +kernel
theorem dX0_goToNextMover_51 : decode cX0_goToNextMover 51 = .ok (.istore_n 1, 1) := by decide +kernel
theorem dX0_goToNextMover_52 : decode cX0_goToNextMover 52 = .ok (.iinc 2 1, 3) := by decide +kernel
theorem dX0_goToNextMover_55 : decode cX0_goToNextMover 55 = .ok (.goto (-44), 3) := by decide +kernel
theorem dX0_goToNextMover_58 : decode cX0_goToNextMover 58 = .ok (.aload_n 0, 1) := by decide +kernel
theorem dX0_goToNextMover_59 : decode cX0_goToNextMover 59 = .ok (.iload_n 1, 1) := by decide +kernel
theorem dX0_goToNextMover_60 : decode cX0_goToNextMover 60 = .ok (.putfield 44, 3) := by decide +kernel
theorem dX0_goToNextMover_63 : decode cX0_goToNextMover 63 = .ok (.return_, 1) := by decide +kernel
theorem dX0_behind_0 : decode cX0_behind 0 = .ok (.aload_n 0, 1) := by decide +kernel
theorem dX0_behind_1 : decode cX0_behind 1 = .ok (.iload_n 1, 1) := by decide +kernel
theorem dX0_behind_2 : decode cX0_behind 2 = .ok (.iconst 1, 1) := by decide +kernel
theorem dX0_behind_3 : decode cX0_behind 3 = .ok (.iadd, 1) := by decide +kernel
theorem dX0_behind_4 : decode cX0_behind 4 = .ok (.invokevirtual 59, 3) := by decide +kernel
theorem dX0_behind_7 : decode cX0_behind 7 = .ok (.ifCond .eq 9, 3) := by decide +kernel
theorem dX0_behind_10 : decode cX0_behind 10 = .ok (.iload_n 1, 1) := by decide +kernel
theorem dX0_behind_11 : decode cX0_behind 11 = .ok (.iconst 1, 1) := by decide +kernel
theorem dX0_behind_12 : decode cX0_behind 12 = .ok (.iadd, 1) := by decide +kernel
theorem dX0_behind_13 : decode cX0_behind 13 = .ok (.goto 4, 3) := by decide +kernel
theorem dX0_behind_16 : decode cX0_behind 16 = .ok (.iconst 0, 1) := by decide +kernel
theorem dX0_behind_17 : decode cX0_behind 17 = .ok (.ireturn, 1) := by decide +kernel
theorem dX0_isLanding_0 : decode cX0_isLanding 0 = .ok (.iload_n 1, 1) := by decide +kernel
theorem dX0_isLanding_1 : decode cX0_isLanding 1 = .ok (.ifCond .lt 24, 3) := by decide +kernel
theorem dX0_isLanding_4 : decode cX0_isLanding 4 = .ok (.iload_n 1, 1) := by decide +kernel
theorem dX0_isLanding_5 : decode cX0_isLanding 5 = .ok (.aload_n 0, 1) := by decide +kernel
theorem dX0_isLanding_6 : decode cX0_isLanding 6 = .ok (.getfield 37, 3) := by decide +kernel
theorem dX0_isLanding_9 : decode cX0_isLanding 9 = .ok (.if_icmp .ge 16, 3) := by decide +kernel
theorem dX0_isLanding_12 : decode cX0_isLanding 12 = .ok (.aload_n 0, 1) := by decide +kernel
theorem dX0_isLanding_13 : decode cX0_isLanding 13 = .ok (.getfield 15, 3) := by decide +kernel
theorem dX0_isLanding_16 : decode cX0_isLanding 16 = .ok (.iload_n 1, 1) := by decide +kernel
theorem dX0_isLanding_17 : decode cX0_isLanding 17 = .ok (.baload, 1) := by decide +kernel
theorem dX0_isLanding_18 : decode cX0_isLanding 18 = .ok (.ifCond .eq 7, 3) := by decide +kernel
theorem dX0_isLanding_21 : decode cX0_isLanding 21 = .ok (.iconst 1, 1) := by decide +kernel
theorem dX0_isLanding_22 : decode cX0_isLanding 22 = .ok (.goto 4, 3) := by decide +kernel
theorem dX0_isLanding_25 : decode cX0_isLanding 25 = .ok (.iconst 0, 1) := by decide +kernel
theorem dX0_isLanding_26 : decode cX0_isLanding 26 = .ok (.ireturn, 1) := by decide +kernel
theorem dX0_isUpperEnd_0 : decode cX0_isUpperEnd 0 = .ok (.iload_n 1, 1) := by decide +kernel
theorem dX0_isUpperEnd_1 : decode cX0_isUpperEnd 1 = .ok (.ifCond .lt 26, 3) := by decide +kernel
theorem dX0_isUpperEnd_4 : decode cX0_isUpperEnd 4 = .ok (.iload_n 1, 1) := by decide +kernel
theorem dX0_isUpperEnd_5 : decode cX0_isUpperEnd 5 = .ok (.aload_n 0, 1) := by decide +kernel
theorem dX0_isUpperEnd_6 : decode cX0_isUpperEnd 6 = .ok (.getfield 37, 3) := by decide +kernel
theorem dX0_isUpperEnd_9 : decode cX0_isUpperEnd 9 = .ok (.if_icmp .ge 18, 3) := by decide +kernel
theorem dX0_isUpperEnd_12 : decode cX0_isUpperEnd 12 = .ok (.aload_n 0, 1) := by decide +kernel
theorem dX0_isUpperEnd_13 : decode cX0_isUpperEnd 13 = .ok (.getfield 9, 3) := by decide +kernel
theorem dX0_isUpperEnd_16 : decode cX0_isUpperEnd 16 = .ok (.iload_n 1, 1) := by decide +kernel
theorem dX0_isUpperEnd_17 : decode cX0_isUpperEnd 17 = .ok (.iaload, 1) := by decide +kernel
theorem dX0_isUpperEnd_18 : decode cX0_isUpperEnd 18 = .ok (.bipush (-6), 2) := by decide +kernel
theorem dX0_isUpperEnd_20 : decode cX0_isUpperEnd 20 = .ok (.if_icmp .eq 7, 3) := by decide +kernel
theorem dX0_isUpperEnd_23 : decode cX0_isUpperEnd 23 = .ok (.iconst 1, 1) := by decide +kernel
theorem dX0_isUpperEnd_24 : decode cX0_isUpperEnd 24 = .ok (.goto 4, 3) := by decide +kernel
theorem dX0_isUpperEnd_27 : decode cX0_isUpperEnd 27 = .ok (.iconst 0, 1) := by decide +kernel
theorem dX0_isUpperEnd_28 : decode cX0_isUpperEnd 28 = .ok (.ireturn, 1) := by decide +kernel
theorem dX0_climbersOn_0 : decode cX0_climbersOn 0 = .ok (.iconst 0, 1) := by decide +kernel
theorem dX0_climbersOn_1 : decode cX0_climbersOn 1 = .ok (.istore_n 2, 1) := by decide +kernel
theorem dX0_climbersOn_2 : decode cX0_climbersOn 2 = .ok (.iconst 0, 1) := by decide +kernel
theorem dX0_climbersOn_3 : decode cX0_climbersOn 3 = .ok (.istore_n 3, 1) := by decide +kernel
theorem dX0_climbersOn_4 : decode cX0_climbersOn 4 = .ok (.iload_n 3, 1) := by decide +kernel
theorem dX0_climbersOn_5 : decode cX0_climbersOn 5 = .ok (.aload_n 0, 1) := by decide +kernel
theorem dX0_climbersOn_6 : decode cX0_climbersOn 6 = .ok (.getfield 41, 3) := by decide +kernel
theorem dX0_climbersOn_9 : decode cX0_climbersOn 9 = .ok (.if_icmp .ge 25, 3) := by decide +kernel
theorem dX0_climbersOn_12 : decode cX0_climbersOn 12 = .ok (.aload_n 0, 1) := by decide +kernel
theorem dX0_climbersOn_13 : decode cX0_climbersOn 13 = .ok (.getfield 19, 3) := by decide +kernel
theorem dX0_climbersOn_16 : decode cX0_climbersOn 16 = .ok (.iload_n 3, 1) := by decide +kernel
theorem dX0_climbersOn_17 : decode cX0_climbersOn 17 = .ok (.iaload, 1) := by decide +kernel
theorem dX0_climbersOn_18 : decode cX0_climbersOn 18 = .ok (.iload_n 1, 1) := by decide +kernel
theorem dX0_climbersOn_19 : decode cX0_climbersOn 19 = .ok (.if_icmp .ne 9, 3) := by decide +kernel
theorem dX0_climbersOn_22 : decode cX0_climbersOn 22 = .ok (.iload_n 2, 1) := by decide +kernel
theorem dX0_climbersOn_23 : decode cX0_climbersOn 23 = .ok (.iconst 1, 1) := by decide +kernel
theorem dX0_climbersOn_24 : decode cX0_climbersOn 24 = .ok (.iload_n 3, 1) := by decide +kernel
theorem dX0_climbersOn_25 : decode cX0_climbersOn 25 = .ok (.ishl, 1) := by decide +kernel
theorem dX0_climbersOn_26 : decode cX0_climbersOn 26 = .ok (.ior, 1) := by decide +kernel
theorem dX0_climbersOn_27 : decode cX0_climbersOn 27 = .ok (.istore_n 2, 1) := by decide +kernel
theorem dX0_climbersOn_28 : decode cX0_climbersOn 28 = .ok (.iinc 3 1, 3) := by decide +kernel
theorem dX0_climbersOn_31 : decode cX0_climbersOn 31 = .ok (.goto (-27), 3) := by decide +kernel
theorem dX0_climbersOn_34 : decode cX0_climbersOn 34 = .ok (.iload_n 2, 1) := by decide +kernel
theorem dX0_climbersOn_35 : decode cX0_climbersOn 35 = .ok (.ireturn, 1) := by decide +kernel
theorem dX0_countCarpets_0 : decode cX0_countCarpets 0 = .ok (.iconst 0, 1) := by decide +kernel
theorem dX0_countCarpets_1 : decode cX0_countCarpets 1 = .ok (.istore_n 1, 1) := by decide +kernel
theorem dX0_countCarpets_2 : decode cX0_countCarpets 2 = .ok (.iconst 0, 1) := by decide +kernel
theorem dX0_countCarpets_3 : decode cX0_countCarpets 3 = .ok (.istore_n 2, 1) := by decide +kernel
theorem dX0_countCarpets_4 : decode cX0_countCarpets 4 = .ok (.iload_n 2, 1) := by decide +kernel
theorem dX0_countCarpets_5 : decode cX0_countCarpets 5 = .ok (.aload_n 0, 1) := by decide +kernel
theorem dX0_countCarpets_6 : decode cX0_countCarpets 6 = .ok (.getfield 37, 3) := by decide +kernel
theorem dX0_countCarpets_9 : decode cX0_countCarpets 9 = .ok (.if_icmp .ge 20, 3) := by decide +kernel
theorem dX0_countCarpets_12 : decode cX0_countCarpets 12 = .ok (.aload_n 0, 1) := by decide +kernel
theorem dX0_countCarpets_13 : decode cX0_countCarpets 13 = .ok (.iload_n 2, 1) := by decide +kernel
theorem dX0_countCarpets_14 : decode cX0_countCarpets 14 = .ok (.invokevirtual 63, 3) := by decide +kernel
theorem dX0_countCarpets_17 : decode cX0_countCarpets 17 = .ok (.ifCond .eq 6, 3) := by decide +kernel
theorem dX0_countCarpets_20 : decode cX0_countCarpets 20 = .ok (.iinc 1 1, 3) := by decide +kernel
theorem dX0_countCarpets_23 : decode cX0_countCarpets 23 = .ok (.iinc 2 1, 3) := by decide +kernel
theorem dX0_countCarpets_26 : decode cX0_countCarpets 26 = .ok (.goto (-22), 3) := by decide +kernel
theorem dX0_countCarpets_29 : decode cX0_countCarpets 29 = .ok (.iload_n 1, 1) := by decide +kernel
theorem dX0_countCarpets_30 : decode cX0_countCarpets 30 = .ok (.ireturn, 1) := by decide +kernel
theorem dX0_countLandings_0 : decode cX0_countLandings 0 = .ok (.iconst 0, 1) := by decide +kernel
theorem dX0_countLandings_1 : decode cX0_countLandings 1 = .ok (.istore_n 1, 1) := by decide +kernel
theorem dX0_countLandings_2 : decode cX0_countLandings 2 = .ok (.iconst 0, 1) := by decide +kernel
theorem dX0_countLandings_3 : decode cX0_countLandings 3 = .ok (.istore_n 2, 1) := by decide +kernel
theorem dX0_countLandings_4 : decode cX0_countLandings 4 = .ok (.iload_n 2, 1) := by decide +kernel
theorem dX0_countLandings_5 : decode cX0_countLandings 5 = .ok (.aload_n 0, 1) := by decide +kernel
theorem dX0_countLandings_6 : decode cX0_countLandings 6 = .ok (.getfield 37, 3) := by decide +kernel
theorem dX0_countLandings_9 : decode cX0_countLandings 9 = .ok (.if_icmp .ge 20, 3) := by decide +kernel
theorem dX0_countLandings_12 : decode cX0_countLandings 12 = .ok (.aload_n 0, 1) := by decide +kernel
theorem dX0_countLandings_13 : decode cX0_countLandings 13 = .ok (.iload_n 2, 1) := by decide +kernel
theorem dX0_countLandings_14 : decode cX0_countLandings 14 = .ok (.invokevirtual 83, 3) := by decide +kernel
theorem dX0_countLandings_17 : decode cX0_countLandings 17 = .ok (.ifCond .eq 6, 3) := by decide +kernel
theorem dX0_countLandings_20 : decode cX0_countLandings 20 = .ok (.iinc 1 1, 3) := by decide +kernel
theorem dX0_countLandings_23 : decode cX0_countLandings 23 = .ok (.iinc 2 1, 3) := by decide +kernel
theorem dX0_countLandings_26 : decode cX0_countLandings 26 = .ok (.goto (-22), 3) := by decide +kernel
theorem dX0_countLandings_29 : decode cX0_countLandings 29 = .ok (.iload_n 1, 1) := by decide +kernel
theorem dX0_countLandings_30 : decode cX0_countLandings 30 = .ok (.ireturn, 1) := by decide +kernel
theorem dX0_lowerEndsAt_0 : decode cX0_lowerEndsAt 0 = .ok (.iconst 0, 1) := by decide +kernel
theorem dX0_lowerEndsAt_1 : decode cX0_lowerEndsAt 1 = .ok (.istore_n 2, 1) := by decide +kernel
theorem dX0_lowerEndsAt_2 : decode cX0_lowerEndsAt 2 = .ok (.iconst 0, 1) := by decide +kernel
theorem dX0_lowerEndsAt_3 : decode cX0_lowerEndsAt 3 = .ok (.istore_n 3, 1) := by decide +kernel
theorem dX0_lowerEndsAt_4 : decode cX0_lowerEndsAt 4 = .ok (.iload_n 3, 1) := by decide +kernel
theorem dX0_lowerEndsAt_5 : decode cX0_lowerEndsAt 5 = .ok (.aload_n 0, 1) := by decide +kernel
theorem dX0_lowerEndsAt_6 : decode cX0_lowerEndsAt 6 = .ok (.getfield 37, 3) := by decide +kernel
theorem dX0_lowerEndsAt_9 : decode cX0_lowerEndsAt 9 = .ok (.if_icmp .ge 22, 3) := by decide +kernel
theorem dX0_lowerEndsAt_12 : decode cX0_lowerEndsAt 12 = .ok (.aload_n 0, 1) := by decide +kernel
theorem dX0_lowerEndsAt_13 : decode cX0_lowerEndsAt 13 = .ok (.getfield 9, 3) := by decide +kernel
theorem dX0_lowerEndsAt_16 : decode cX0_lowerEndsAt 16 = .ok (.iload_n 3, 1) := by decide +kernel
theorem dX0_lowerEndsAt_17 : decode cX0_lowerEndsAt 17 = .ok (.iaload, 1) := by decide +kernel
theorem dX0_lowerEndsAt_18 : decode cX0_lowerEndsAt 18 = .ok (.iload_n 1, 1) := by decide +kernel
theorem dX0_lowerEndsAt_19 : decode cX0_lowerEndsAt 19 = .ok (.if_icmp .ne 6, 3) := by decide +kernel
theorem dX0_lowerEndsAt_22 : decode cX0_lowerEndsAt 22 = .ok (.iinc 2 1, 3) := by decide +kernel
theorem dX0_lowerEndsAt_25 : decode cX0_lowerEndsAt 25 = .ok (.iinc 3 1, 3) := by decide +kernel
theorem dX0_lowerEndsAt_28 : decode cX0_lowerEndsAt 28 = .ok (.goto (-24), 3) := by decide +kernel
theorem dX0_lowerEndsAt_31 : decode cX0_lowerEndsAt 31 = .ok (.iload_n 2, 1) := by decide +kernel
theorem dX0_lowerEndsAt_32 : decode cX0_lowerEndsAt 32 = .ok (.ireturn, 1) := by decide +kernel
theorem dX0_partOfStep_0 : decode cX0_partOfStep 0 = .ok (.iload_n 1, 1) := by decide +kernel
theorem dX0_partOfStep_1 : decode cX0_partOfStep 1 = .ok (.aload_n 0, 1) := by decide +kernel
theorem dX0_partOfStep_2 : decode cX0_partOfStep 2 = .ok (.getfield 37, 3) := by decide +kernel
theorem dX0_partOfStep_5 : decode cX0_partOfStep 5 = .ok (.if_icmp .eq 13, 3) := by decide +kernel
theorem dX0_partOfStep_8 : decode cX0_partOfStep 8 = .ok (.aload_n 0, 1) := by decide +kernel
theorem dX0_partOfStep_9 : decode cX0_partOfStep 9 = .ok (.iload_n 1, 1) := by decide +kernel
theorem dX0_partOfStep_10 : decode cX0_partOfStep 10 = .ok (.invokevirtual 70, 3) := by decide +kernel
theorem dX0_partOfStep_13 : decode cX0_partOfStep 13 = .ok (.ifCond .ne 5, 3) := by decide +kernel
theorem dX0_partOfStep_16 : decode cX0_partOfStep 16 = .ok (.iconst (-1), 1) := by decide +kernel
theorem dX0_partOfStep_17 : decode cX0_partOfStep 17 = .ok (.ireturn, 1) := by decide +kernel
theorem dX0_partOfStep_18 : decode cX0_partOfStep 18 = .ok (.iload_n 2, 1) := by decide +kernel
theorem dX0_partOfStep_19 : decode cX0_partOfStep 19 = .ok (.tableswitch 65 0 2 #[25, 39, 59], 25) := by decide +kernel
theorem dX0_partOfStep_44 : decode cX0_partOfStep 44 = .ok (.aload_n 0, 1) := by decide +kernel
theorem dX0_partOfStep_45 : decode cX0_partOfStep 45 = .ok (.iload_n 1, 1) := by decide +kernel
theorem dX0_partOfStep_46 : decode cX0_partOfStep 46 = .ok (.invokevirtual 83, 3) := by decide +kernel
theorem dX0_partOfStep_49 : decode cX0_partOfStep 49 = .ok (.ifCond .eq 7, 3) := by decide +kernel
theorem dX0_partOfStep_52 : decode cX0_partOfStep 52 = .ok (.iconst 1, 1) := by decide +kernel
theorem dX0_partOfStep_53 : decode cX0_partOfStep 53 = .ok (.goto 4, 3) := by decide +kernel
theorem dX0_partOfStep_56 : decode cX0_partOfStep 56 = .ok (.iconst 0, 1) := by decide +kernel
theorem dX0_partOfStep_57 : decode cX0_partOfStep 57 = .ok (.ireturn, 1) := by decide +kernel
theorem dX0_partOfStep_58 : decode cX0_partOfStep 58 = .ok (.aload_n 0, 1) := by decide +kernel
theorem dX0_partOfStep_59 : decode cX0_partOfStep 59 = .ok (.iload_n 1, 1) := by decide +kernel
theorem dX0_partOfStep_60 : decode cX0_partOfStep 60 = .ok (.invokevirtual 63, 3) := by decide +kernel
theorem dX0_partOfStep_63 : decode cX0_partOfStep 63 = .ok (.ifCond .eq 12, 3) := by decide +kernel
theorem dX0_partOfStep_66 : decode cX0_partOfStep 66 = .ok (.aload_n 0, 1) := by decide +kernel
theorem dX0_partOfStep_67 : decode cX0_partOfStep 67 = .ok (.getfield 9, 3) := by decide +kernel
theorem dX0_partOfStep_70 : decode cX0_partOfStep 70 = .ok (.iload_n 1, 1) := by decide +kernel
theorem dX0_partOfStep_71 : decode cX0_partOfStep 71 = .ok (.iaload, 1) := by decide +kernel
theorem dX0_partOfStep_72 : decode cX0_partOfStep 72 = .ok (.goto 5, 3) := by decide +kernel
theorem dX0_partOfStep_75 : decode cX0_partOfStep 75 = .ok (.bipush (-6), 2) := by decide +kernel
theorem dX0_partOfStep_77 : decode cX0_partOfStep 77 = .ok (.ireturn, 1) := by decide +kernel
theorem dX0_partOfStep_78 : decode cX0_partOfStep 78 = .ok (.aload_n 0, 1) := by decide +kernel
theorem dX0_partOfStep_79 : decode cX0_partOfStep 79 = .ok (.iload_n 1, 1) := by decide +kernel
theorem dX0_partOfStep_80 : decode cX0_partOfStep 80 = .ok (.invokevirtual 73, 3) := by decide +kernel
theorem dX0_partOfStep_83 : decode cX0_partOfStep 83 = .ok (.ireturn, 1) := by decide +kernel
theorem dX0_partOfStep_84 : decode cX0_partOfStep 84 = .ok (.bipush (-2), 2) := by decide +kernel
theorem dX0_partOfStep_86 : decode cX0_partOfStep 86 = .ok (.ireturn, 1) := by decide +kernel
theorem dX0_partOfClimber_0 : decode cX0_partOfClimber 0 = .ok (.aload_n 0, 1) := by decide +kernel
theorem dX0_partOfClimber_1 : decode cX0_partOfClimber 1 = .ok (.iload_n 1, 1) := by decide +kernel
theorem dX0_partOfClimber_2 : decode cX0_partOfClimber 2 = .ok (.invokevirtual 59, 3) := by decide +kernel
theorem dX0_partOfClimber_5 : decode cX0_partOfClimber 5 = .ok (.ifCond .ne 5, 3) := by decide +kernel
theorem dX0_partOfClimber_8 : decode cX0_partOfClimber 8 = .ok (.iconst (-1), 1) := by decide +kernel
theorem dX0_partOfClimber_9 : decode cX0_partOfClimber 9 = .ok (.ireturn, 1) := by decide +kernel
theorem dX0_partOfClimber_10 : decode cX0_partOfClimber 10 = .ok (.iload_n 2, 1) := by decide +kernel
theorem dX0_partOfClimber_11 : decode cX0_partOfClimber 11 = .ok (.tableswitch 89 0 6 #[41, 48, 55, 62, 69, 76, 83], 41) := by decide +kernel
theorem dX0_partOfClimber_52 : decode cX0_partOfClimber 52 = .ok (.aload_n 0, 1) := by decide +kernel
theorem dX0_partOfClimber_53 : decode cX0_partOfClimber 53 = .ok (.getfield 19, 3) := by decide +kernel
theorem dX0_partOfClimber_56 : decode cX0_partOfClimber 56 = .ok (.iload_n 1, 1) := by decide +kernel
theorem dX0_partOfClimber_57 : decode cX0_partOfClimber 57 = .ok (.iaload, 1) := by decide +kernel
theorem dX0_partOfClimber_58 : decode cX0_partOfClimber 58 = .ok (.ireturn, 1) := by decide +kernel
theorem dX0_partOfClimber_59 : decode cX0_partOfClimber 59 = .ok (.aload_n 0, 1) := by decide +kernel
theorem dX0_partOfClimber_60 : decode cX0_partOfClimber 60 = .ok (.getfield 22, 3) := by decide +kernel
theorem dX0_partOfClimber_63 : decode cX0_partOfClimber 63 = .ok (.iload_n 1, 1) := by decide +kernel
theorem dX0_partOfClimber_64 : decode cX0_partOfClimber 64 = .ok (.iaload, 1) := by decide +kernel
theorem dX0_partOfClimber_65 : decode cX0_partOfClimber 65 = .ok (.ireturn, 1) := by decide +kernel
theorem dX0_partOfClimber_66 : decode cX0_partOfClimber 66 = .ok (.aload_n 0, 1) := by decide +kernel
theorem dX0_partOfClimber_67 : decode cX0_partOfClimber 67 = .ok (.getfield 25, 3) := by decide +kernel
theorem dX0_partOfClimber_70 : decode cX0_partOfClimber 70 = .ok (.iload_n 1, 1) := by decide +kernel
theorem dX0_partOfClimber_71 : decode cX0_partOfClimber 71 = .ok (.iaload, 1) := by decide +kernel
theorem dX0_partOfClimber_72 : decode cX0_partOfClimber 72 = .ok (.ireturn, 1) := by decide +kernel
theorem dX0_partOfClimber_73 : decode cX0_partOfClimber 73 = .ok (.aload_n 0, 1) := by decide +kernel
theorem dX0_partOfClimber_74 : decode cX0_partOfClimber 74 = .ok (.getfield 28, 3) := by decide +kernel
theorem dX0_partOfClimber_77 : decode cX0_partOfClimber 77 = .ok (.iload_n 1, 1) := by decide +kernel
theorem dX0_partOfClimber_78 : decode cX0_partOfClimber 78 = .ok (.iaload, 1) := by decide +kernel
theorem dX0_partOfClimber_79 : decode cX0_partOfClimber 79 = .ok (.ireturn, 1) := by decide +kernel
theorem dX0_partOfClimber_80 : decode cX0_partOfClimber 80 = .ok (.aload_n 0, 1) := by decide +kernel
theorem dX0_partOfClimber_81 : decode cX0_partOfClimber 81 = .ok (.getfield 31, 3) := by decide +kernel
theorem dX0_partOfClimber_84 : decode cX0_partOfClimber 84 = .ok (.iload_n 1, 1) := by decide +kernel
theorem dX0_partOfClimber_85 : decode cX0_partOfClimber 85 = .ok (.iaload, 1) := by decide +kernel
theorem dX0_partOfClimber_86 : decode cX0_partOfClimber 86 = .ok (.ireturn, 1) := by decide +kernel
theorem dX0_partOfClimber_87 : decode cX0_partOfClimber 87 = .ok (.aload_n 0, 1) := by decide +kernel
theorem dX0_partOfClimber_88 : decode cX0_partOfClimber 88 = .ok (.getfield 34, 3) := by decide +kernel
theorem dX0_partOfClimber_91 : decode cX0_partOfClimber 91 = .ok (.iload_n 1, 1) := by decide +kernel
theorem dX0_partOfClimber_92 : decode cX0_partOfClimber 92 = .ok (.iaload, 1) := by decide +kernel
theorem dX0_partOfClimber_93 : decode cX0_partOfClimber 93 = .ok (.ireturn, 1) := by decide +kernel
theorem dX0_partOfClimber_94 : decode cX0_partOfClimber 94 = .ok (.aload_n 0, 1) := by decide +kernel
theorem dX0_partOfClimber_95 : decode cX0_partOfClimber 95 = .ok (.iload_n 1, 1) := by decide +kernel
theorem dX0_partOfClimber_96 : decode cX0_partOfClimber 96 = .ok (.invokevirtual 116, 3) := by decide +kernel
theorem dX0_partOfClimber_99 : decode cX0_partOfClimber 99 = .ok (.ireturn, 1) := by decide +kernel
theorem dX0_partOfClimber_100 : decode cX0_partOfClimber 100 = .ok (.bipush (-2), 2) := by decide +kernel
theorem dX0_partOfClimber_102 : decode cX0_partOfClimber 102 = .ok (.ireturn, 1) := by decide +kernel
theorem dX0_progressOf_0 : decode cX0_progressOf 0 = .ok (.aload_n 0, 1) := by decide +kernel
theorem dX0_progressOf_1 : decode cX0_progressOf 1 = .ok (.iload_n 1, 1) := by decide +kernel
theorem dX0_progressOf_2 : decode cX0_progressOf 2 = .ok (.invokevirtual 59, 3) := by decide +kernel
theorem dX0_progressOf_5 : decode cX0_progressOf 5 = .ok (.ifCond .eq 24, 3) := by decide +kernel
theorem dX0_progressOf_8 : decode cX0_progressOf 8 = .ok (.aload_n 0, 1) := by decide +kernel
theorem dX0_progressOf_9 : decode cX0_progressOf 9 = .ok (.getfield 22, 3) := by decide +kernel
theorem dX0_progressOf_12 : decode cX0_progressOf 12 = .ok (.iload_n 1, 1) := by decide +kernel
theorem dX0_progressOf_13 : decode cX0_progressOf 13 = .ok (.iaload, 1) := by decide +kernel
theorem dX0_progressOf_14 : decode cX0_progressOf 14 = .ok (.aload_n 0, 1) := by decide +kernel
theorem dX0_progressOf_15 : decode cX0_progressOf 15 = .ok (.getfield 37, 3) := by decide +kernel
theorem dX0_progressOf_18 : decode cX0_progressOf 18 = .ok (.imul, 1) := by decide +kernel
theorem dX0_progressOf_19 : decode cX0_progressOf 19 = .ok (.aload_n 0, 1) := by decide +kernel
theorem dX0_progressOf_20 : decode cX0_progressOf 20 = .ok (.getfield 19, 3) := by decide +kernel
theorem dX0_progressOf_23 : decode cX0_progressOf 23 = .ok (.iload_n 1, 1) := by decide +kernel
theorem dX0_progressOf_24 : decode cX0_progressOf 24 = .ok (.iaload, 1) := by decide +kernel
theorem dX0_progressOf_25 : decode cX0_progressOf 25 = .ok (.iadd, 1) := by decide +kernel
theorem dX0_progressOf_26 : decode cX0_progressOf 26 = .ok (.goto 4, 3) := by decide +kernel
theorem dX0_progressOf_29 : decode cX0_progressOf 29 = .ok (.iconst 0, 1) := by decide +kernel
theorem dX0_progressOf_30 : decode cX0_progressOf 30 = .ok (.ireturn, 1) := by decide +kernel
theorem dX0_totalOf_0 : decode cX0_totalOf 0 = .ok (.iload_n 1, 1) := by decide +kernel
theorem dX0_totalOf_1 : decode cX0_totalOf 1 = .ok (.tableswitch 96 0 8 #[51, 56, 61, 66, 71, 76, 81, 86, 91], 51) := by decide +kernel
theorem dX0_totalOf_52 : decode cX0_totalOf 52 = .ok (.aload_n 0, 1) := by decide +kernel
theorem dX0_totalOf_53 : decode cX0_totalOf 53 = .ok (.getfield 37, 3) := by decide +kernel
theorem dX0_totalOf_56 : decode cX0_totalOf 56 = .ok (.ireturn, 1) := by decide +kernel
theorem dX0_totalOf_57 : decode cX0_totalOf 57 = .ok (.aload_n 0, 1) := by decide +kernel
theorem dX0_totalOf_58 : decode cX0_totalOf 58 = .ok (.getfield 41, 3) := by decide +kernel
theorem dX0_totalOf_61 : decode cX0_totalOf 61 = .ok (.ireturn, 1) := by decide +kernel
theorem dX0_totalOf_62 : decode cX0_totalOf 62 = .ok (.aload_n 0, 1) := by decide +kernel
theorem dX0_totalOf_63 : decode cX0_totalOf 63 = .ok (.invokevirtual 76, 3) := by decide +kernel
theorem dX0_totalOf_66 : decode cX0_totalOf 66 = .ok (.ireturn, 1) := by decide +kernel
theorem dX0_totalOf_67 : decode cX0_totalOf 67 = .ok (.aload_n 0, 1) := by decide +kernel
theorem dX0_totalOf_68 : decode cX0_totalOf 68 = .ok (.invokevirtual 80, 3) := by decide +kernel
theorem dX0_totalOf_71 : decode cX0_totalOf 71 = .ok (.ireturn, 1) := by decide +kernel
theorem dX0_totalOf_72 : decode cX0_totalOf 72 = .ok (.aload_n 0, 1) := by decide +kernel
theorem dX0_totalOf_73 : decode cX0_totalOf 73 = .ok (.getfield 47, 3) := by decide +kernel
theorem dX0_totalOf_76 : decode cX0_totalOf 76 = .ok (.ireturn, 1) := by decide +kernel
theorem dX0_totalOf_77 : decode cX0_totalOf 77 = .ok (.aload_n 0, 1) := by decide +kernel
theorem dX0_totalOf_78 : decode cX0_totalOf 78 = .ok (.invokevirtual 119, 3) := by decide +kernel
theorem dX0_totalOf_81 : decode cX0_totalOf 81 = .ok (.ireturn, 1) := by decide +kernel
theorem dX0_totalOf_82 : decode cX0_totalOf 82 = .ok (.aload_n 0, 1) := by decide +kernel
theorem dX0_totalOf_83 : decode cX0_totalOf 83 = .ok (.invokevirtual 122, 3) := by decide +kernel
theorem dX0_totalOf_86 : decode cX0_totalOf 86 = .ok (.ireturn, 1) := by decide +kernel
theorem dX0_totalOf_87 : decode cX0_totalOf 87 = .ok (.aload_n 0, 1) := by decide +kernel
theorem dX0_totalOf_88 : decode cX0_totalOf 88 = .ok (.invokevirtual 125, 3) := by decide +kernel
theorem dX0_totalOf_91 : decode cX0_totalOf 91 = .ok (.ireturn, 1) := by decide +kernel
theorem dX0_totalOf_92 : decode cX0_totalOf 92 = .ok (.aload_n 0, 1) := by decide +kernel
theorem dX0_totalOf_93 : decode cX0_totalOf 93 = .ok (.getfield 50, 3) := by decide +kernel
theorem dX0_totalOf_96 : decode cX0_totalOf 96 = .ok (.ireturn, 1) := by decide +kernel
theorem dX0_totalOf_97 : decode cX0_totalOf 97 = .ok (.bipush (-2), 2) := by decide +kernel
theorem dX0_totalOf_99 : decode cX0_totalOf 99 = .ok (.ireturn, 1) := by decide +kernel
theorem dX0_liftsOfAll_0 : decode cX0_liftsOfAll 0 = .ok (.aload_n 0, 1) := by decide +kernel
theorem dX0_liftsOfAll_1 : decode cX0_liftsOfAll 1 = .ok (.getfield 28, 3) := by decide +kernel
theorem dX0_liftsOfAll_4 : decode cX0_liftsOfAll 4 = .ok (.invokestatic 128, 3) := by decide +kernel
theorem dX0_liftsOfAll_7 : decode cX0_liftsOfAll 7 = .ok (.ireturn, 1) := by decide +kernel
theorem dX0_slipsOfAll_0 : decode cX0_slipsOfAll 0 = .ok (.aload_n 0, 1) := by decide +kernel
theorem dX0_slipsOfAll_1 : decode cX0_slipsOfAll 1 = .ok (.getfield 34, 3) := by decide +kernel
theorem dX0_slipsOfAll_4 : decode cX0_slipsOfAll 4 = .ok (.invokestatic 128, 3) := by decide +kernel
theorem dX0_slipsOfAll_7 : decode cX0_slipsOfAll 7 = .ok (.ireturn, 1) := by decide +kernel
theorem dX0_topsOfAll_0 : decode cX0_topsOfAll 0 = .ok (.aload_n 0, 1) := by decide +kernel
theorem dX0_topsOfAll_1 : decode cX0_topsOfAll 1 = .ok (.getfield 22, 3) := by decide +kernel
theorem dX0_topsOfAll_4 : decode cX0_topsOfAll 4 = .ok (.invokestatic 128, 3) := by decide +kernel
theorem dX0_topsOfAll_7 : decode cX0_topsOfAll 7 = .ok (.ireturn, 1) := by decide +kernel
theorem dX0_sumOf_0 : decode cX0_sumOf 0 = .ok (.iconst 0, 1) := by decide +kernel
theorem dX0_sumOf_1 : decode cX0_sumOf 1 = .ok (.istore_n 1, 1) := by decide +kernel
theorem dX0_sumOf_2 : decode cX0_sumOf 2 = .ok (.aload_n 0, 1) := by decide +kernel
theorem dX0_sumOf_3 : decode cX0_sumOf 3 = .ok (.astore_n 2, 1) := by decide +kernel
theorem dX0_sumOf_4 : decode cX0_sumOf 4 = .ok (.aload_n 2, 1) := by decide +kernel
theorem dX0_sumOf_5 : decode cX0_sumOf 5 = .ok (.arraylength, 1) := by decide +kernel
theorem dX0_sumOf_6 : decode cX0_sumOf 6 = .ok (.istore_n 3, 1) := by decide +kernel
theorem dX0_sumOf_7 : decode cX0_sumOf 7 = .ok (.iconst 0, 1) := by decide +kernel
theorem dX0_sumOf_8 : decode cX0_sumOf 8 = .ok (.istore 4, 2) := by decide +kernel
theorem dX0_sumOf_10 : decode cX0_sumOf 10 = .ok (.iload 4, 2) := by decide +kernel
theorem dX0_sumOf_12 : decode cX0_sumOf 12 = .ok (.iload_n 3, 1) := by decide +kernel
theorem dX0_sumOf_13 : decode cX0_sumOf 13 = .ok (.if_icmp .ge 20, 3) := by decide +kernel
theorem dX0_sumOf_16 : decode cX0_sumOf 16 = .ok (.aload_n 2, 1) := by decide +kernel
theorem dX0_sumOf_17 : decode cX0_sumOf 17 = .ok (.iload 4, 2) := by decide +kernel
theorem dX0_sumOf_19 : decode cX0_sumOf 19 = .ok (.iaload, 1) := by decide +kernel
theorem dX0_sumOf_20 : decode cX0_sumOf 20 = .ok (.istore 5, 2) := by decide +kernel
theorem dX0_sumOf_22 : decode cX0_sumOf 22 = .ok (.iload_n 1, 1) := by decide +kernel
theorem dX0_sumOf_23 : decode cX0_sumOf 23 = .ok (.iload 5, 2) := by decide +kernel
theorem dX0_sumOf_25 : decode cX0_sumOf 25 = .ok (.iadd, 1) := by decide +kernel
theorem dX0_sumOf_26 : decode cX0_sumOf 26 = .ok (.istore_n 1, 1) := by decide +kernel
theorem dX0_sumOf_27 : decode cX0_sumOf 27 = .ok (.iinc 4 1, 3) := by decide +kernel
theorem dX0_sumOf_30 : decode cX0_sumOf 30 = .ok (.goto (-20), 3) := by decide +kernel
theorem dX0_sumOf_33 : decode cX0_sumOf 33 = .ok (.iload_n 1, 1) := by decide +kernel
theorem dX0_sumOf_34 : decode cX0_sumOf 34 = .ok (.ireturn, 1) := by decide +kernel
theorem dX0_climberAtPlace_0 : decode cX0_climberAtPlace 0 = .ok (.iconst 0, 1) := by decide +kernel
theorem dX0_climberAtPlace_1 : decode cX0_climberAtPlace 1 = .ok (.istore_n 2, 1) := by decide +kernel
theorem dX0_climberAtPlace_2 : decode cX0_climberAtPlace 2 = .ok (.iload_n 2, 1) := by decide +kernel
theorem dX0_climberAtPlace_3 : decode cX0_climberAtPlace 3 = .ok (.aload_n 0, 1) := by decide +kernel
theorem dX0_climberAtPlace_4 : decode cX0_climberAtPlace 4 = .ok (.getfield 41, 3) := by decide +kernel
theorem dX0_climberAtPlace_7 : decode cX0_climberAtPlace 7 = .ok (.if_icmp .ge 20, 3) := by decide +kernel
theorem dX0_climberAtPlace_10 : decode cX0_climberAtPlace 10 = .ok (.aload_n 0, 1) := by decide +kernel
theorem dX0_climberAtPlace_11 : decode cX0_climberAtPlace 11 = .ok (.iload_n 2, 1) := by decide +kernel
theorem dX0_climberAtPlace_12 : decode cX0_climberAtPlace 12 = .ok (.invokevirtual 132, 3) := by decide +kernel
theorem dX0_climberAtPlace_15 : decode cX0_climberAtPlace 15 = .ok (.iload_n 1, 1) := by decide +kernel
theorem dX0_climberAtPlace_16 : decode cX0_climberAtPlace 16 = .ok (.if_icmp .ne 5, 3) := by decide +kernel
theorem dX0_climberAtPlace_19 : decode cX0_climberAtPlace 19 = .ok (.iload_n 2, 1) := by decide +kernel
theorem dX0_climberAtPlace_20 : decode cX0_climberAtPlace 20 = .ok (.ireturn, 1) := by decide +kernel
theorem dX0_climberAtPlace_21 : decode cX0_climberAtPlace 21 = .ok (.iinc 2 1, 3) := by decide +kernel
theorem dX0_climberAtPlace_24 : decode cX0_climberAtPlace 24 = .ok (.goto (-22), 3) := by decide +kernel
theorem dX0_climberAtPlace_27 : decode cX0_climberAtPlace 27 = .ok (.bipush (-6), 2) := by decide +kernel
theorem dX0_climberAtPlace_29 : decode cX0_climberAtPlace 29 = .ok (.ireturn, 1) := by decide +kernel
theorem dX0_climbersAheadOf_0 : decode cX0_climbersAheadOf 0 = .ok (.iconst 0, 1) := by decide +kernel
theorem dX0_climbersAheadOf_1 : decode cX0_climbersAheadOf 1 = .ok (.istore_n 2, 1) := by decide +kernel
theorem dX0_climbersAheadOf_2 : decode cX0_climbersAheadOf 2 = .ok (.aload_n 0, 1) := by decide +kernel
theorem dX0_climbersAheadOf_3 : decode cX0_climbersAheadOf 3 = .ok (.iload_n 1, 1) := by decide +kernel
theorem dX0_climbersAheadOf_4 : decode cX0_climbersAheadOf 4 = .ok (.invokevirtual 116, 3) := by decide +kernel
theorem dX0_climbersAheadOf_7 : decode cX0_climbersAheadOf 7 = .ok (.istore_n 3, 1) := by decide +kernel
theorem dX0_climbersAheadOf_8 : decode cX0_climbersAheadOf 8 = .ok (.iconst 0, 1) := by decide +kernel
theorem dX0_climbersAheadOf_9 : decode cX0_climbersAheadOf 9 = .ok (.istore 4, 2) := by decide +kernel
theorem dX0_climbersAheadOf_11 : decode cX0_climbersAheadOf 11 = .ok (.iload 4, 2) := by decide +kernel
theorem dX0_climbersAheadOf_13 : decode cX0_climbersAheadOf 13 = .ok (.aload_n 0, 1) := by decide +kernel
theorem dX0_climbersAheadOf_14 : decode cX0_climbersAheadOf 14 = .ok (.getfield 41, 3) := by decide +kernel
theorem dX0_climbersAheadOf_17 : decode cX0_climbersAheadOf 17 = .ok (.if_icmp .ge 38, 3) := by decide +kernel
theorem dX0_climbersAheadOf_20 : decode cX0_climbersAheadOf 20 = .ok (.aload_n 0, 1) := by decide +kernel
theorem dX0_climbersAheadOf_21 : decode cX0_climbersAheadOf 21 = .ok (.iload 4, 2) := by decide +kernel
theorem dX0_climbersAheadOf_23 : decode cX0_climbersAheadOf 23 = .ok (.invokevirtual 116, 3) := by decide +kernel
theorem dX0_climbersAheadOf_26 : decode cX0_climbersAheadOf 26 = .ok (.istore 5, 2) := by decide +kernel
theorem dX0_climbersAheadOf_28 : decode cX0_climbersAheadOf 28 = .ok (.iload 5, 2) := by decide +kernel
theorem dX0_climbersAheadOf_30 : decode cX0_climbersAheadOf 30 = .ok (.iload_n 3, 1) := by decide +kernel
theorem dX0_climbersAheadOf_31 : decode cX0_climbersAheadOf 31 = .ok (.if_icmp .gt 15, 3) := by decide +kernel
theorem dX0_climbersAheadOf_34 : decode cX0_climbersAheadOf 34 = .ok (.iload 5, 2) := by decide +kernel
theorem dX0_climbersAheadOf_36 : decode cX0_climbersAheadOf 36 = .ok (.iload_n 3, 1) := by decide +kernel
theorem dX0_climbersAheadOf_37 : decode cX0_climbersAheadOf 37 = .ok (.if_icmp .ne 12, 3) := by decide +kernel
theorem dX0_climbersAheadOf_40 : decode cX0_climbersAheadOf 40 = .ok (.iload 4, 2) := by decide +kernel
theorem dX0_climbersAheadOf_42 : decode cX0_climbersAheadOf 42 = .ok (.iload_n 1, 1) := by decide +kernel
theorem dX0_climbersAheadOf_43 : decode cX0_climbersAheadOf 43 = .ok (.if_icmp .ge 6, 3) := by decide +kernel
theorem dX0_climbersAheadOf_46 : decode cX0_climbersAheadOf 46 = .ok (.iinc 2 1, 3) := by decide +kernel
theorem dX0_climbersAheadOf_49 : decode cX0_climbersAheadOf 49 = .ok (.iinc 4 1, 3) := by decide +kernel
theorem dX0_climbersAheadOf_52 : decode cX0_climbersAheadOf 52 = .ok (.goto (-41), 3) := by decide +kernel
theorem dX0_climbersAheadOf_55 : decode cX0_climbersAheadOf 55 = .ok (.iload_n 2, 1) := by decide +kernel
theorem dX0_climbersAheadOf_56 : decode cX0_climbersAheadOf 56 = .ok (.ireturn, 1) := by decide +kernel
theorem dX0_fewestRollsOf_0 : decode cX0_fewestRollsOf 0 = .ok (.lconst 1, 1) := by decide +kernel
theorem dX0_fewestRollsOf_1 : decode cX0_fewestRollsOf 1 = .ok (.aload_n 0, 1) := by decide +kernel
theorem dX0_fewestRollsOf_2 : decode cX0_fewestRollsOf 2 = .ok (.getfield 19, 3) := by decide +kernel
theorem dX0_fewestRollsOf_5 : decode cX0_fewestRollsOf 5 = .ok (.iload_n 1, 1) := by decide +kernel
theorem dX0_fewestRollsOf_6 : decode cX0_fewestRollsOf 6 = .ok (.iaload, 1) := by decide +kernel
theorem dX0_fewestRollsOf_7 : decode cX0_fewestRollsOf 7 = .ok (.lshl, 1) := by decide +kernel
theorem dX0_fewestRollsOf_8 : decode cX0_fewestRollsOf 8 = .ok (.lstore_n 2, 1) := by decide +kernel
theorem dX0_fewestRollsOf_9 : decode cX0_fewestRollsOf 9 = .ok (.iconst 1, 1) := by decide +kernel
theorem dX0_fewestRollsOf_10 : decode cX0_fewestRollsOf 10 = .ok (.istore 4, 2) := by decide +kernel
theorem dX0_fewestRollsOf_12 : decode cX0_fewestRollsOf 12 = .ok (.iload 4, 2) := by decide +kernel
theorem dX0_fewestRollsOf_14 : decode cX0_fewestRollsOf 14 = .ok (.aload_n 0, 1) := by decide +kernel
theorem dX0_fewestRollsOf_15 : decode cX0_fewestRollsOf 15 = .ok (.getfield 37, 3) := by decide +kernel
theorem dX0_fewestRollsOf_18 : decode cX0_fewestRollsOf 18 = .ok (.if_icmp .gt 32, 3) := by decide +kernel
theorem dX0_fewestRollsOf_21 : decode cX0_fewestRollsOf 21 = .ok (.lload_n 2, 1) := by decide +kernel
theorem dX0_fewestRollsOf_22 : decode cX0_fewestRollsOf 22 = .ok (.aload_n 0, 1) := by decide +kernel
theorem dX0_fewestRollsOf_23 : decode cX0_fewestRollsOf 23 = .ok (.getfield 37, 3) := by decide +kernel
theorem dX0_fewestRollsOf_26 : decode cX0_fewestRollsOf 26 = .ok (.bipush 6, 2) := by decide +kernel
theorem dX0_fewestRollsOf_28 : decode cX0_fewestRollsOf 28 = .ok (.isub, 1) := by decide +kernel
theorem dX0_fewestRollsOf_29 : decode cX0_fewestRollsOf 29 = .ok (.lushr, 1) := by decide +kernel
theorem dX0_fewestRollsOf_30 : decode cX0_fewestRollsOf 30 = .ok (.lconst 0, 1) := by decide +kernel
theorem dX0_fewestRollsOf_31 : decode cX0_fewestRollsOf 31 = .ok (.lcmp, 1) := by decide +kernel
theorem dX0_fewestRollsOf_32 : decode cX0_fewestRollsOf 32 = .ok (.ifCond .eq 6, 3) := by decide +kernel
theorem dX0_fewestRollsOf_35 : decode cX0_fewestRollsOf 35 = .ok (.iload 4, 2) := by decide +kernel
theorem dX0_fewestRollsOf_37 : decode cX0_fewestRollsOf 37 = .ok (.ireturn, 1) := by decide +kernel
theorem dX0_fewestRollsOf_38 : decode cX0_fewestRollsOf 38 = .ok (.aload_n 0, 1) := by decide +kernel
theorem dX0_fewestRollsOf_39 : decode cX0_fewestRollsOf 39 = .ok (.lload_n 2, 1) := by decide +kernel
theorem dX0_fewestRollsOf_40 : decode cX0_fewestRollsOf 40 = .ok (.invokevirtual 135, 3) := by decide +kernel
theorem dX0_fewestRollsOf_43 : decode cX0_fewestRollsOf 43 = .ok (.lstore_n 2, 1) := by decide +kernel
theorem dX0_fewestRollsOf_44 : decode cX0_fewestRollsOf 44 = .ok (.iinc 4 1, 3) := by decide +kernel
theorem dX0_fewestRollsOf_47 : decode cX0_fewestRollsOf 47 = .ok (.goto (-35), 3) := by decide +kernel
theorem dX0_fewestRollsOf_50 : decode cX0_fewestRollsOf 50 = .ok (.bipush (-6), 2) := by decide +kernel
theorem dX0_fewestRollsOf_52 : decode cX0_fewestRollsOf 52 = .ok (.ireturn, 1) := by decide +kernel
theorem dX0_reachedWithOneMore_0 : decode cX0_reachedWithOneMore 0 = .ok (.lload_n 1, 1) := by decide +kernel
theorem dX0_reachedWithOneMore_1 : decode cX0_reachedWithOneMore 1 = .ok (.lstore_n 3, 1) := by decide +kernel
theorem dX0_reachedWithOneMore_2 : decode cX0_reachedWithOneMore 2 = .ok (.iconst 0, 1) := by decide +kernel
theorem dX0_reachedWithOneMore_3 : decode cX0_reachedWithOneMore 3 = .ok (.istore 5, 2) := by decide +kernel
theorem dX0_reachedWithOneMore_5 : decode cX0_reachedWithOneMore 5 = .ok (.iload 5, 2) := by decide +kernel
theorem dX0_reachedWithOneMore_7 : decode cX0_reachedWithOneMore 7 = .ok (.aload_n 0, 1) := by decide +kernel
theorem dX0_reachedWithOneMore_8 : decode cX0_reachedWithOneMore 8 = .ok (.getfield 37, 3) := by decide +kernel
theorem dX0_reachedWithOneMore_11 : decode cX0_reachedWithOneMore 11 = .ok (.if_icmp .ge 29, 3) := by decide +kernel
theorem dX0_reachedWithOneMore_14 : decode cX0_reachedWithOneMore 14 = .ok (.lload_n 1, 1) := by decide +kernel
theorem dX0_reachedWithOneMore_15 : decode cX0_reachedWithOneMore 15 = .ok (.iload 5, 2) := by decide +kernel
theorem dX0_reachedWithOneMore_17 : decode cX0_reachedWithOneMore 17 = .ok (.lushr, 1) := by decide +kernel
theorem dX0_reachedWithOneMore_18 : decode cX0_reachedWithOneMore 18 = .ok (.lconst 1, 1) := by decide +kernel
theorem dX0_reachedWithOneMore_19 : decode cX0_reachedWithOneMore 19 = .ok (.land, 1) := by decide +kernel
theorem dX0_reachedWithOneMore_20 : decode cX0_reachedWithOneMore 20 = .ok (.lconst 0, 1) := by decide +kernel
theorem dX0_reachedWithOneMore_21 : decode cX0_reachedWithOneMore 21 = .ok (.lcmp, 1) := by decide +kernel
theorem dX0_reachedWithOneMore_22 : decode cX0_reachedWithOneMore 22 = .ok (.ifCond .eq 12, 3) := by decide +kernel
theorem dX0_reachedWithOneMore_25 : decode cX0_reachedWithOneMore 25 = .ok (.lload_n 3, 1) := by decide +kernel
theorem dX0_reachedWithOneMore_26 : decode cX0_reachedWithOneMore 26 = .ok (.aload_n 0, 1) := by decide +kernel
theorem dX0_reachedWithOneMore_27 : decode cX0_reachedWithOneMore 27 = .ok (.iload 5, 2) := by decide +kernel
theorem dX0_reachedWithOneMore_29 : decode cX0_reachedWithOneMore 29 = .ok (.invokevirtual 139, 3) := by decide +kernel
theorem dX0_reachedWithOneMore_32 : decode cX0_reachedWithOneMore 32 = .ok (.lor, 1) := by decide +kernel
theorem dX0_reachedWithOneMore_33 : decode cX0_reachedWithOneMore 33 = .ok (.lstore_n 3, 1) := by decide +kernel
theorem dX0_reachedWithOneMore_34 : decode cX0_reachedWithOneMore 34 = .ok (.iinc 5 1, 3) := by decide +kernel
theorem dX0_reachedWithOneMore_37 : decode cX0_reachedWithOneMore 37 = .ok (.goto (-32), 3) := by decide +kernel
theorem dX0_reachedWithOneMore_40 : decode cX0_reachedWithOneMore 40 = .ok (.lload_n 3, 1) := by decide +kernel
theorem dX0_reachedWithOneMore_41 : decode cX0_reachedWithOneMore 41 = .ok (.lreturn, 1) := by decide +kernel
theorem dX0_reachedFrom_0 : decode cX0_reachedFrom 0 = .ok (.lconst 0, 1) := by decide +kernel
theorem dX0_reachedFrom_1 : decode cX0_reachedFrom 1 = .ok (.lstore_n 2, 1) := by decide +kernel
theorem dX0_reachedFrom_2 : decode cX0_reachedFrom 2 = .ok (.iload_n 1, 1) := by decide +kernel
theorem dX0_reachedFrom_3 : decode cX0_reachedFrom 3 = .ok (.iconst 1, 1) := by decide +kernel
theorem dX0_reachedFrom_4 : decode cX0_reachedFrom 4 = .ok (.iadd, 1) := by decide +kernel
theorem dX0_reachedFrom_5 : decode cX0_reachedFrom 5 = .ok (.istore 4, 2) := by decide +kernel
theorem dX0_reachedFrom_7 : decode cX0_reachedFrom 7 = .ok (.iload 4, 2) := by decide +kernel
theorem dX0_reachedFrom_9 : decode cX0_reachedFrom 9 = .ok (.iload_n 1, 1) := by decide +kernel
theorem dX0_reachedFrom_10 : decode cX0_reachedFrom 10 = .ok (.bipush 6, 2) := by decide +kernel
theorem dX0_reachedFrom_12 : decode cX0_reachedFrom 12 = .ok (.iadd, 1) := by decide +kernel
theorem dX0_reachedFrom_13 : decode cX0_reachedFrom 13 = .ok (.if_icmp .gt 44, 3) := by decide +kernel
theorem dX0_reachedFrom_16 : decode cX0_reachedFrom 16 = .ok (.iload 4, 2) := by decide +kernel
theorem dX0_reachedFrom_18 : decode cX0_reachedFrom 18 = .ok (.aload_n 0, 1) := by decide +kernel
theorem dX0_reachedFrom_19 : decode cX0_reachedFrom 19 = .ok (.getfield 37, 3) := by decide +kernel
theorem dX0_reachedFrom_22 : decode cX0_reachedFrom 22 = .ok (.if_icmp .ge 35, 3) := by decide +kernel
theorem dX0_reachedFrom_25 : decode cX0_reachedFrom 25 = .ok (.lload_n 2, 1) := by decide +kernel
theorem dX0_reachedFrom_26 : decode cX0_reachedFrom 26 = .ok (.lconst 1, 1) := by decide +kernel
theorem dX0_reachedFrom_27 : decode cX0_reachedFrom 27 = .ok (.aload_n 0, 1) := by decide +kernel
theorem dX0_reachedFrom_28 : decode cX0_reachedFrom 28 = .ok (.iload 4, 2) := by decide +kernel
theorem dX0_reachedFrom_30 : decode cX0_reachedFrom 30 = .ok (.invokevirtual 63, 3) := by decide +kernel
theorem dX0_reachedFrom_33 : decode cX0_reachedFrom 33 = .ok (.ifCond .eq 13, 3) := by decide +kernel
theorem dX0_reachedFrom_36 : decode cX0_reachedFrom 36 = .ok (.aload_n 0, 1) := by decide +kernel
theorem dX0_reachedFrom_37 : decode cX0_reachedFrom 37 = .ok (.getfield 9, 3) := by decide +kernel
theorem dX0_reachedFrom_40 : decode cX0_reachedFrom 40 = .ok (.iload 4, 2) := by decide +kernel
theorem dX0_reachedFrom_42 : decode cX0_reachedFrom 42 = .ok (.iaload, 1) := by decide +kernel
theorem dX0_reachedFrom_43 : decode cX0_reachedFrom 43 = .ok (.goto 5, 3) := by decide +kernel
theorem dX0_reachedFrom_46 : decode cX0_reachedFrom 46 = .ok (.iload 4, 2) := by decide +kernel
theorem dX0_reachedFrom_48 : decode cX0_reachedFrom 48 = .ok (.lshl, 1) := by decide +kernel
theorem dX0_reachedFrom_49 : decode cX0_reachedFrom 49 = .ok (.lor, 1) := by decide +kernel
theorem dX0_reachedFrom_50 : decode cX0_reachedFrom 50 = .ok (.lstore_n 2, 1) := by decide +kernel
theorem dX0_reachedFrom_51 : decode cX0_reachedFrom 51 = .ok (.iinc 4 1, 3) := by decide +kernel
theorem dX0_reachedFrom_54 : decode cX0_reachedFrom 54 = .ok (.goto (-47), 3) := by decide +kernel
theorem dX0_reachedFrom_57 : decode cX0_reachedFrom 57 = .ok (.lload_n 2, 1) := by decide +kernel
theorem dX0_reachedFrom_58 : decode cX0_reachedFrom 58 = .ok (.lreturn, 1) := by decide +kernel
theorem dX1_init_0 : decode cX1_init 0 = .ok (.aload_n 0, 1) := by decide +kernel
theorem dX1_init_1 : decode cX1_init 1 = .ok (.invokespecial 3, 3) := by decide +kernel
theorem dX1_init_4 : decode cX1_init 4 = .ok (.aload_n 0, 1) := by decide +kernel
theorem dX1_init_5 : decode cX1_init 5 = .ok (.iconst 5, 1) := by decide +kernel
theorem dX1_init_6 : decode cX1_init 6 = .ok (.anewarray 9, 3) := by decide +kernel
theorem dX1_init_9 : decode cX1_init 9 = .ok (.putfield 11, 3) := by decide +kernel
theorem dX1_init_12 : decode cX1_init 12 = .ok (.aload_n 0, 1) := by decide +kernel
theorem dX1_init_13 : decode cX1_init 13 = .ok (.iconst 0, 1) := by decide +kernel
theorem dX1_init_14 : decode cX1_init 14 = .ok (.putfield 17, 3) := by decide +kernel
theorem dX1_init_17 : decode cX1_init 17 = .ok (.iconst 0, 1) := by decide +kernel
theorem dX1_init_18 : decode cX1_init 18 = .ok (.istore_n 1, 1) := by decide +kernel
theorem dX1_init_19 : decode cX1_init 19 = .ok (.iload_n 1, 1) := by decide +kernel
theorem dX1_init_20 : decode cX1_init 20 = .ok (.iconst 5, 1) := by decide +kernel
theorem dX1_init_21 : decode cX1_init 21 = .ok (.if_icmp .ge 22, 3) := by decide +kernel
theorem dX1_init_24 : decode cX1_init 24 = .ok (.aload_n 0, 1) := by decide +kernel
theorem dX1_init_25 : decode cX1_init 25 = .ok (.getfield 11, 3) := by decide +kernel
theorem dX1_init_28 : decode cX1_init 28 = .ok (.iload_n 1, 1) := by decide +kernel
theorem dX1_init_29 : decode cX1_init 29 = .ok (.new 9, 3) := by decide +kernel
theorem dX1_init_32 : decode cX1_init 32 = .ok (.dup, 1) := by decide +kernel
theorem dX1_init_33 : decode cX1_init 33 = .ok (.invokespecial 21, 3) := by decide +kernel
theorem dX1_init_36 : decode cX1_init 36 = .ok (.aastore, 1) := by decide +kernel
theorem dX1_init_37 : decode cX1_init 37 = .ok (.iinc 1 1, 3) := by decide +kernel
theorem dX1_init_40 : decode cX1_init 40 = .ok (.goto (-21), 3) := by decide +kernel
theorem dX1_init_43 : decode cX1_init 43 = .ok (.return_, 1) := by decide +kernel
theorem dX1_keep_0 : decode cX1_keep 0 = .ok (.aload_n 0, 1) := by decide +kernel
theorem dX1_keep_1 : decode cX1_keep 1 = .ok (.getfield 17, 3) := by decide +kernel
theorem dX1_keep_4 : decode cX1_keep 4 = .ok (.iconst 5, 1) := by decide +kernel
theorem dX1_keep_5 : decode cX1_keep 5 = .ok (.if_icmp .lt 12, 3) := by decide +kernel
theorem dX1_keep_8 : decode cX1_keep 8 = .ok (.aload_n 0, 1) := by decide +kernel
theorem dX1_keep_9 : decode cX1_keep 9 = .ok (.invokevirtual 22, 3) := by decide +kernel
theorem dX1_keep_12 : decode cX1_keep 12 = .ok (.aload_n 0, 1) := by decide +kernel
theorem dX1_keep_13 : decode cX1_keep 13 = .ok (.iconst 4, 1) := by decide +kernel
theorem dX1_keep_14 : decode cX1_keep 14 = .ok (.putfield 17, 3) := by decide +kernel
theorem dX1_keep_17 : decode cX1_keep 17 = .ok (.aload_n 0, 1) := by decide +kernel
theorem dX1_keep_18 : decode cX1_keep 18 = .ok (.getfield 11, 3) := by decide +kernel
theorem dX1_keep_21 : decode cX1_keep 21 = .ok (.aload_n 0, 1) := by decide +kernel
theorem dX1_keep_22 : decode cX1_keep 22 = .ok (.getfield 17, 3) := by decide +kernel
theorem dX1_keep_25 : decode cX1_keep 25 = .ok (.aaload, 1) := by decide +kernel
theorem dX1_keep_26 : decode cX1_keep 26 = .ok (.astore_n 2, 1) := by decide +kernel
theorem dX1_keep_27 : decode cX1_keep 27 = .ok (.aload_n 2, 1) := by decide +kernel
theorem dX1_keep_28 : decode cX1_keep 28 = .ok (.ifnull 8, 3) := by decide +kernel
theorem dX1_keep_31 : decode cX1_keep 31 = .ok (.aload_n 2, 1) := by decide +kernel
theorem dX1_keep_32 : decode cX1_keep 32 = .ok (.aload_n 1, 1) := by decide +kernel
theorem dX1_keep_33 : decode cX1_keep 33 = .ok (.invokevirtual 25, 3) := by decide +kernel
theorem dX1_keep_36 : decode cX1_keep 36 = .ok (.aload_n 0, 1) := by decide +kernel
theorem dX1_keep_37 : decode cX1_keep 37 = .ok (.dup, 1) := by decide +kernel
theorem dX1_keep_38 : decode cX1_keep 38 = .ok (.getfield 17, 3) := by decide +kernel
theorem dX1_keep_41 : decode cX1_keep 41 = .ok (.iconst 1, 1) := by decide +kernel
theorem dX1_keep_42 : decode cX1_keep 42 = .ok (.iadd, 1) := by decide +kernel
theorem dX1_keep_43 : decode cX1_keep 43 = .ok (.putfield 17, 3) := by decide +kernel
theorem dX1_keep_46 : decode cX1_keep 46 = .ok (.return_, 1) := by decide +kernel
theorem dX1_makeOldestLast_0 : decode cX1_makeOldestLast 0 = .ok (.aload_n 0, 1) := by decide +kernel
theorem dX1_makeOldestLast_1 : decode cX1_makeOldestLast 1 = .ok (.getfield 11, 3) := by decide +kernel
theorem dX1_makeOldestLast_4 : decode cX1_makeOldestLast 4 = .ok (.iconst 0, 1) := by decide +kernel
theorem dX1_makeOldestLast_5 : decode cX1_makeOldestLast 5 = .ok (.aaload, 1) := by decide +kernel
theorem dX1_makeOldestLast_6 : decode cX1_makeOldestLast 6 = .ok (.astore_n 1, 1) := by decide +kernel
theorem dX1_makeOldestLast_7 : decode cX1_makeOldestLast 7 = .ok (.iconst 1, 1) := by decide +kernel
theorem dX1_makeOldestLast_8 : decode cX1_makeOldestLast 8 = .ok (.istore_n 2, 1) := by decide +kernel
theorem dX1_makeOldestLast_9 : decode cX1_makeOldestLast 9 = .ok (.iload_n 2, 1) := by decide +kernel
theorem dX1_makeOldestLast_10 : decode cX1_makeOldestLast 10 = .ok (.iconst 5, 1) := by decide +kernel
theorem dX1_makeOldestLast_11 : decode cX1_makeOldestLast 11 = .ok (.if_icmp .ge 23, 3) := by decide +kernel
theorem dX1_makeOldestLast_14 : decode cX1_makeOldestLast 14 = .ok (.aload_n 0, 1) := by decide +kernel
theorem dX1_makeOldestLast_15 : decode cX1_makeOldestLast 15 = .ok (.getfield 11, 3) := by decide +kernel
theorem dX1_makeOldestLast_18 : decode cX1_makeOldestLast 18 = .ok (.iload_n 2, 1) := by decide +kernel
theorem dX1_makeOldestLast_19 : decode cX1_makeOldestLast 19 = .ok (.iconst 1, 1) := by decide +kernel
theorem dX1_makeOldestLast_20 : decode cX1_makeOldestLast 20 = .ok (.isub, 1) := by decide +kernel
theorem dX1_makeOldestLast_21 : decode cX1_makeOldestLast 21 = .ok (.aload_n 0, 1) := by decide +kernel
theorem dX1_makeOldestLast_22 : decode cX1_makeOldestLast 22 = .ok (.getfield 11, 3) := by decide +kernel
theorem dX1_makeOldestLast_25 : decode cX1_makeOldestLast 25 = .ok (.iload_n 2, 1) := by decide +kernel
theorem dX1_makeOldestLast_26 : decode cX1_makeOldestLast 26 = .ok (.aaload, 1) := by decide +kernel
theorem dX1_makeOldestLast_27 : decode cX1_makeOldestLast 27 = .ok (.aastore, 1) := by decide +kernel
theorem dX1_makeOldestLast_28 : decode cX1_makeOldestLast 28 = .ok (.iinc 2 1, 3) := by decide +kernel
theorem dX1_makeOldestLast_31 : decode cX1_makeOldestLast 31 = .ok (.goto (-22), 3) := by decide +kernel
theorem dX1_makeOldestLast_34 : decode cX1_makeOldestLast 34 = .ok (.aload_n 0, 1) := by decide +kernel
theorem dX1_makeOldestLast_35 : decode cX1_makeOldestLast 35 = .ok (.getfield 11, 3) := by decide +kernel
theorem dX1_makeOldestLast_38 : decode cX1_makeOldestLast 38 = .ok (.iconst 4, 1) := by decide +kernel
theorem dX1_makeOldestLast_39 : decode cX1_makeOldestLast 39 = .ok (.aload_n 1, 1) := by decide +kernel
theorem dX1_makeOldestLast_40 : decode cX1_makeOldestLast 40 = .ok (.aastore, 1) := by decide +kernel
theorem dX1_makeOldestLast_41 : decode cX1_makeOldestLast 41 = .ok (.return_, 1) := by decide +kernel
theorem dX2_init_0 : decode cX2_init 0 = .ok (.aload_n 0, 1) := by decide +kernel
theorem dX2_init_1 : decode cX2_init 1 = .ok (.invokespecial 3, 3) := by decide +kernel
theorem dX2_init_4 : decode cX2_init 4 = .ok (.aload_n 0, 1) := by decide +kernel
theorem dX2_init_5 : decode cX2_init 5 = .ok (.bipush 60, 2) := by decide +kernel
theorem dX2_init_7 : decode cX2_init 7 = .ok (.newarray .char, 2) := by decide +kernel
theorem dX2_init_9 : decode cX2_init 9 = .ok (.putfield 9, 3) := by decide +kernel
theorem dX2_init_12 : decode cX2_init 12 = .ok (.aload_n 0, 1) := by decide +kernel
theorem dX2_init_13 : decode cX2_init 13 = .ok (.iconst 0, 1) := by decide +kernel
theorem dX2_init_14 : decode cX2_init 14 = .ok (.putfield 15, 3) := by decide +kernel
theorem dX2_init_17 : decode cX2_init 17 = .ok (.return_, 1) := by decide +kernel
theorem dX3_init_0 : decode cX3_init 0 = .ok (.aload_n 0, 1) := by decide +kernel
theorem dX3_init_1 : decode cX3_init 1 = .ok (.invokespecial 1, 3) := by decide +kernel
theorem dX3_init_4 : decode cX3_init 4 = .ok (.aload_n 0, 1) := by decide +kernel
theorem dX3_init_5 : decode cX3_init 5 = .ok (.new 7, 3) := by decide +kernel
theorem dX3_init_8 : decode cX3_init 8 = .ok (.dup, 1) := by decide +kernel
theorem dX3_init_9 : decode cX3_init 9 = .ok (.invokespecial 9, 3) := by decide +kernel
theorem dX3_init_12 : decode cX3_init 12 = .ok (.putfield 10, 3) := by decide +kernel
theorem dX3_init_15 : decode cX3_init 15 = .ok (.aload_n 0, 1) := by decide +kernel
theorem dX3_init_16 : decode cX3_init 16 = .ok (.new 7, 3) := by decide +kernel
theorem dX3_init_19 : decode cX3_init 19 = .ok (.dup, 1) := by decide +kernel
theorem dX3_init_20 : decode cX3_init 20 = .ok (.invokespecial 9, 3) := by decide +kernel
theorem dX3_init_23 : decode cX3_init 23 = .ok (.putfield 16, 3) := by decide +kernel
theorem dX3_init_26 : decode cX3_init 26 = .ok (.aload_n 0, 1) := by decide +kernel
theorem dX3_init_27 : decode cX3_init 27 = .ok (.new 7, 3) := by decide +kernel
theorem dX3_init_30 : decode cX3_init 30 = .ok (.dup, 1) := by decide +kernel
theorem dX3_init_31 : decode cX3_init 31 = .ok (.invokespecial 9, 3) := by decide +kernel
theorem dX3_init_34 : decode cX3_init 34 = .ok (.putfield 19, 3) := by decide +kernel
theorem dX3_init_37 : decode cX3_init 37 = .ok (.aload_n 0, 1) := by decide +kernel
theorem dX3_init_38 : decode cX3_init 38 = .ok (.new 7, 3) := by decide +kernel
theorem dX3_init_41 : decode cX3_init 41 = .ok (.dup, 1) := by decide +kernel
theorem dX3_init_42 : decode cX3_init 42 = .ok (.invokespecial 9, 3) := by decide +kernel
theorem dX3_init_45 : decode cX3_init 45 = .ok (.putfield 22, 3) := by decide +kernel
theorem dX3_init_48 : decode cX3_init 48 = .ok (.aload_n 0, 1) := by decide +kernel
theorem dX3_init_49 : decode cX3_init 49 = .ok (.new 25, 3) := by decide +kernel
theorem dX3_init_52 : decode cX3_init 52 = .ok (.dup, 1) := by decide +kernel
theorem dX3_init_53 : decode cX3_init 53 = .ok (.invokespecial 27, 3) := by decide +kernel
theorem dX3_init_56 : decode cX3_init 56 = .ok (.putfield 28, 3) := by decide +kernel
theorem dX3_init_59 : decode cX3_init 59 = .ok (.aload_n 0, 1) := by decide +kernel
theorem dX3_init_60 : decode cX3_init 60 = .ok (.new 32, 3) := by decide +kernel
theorem dX3_init_63 : decode cX3_init 63 = .ok (.dup, 1) := by decide +kernel
theorem dX3_init_64 : decode cX3_init 64 = .ok (.invokespecial 34, 3) := by decide +kernel
theorem dX3_init_67 : decode cX3_init 67 = .ok (.putfield 35, 3) := by decide +kernel
theorem dX3_init_70 : decode cX3_init 70 = .ok (.aload_n 0, 1) := by decide +kernel
theorem dX3_init_71 : decode cX3_init 71 = .ok (.iconst 0, 1) := by decide +kernel
theorem dX3_init_72 : decode cX3_init 72 = .ok (.putfield 39, 3) := by decide +kernel
theorem dX3_init_75 : decode cX3_init 75 = .ok (.return_, 1) := by decide +kernel
theorem dX3_setTop_0 : decode cX3_setTop 0 = .ok (.aload_n 0, 1) := by decide +kernel
theorem dX3_setTop_1 : decode cX3_setTop 1 = .ok (.getfield 16, 3) := by decide +kernel
theorem dX3_setTop_4 : decode cX3_setTop 4 = .ok (.aload_n 0, 1) := by decide +kernel
theorem dX3_setTop_5 : decode cX3_setTop 5 = .ok (.getfield 10, 3) := by decide +kernel
theorem dX3_setTop_8 : decode cX3_setTop 8 = .ok (.invokevirtual 43, 3) := by decide +kernel
theorem dX3_setTop_11 : decode cX3_setTop 11 = .ok (.aload_n 0, 1) := by decide +kernel
theorem dX3_setTop_12 : decode cX3_setTop 12 = .ok (.aload_n 0, 1) := by decide +kernel
theorem dX3_setTop_13 : decode cX3_setTop 13 = .ok (.getfield 10, 3) := by decide +kernel
theorem dX3_setTop_16 : decode cX3_setTop 16 = .ok (.iload_n 1, 1) := by decide +kernel
theorem dX3_setTop_17 : decode cX3_setTop 17 = .ok (.invokevirtual 47, 3) := by decide +kernel
theorem dX3_setTop_20 : decode cX3_setTop 20 = .ok (.invokevirtual 51, 3) := by decide +kernel
theorem dX3_setTop_23 : decode cX3_setTop 23 = .ok (.ireturn, 1) := by decide +kernel
theorem dX3_lay_0 : decode cX3_lay 0 = .ok (.aload_n 0, 1) := by decide +kernel
theorem dX3_lay_1 : decode cX3_lay 1 = .ok (.getfield 16, 3) := by decide +kernel
theorem dX3_lay_4 : decode cX3_lay 4 = .ok (.aload_n 0, 1) := by decide +kernel
theorem dX3_lay_5 : decode cX3_lay 5 = .ok (.getfield 10, 3) := by decide +kernel
theorem dX3_lay_8 : decode cX3_lay 8 = .ok (.invokevirtual 43, 3) := by decide +kernel
theorem dX3_lay_11 : decode cX3_lay 11 = .ok (.aload_n 0, 1) := by decide +kernel
theorem dX3_lay_12 : decode cX3_lay 12 = .ok (.aload_n 0, 1) := by decide +kernel
theorem dX3_lay_13 : decode cX3_lay 13 = .ok (.getfield 10, 3) := by decide +kernel
theorem dX3_lay_16 : decode cX3_lay 16 = .ok (.iload_n 1, 1) := by decide +kernel
theorem dX3_lay_17 : decode cX3_lay 17 = .ok (.iload_n 2, 1) := by decide +kernel
theorem dX3_lay_18 : decode cX3_lay 18 = .ok (.invokevirtual 54, 3) := by decide +kernel
theorem dX3_lay_21 : decode cX3_lay 21 = .ok (.invokevirtual 51, 3) := by decide +kernel
theorem dX3_lay_24 : decode cX3_lay 24 = .ok (.ireturn, 1) := by decide +kernel
theorem dX3_take_0 : decode cX3_take 0 = .ok (.aload_n 0, 1) := by decide +kernel
theorem dX3_take_1 : decode cX3_take 1 = .ok (.getfield 16, 3) := by decide +kernel
theorem dX3_take_4 : decode cX3_take 4 = .ok (.aload_n 0, 1) := by decide +kernel
theorem dX3_take_5 : decode cX3_take 5 = .ok (.getfield 10, 3) := by decide +kernel
theorem dX3_take_8 : decode cX3_take 8 = .ok (.invokevirtual 43, 3) := by decide +kernel
theorem dX3_take_11 : decode cX3_take 11 = .ok (.aload_n 0, 1) := by decide +kernel
theorem dX3_take_12 : decode cX3_take 12 = .ok (.aload_n 0, 1) := by decide +kernel
theorem dX3_take_13 : decode cX3_take 13 = .ok (.getfield 10, 3) := by decide +kernel
theorem dX3_take_16 : decode cX3_take 16 = .ok (.iload_n 1, 1) := by decide +kernel
theorem dX3_take_17 : decode cX3_take 17 = .ok (.invokevirtual 58, 3) := by decide +kernel
theorem dX3_take_20 : decode cX3_take 20 = .ok (.invokevirtual 51, 3) := by decide +kernel
theorem dX3_take_23 : decode cX3_take 23 = .ok (.ireturn, 1) := by decide +kernel
theorem dX3_put_0 : decode cX3_put 0 = .ok (.aload_n 0, 1) := by decide +kernel
theorem dX3_put_1 : decode cX3_put 1 = .ok (.getfield 16, 3) := by decide +kernel
theorem dX3_put_4 : decode cX3_put 4 = .ok (.aload_n 0, 1) := by decide +kernel
theorem dX3_put_5 : decode cX3_put 5 = .ok (.getfield 10, 3) := by decide +kernel
theorem dX3_put_8 : decode cX3_put 8 = .ok (.invokevirtual 43, 3) := by decide +kernel
theorem dX3_put_11 : decode cX3_put 11 = .ok (.aload_n 0, 1) := by decide +kernel
theorem dX3_put_12 : decode cX3_put 12 = .ok (.aload_n 0, 1) := by decide +kernel
theorem dX3_put_13 : decode cX3_put 13 = .ok (.getfield 10, 3) := by decide +kernel
theorem dX3_put_16 : decode cX3_put 16 = .ok (.iload_n 1, 1) := by decide +kernel
theorem dX3_put_17 : decode cX3_put 17 = .ok (.invokevirtual 61, 3) := by decide +kernel
theorem dX3_put_20 : decode cX3_put 20 = .ok (.invokevirtual 51, 3) := by decide +kernel
theorem dX3_put_23 : decode cX3_put 23 = .ok (.ireturn, 1) := by decide +kernel
theorem dX3_remove_0 : decode cX3_remove 0 = .ok (.aload_n 0, 1) := by decide +kernel
theorem dX3_remove_1 : decode cX3_remove 1 = .ok (.getfield 16, 3) := by decide +kernel
theorem dX3_remove_4 : decode cX3_remove 4 = .ok (.aload_n 0, 1) := by decide +kernel
theorem dX3_remove_5 : decode cX3_remove 5 = .ok (.getfield 10, 3) := by decide +kernel
theorem dX3_remove_8 : decode cX3_remove 8 = .ok (.invokevirtual 43, 3) := by decide +kernel
theorem dX3_remove_11 : decode cX3_remove 11 = .ok (.aload_n 0, 1) := by decide +kernel
theorem dX3_remove_12 : decode cX3_remove 12 = .ok (.aload_n 0, 1) := by decide +kernel
theorem dX3_remove_13 : decode cX3_remove 13 = .ok (.getfield 10, 3) := by decide +kernel
theorem dX3_remove_16 : decode cX3_remove 16 = .ok (.iload_n 1, 1) := by decide +kernel
theorem dX3_remove_17 : decode cX3_remove 17 = .ok (.invokevirtual 64, 3) := by decide +kernel
theorem dX3_remove_20 : decode cX3_remove 20 = .ok (.invokevirtual 51, 3) := by decide +kernel
theorem dX3_remove_23 : decode cX3_remove 23 = .ok (.ireturn, 1) := by decide +kernel
theorem dX3_join_0 : decode cX3_join 0 = .ok (.aload_n 0, 1) := by decide +kernel
theorem dX3_join_1 : decode cX3_join 1 = .ok (.getfield 16, 3) := by decide +kernel
theorem dX3_join_4 : decode cX3_join 4 = .ok (.aload_n 0, 1) := by decide +kernel
theorem dX3_join_5 : decode cX3_join 5 = .ok (.getfield 10, 3) := by decide +kernel
theorem dX3_join_8 : decode cX3_join 8 = .ok (.invokevirtual 43, 3) := by decide +kernel
theorem dX3_join_11 : decode cX3_join 11 = .ok (.aload_n 0, 1) := by decide +kernel
theorem dX3_join_12 : decode cX3_join 12 = .ok (.aload_n 0, 1) := by decide +kernel
theorem dX3_join_13 : decode cX3_join 13 = .ok (.getfield 10, 3) := by decide +kernel
theorem dX3_join_16 : decode cX3_join 16 = .ok (.invokevirtual 67, 3) := by decide +kernel
theorem dX3_join_19 : decode cX3_join 19 = .ok (.invokevirtual 51, 3) := by decide +kernel
theorem dX3_join_22 : decode cX3_join 22 = .ok (.ireturn, 1) := by decide +kernel
theorem dX3_roll_0 : decode cX3_roll 0 = .ok (.aload_n 0, 1) := by decide +kernel
theorem dX3_roll_1 : decode cX3_roll 1 = .ok (.getfield 16, 3) := by decide +kernel
theorem dX3_roll_4 : decode cX3_roll 4 = .ok (.aload_n 0, 1) := by decide +kernel
theorem dX3_roll_5 : decode cX3_roll 5 = .ok (.getfield 10, 3) := by decide +kernel
theorem dX3_roll_8 : decode cX3_roll 8 = .ok (.invokevirtual 43, 3) := by decide +kernel
theorem dX3_roll_11 : decode cX3_roll 11 = .ok (.aload_n 0, 1) := by decide +kernel
theorem dX3_roll_12 : decode cX3_roll 12 = .ok (.aload_n 0, 1) := by decide +kernel
theorem dX3_roll_13 : decode cX3_roll 13 = .ok (.getfield 10, 3) := by decide +kernel
theorem dX3_roll_16 : decode cX3_roll 16 = .ok (.iload_n 1, 1) := by decide +kernel
theorem dX3_roll_17 : decode cX3_roll 17 = .ok (.invokevirtual 71, 3) := by decide +kernel
theorem dX3_roll_20 : decode cX3_roll 20 = .ok (.invokevirtual 51, 3) := by decide +kernel
theorem dX3_roll_23 : decode cX3_roll 23 = .ok (.ireturn, 1) := by decide +kernel
theorem dX3_pass_0 : decode cX3_pass 0 = .ok (.aload_n 0, 1) := by decide +kernel
theorem dX3_pass_1 : decode cX3_pass 1 = .ok (.getfield 16, 3) := by decide +kernel
theorem dX3_pass_4 : decode cX3_pass 4 = .ok (.aload_n 0, 1) := by decide +kernel
theorem dX3_pass_5 : decode cX3_pass 5 = .ok (.getfield 10, 3) := by decide +kernel
theorem dX3_pass_8 : decode cX3_pass 8 = .ok (.invokevirtual 43, 3) := by decide +kernel
theorem dX3_pass_11 : decode cX3_pass 11 = .ok (.aload_n 0, 1) := by decide +kernel
theorem dX3_pass_12 : decode cX3_pass 12 = .ok (.aload_n 0, 1) := by decide +kernel
theorem dX3_pass_13 : decode cX3_pass 13 = .ok (.getfield 10, 3) := by decide +kernel
theorem dX3_pass_16 : decode cX3_pass 16 = .ok (.invokevirtual 74, 3) := by decide +kernel
theorem dX3_pass_19 : decode cX3_pass 19 = .ok (.invokevirtual 51, 3) := by decide +kernel
theorem dX3_pass_22 : decode cX3_pass 22 = .ok (.ireturn, 1) := by decide +kernel
theorem dX3_climber_0 : decode cX3_climber 0 = .ok (.aload_n 0, 1) := by decide +kernel
theorem dX3_climber_1 : decode cX3_climber 1 = .ok (.getfield 10, 3) := by decide +kernel
theorem dX3_climber_4 : decode cX3_climber 4 = .ok (.iload_n 1, 1) := by decide +kernel
theorem dX3_climber_5 : decode cX3_climber 5 = .ok (.iload_n 2, 1) := by decide +kernel
theorem dX3_climber_6 : decode cX3_climber 6 = .ok (.invokevirtual 77, 3) := by decide +kernel
theorem dX3_climber_9 : decode cX3_climber 9 = .ok (.ireturn, 1) := by decide +kernel
theorem dX3_turn_0 : decode cX3_turn 0 = .ok (.aload_n 0, 1) := by decide +kernel
theorem dX3_turn_1 : decode cX3_turn 1 = .ok (.getfield 10, 3) := by decide +kernel
theorem dX3_turn_4 : decode cX3_turn 4 = .ok (.invokevirtual 80, 3) := by decide +kernel
theorem dX3_turn_7 : decode cX3_turn 7 = .ok (.ifCond .eq 13, 3) := by decide +kernel
theorem dX3_turn_10 : decode cX3_turn 10 = .ok (.aload_n 0, 1) := by decide +kernel
theorem dX3_turn_11 : decode cX3_turn 11 = .ok (.getfield 10, 3) := by decide +kernel
theorem dX3_turn_14 : decode cX3_turn 14 = .ok (.getfield 84, 3) := by decide +kernel
theorem dX3_turn_17 : decode cX3_turn 17 = .ok (.goto 5, 3) := by decide +kernel
theorem dX3_turn_20 : decode cX3_turn 20 = .ok (.bipush (-6), 2) := by decide +kernel
theorem dX3_turn_22 : decode cX3_turn 22 = .ok (.ireturn, 1) := by decide +kernel
theorem dX3_on_0 : decode cX3_on 0 = .ok (.aload_n 0, 1) := by decide +kernel
theorem dX3_on_1 : decode cX3_on 1 = .ok (.getfield 10, 3) := by decide +kernel
theorem dX3_on_4 : decode cX3_on 4 = .ok (.iload_n 1, 1) := by decide +kernel
theorem dX3_on_5 : decode cX3_on 5 = .ok (.invokevirtual 88, 3) := by decide +kernel
theorem dX3_on_8 : decode cX3_on 8 = .ok (.ifCond .eq 14, 3) := by decide +kernel
theorem dX3_on_11 : decode cX3_on 11 = .ok (.aload_n 0, 1) := by decide +kernel
theorem dX3_on_12 : decode cX3_on 12 = .ok (.getfield 10, 3) := by decide +kernel
theorem dX3_on_15 : decode cX3_on 15 = .ok (.iload_n 1, 1) := by decide +kernel
theorem dX3_on_16 : decode cX3_on 16 = .ok (.invokevirtual 92, 3) := by decide +kernel
theorem dX3_on_19 : decode cX3_on 19 = .ok (.goto 4, 3) := by decide +kernel
theorem dX3_on_22 : decode cX3_on 22 = .ok (.iconst (-1), 1) := by decide +kernel
theorem dX3_on_23 : decode cX3_on 23 = .ok (.ireturn, 1) := by decide +kernel
theorem dX3_step_0 : decode cX3_step 0 = .ok (.aload_n 0, 1) := by decide +kernel
theorem dX3_step_1 : decode cX3_step 1 = .ok (.getfield 10, 3) := by decide +kernel
theorem dX3_step_4 : decode cX3_step 4 = .ok (.iload_n 1, 1) := by decide +kernel
theorem dX3_step_5 : decode cX3_step 5 = .ok (.iload_n 2, 1) := by decide +kernel
theorem dX3_step_6 : decode cX3_step 6 = .ok (.invokevirtual 95, 3) := by decide +kernel
theorem dX3_step_9 : decode cX3_step 9 = .ok (.ireturn, 1) := by decide +kernel
theorem dX3_total_0 : decode cX3_total 0 = .ok (.aload_n 0, 1) := by decide +kernel
theorem dX3_total_1 : decode cX3_total 1 = .ok (.getfield 10, 3) := by decide +kernel
theorem dX3_total_4 : decode cX3_total 4 = .ok (.iload_n 1, 1) := by decide +kernel
theorem dX3_total_5 : decode cX3_total 5 = .ok (.invokevirtual 98, 3) := by decide +kernel
theorem dX3_total_8 : decode cX3_total 8 = .ok (.ireturn, 1) := by decide +kernel
theorem dX3_rank_0 : decode cX3_rank 0 = .ok (.iload_n 1, 1) := by decide +kernel
theorem dX3_rank_1 : decode cX3_rank 1 = .ok (.ifCond .ge 8, 3) := by decide +kernel
theorem dX3_rank_4 : decode cX3_rank 4 = .ok (.bipush (-2), 2) := by decide +kernel
theorem dX3_rank_6 : decode cX3_rank 6 = .ok (.goto 11, 3) := by decide +kernel
theorem dX3_rank_9 : decode cX3_rank 9 = .ok (.aload_n 0, 1) := by decide +kernel
theorem dX3_rank_10 : decode cX3_rank 10 = .ok (.getfield 10, 3) := by decide +kernel
theorem dX3_rank_13 : decode cX3_rank 13 = .ok (.iload_n 1, 1) := by decide +kernel
theorem dX3_rank_14 : decode cX3_rank 14 = .ok (.invokevirtual 101, 3) := by decide +kernel
theorem dX3_rank_17 : decode cX3_rank 17 = .ok (.ireturn, 1) := by decide +kernel
theorem dX3_ifRolled_0 : decode cX3_ifRolled 0 = .ok (.iload_n 1, 1) := by decide +kernel
theorem dX3_ifRolled_1 : decode cX3_ifRolled 1 = .ok (.invokestatic 104, 3) := by decide +kernel
theorem dX3_ifRolled_4 : decode cX3_ifRolled 4 = .ok (.ifCond .eq 12, 3) := by decide +kernel
theorem dX3_ifRolled_7 : decode cX3_ifRolled 7 = .ok (.iload_n 2, 1) := by decide +kernel
theorem dX3_ifRolled_8 : decode cX3_ifRolled 8 = .ok (.ifCond .lt 8, 3) := by decide +kernel
theorem dX3_ifRolled_11 : decode cX3_ifRolled 11 = .ok (.iload_n 2, 1) := by decide +kernel
theorem dX3_ifRolled_12 : decode cX3_ifRolled 12 = .ok (.iconst 4, 1) := by decide +kernel
theorem dX3_ifRolled_13 : decode cX3_ifRolled 13 = .ok (.if_icmp .le 6, 3) := by decide +kernel
theorem dX3_ifRolled_16 : decode cX3_ifRolled 16 = .ok (.bipush (-2), 2) := by decide +kernel
theorem dX3_ifRolled_18 : decode cX3_ifRolled 18 = .ok (.ireturn, 1) := by decide +kernel
theorem dX3_ifRolled_19 : decode cX3_ifRolled 19 = .ok (.aload_n 0, 1) := by decide +kernel
theorem dX3_ifRolled_20 : decode cX3_ifRolled 20 = .ok (.getfield 10, 3) := by decide +kernel
theorem dX3_ifRolled_23 : decode cX3_ifRolled 23 = .ok (.invokevirtual 80, 3) := by decide +kernel
theorem dX3_ifRolled_26 : decode cX3_ifRolled 26 = .ok (.ifCond .ne 6, 3) := by decide +kernel
theorem dX3_ifRolled_29 : decode cX3_ifRolled 29 = .ok (.bipush (-3), 2) := by decide +kernel
theorem dX3_ifRolled_31 : decode cX3_ifRolled 31 = .ok (.ireturn, 1) := by decide +kernel
theorem dX3_ifRolled_32 : decode cX3_ifRolled 32 = .ok (.aload_n 0, 1) := by decide +kernel
theorem dX3_ifRolled_33 : decode cX3_ifRolled 33 = .ok (.iload_n 1, 1) := by decide +kernel
theorem dX3_ifRolled_34 : decode cX3_ifRolled 34 = .ok (.invokevirtual 107, 3) := by decide +kernel
theorem dX3_ifRolled_37 : decode cX3_ifRolled 37 = .ok (.istore_n 3, 1) := by decide +kernel
theorem dX3_ifRolled_38 : decode cX3_ifRolled 38 = .ok (.iload_n 2, 1) := by decide +kernel
theorem dX3_ifRolled_39 : decode cX3_ifRolled 39 = .ok (.tableswitch 79 0 3 #[29, 31, 47, 63], 29) := by decide +kernel
theorem dX3_ifRolled_68 : decode cX3_ifRolled 68 = .ok (.iload_n 3, 1) := by decide +kernel
theorem dX3_ifRolled_69 : decode cX3_ifRolled 69 = .ok (.ireturn, 1) := by decide +kernel
theorem dX3_ifRolled_70 : decode cX3_ifRolled 70 = .ok (.aload_n 0, 1) := by decide +kernel
theorem dX3_ifRolled_71 : decode cX3_ifRolled 71 = .ok (.getfield 19, 3) := by decide +kernel
theorem dX3_ifRolled_74 : decode cX3_ifRolled 74 = .ok (.invokevirtual 110, 3) := by decide +kernel
theorem dX3_ifRolled_77 : decode cX3_ifRolled 77 = .ok (.aload_n 0, 1) := by decide +kernel
theorem dX3_ifRolled_78 : decode cX3_ifRolled 78 = .ok (.getfield 10, 3) := by decide +kernel
theorem dX3_ifRolled_81 : decode cX3_ifRolled 81 = .ok (.invokevirtual 110, 3) := by decide +kernel
theorem dX3_ifRolled_84 : decode cX3_ifRolled 84 = .ok (.isub, 1) := by decide +kernel
theorem dX3_ifRolled_85 : decode cX3_ifRolled 85 = .ok (.ireturn, 1) := by decide +kernel
theorem dX3_ifRolled_86 : decode cX3_ifRolled 86 = .ok (.aload_n 0, 1) := by decide +kernel
theorem dX3_ifRolled_87 : decode cX3_ifRolled 87 = .ok (.getfield 19, 3) := by decide +kernel
theorem dX3_ifRolled_90 : decode cX3_ifRolled 90 = .ok (.invokevirtual 113, 3) := by decide +kernel
theorem dX3_ifRolled_93 : decode cX3_ifRolled 93 = .ok (.aload_n 0, 1) := by decide +kernel
theorem dX3_ifRolled_94 : decode cX3_ifRolled 94 = .ok (.getfield 10, 3) := by decide +kernel
theorem dX3_ifRolled_97 : decode cX3_ifRolled 97 = .ok (.invokevirtual 113, 3) := by decide +kernel
theorem dX3_ifRolled_100 : decode cX3_ifRolled 100 = .ok (.isub, 1) := by decide +kernel
theorem dX3_ifRolled_101 : decode cX3_ifRolled 101 = .ok (.ireturn, 1) := by decide +kernel
theorem dX3_ifRolled_102 : decode cX3_ifRolled 102 = .ok (.aload_n 0, 1) := by decide +kernel
theorem dX3_ifRolled_103 : decode cX3_ifRolled 103 = .ok (.getfield 19, 3) := by decide +kernel
theorem dX3_ifRolled_106 : decode cX3_ifRolled 106 = .ok (.invokevirtual 116, 3) := by decide +kernel
theorem dX3_ifRolled_109 : decode cX3_ifRolled 109 = .ok (.aload_n 0, 1) := by decide +kernel
theorem dX3_ifRolled_110 : decode cX3_ifRolled 110 = .ok (.getfield 10, 3) := by decide +kernel
theorem dX3_ifRolled_113 : decode cX3_ifRolled 113 = .ok (.invokevirtual 116, 3) := by decide +kernel
theorem dX3_ifRolled_116 : decode cX3_ifRolled 116 = .ok (.isub, 1) := by decide +kernel
theorem dX3_ifRolled_117 : decode cX3_ifRolled 117 = .ok (.ireturn, 1) := by decide +kernel
theorem dX3_ifRolled_118 : decode cX3_ifRolled 118 = .ok (.aload_n 0, 1) := by decide +kernel
theorem dX3_ifRolled_119 : decode cX3_ifRolled 119 = .ok (.getfield 19, 3) := by decide +kernel
theorem dX3_ifRolled_122 : decode cX3_ifRolled 122 = .ok (.getfield 84, 3) := by decide +kernel
theorem dX3_ifRolled_125 : decode cX3_ifRolled 125 = .ok (.ireturn, 1) := by decide +kernel
theorem dX3_bestRoll_0 : decode cX3_bestRoll 0 = .ok (.aload_n 0, 1) := by decide +kernel
theorem dX3_bestRoll_1 : decode cX3_bestRoll 1 = .ok (.getfield 10, 3) := by decide +kernel
theorem dX3_bestRoll_4 : decode cX3_bestRoll 4 = .ok (.invokevirtual 80, 3) := by decide +kernel
theorem dX3_bestRoll_7 : decode cX3_bestRoll 7 = .ok (.ifCond .ne 6, 3) := by decide +kernel
theorem dX3_bestRoll_10 : decode cX3_bestRoll 10 = .ok (.bipush (-6), 2) := by decide +kernel
theorem dX3_bestRoll_12 : decode cX3_bestRoll 12 = .ok (.ireturn, 1) := by decide +kernel
theorem dX3_bestRoll_13 : decode cX3_bestRoll 13 = .ok (.iconst 1, 1) := by decide +kernel
theorem dX3_bestRoll_14 : decode cX3_bestRoll 14 = .ok (.istore_n 1, 1) := by decide +kernel
theorem dX3_bestRoll_15 : decode cX3_bestRoll 15 = .ok (.aload_n 0, 1) := by decide +kernel
theorem dX3_bestRoll_16 : decode cX3_bestRoll 16 = .ok (.iconst 1, 1) := by decide +kernel
theorem dX3_bestRoll_17 : decode cX3_bestRoll 17 = .ok (.invokevirtual 119, 3) := by decide +kernel
theorem dX3_bestRoll_20 : decode cX3_bestRoll 20 = .ok (.istore_n 2, 1) := by decide +kernel
theorem dX3_bestRoll_21 : decode cX3_bestRoll 21 = .ok (.iconst 2, 1) := by decide +kernel
theorem dX3_bestRoll_22 : decode cX3_bestRoll 22 = .ok (.istore_n 3, 1) := by decide +kernel
theorem dX3_bestRoll_23 : decode cX3_bestRoll 23 = .ok (.iload_n 3, 1) := by decide +kernel
theorem dX3_bestRoll_24 : decode cX3_bestRoll 24 = .ok (.bipush 6, 2) := by decide +kernel
theorem dX3_bestRoll_26 : decode cX3_bestRoll 26 = .ok (.if_icmp .gt 27, 3) := by decide +kernel
theorem dX3_bestRoll_29 : decode cX3_bestRoll 29 = .ok (.aload_n 0, 1) := by decide +kernel
theorem dX3_bestRoll_30 : decode cX3_bestRoll 30 = .ok (.iload_n 3, 1) := by decide +kernel
theorem dX3_bestRoll_31 : decode cX3_bestRoll 31 = .ok (.invokevirtual 119, 3) := by decide +kernel
theorem dX3_bestRoll_34 : decode cX3_bestRoll 34 = .ok (.istore 4, 2) := by decide +kernel
theorem dX3_bestRoll_36 : decode cX3_bestRoll 36 = .ok (.iload 4, 2) := by decide +kernel
theorem dX3_bestRoll_38 : decode cX3_bestRoll 38 = .ok (.iload_n 2, 1) := by decide +kernel
theorem dX3_bestRoll_39 : decode cX3_bestRoll 39 = .ok (.if_icmp .le 8, 3) := by decide +kernel
theorem dX3_bestRoll_42 : decode cX3_bestRoll 42 = .ok (.iload_n 3, 1) := by decide +kernel
theorem dX3_bestRoll_43 : decode cX3_bestRoll 43 = .ok (.istore_n 1, 1) := by decide +kernel
theorem dX3_bestRoll_44 : decode cX3_bestRoll 44 = .ok (.iload 4, 2) := by decide +kernel
theorem dX3_bestRoll_46 : decode cX3_bestRoll 46 = .ok (.istore_n 2, 1) := by decide +kernel
theorem dX3_bestRoll_47 : decode cX3_bestRoll 47 = .ok (.iinc 3 1, 3) := by decide +kernel
theorem dX3_bestRoll_50 : decode cX3_bestRoll 50 = .ok (.goto (-27), 3) := by decide +kernel
theorem dX3_bestRoll_53 : decode cX3_bestRoll 53 = .ok (.iload_n 1, 1) := by decide +kernel
theorem dX3_bestRoll_54 : decode cX3_bestRoll 54 = .ok (.ireturn, 1) := by decide +kernel
theorem dX3_quietRolls_0 : decode cX3_quietRolls 0 = .ok (.aload_n 0, 1) := by decide +kernel
theorem dX3_quietRolls_1 : decode cX3_quietRolls 1 = .ok (.getfield 10, 3) := by decide +kernel
theorem dX3_quietRolls_4 : decode cX3_quietRolls 4 = .ok (.invokevirtual 80, 3) := by decide +kernel
theorem dX3_quietRolls_7 : decode cX3_quietRolls 7 = .ok (.ifCond .ne 6, 3) := by decide +kernel
theorem dX3_quietRolls_10 : decode cX3_quietRolls 10 = .ok (.bipush (-6), 2) := by decide +kernel
theorem dX3_quietRolls_12 : decode cX3_quietRolls 12 = .ok (.ireturn, 1) := by decide +kernel
theorem dX3_quietRolls_13 : decode cX3_quietRolls 13 = .ok (.iconst 0, 1) := by decide +kernel
theorem dX3_quietRolls_14 : decode cX3_quietRolls 14 = .ok (.istore_n 1, 1) := by decide +kernel
theorem dX3_quietRolls_15 : decode cX3_quietRolls 15 = .ok (.iconst 1, 1) := by decide +kernel
theorem dX3_quietRolls_16 : decode cX3_quietRolls 16 = .ok (.istore_n 2, 1) := by decide +kernel
theorem dX3_quietRolls_17 : decode cX3_quietRolls 17 = .ok (.iload_n 2, 1) := by decide +kernel
theorem dX3_quietRolls_18 : decode cX3_quietRolls 18 = .ok (.bipush 6, 2) := by decide +kernel
theorem dX3_quietRolls_20 : decode cX3_quietRolls 20 = .ok (.if_icmp .gt 26, 3) := by decide +kernel
theorem dX3_quietRolls_23 : decode cX3_quietRolls 23 = .ok (.aload_n 0, 1) := by decide +kernel
theorem dX3_quietRolls_24 : decode cX3_quietRolls 24 = .ok (.getfield 10, 3) := by decide +kernel
theorem dX3_quietRolls_27 : decode cX3_quietRolls 27 = .ok (.iload_n 2, 1) := by decide +kernel
theorem dX3_quietRolls_28 : decode cX3_quietRolls 28 = .ok (.invokevirtual 122, 3) := by decide +kernel
theorem dX3_quietRolls_31 : decode cX3_quietRolls 31 = .ok (.ifCond .ne 9, 3) := by decide +kernel
theorem dX3_quietRolls_34 : decode cX3_quietRolls 34 = .ok (.iload_n 1, 1) := by decide +kernel
theorem dX3_quietRolls_35 : decode cX3_quietRolls 35 = .ok (.iconst 1, 1) := by decide +kernel
theorem dX3_quietRolls_36 : decode cX3_quietRolls 36 = .ok (.iload_n 2, 1) := by decide +kernel
theorem dX3_quietRolls_37 : decode cX3_quietRolls 37 = .ok (.ishl, 1) := by decide +kernel
theorem dX3_quietRolls_38 : decode cX3_quietRolls 38 = .ok (.ior, 1) := by decide +kernel
theorem dX3_quietRolls_39 : decode cX3_quietRolls 39 = .ok (.istore_n 1, 1) := by decide +kernel
theorem dX3_quietRolls_40 : decode cX3_quietRolls 40 = .ok (.iinc 2 1, 3) := by decide +kernel
theorem dX3_quietRolls_43 : decode cX3_quietRolls 43 = .ok (.goto (-26), 3) := by decide +kernel
theorem dX3_quietRolls_46 : decode cX3_quietRolls 46 = .ok (.iload_n 1, 1) := by decide +kernel
theorem dX3_quietRolls_47 : decode cX3_quietRolls 47 = .ok (.ireturn, 1) := by decide +kernel
theorem dX3_rollsToTop_0 : decode cX3_rollsToTop 0 = .ok (.aload_n 0, 1) := by decide +kernel
theorem dX3_rollsToTop_1 : decode cX3_rollsToTop 1 = .ok (.getfield 10, 3) := by decide +kernel
theorem dX3_rollsToTop_4 : decode cX3_rollsToTop 4 = .ok (.iload_n 1, 1) := by decide +kernel
theorem dX3_rollsToTop_5 : decode cX3_rollsToTop 5 = .ok (.invokevirtual 125, 3) := by decide +kernel
theorem dX3_rollsToTop_8 : decode cX3_rollsToTop 8 = .ok (.ifCond .eq 14, 3) := by decide +kernel
theorem dX3_rollsToTop_11 : decode cX3_rollsToTop 11 = .ok (.aload_n 0, 1) := by decide +kernel
theorem dX3_rollsToTop_12 : decode cX3_rollsToTop 12 = .ok (.getfield 10, 3) := by decide +kernel
theorem dX3_rollsToTop_15 : decode cX3_rollsToTop 15 = .ok (.iload_n 1, 1) := by decide +kernel
theorem dX3_rollsToTop_16 : decode cX3_rollsToTop 16 = .ok (.invokevirtual 128, 3) := by decide +kernel
theorem dX3_rollsToTop_19 : decode cX3_rollsToTop 19 = .ok (.goto 4, 3) := by decide +kernel
theorem dX3_rollsToTop_22 : decode cX3_rollsToTop 22 = .ok (.iconst (-1), 1) := by decide +kernel
theorem dX3_rollsToTop_23 : decode cX3_rollsToTop 23 = .ok (.ireturn, 1) := by decide +kernel
theorem dX3_recordUnlessError_0 : decode cX3_recordUnlessError 0 = .ok (.iload_n 1, 1) := by decide +kernel
theorem dX3_recordUnlessError_1 : decode cX3_recordUnlessError 1 = .ok (.ifCond .lt 14, 3) := by decide +kernel
theorem dX3_recordUnlessError_4 : decode cX3_recordUnlessError 4 = .ok (.aload_n 0, 1) := by decide +kernel
theorem dX3_recordUnlessError_5 : decode cX3_recordUnlessError 5 = .ok (.getfield 28, 3) := by decide +kernel
theorem dX3_recordUnlessError_8 : decode cX3_recordUnlessError 8 = .ok (.aload_n 0, 1) := by decide +kernel
theorem dX3_recordUnlessError_9 : decode cX3_recordUnlessError 9 = .ok (.getfield 16, 3) := by decide +kernel
theorem dX3_recordUnlessError_12 : decode cX3_recordUnlessError 12 = .ok (.invokevirtual 153, 3) := by decide +kernel
theorem dX3_recordUnlessError_15 : decode cX3_recordUnlessError 15 = .ok (.iload_n 1, 1) := by decide +kernel
theorem dX3_recordUnlessError_16 : decode cX3_recordUnlessError 16 = .ok (.ireturn, 1) := by decide +kernel
theorem dX3_rollInTrial_0 : decode cX3_rollInTrial 0 = .ok (.aload_n 0, 1) := by decide +kernel
theorem dX3_rollInTrial_1 : decode cX3_rollInTrial 1 = .ok (.getfield 19, 3) := by decide +kernel
theorem dX3_rollInTrial_4 : decode cX3_rollInTrial 4 = .ok (.aload_n 0, 1) := by decide +kernel
theorem dX3_rollInTrial_5 : decode cX3_rollInTrial 5 = .ok (.getfield 10, 3) := by decide +kernel
theorem dX3_rollInTrial_8 : decode cX3_rollInTrial 8 = .ok (.invokevirtual 43, 3) := by decide +kernel
theorem dX3_rollInTrial_11 : decode cX3_rollInTrial 11 = .ok (.aload_n 0, 1) := by decide +kernel
theorem dX3_rollInTrial_12 : decode cX3_rollInTrial 12 = .ok (.getfield 19, 3) := by decide +kernel
theorem dX3_rollInTrial_15 : decode cX3_rollInTrial 15 = .ok (.iload_n 1, 1) := by decide +kernel
theorem dX3_rollInTrial_16 : decode cX3_rollInTrial 16 = .ok (.invokevirtual 71, 3) := by decide +kernel
theorem dX3_rollInTrial_19 : decode cX3_rollInTrial 19 = .ok (.ireturn, 1) := by decide +kernel
theorem dX3_gainOfRoll_0 : decode cX3_gainOfRoll 0 = .ok (.aload_n 0, 1) := by decide +kernel
theorem dX3_gainOfRoll_1 : decode cX3_gainOfRoll 1 = .ok (.iload_n 1, 1) := by decide +kernel
theorem dX3_gainOfRoll_2 : decode cX3_gainOfRoll 2 = .ok (.invokevirtual 107, 3) := by decide +kernel
theorem dX3_gainOfRoll_5 : decode cX3_gainOfRoll 5 = .ok (.pop, 1) := by decide +kernel
theorem dX3_gainOfRoll_6 : decode cX3_gainOfRoll 6 = .ok (.iconst 0, 1) := by decide +kernel
theorem dX3_gainOfRoll_7 : decode cX3_gainOfRoll 7 = .ok (.istore_n 2, 1) := by decide +kernel
theorem dX3_gainOfRoll_8 : decode cX3_gainOfRoll 8 = .ok (.iconst 0, 1) := by decide +kernel
theorem dX3_gainOfRoll_9 : decode cX3_gainOfRoll 9 = .ok (.istore_n 3, 1) := by decide +kernel
theorem dX3_gainOfRoll_10 : decode cX3_gainOfRoll 10 = .ok (.iload_n 3, 1) := by decide +kernel
theorem dX3_gainOfRoll_11 : decode cX3_gainOfRoll 11 = .ok (.aload_n 0, 1) := by decide +kernel
theorem dX3_gainOfRoll_12 : decode cX3_gainOfRoll 12 = .ok (.getfield 10, 3) := by decide +kernel
theorem dX3_gainOfRoll_15 : decode cX3_gainOfRoll 15 = .ok (.getfield 150, 3) := by decide +kernel
theorem dX3_gainOfRoll_18 : decode cX3_gainOfRoll 18 = .ok (.if_icmp .ge 50, 3) := by decide +kernel
theorem dX3_gainOfRoll_21 : decode cX3_gainOfRoll 21 = .ok (.aload_n 0, 1) := by decide +kernel
theorem dX3_gainOfRoll_22 : decode cX3_gainOfRoll 22 = .ok (.getfield 19, 3) := by decide +kernel
theorem dX3_gainOfRoll_25 : decode cX3_gainOfRoll 25 = .ok (.iload_n 3, 1) := by decide +kernel
theorem dX3_gainOfRoll_26 : decode cX3_gainOfRoll 26 = .ok (.invokevirtual 156, 3) := by decide +kernel
theorem dX3_gainOfRoll_29 : decode cX3_gainOfRoll 29 = .ok (.aload_n 0, 1) := by decide +kernel
theorem dX3_gainOfRoll_30 : decode cX3_gainOfRoll 30 = .ok (.getfield 10, 3) := by decide +kernel
theorem dX3_gainOfRoll_33 : decode cX3_gainOfRoll 33 = .ok (.iload_n 3, 1) := by decide +kernel
theorem dX3_gainOfRoll_34 : decode cX3_gainOfRoll 34 = .ok (.invokevirtual 156, 3) := by decide +kernel
theorem dX3_gainOfRoll_37 : decode cX3_gainOfRoll 37 = .ok (.isub, 1) := by decide +kernel
theorem dX3_gainOfRoll_38 : decode cX3_gainOfRoll 38 = .ok (.istore 4, 2) := by decide +kernel
theorem dX3_gainOfRoll_40 : decode cX3_gainOfRoll 40 = .ok (.iload_n 2, 1) := by decide +kernel
theorem dX3_gainOfRoll_41 : decode cX3_gainOfRoll 41 = .ok (.iload_n 3, 1) := by decide +kernel
theorem dX3_gainOfRoll_42 : decode cX3_gainOfRoll 42 = .ok (.aload_n 0, 1) := by decide +kernel
theorem dX3_gainOfRoll_43 : decode cX3_gainOfRoll 43 = .ok (.getfield 10, 3) := by decide +kernel
theorem dX3_gainOfRoll_46 : decode cX3_gainOfRoll 46 = .ok (.getfield 84, 3) := by decide +kernel
theorem dX3_gainOfRoll_49 : decode cX3_gainOfRoll 49 = .ok (.if_icmp .ne 8, 3) := by decide +kernel
theorem dX3_gainOfRoll_52 : decode cX3_gainOfRoll 52 = .ok (.iload 4, 2) := by decide +kernel
theorem dX3_gainOfRoll_54 : decode cX3_gainOfRoll 54 = .ok (.goto 6, 3) := by decide +kernel
theorem dX3_gainOfRoll_57 : decode cX3_gainOfRoll 57 = .ok (.iload 4, 2) := by decide +kernel
theorem dX3_gainOfRoll_59 : decode cX3_gainOfRoll 59 = .ok (.ineg, 1) := by decide +kernel
theorem dX3_gainOfRoll_60 : decode cX3_gainOfRoll 60 = .ok (.iadd, 1) := by decide +kernel
theorem dX3_gainOfRoll_61 : decode cX3_gainOfRoll 61 = .ok (.istore_n 2, 1) := by decide +kernel
theorem dX3_gainOfRoll_62 : decode cX3_gainOfRoll 62 = .ok (.iinc 3 1, 3) := by decide +kernel
theorem dX3_gainOfRoll_65 : decode cX3_gainOfRoll 65 = .ok (.goto (-55), 3) := by decide +kernel
theorem dX3_gainOfRoll_68 : decode cX3_gainOfRoll 68 = .ok (.iload_n 2, 1) := by decide +kernel
theorem dX3_gainOfRoll_69 : decode cX3_gainOfRoll 69 = .ok (.ireturn, 1) := by decide +kernel
theorem dX3_isRoll_0 : decode cX3_isRoll 0 = .ok (.iload_n 0, 1) := by decide +kernel
theorem dX3_isRoll_1 : decode cX3_isRoll 1 = .ok (.iconst 1, 1) := by decide +kernel
theorem dX3_isRoll_2 : decode cX3_isRoll 2 = .ok (.if_icmp .lt 13, 3) := by decide +kernel
theorem dX3_isRoll_5 : decode cX3_isRoll 5 = .ok (.iload_n 0, 1) := by decide +kernel
theorem dX3_isRoll_6 : decode cX3_isRoll 6 = .ok (.bipush 6, 2) := by decide +kernel
theorem dX3_isRoll_8 : decode cX3_isRoll 8 = .ok (.if_icmp .gt 7, 3) := by decide +kernel
theorem dX3_isRoll_11 : decode cX3_isRoll 11 = .ok (.iconst 1, 1) := by decide +kernel
theorem dX3_isRoll_12 : decode cX3_isRoll 12 = .ok (.goto 4, 3) := by decide +kernel
theorem dX3_isRoll_15 : decode cX3_isRoll 15 = .ok (.iconst 0, 1) := by decide +kernel
theorem dX3_isRoll_16 : decode cX3_isRoll 16 = .ok (.ireturn, 1) := by decide +kernel
theorem dJ6_bitCount_0f7a4_0 : decode cJ6_bitCount_0f7a4 0 = .ok (.iload_n 0, 1) := by decide +kernel
theorem dJ6_bitCount_0f7a4_1 : decode cJ6_bitCount_0f7a4 1 = .ok (.iload_n 0, 1) := by decide +kernel
theorem dJ6_bitCount_0f7a4_2 : decode cJ6_bitCount_0f7a4 2 = .ok (.iconst 1, 1) := by decide +kernel
theorem dJ6_bitCount_0f7a4_3 : decode cJ6_bitCount_0f7a4 3 = .ok (.iushr, 1) := by decide +kernel
theorem dJ6_bitCount_0f7a4_4 : decode cJ6_bitCount_0f7a4 4 = .ok (.ldc_w 265, 3) := by decide +kernel
theorem dJ6_bitCount_0f7a4_7 : decode cJ6_bitCount_0f7a4 7 = .ok (.iand, 1) := by decide +kernel
theorem dJ6_bitCount_0f7a4_8 : decode cJ6_bitCount_0f7a4 8 = .ok (.isub, 1) := by decide +kernel
theorem dJ6_bitCount_0f7a4_9 : decode cJ6_bitCount_0f7a4 9 = .ok (.istore_n 0, 1) := by decide +kernel
theorem dJ6_bitCount_0f7a4_10 : decode cJ6_bitCount_0f7a4 10 = .ok (.iload_n 0, 1) := by decide +kernel
theorem dJ6_bitCount_0f7a4_11 : decode cJ6_bitCount_0f7a4 11 = .ok (.ldc_w 266, 3) := by decide +kernel
theorem dJ6_bitCount_0f7a4_14 : decode cJ6_bitCount_0f7a4 14 = .ok (.iand, 1) := by decide +kernel
theorem dJ6_bitCount_0f7a4_15 : decode cJ6_bitCount_0f7a4 15 = .ok (.iload_n 0, 1) := by decide +kernel
theorem dJ6_bitCount_0f7a4_16 : decode cJ6_bitCount_0f7a4 16 = .ok (.iconst 2, 1) := by decide +kernel
theorem dJ6_bitCount_0f7a4_17 : decode cJ6_bitCount_0f7a4 17 = .ok (.iushr, 1) := by decide +kernel
theorem dJ6_bitCount_0f7a4_18 : decode cJ6_bitCount_0f7a4 18 = .ok (.ldc_w 266, 3) := by decide +kernel
theorem dJ6_bitCount_0f7a4_21 : decode cJ6_bitCount_0f7a4 21 = .ok (.iand, 1) := by decide +kernel
theorem dJ6_bitCount_0f7a4_22 : decode cJ6_bitCount_0f7a4 22 = .ok (.iadd, 1) := by decide +kernel
theorem dJ6_bitCount_0f7a4_23 : decode cJ6_bitCount_0f7a4 23 = .ok (.istore_n 0, 1) := by decide +kernel
theorem dJ6_bitCount_0f7a4_24 : decode cJ6_bitCount_0f7a4 24 = .ok (.iload_n 0, 1) := by decide +kernel
theorem dJ6_bitCount_0f7a4_25 : decode cJ6_bitCount_0f7a4 25 = .ok (.iload_n 0, 1) := by decide +kernel
theorem dJ6_bitCount_0f7a4_26 : decode cJ6_bitCount_0f7a4 26 = .ok (.iconst 4, 1) := by decide +kernel
theorem dJ6_bitCount_0f7a4_27 : decode cJ6_bitCount_0f7a4 27 = .ok (.iushr, 1) := by decide +kernel
theorem dJ6_bitCount_0f7a4_28 : decode cJ6_bitCount_0f7a4 28 = .ok (.iadd, 1) := by decide +kernel
theorem dJ6_bitCount_0f7a4_29 : decode cJ6_bitCount_0f7a4 29 = .ok (.ldc_w 267, 3) := by decide +kernel
theorem dJ6_bitCount_0f7a4_32 : decode cJ6_bitCount_0f7a4 32 = .ok (.iand, 1) := by decide +kernel
theorem dJ6_bitCount_0f7a4_33 : decode cJ6_bitCount_0f7a4 33 = .ok (.istore_n 0, 1) := by decide +kernel
theorem dJ6_bitCount_0f7a4_34 : decode cJ6_bitCount_0f7a4 34 = .ok (.iload_n 0, 1) := by decide +kernel
theorem dJ6_bitCount_0f7a4_35 : decode cJ6_bitCount_0f7a4 35 = .ok (.iload_n 0, 1) := by decide +kernel
theorem dJ6_bitCount_0f7a4_36 : decode cJ6_bitCount_0f7a4 36 = .ok (.bipush 8, 2) := by decide +kernel
theorem dJ6_bitCount_0f7a4_38 : decode cJ6_bitCount_0f7a4 38 = .ok (.iushr, 1) := by decide +kernel
theorem dJ6_bitCount_0f7a4_39 : decode cJ6_bitCount_0f7a4 39 = .ok (.iadd, 1) := by decide +kernel
theorem dJ6_bitCount_0f7a4_40 : decode cJ6_bitCount_0f7a4 40 = .ok (.istore_n 0, 1) := by decide +kernel
theorem dJ6_bitCount_0f7a4_41 : decode cJ6_bitCount_0f7a4 41 = .ok (.iload_n 0, 1) := by decide +kernel
theorem dJ6_bitCount_0f7a4_42 : decode cJ6_bitCount_0f7a4 42 = .ok (.iload_n 0, 1) := by decide +kernel
theorem dJ6_bitCount_0f7a4_43 : decode cJ6_bitCount_0f7a4 43 = .ok (.bipush 16, 2) := by decide +kernel
theorem dJ6_bitCount_0f7a4_45 : decode cJ6_bitCount_0f7a4 45 = .ok (.iushr, 1) := by decide +kernel
theorem dJ6_bitCount_0f7a4_46 : decode cJ6_bitCount_0f7a4 46 = .ok (.iadd, 1) := by decide +kernel
theorem dJ6_bitCount_0f7a4_47 : decode cJ6_bitCount_0f7a4 47 = .ok (.istore_n 0, 1) := by decide +kernel
theorem dJ6_bitCount_0f7a4_48 : decode cJ6_bitCount_0f7a4 48 = .ok (.iload_n 0, 1) := by decide +kernel
theorem dJ6_bitCount_0f7a4_49 : decode cJ6_bitCount_0f7a4 49 = .ok (.bipush 63, 2) := by decide +kernel
theorem dJ6_bitCount_0f7a4_51 : decode cJ6_bitCount_0f7a4 51 = .ok (.iand, 1) := by decide +kernel
theorem dJ6_bitCount_0f7a4_52 : decode cJ6_bitCount_0f7a4 52 = .ok (.ireturn, 1) := by decide +kernel
theorem dL_cell_0 : decode cL_cell 0 = .ok (.iload_n 1, 1) := by decide +kernel
theorem dL_cell_1 : decode cL_cell 1 = .ok (.aload_n 0, 1) := by decide +kernel
theorem dL_cell_2 : decode cL_cell 2 = .ok (.arraylength, 1) := by decide +kernel
theorem dL_cell_3 : decode cL_cell 3 = .ok (.if_icmp .ge 9, 3) := by decide +kernel
theorem dL_cell_6 : decode cL_cell 6 = .ok (.aload_n 0, 1) := by decide +kernel
theorem dL_cell_7 : decode cL_cell 7 = .ok (.iload_n 1, 1) := by decide +kernel
theorem dL_cell_8 : decode cL_cell 8 = .ok (.iaload, 1) := by decide +kernel
theorem dL_cell_9 : decode cL_cell 9 = .ok (.goto 10, 3) := by decide +kernel
theorem dL_cell_12 : decode cL_cell 12 = .ok (.ldc 7, 2) := by decide +kernel
theorem dL_cell_14 : decode cL_cell 14 = .ok (.iload_n 1, 1) := by decide +kernel
theorem dL_cell_15 : decode cL_cell 15 = .ok (.imul, 1) := by decide +kernel
theorem dL_cell_16 : decode cL_cell 16 = .ok (.ldc 8, 2) := by decide +kernel
theorem dL_cell_18 : decode cL_cell 18 = .ok (.iadd, 1) := by decide +kernel
theorem dL_cell_19 : decode cL_cell 19 = .ok (.ireturn, 1) := by decide +kernel
theorem dL_low_0 : decode cL_low 0 = .ok (.iload_n 0, 1) := by decide +kernel
theorem dL_low_1 : decode cL_low 1 = .ok (.ldc 9, 2) := by decide +kernel
theorem dL_low_3 : decode cL_low 3 = .ok (.iand, 1) := by decide +kernel
theorem dL_low_4 : decode cL_low 4 = .ok (.iload_n 1, 1) := by decide +kernel
theorem dL_low_5 : decode cL_low 5 = .ok (.irem, 1) := by decide +kernel
theorem dL_low_6 : decode cL_low 6 = .ok (.ireturn, 1) := by decide +kernel
theorem dL_come_0 : decode cL_come 0 = .ok (.iload 4, 2) := by decide +kernel
theorem dL_come_2 : decode cL_come 2 = .ok (.aload_n 2, 1) := by decide +kernel
theorem dL_come_3 : decode cL_come 3 = .ok (.iconst 0, 1) := by decide +kernel
theorem dL_come_4 : decode cL_come 4 = .ok (.iaload, 1) := by decide +kernel
theorem dL_come_5 : decode cL_come 5 = .ok (.if_icmp .lt 25, 3) := by decide +kernel
theorem dL_come_8 : decode cL_come 8 = .ok (.aload_n 1, 1) := by decide +kernel
theorem dL_come_9 : decode cL_come 9 = .ok (.bipush 6, 2) := by decide +kernel
theorem dL_come_11 : decode cL_come 11 = .ok (.iload_n 3, 1) := by decide +kernel
theorem dL_come_12 : decode cL_come 12 = .ok (.imul, 1) := by decide +kernel
theorem dL_come_13 : decode cL_come 13 = .ok (.iconst 1, 1) := by decide +kernel
theorem dL_come_14 : decode cL_come 14 = .ok (.iadd, 1) := by decide +kernel
theorem dL_come_15 : decode cL_come 15 = .ok (.dup2, 1) := by decide +kernel
theorem dL_come_16 : decode cL_come 16 = .ok (.iaload, 1) := by decide +kernel
theorem dL_come_17 : decode cL_come 17 = .ok (.iconst 1, 1) := by decide +kernel
theorem dL_come_18 : decode cL_come 18 = .ok (.iadd, 1) := by decide +kernel
theorem dL_come_19 : decode cL_come 19 = .ok (.iastore, 1) := by decide +kernel
theorem dL_come_20 : decode cL_come 20 = .ok (.aload_n 1, 1) := by decide +kernel
theorem dL_come_21 : decode cL_come 21 = .ok (.bipush 6, 2) := by decide +kernel
theorem dL_come_23 : decode cL_come 23 = .ok (.iload_n 3, 1) := by decide +kernel
theorem dL_come_24 : decode cL_come 24 = .ok (.imul, 1) := by decide +kernel
theorem dL_come_25 : decode cL_come 25 = .ok (.iconst 0, 1) := by decide +kernel
theorem dL_come_26 : decode cL_come 26 = .ok (.iastore, 1) := by decide +kernel
theorem dL_come_27 : decode cL_come 27 = .ok (.goto 50, 3) := by decide +kernel
theorem dL_come_30 : decode cL_come 30 = .ok (.aload_n 0, 1) := by decide +kernel
theorem dL_come_31 : decode cL_come 31 = .ok (.iload 4, 2) := by decide +kernel
theorem dL_come_33 : decode cL_come 33 = .ok (.iaload, 1) := by decide +kernel
theorem dL_come_34 : decode cL_come 34 = .ok (.ifCond .lt 35, 3) := by decide +kernel
theorem dL_come_37 : decode cL_come 37 = .ok (.aload_n 1, 1) := by decide +kernel
theorem dL_come_38 : decode cL_come 38 = .ok (.bipush 6, 2) := by decide +kernel
theorem dL_come_40 : decode cL_come 40 = .ok (.iload_n 3, 1) := by decide +kernel
theorem dL_come_41 : decode cL_come 41 = .ok (.imul, 1) := by decide +kernel
theorem dL_come_42 : decode cL_come 42 = .ok (.iconst 5, 1) := by decide +kernel
theorem dL_come_43 : decode cL_come 43 = .ok (.iadd, 1) := by decide +kernel
theorem dL_come_44 : decode cL_come 44 = .ok (.dup2, 1) := by decide +kernel
theorem dL_come_45 : decode cL_come 45 = .ok (.iaload, 1) := by decide +kernel
theorem dL_come_46 : decode cL_come 46 = .ok (.iconst 1, 1) := by decide +kernel
theorem dL_come_47 : decode cL_come 47 = .ok (.iadd, 1) := by decide +kernel
theorem dL_come_48 : decode cL_come 48 = .ok (.iastore, 1) := by decide +kernel
theorem dL_come_49 : decode cL_come 49 = .ok (.aload_n 2, 1) := by decide +kernel
theorem dL_come_50 : decode cL_come 50 = .ok (.iconst 5, 1) := by decide +kernel
theorem dL_come_51 : decode cL_come 51 = .ok (.dup2, 1) := by decide +kernel
theorem dL_come_52 : decode cL_come 52 = .ok (.iaload, 1) := by decide +kernel
theorem dL_come_53 : decode cL_come 53 = .ok (.iconst 1, 1) := by decide +kernel
theorem dL_come_54 : decode cL_come 54 = .ok (.iadd, 1) := by decide +kernel
theorem dL_come_55 : decode cL_come 55 = .ok (.iastore, 1) := by decide +kernel
theorem dL_come_56 : decode cL_come 56 = .ok (.aload_n 1, 1) := by decide +kernel
theorem dL_come_57 : decode cL_come 57 = .ok (.bipush 6, 2) := by decide +kernel
theorem dL_come_59 : decode cL_come 59 = .ok (.iload_n 3, 1) := by decide +kernel
theorem dL_come_60 : decode cL_come 60 = .ok (.imul, 1) := by decide +kernel
theorem dL_come_61 : decode cL_come 61 = .ok (.aload_n 0, 1) := by decide +kernel
theorem dL_come_62 : decode cL_come 62 = .ok (.iload 4, 2) := by decide +kernel
theorem dL_come_64 : decode cL_come 64 = .ok (.iaload, 1) := by decide +kernel
theorem dL_come_65 : decode cL_come 65 = .ok (.iastore, 1) := by decide +kernel
theorem dL_come_66 : decode cL_come 66 = .ok (.goto 11, 3) := by decide +kernel
theorem dL_come_69 : decode cL_come 69 = .ok (.aload_n 1, 1) := by decide +kernel
theorem dL_come_70 : decode cL_come 70 = .ok (.bipush 6, 2) := by decide +kernel
theorem dL_come_72 : decode cL_come 72 = .ok (.iload_n 3, 1) := by decide +kernel
theorem dL_come_73 : decode cL_come 73 = .ok (.imul, 1) := by decide +kernel
theorem dL_come_74 : decode cL_come 74 = .ok (.iload 4, 2) := by decide +kernel
theorem dL_come_76 : decode cL_come 76 = .ok (.iastore, 1) := by decide +kernel
theorem dL_come_77 : decode cL_come 77 = .ok (.return_, 1) := by decide +kernel
theorem dL_next_0 : decode cL_next 0 = .ok (.iconst 0, 1) := by decide +kernel
theorem dL_next_1 : decode cL_next 1 = .ok (.istore_n 2, 1) := by decide +kernel
theorem dL_next_2 : decode cL_next 2 = .ok (.iload_n 2, 1) := by decide +kernel
theorem dL_next_3 : decode cL_next 3 = .ok (.ifCond .ne 86, 3) := by decide +kernel
theorem dL_next_6 : decode cL_next 6 = .ok (.aload_n 1, 1) := by decide +kernel
theorem dL_next_7 : decode cL_next 7 = .ok (.iconst 2, 1) := by decide +kernel
theorem dL_next_8 : decode cL_next 8 = .ok (.aload_n 1, 1) := by decide +kernel
theorem dL_next_9 : decode cL_next 9 = .ok (.iconst 2, 1) := by decide +kernel
theorem dL_next_10 : decode cL_next 10 = .ok (.iaload, 1) := by decide +kernel
theorem dL_next_11 : decode cL_next 11 = .ok (.iconst 1, 1) := by decide +kernel
theorem dL_next_12 : decode cL_next 12 = .ok (.iadd, 1) := by decide +kernel
theorem dL_next_13 : decode cL_next 13 = .ok (.aload_n 1, 1) := by decide +kernel
theorem dL_next_14 : decode cL_next 14 = .ok (.iconst 1, 1) := by decide +kernel
theorem dL_next_15 : decode cL_next 15 = .ok (.iaload, 1) := by decide +kernel
theorem dL_next_16 : decode cL_next 16 = .ok (.if_icmp .ne 7, 3) := by decide +kernel
theorem dL_next_19 : decode cL_next 19 = .ok (.iconst 0, 1) := by decide +kernel
theorem dL_next_20 : decode cL_next 20 = .ok (.goto 8, 3) := by decide +kernel
theorem dL_next_23 : decode cL_next 23 = .ok (.aload_n 1, 1) := by decide +kernel
theorem dL_next_24 : decode cL_next 24 = .ok (.iconst 2, 1) := by decide +kernel
theorem dL_next_25 : decode cL_next 25 = .ok (.iaload, 1) := by decide +kernel
theorem dL_next_26 : decode cL_next 26 = .ok (.iconst 1, 1) := by decide +kernel
theorem dL_next_27 : decode cL_next 27 = .ok (.iadd, 1) := by decide +kernel
theorem dL_next_28 : decode cL_next 28 = .ok (.iastore, 1) := by decide +kernel
theorem dL_next_29 : decode cL_next 29 = .ok (.aload_n 0, 1) := by decide +kernel
theorem dL_next_30 : decode cL_next 30 = .ok (.bipush 6, 2) := by decide +kernel
theorem dL_next_32 : decode cL_next 32 = .ok (.aload_n 1, 1) := by decide +kernel
theorem dL_next_33 : decode cL_next 33 = .ok (.iconst 2, 1) := by decide +kernel
theorem dL_next_34 : decode cL_next 34 = .ok (.iaload, 1) := by decide +kernel
theorem dL_next_35 : decode cL_next 35 = .ok (.imul, 1) := by decide +kernel
theorem dL_next_36 : decode cL_next 36 = .ok (.iconst 2, 1) := by decide +kernel
theorem dL_next_37 : decode cL_next 37 = .ok (.iadd, 1) := by decide +kernel
theorem dL_next_38 : decode cL_next 38 = .ok (.iaload, 1) := by decide +kernel
theorem dL_next_39 : decode cL_next 39 = .ok (.ifCond .ne 7, 3) := by decide +kernel
theorem dL_next_42 : decode cL_next 42 = .ok (.iconst 1, 1) := by decide +kernel
theorem dL_next_43 : decode cL_next 43 = .ok (.goto 4, 3) := by decide +kernel
theorem dL_next_46 : decode cL_next 46 = .ok (.iconst 0, 1) := by decide +kernel
theorem dL_next_47 : decode cL_next 47 = .ok (.istore_n 2, 1) := by decide +kernel
theorem dL_next_48 : decode cL_next 48 = .ok (.aload_n 0, 1) := by decide +kernel
theorem dL_next_49 : decode cL_next 49 = .ok (.bipush 6, 2) := by decide +kernel
theorem dL_next_51 : decode cL_next 51 = .ok (.aload_n 1, 1) := by decide +kernel
theorem dL_next_52 : decode cL_next 52 = .ok (.iconst 2, 1) := by decide +kernel
theorem dL_next_53 : decode cL_next 53 = .ok (.iaload, 1) := by decide +kernel
theorem dL_next_54 : decode cL_next 54 = .ok (.imul, 1) := by decide +kernel
theorem dL_next_55 : decode cL_next 55 = .ok (.iconst 2, 1) := by decide +kernel
theorem dL_next_56 : decode cL_next 56 = .ok (.iadd, 1) := by decide +kernel
theorem dL_next_57 : decode cL_next 57 = .ok (.dup2, 1) := by decide +kernel
theorem dL_next_58 : decode cL_next 58 = .ok (.iaload, 1) := by decide +kernel
theorem dL_next_59 : decode cL_next 59 = .ok (.iload_n 2, 1) := by decide +kernel
theorem dL_next_60 : decode cL_next 60 = .ok (.ifCond .eq 7, 3) := by decide +kernel
theorem dL_next_63 : decode cL_next 63 = .ok (.iconst 0, 1) := by decide +kernel
theorem dL_next_64 : decode cL_next 64 = .ok (.goto 4, 3) := by decide +kernel
theorem dL_next_67 : decode cL_next 67 = .ok (.iconst 1, 1) := by decide +kernel
theorem dL_next_68 : decode cL_next 68 = .ok (.isub, 1) := by decide +kernel
theorem dL_next_69 : decode cL_next 69 = .ok (.iastore, 1) := by decide +kernel
theorem dL_next_70 : decode cL_next 70 = .ok (.aload_n 1, 1) := by decide +kernel
theorem dL_next_71 : decode cL_next 71 = .ok (.bipush 6, 2) := by decide +kernel
theorem dL_next_73 : decode cL_next 73 = .ok (.dup2, 1) := by decide +kernel
theorem dL_next_74 : decode cL_next 74 = .ok (.iaload, 1) := by decide +kernel
theorem dL_next_75 : decode cL_next 75 = .ok (.iload_n 2, 1) := by decide +kernel
theorem dL_next_76 : decode cL_next 76 = .ok (.ifCond .eq 7, 3) := by decide +kernel
theorem dL_next_79 : decode cL_next 79 = .ok (.iconst 0, 1) := by decide +kernel
theorem dL_next_80 : decode cL_next 80 = .ok (.goto 4, 3) := by decide +kernel
theorem dL_next_83 : decode cL_next 83 = .ok (.iconst 1, 1) := by decide +kernel
theorem dL_next_84 : decode cL_next 84 = .ok (.iadd, 1) := by decide +kernel
theorem dL_next_85 : decode cL_next 85 = .ok (.iastore, 1) := by decide +kernel
theorem dL_next_86 : decode cL_next 86 = .ok (.goto (-84), 3) := by decide +kernel
theorem dL_next_89 : decode cL_next 89 = .ok (.return_, 1) := by decide +kernel
theorem dL_roll_0 : decode cL_roll 0 = .ok (.aload_n 3, 1) := by decide +kernel
theorem dL_roll_1 : decode cL_roll 1 = .ok (.iconst 2, 1) := by decide +kernel
theorem dL_roll_2 : decode cL_roll 2 = .ok (.iaload, 1) := by decide +kernel
theorem dL_roll_3 : decode cL_roll 3 = .ok (.istore 5, 2) := by decide +kernel
theorem dL_roll_5 : decode cL_roll 5 = .ok (.aload_n 2, 1) := by decide +kernel
theorem dL_roll_6 : decode cL_roll 6 = .ok (.bipush 6, 2) := by decide +kernel
theorem dL_roll_8 : decode cL_roll 8 = .ok (.iload 5, 2) := by decide +kernel
theorem dL_roll_10 : decode cL_roll 10 = .ok (.imul, 1) := by decide +kernel
theorem dL_roll_11 : decode cL_roll 11 = .ok (.iaload, 1) := by decide +kernel
theorem dL_roll_12 : decode cL_roll 12 = .ok (.istore 6, 2) := by decide +kernel
theorem dL_roll_14 : decode cL_roll 14 = .ok (.iconst 0, 1) := by decide +kernel
theorem dL_roll_15 : decode cL_roll 15 = .ok (.istore 7, 2) := by decide +kernel
theorem dL_roll_17 : decode cL_roll 17 = .ok (.bipush 6, 2) := by decide +kernel
theorem dL_roll_19 : decode cL_roll 19 = .ok (.newarray .int, 2) := by decide +kernel
theorem dL_roll_21 : decode cL_roll 21 = .ok (.astore 8, 2) := by decide +kernel
theorem dL_roll_23 : decode cL_roll 23 = .ok (.iconst 0, 1) := by decide +kernel
theorem dL_roll_24 : decode cL_roll 24 = .ok (.istore 9, 2) := by decide +kernel
theorem dL_roll_26 : decode cL_roll 26 = .ok (.iload 9, 2) := by decide +kernel
theorem dL_roll_28 : decode cL_roll 28 = .ok (.aload_n 3, 1) := by decide +kernel
theorem dL_roll_29 : decode cL_roll 29 = .ok (.iconst 1, 1) := by decide +kernel
theorem dL_roll_30 : decode cL_roll 30 = .ok (.iaload, 1) := by decide +kernel
theorem dL_roll_31 : decode cL_roll 31 = .ok (.if_icmp .ge 21, 3) := by decide +kernel
theorem dL_roll_34 : decode cL_roll 34 = .ok (.aload 8, 2) := by decide +kernel
theorem dL_roll_36 : decode cL_roll 36 = .ok (.iload 9, 2) := by decide +kernel
theorem dL_roll_38 : decode cL_roll 38 = .ok (.aload_n 2, 1) := by decide +kernel
theorem dL_roll_39 : decode cL_roll 39 = .ok (.bipush 6, 2) := by decide +kernel
theorem dL_roll_41 : decode cL_roll 41 = .ok (.iload 9, 2) := by decide +kernel
theorem dL_roll_43 : decode cL_roll 43 = .ok (.imul, 1) := by decide +kernel
theorem dL_roll_44 : decode cL_roll 44 = .ok (.iaload, 1) := by decide +kernel
theorem dL_roll_45 : decode cL_roll 45 = .ok (.iastore, 1) := by decide +kernel
theorem dL_roll_46 : decode cL_roll 46 = .ok (.iinc 9 1, 3) := by decide +kernel
theorem dL_roll_49 : decode cL_roll 49 = .ok (.goto (-23), 3) := by decide +kernel
theorem dL_roll_52 : decode cL_roll 52 = .ok (.iload 6, 2) := by decide +kernel
theorem dL_roll_54 : decode cL_roll 54 = .ok (.iload 4, 2) := by decide +kernel
theorem dL_roll_56 : decode cL_roll 56 = .ok (.iadd, 1) := by decide +kernel
theorem dL_roll_57 : decode cL_roll 57 = .ok (.iconst 1, 1) := by decide +kernel
theorem dL_roll_58 : decode cL_roll 58 = .ok (.isub, 1) := by decide +kernel
theorem dL_roll_59 : decode cL_roll 59 = .ok (.istore 9, 2) := by decide +kernel
theorem dL_roll_61 : decode cL_roll 61 = .ok (.iload 9, 2) := by decide +kernel
theorem dL_roll_63 : decode cL_roll 63 = .ok (.iload 6, 2) := by decide +kernel
theorem dL_roll_65 : decode cL_roll 65 = .ok (.if_icmp .le 78, 3) := by decide +kernel
theorem dL_roll_68 : decode cL_roll 68 = .ok (.iconst 0, 1) := by decide +kernel
theorem dL_roll_69 : decode cL_roll 69 = .ok (.istore 10, 2) := by decide +kernel
theorem dL_roll_71 : decode cL_roll 71 = .ok (.iload 10, 2) := by decide +kernel
theorem dL_roll_73 : decode cL_roll 73 = .ok (.aload_n 3, 1) := by decide +kernel
theorem dL_roll_74 : decode cL_roll 74 = .ok (.iconst 1, 1) := by decide +kernel
theorem dL_roll_75 : decode cL_roll 75 = .ok (.iaload, 1) := by decide +kernel
theorem dL_roll_76 : decode cL_roll 76 = .ok (.if_icmp .ge 61, 3) := by decide +kernel
theorem dL_roll_79 : decode cL_roll 79 = .ok (.iload 10, 2) := by decide +kernel
theorem dL_roll_81 : decode cL_roll 81 = .ok (.iload 5, 2) := by decide +kernel
theorem dL_roll_83 : decode cL_roll 83 = .ok (.if_icmp .eq 48, 3) := by decide +kernel
theorem dL_roll_86 : decode cL_roll 86 = .ok (.aload 8, 2) := by decide +kernel
theorem dL_roll_88 : decode cL_roll 88 = .ok (.iload 10, 2) := by decide +kernel
theorem dL_roll_90 : decode cL_roll 90 = .ok (.iaload, 1) := by decide +kernel
theorem dL_roll_91 : decode cL_roll 91 = .ok (.iload 9, 2) := by decide +kernel
theorem dL_roll_93 : decode cL_roll 93 = .ok (.if_icmp .ne 38, 3) := by decide +kernel
theorem dL_roll_96 : decode cL_roll 96 = .ok (.aload_n 1, 1) := by decide +kernel
theorem dL_roll_97 : decode cL_roll 97 = .ok (.iload 9, 2) := by decide +kernel
theorem dL_roll_99 : decode cL_roll 99 = .ok (.iaload, 1) := by decide +kernel
theorem dL_roll_100 : decode cL_roll 100 = .ok (.ifCond .ne 31, 3) := by decide +kernel
theorem dL_roll_103 : decode cL_roll 103 = .ok (.aload_n 2, 1) := by decide +kernel
theorem dL_roll_104 : decode cL_roll 104 = .ok (.bipush 6, 2) := by decide +kernel
theorem dL_roll_106 : decode cL_roll 106 = .ok (.iload 10, 2) := by decide +kernel
theorem dL_roll_108 : decode cL_roll 108 = .ok (.imul, 1) := by decide +kernel
theorem dL_roll_109 : decode cL_roll 109 = .ok (.iconst 3, 1) := by decide +kernel
theorem dL_roll_110 : decode cL_roll 110 = .ok (.iadd, 1) := by decide +kernel
theorem dL_roll_111 : decode cL_roll 111 = .ok (.dup2, 1) := by decide +kernel
theorem dL_roll_112 : decode cL_roll 112 = .ok (.iaload, 1) := by decide +kernel
theorem dL_roll_113 : decode cL_roll 113 = .ok (.iconst 1, 1) := by decide +kernel
theorem dL_roll_114 : decode cL_roll 114 = .ok (.iadd, 1) := by decide +kernel
theorem dL_roll_115 : decode cL_roll 115 = .ok (.iastore, 1) := by decide +kernel
theorem dL_roll_116 : decode cL_roll 116 = .ok (.iinc 7 1, 3) := by decide +kernel
theorem dL_roll_119 : decode cL_roll 119 = .ok (.aload_n 0, 1) := by decide +kernel
theorem dL_roll_120 : decode cL_roll 120 = .ok (.aload_n 2, 1) := by decide +kernel
theorem dL_roll_121 : decode cL_roll 121 = .ok (.aload_n 3, 1) := by decide +kernel
theorem dL_roll_122 : decode cL_roll 122 = .ok (.iload 10, 2) := by decide +kernel
theorem dL_roll_124 : decode cL_roll 124 = .ok (.iload 9, 2) := by decide +kernel
theorem dL_roll_126 : decode cL_roll 126 = .ok (.iconst 1, 1) := by decide +kernel
theorem dL_roll_127 : decode cL_roll 127 = .ok (.iadd, 1) := by decide +kernel
theorem dL_roll_128 : decode cL_roll 128 = .ok (.invokestatic 10, 3) := by decide +kernel
theorem dL_roll_131 : decode cL_roll 131 = .ok (.iinc 10 1, 3) := by decide +kernel
theorem dL_roll_134 : decode cL_roll 134 = .ok (.goto (-63), 3) := by decide +kernel
theorem dL_roll_137 : decode cL_roll 137 = .ok (.iinc 9 (-1), 3) := by decide +kernel
theorem dL_roll_140 : decode cL_roll 140 = .ok (.goto (-79), 3) := by decide +kernel
theorem dL_roll_143 : decode cL_roll 143 = .ok (.aload_n 2, 1) := by decide +kernel
theorem dL_roll_144 : decode cL_roll 144 = .ok (.bipush 6, 2) := by decide +kernel
theorem dL_roll_146 : decode cL_roll 146 = .ok (.iload 5, 2) := by decide +kernel
theorem dL_roll_148 : decode cL_roll 148 = .ok (.imul, 1) := by decide +kernel
theorem dL_roll_149 : decode cL_roll 149 = .ok (.iconst 4, 1) := by decide +kernel
theorem dL_roll_150 : decode cL_roll 150 = .ok (.iadd, 1) := by decide +kernel
theorem dL_roll_151 : decode cL_roll 151 = .ok (.dup2, 1) := by decide +kernel
theorem dL_roll_152 : decode cL_roll 152 = .ok (.iaload, 1) := by decide +kernel
theorem dL_roll_153 : decode cL_roll 153 = .ok (.iload 7, 2) := by decide +kernel
theorem dL_roll_155 : decode cL_roll 155 = .ok (.iadd, 1) := by decide +kernel
theorem dL_roll_156 : decode cL_roll 156 = .ok (.iastore, 1) := by decide +kernel
theorem dL_roll_157 : decode cL_roll 157 = .ok (.aload_n 3, 1) := by decide +kernel
theorem dL_roll_158 : decode cL_roll 158 = .ok (.iconst 3, 1) := by decide +kernel
theorem dL_roll_159 : decode cL_roll 159 = .ok (.dup2, 1) := by decide +kernel
theorem dL_roll_160 : decode cL_roll 160 = .ok (.iaload, 1) := by decide +kernel
theorem dL_roll_161 : decode cL_roll 161 = .ok (.iconst 1, 1) := by decide +kernel
theorem dL_roll_162 : decode cL_roll 162 = .ok (.iadd, 1) := by decide +kernel
theorem dL_roll_163 : decode cL_roll 163 = .ok (.iastore, 1) := by decide +kernel
theorem dL_roll_164 : decode cL_roll 164 = .ok (.aload_n 3, 1) := by decide +kernel
theorem dL_roll_165 : decode cL_roll 165 = .ok (.iconst 4, 1) := by decide +kernel
theorem dL_roll_166 : decode cL_roll 166 = .ok (.dup2, 1) := by decide +kernel
theorem dL_roll_167 : decode cL_roll 167 = .ok (.iaload, 1) := by decide +kernel
theorem dL_roll_168 : decode cL_roll 168 = .ok (.iload 7, 2) := by decide +kernel
theorem dL_roll_170 : decode cL_roll 170 = .ok (.iadd, 1) := by decide +kernel
theorem dL_roll_171 : decode cL_roll 171 = .ok (.iastore, 1) := by decide +kernel
theorem dL_roll_172 : decode cL_roll 172 = .ok (.aload_n 0, 1) := by decide +kernel
theorem dL_roll_173 : decode cL_roll 173 = .ok (.aload_n 2, 1) := by decide +kernel
theorem dL_roll_174 : decode cL_roll 174 = .ok (.aload_n 3, 1) := by decide +kernel
theorem dL_roll_175 : decode cL_roll 175 = .ok (.iload 5, 2) := by decide +kernel
theorem dL_roll_177 : decode cL_roll 177 = .ok (.iload 6, 2) := by decide +kernel
theorem dL_roll_179 : decode cL_roll 179 = .ok (.iload 4, 2) := by decide +kernel
theorem dL_roll_181 : decode cL_roll 181 = .ok (.iadd, 1) := by decide +kernel
theorem dL_roll_182 : decode cL_roll 182 = .ok (.invokestatic 10, 3) := by decide +kernel
theorem dL_roll_185 : decode cL_roll 185 = .ok (.iload 6, 2) := by decide +kernel
theorem dL_roll_187 : decode cL_roll 187 = .ok (.iload 4, 2) := by decide +kernel
theorem dL_roll_189 : decode cL_roll 189 = .ok (.iadd, 1) := by decide +kernel
theorem dL_roll_190 : decode cL_roll 190 = .ok (.aload_n 3, 1) := by decide +kernel
theorem dL_roll_191 : decode cL_roll 191 = .ok (.iconst 0, 1) := by decide +kernel
theorem dL_roll_192 : decode cL_roll 192 = .ok (.iaload, 1) := by decide +kernel
theorem dL_roll_193 : decode cL_roll 193 = .ok (.if_icmp .ge 27, 3) := by decide +kernel
theorem dL_roll_196 : decode cL_roll 196 = .ok (.aload_n 1, 1) := by decide +kernel
theorem dL_roll_197 : decode cL_roll 197 = .ok (.iload 6, 2) := by decide +kernel
theorem dL_roll_199 : decode cL_roll 199 = .ok (.iload 4, 2) := by decide +kernel
theorem dL_roll_201 : decode cL_roll 201 = .ok (.iadd, 1) := by decide +kernel
theorem dL_roll_202 : decode cL_roll 202 = .ok (.iaload, 1) := by decide +kernel
theorem dL_roll_203 : decode cL_roll 203 = .ok (.iconst 1, 1) := by decide +kernel
theorem dL_roll_204 : decode cL_roll 204 = .ok (.if_icmp .ne 16, 3) := by decide +kernel
theorem dL_roll_207 : decode cL_roll 207 = .ok (.aload_n 2, 1) := by decide +kernel
theorem dL_roll_208 : decode cL_roll 208 = .ok (.bipush 6, 2) := by decide +kernel
theorem dL_roll_210 : decode cL_roll 210 = .ok (.iload 5, 2) := by decide +kernel
theorem dL_roll_212 : decode cL_roll 212 = .ok (.imul, 1) := by decide +kernel
theorem dL_roll_213 : decode cL_roll 213 = .ok (.iconst 2, 1) := by decide +kernel
theorem dL_roll_214 : decode cL_roll 214 = .ok (.iadd, 1) := by decide +kernel
theorem dL_roll_215 : decode cL_roll 215 = .ok (.dup2, 1) := by decide +kernel
theorem dL_roll_216 : decode cL_roll 216 = .ok (.iaload, 1) := by decide +kernel
theorem dL_roll_217 : decode cL_roll 217 = .ok (.iconst 1, 1) := by decide +kernel
theorem dL_roll_218 : decode cL_roll 218 = .ok (.iadd, 1) := by decide +kernel
theorem dL_roll_219 : decode cL_roll 219 = .ok (.iastore, 1) := by decide +kernel
theorem dL_roll_220 : decode cL_roll 220 = .ok (.aload_n 2, 1) := by decide +kernel
theorem dL_roll_221 : decode cL_roll 221 = .ok (.aload_n 3, 1) := by decide +kernel
theorem dL_roll_222 : decode cL_roll 222 = .ok (.invokestatic 16, 3) := by decide +kernel
theorem dL_roll_225 : decode cL_roll 225 = .ok (.iload 7, 2) := by decide +kernel
theorem dL_roll_227 : decode cL_roll 227 = .ok (.ireturn, 1) := by decide +kernel
theorem dL_progress_0 : decode cL_progress 0 = .ok (.aload_n 0, 1) := by decide +kernel
theorem dL_progress_1 : decode cL_progress 1 = .ok (.bipush 6, 2) := by decide +kernel
theorem dL_progress_3 : decode cL_progress 3 = .ok (.iload_n 2, 1) := by decide +kernel
theorem dL_progress_4 : decode cL_progress 4 = .ok (.imul, 1) := by decide +kernel
theorem dL_progress_5 : decode cL_progress 5 = .ok (.iconst 1, 1) := by decide +kernel
theorem dL_progress_6 : decode cL_progress 6 = .ok (.iadd, 1) := by decide +kernel
theorem dL_progress_7 : decode cL_progress 7 = .ok (.iaload, 1) := by decide +kernel
theorem dL_progress_8 : decode cL_progress 8 = .ok (.aload_n 1, 1) := by decide +kernel
theorem dL_progress_9 : decode cL_progress 9 = .ok (.iconst 0, 1) := by decide +kernel
theorem dL_progress_10 : decode cL_progress 10 = .ok (.iaload, 1) := by decide +kernel
theorem dL_progress_11 : decode cL_progress 11 = .ok (.imul, 1) := by decide +kernel
theorem dL_progress_12 : decode cL_progress 12 = .ok (.aload_n 0, 1) := by decide +kernel
theorem dL_progress_13 : decode cL_progress 13 = .ok (.bipush 6, 2) := by decide +kernel
theorem dL_progress_15 : decode cL_progress 15 = .ok (.iload_n 2, 1) := by decide +kernel
theorem dL_progress_16 : decode cL_progress 16 = .ok (.imul, 1) := by decide +kernel
theorem dL_progress_17 : decode cL_progress 17 = .ok (.iaload, 1) := by decide +kernel
theorem dL_progress_18 : decode cL_progress 18 = .ok (.iadd, 1) := by decide +kernel
theorem dL_progress_19 : decode cL_progress 19 = .ok (.ireturn, 1) := by decide +kernel
theorem dL_tops_0 : decode cL_tops 0 = .ok (.iconst 0, 1) := by decide +kernel
theorem dL_tops_1 : decode cL_tops 1 = .ok (.istore_n 2, 1) := by decide +kernel
theorem dL_tops_2 : decode cL_tops 2 = .ok (.iconst 0, 1) := by decide +kernel
theorem dL_tops_3 : decode cL_tops 3 = .ok (.istore_n 3, 1) := by decide +kernel
theorem dL_tops_4 : decode cL_tops 4 = .ok (.iload_n 3, 1) := by decide +kernel
theorem dL_tops_5 : decode cL_tops 5 = .ok (.aload_n 1, 1) := by decide +kernel
theorem dL_tops_6 : decode cL_tops 6 = .ok (.iconst 1, 1) := by decide +kernel
theorem dL_tops_7 : decode cL_tops 7 = .ok (.iaload, 1) := by decide +kernel
theorem dL_tops_8 : decode cL_tops 8 = .ok (.if_icmp .ge 20, 3) := by decide +kernel
theorem dL_tops_11 : decode cL_tops 11 = .ok (.iload_n 2, 1) := by decide +kernel
theorem dL_tops_12 : decode cL_tops 12 = .ok (.aload_n 0, 1) := by decide +kernel
theorem dL_tops_13 : decode cL_tops 13 = .ok (.bipush 6, 2) := by decide +kernel
theorem dL_tops_15 : decode cL_tops 15 = .ok (.iload_n 3, 1) := by decide +kernel
theorem dL_tops_16 : decode cL_tops 16 = .ok (.imul, 1) := by decide +kernel
theorem dL_tops_17 : decode cL_tops 17 = .ok (.iconst 1, 1) := by decide +kernel
theorem dL_tops_18 : decode cL_tops 18 = .ok (.iadd, 1) := by decide +kernel
theorem dL_tops_19 : decode cL_tops 19 = .ok (.iaload, 1) := by decide +kernel
theorem dL_tops_20 : decode cL_tops 20 = .ok (.iadd, 1) := by decide +kernel
theorem dL_tops_21 : decode cL_tops 21 = .ok (.istore_n 2, 1) := by decide +kernel
theorem dL_tops_22 : decode cL_tops 22 = .ok (.iinc 3 1, 3) := by decide +kernel
theorem dL_tops_25 : decode cL_tops 25 = .ok (.goto (-21), 3) := by decide +kernel
theorem dL_tops_28 : decode cL_tops 28 = .ok (.iload_n 2, 1) := by decide +kernel
theorem dL_tops_29 : decode cL_tops 29 = .ok (.ireturn, 1) := by decide +kernel
theorem dL_copy_0 : decode cL_copy 0 = .ok (.iconst 0, 1) := by decide +kernel
theorem dL_copy_1 : decode cL_copy 1 = .ok (.istore_n 2, 1) := by decide +kernel
theorem dL_copy_2 : decode cL_copy 2 = .ok (.iload_n 2, 1) := by decide +kernel
theorem dL_copy_3 : decode cL_copy 3 = .ok (.aload_n 0, 1) := by decide +kernel
theorem dL_copy_4 : decode cL_copy 4 = .ok (.arraylength, 1) := by decide +kernel
theorem dL_copy_5 : decode cL_copy 5 = .ok (.if_icmp .ge 15, 3) := by decide +kernel
theorem dL_copy_8 : decode cL_copy 8 = .ok (.aload_n 1, 1) := by decide +kernel
theorem dL_copy_9 : decode cL_copy 9 = .ok (.iload_n 2, 1) := by decide +kernel
theorem dL_copy_10 : decode cL_copy 10 = .ok (.aload_n 0, 1) := by decide +kernel
theorem dL_copy_11 : decode cL_copy 11 = .ok (.iload_n 2, 1) := by decide +kernel
theorem dL_copy_12 : decode cL_copy 12 = .ok (.iaload, 1) := by decide +kernel
theorem dL_copy_13 : decode cL_copy 13 = .ok (.iastore, 1) := by decide +kernel
theorem dL_copy_14 : decode cL_copy 14 = .ok (.iinc 2 1, 3) := by decide +kernel
theorem dL_copy_17 : decode cL_copy 17 = .ok (.goto (-15), 3) := by decide +kernel
theorem dL_copy_20 : decode cL_copy 20 = .ok (.return_, 1) := by decide +kernel
theorem dL_sum_0 : decode cL_sum 0 = .ok (.iconst 0, 1) := by decide +kernel
theorem dL_sum_1 : decode cL_sum 1 = .ok (.istore_n 1, 1) := by decide +kernel
theorem dL_sum_2 : decode cL_sum 2 = .ok (.iconst 0, 1) := by decide +kernel
theorem dL_sum_3 : decode cL_sum 3 = .ok (.istore_n 2, 1) := by decide +kernel
theorem dL_sum_4 : decode cL_sum 4 = .ok (.iload_n 2, 1) := by decide +kernel
theorem dL_sum_5 : decode cL_sum 5 = .ok (.aload_n 0, 1) := by decide +kernel
theorem dL_sum_6 : decode cL_sum 6 = .ok (.arraylength, 1) := by decide +kernel
theorem dL_sum_7 : decode cL_sum 7 = .ok (.if_icmp .ge 23, 3) := by decide +kernel
theorem dL_sum_10 : decode cL_sum 10 = .ok (.iload_n 1, 1) := by decide +kernel
theorem dL_sum_11 : decode cL_sum 11 = .ok (.aload_n 0, 1) := by decide +kernel
theorem dL_sum_12 : decode cL_sum 12 = .ok (.iload_n 2, 1) := by decide +kernel
theorem dL_sum_13 : decode cL_sum 13 = .ok (.iaload, 1) := by decide +kernel
theorem dL_sum_14 : decode cL_sum 14 = .ok (.ifCond .le 7, 3) := by decide +kernel
theorem dL_sum_17 : decode cL_sum 17 = .ok (.iconst 1, 1) := by decide +kernel
theorem dL_sum_18 : decode cL_sum 18 = .ok (.goto 4, 3) := by decide +kernel
theorem dL_sum_21 : decode cL_sum 21 = .ok (.iconst 0, 1) := by decide +kernel
theorem dL_sum_22 : decode cL_sum 22 = .ok (.iadd, 1) := by decide +kernel
theorem dL_sum_23 : decode cL_sum 23 = .ok (.istore_n 1, 1) := by decide +kernel
theorem dL_sum_24 : decode cL_sum 24 = .ok (.iinc 2 1, 3) := by decide +kernel
theorem dL_sum_27 : decode cL_sum 27 = .ok (.goto (-23), 3) := by decide +kernel
theorem dL_sum_30 : decode cL_sum 30 = .ok (.iload_n 1, 1) := by decide +kernel
theorem dL_sum_31 : decode cL_sum 31 = .ok (.ireturn, 1) := by decide +kernel
theorem dL_ahead_0 : decode cL_ahead 0 = .ok (.iconst (-1), 1) := by decide +kernel
theorem dL_ahead_1 : decode cL_ahead 1 = .ok (.istore 5, 2) := by decide +kernel
theorem dL_ahead_3 : decode cL_ahead 3 = .ok (.iconst 0, 1) := by decide +kernel
theorem dL_ahead_4 : decode cL_ahead 4 = .ok (.istore 6, 2) := by decide +kernel
theorem dL_ahead_6 : decode cL_ahead 6 = .ok (.iconst 0, 1) := by decide +kernel
theorem dL_ahead_7 : decode cL_ahead 7 = .ok (.istore 7, 2) := by decide +kernel
theorem dL_ahead_9 : decode cL_ahead 9 = .ok (.iconst 1, 1) := by decide +kernel
theorem dL_ahead_10 : decode cL_ahead 10 = .ok (.istore 8, 2) := by decide +kernel
theorem dL_ahead_12 : decode cL_ahead 12 = .ok (.iload 8, 2) := by decide +kernel
theorem dL_ahead_14 : decode cL_ahead 14 = .ok (.bipush 7, 2) := by decide +kernel
theorem dL_ahead_16 : decode cL_ahead 16 = .ok (.if_icmp .ge 239, 3) := by decide +kernel
theorem dL_ahead_19 : decode cL_ahead 19 = .ok (.bipush 36, 2) := by decide +kernel
theorem dL_ahead_21 : decode cL_ahead 21 = .ok (.newarray .int, 2) := by decide +kernel
theorem dL_ahead_23 : decode cL_ahead 23 = .ok (.astore 9, 2) := by decide +kernel
theorem dL_ahead_25 : decode cL_ahead 25 = .ok (.bipush 7, 2) := by decide +kernel
theorem dL_ahead_27 : decode cL_ahead 27 = .ok (.newarray .int, 2) := by decide +kernel
theorem dL_ahead_29 : decode cL_ahead 29 = .ok (.astore 10, 2) := by decide +kernel
theorem dL_ahead_31 : decode cL_ahead 31 = .ok (.aload_n 3, 1) := by decide +kernel
theorem dL_ahead_32 : decode cL_ahead 32 = .ok (.aload 9, 2) := by decide +kernel
theorem dL_ahead_34 : decode cL_ahead 34 = .ok (.invokestatic 20, 3) := by decide +kernel
theorem dL_ahead_37 : decode cL_ahead 37 = .ok (.aload 4, 2) := by decide +kernel
theorem dL_ahead_39 : decode cL_ahead 39 = .ok (.aload 10, 2) := by decide +kernel
theorem dL_ahead_41 : decode cL_ahead 41 = .ok (.invokestatic 20, 3) := by decide +kernel
theorem dL_ahead_44 : decode cL_ahead 44 = .ok (.aload_n 1, 1) := by decide +kernel
theorem dL_ahead_45 : decode cL_ahead 45 = .ok (.aload_n 2, 1) := by decide +kernel
theorem dL_ahead_46 : decode cL_ahead 46 = .ok (.aload 9, 2) := by decide +kernel
theorem dL_ahead_48 : decode cL_ahead 48 = .ok (.aload 10, 2) := by decide +kernel
theorem dL_ahead_50 : decode cL_ahead 50 = .ok (.iload 8, 2) := by decide +kernel
theorem dL_ahead_52 : decode cL_ahead 52 = .ok (.invokestatic 23, 3) := by decide +kernel
theorem dL_ahead_55 : decode cL_ahead 55 = .ok (.istore 11, 2) := by decide +kernel
theorem dL_ahead_57 : decode cL_ahead 57 = .ok (.iconst 0, 1) := by decide +kernel
theorem dL_ahead_58 : decode cL_ahead 58 = .ok (.istore 12, 2) := by decide +kernel
theorem dL_ahead_60 : decode cL_ahead 60 = .ok (.iconst 0, 1) := by decide +kernel
theorem dL_ahead_61 : decode cL_ahead 61 = .ok (.istore 13, 2) := by decide +kernel
theorem dL_ahead_63 : decode cL_ahead 63 = .ok (.iload 13, 2) := by decide +kernel
theorem dL_ahead_65 : decode cL_ahead 65 = .ok (.aload 4, 2) := by decide +kernel
theorem dL_ahead_67 : decode cL_ahead 67 = .ok (.iconst 1, 1) := by decide +kernel
theorem dL_ahead_68 : decode cL_ahead 68 = .ok (.iaload, 1) := by decide +kernel
theorem dL_ahead_69 : decode cL_ahead 69 = .ok (.if_icmp .ge 51, 3) := by decide +kernel
theorem dL_ahead_72 : decode cL_ahead 72 = .ok (.aload 9, 2) := by decide +kernel
theorem dL_ahead_74 : decode cL_ahead 74 = .ok (.aload 10, 2) := by decide +kernel
theorem dL_ahead_76 : decode cL_ahead 76 = .ok (.iload 13, 2) := by decide +kernel
theorem dL_ahead_78 : decode cL_ahead 78 = .ok (.invokestatic 27, 3) := by decide +kernel
theorem dL_ahead_81 : decode cL_ahead 81 = .ok (.aload_n 3, 1) := by decide +kernel
theorem dL_ahead_82 : decode cL_ahead 82 = .ok (.aload 4, 2) := by decide +kernel
theorem dL_ahead_84 : decode cL_ahead 84 = .ok (.iload 13, 2) := by decide +kernel
theorem dL_ahead_86 : decode cL_ahead 86 = .ok (.invokestatic 27, 3) := by decide +kernel
theorem dL_ahead_89 : decode cL_ahead 89 = .ok (.isub, 1) := by decide +kernel
theorem dL_ahead_90 : decode cL_ahead 90 = .ok (.istore 14, 2) := by decide +kernel
theorem dL_ahead_92 : decode cL_ahead 92 = .ok (.iload 12, 2) := by decide +kernel
theorem dL_ahead_94 : decode cL_ahead 94 = .ok (.iload 13, 2) := by decide +kernel
theorem dL_ahead_96 : decode cL_ahead 96 = .ok (.aload 4, 2) := by decide +kernel
theorem dL_ahead_98 : decode cL_ahead 98 = .ok (.iconst 2, 1) := by decide +kernel
theorem dL_ahead_99 : decode cL_ahead 99 = .ok (.iaload, 1) := by decide +kernel
theorem dL_ahead_100 : decode cL_ahead 100 = .ok (.if_icmp .ne 8, 3) := by decide +kernel
theorem dL_ahead_103 : decode cL_ahead 103 = .ok (.iload 14, 2) := by decide +kernel
theorem dL_ahead_105 : decode cL_ahead 105 = .ok (.goto 6, 3) := by decide +kernel
theorem dL_ahead_108 : decode cL_ahead 108 = .ok (.iload 14, 2) := by decide +kernel
theorem dL_ahead_110 : decode cL_ahead 110 = .ok (.ineg, 1) := by decide +kernel
theorem dL_ahead_111 : decode cL_ahead 111 = .ok (.iadd, 1) := by decide +kernel
theorem dL_ahead_112 : decode cL_ahead 112 = .ok (.istore 12, 2) := by decide +kernel
theorem dL_ahead_114 : decode cL_ahead 114 = .ok (.iinc 13 1, 3) := by decide +kernel
theorem dL_ahead_117 : decode cL_ahead 117 = .ok (.goto (-54), 3) := by decide +kernel
theorem dL_ahead_120 : decode cL_ahead 120 = .ok (.iload 7, 2) := by decide +kernel
theorem dL_ahead_122 : decode cL_ahead 122 = .ok (.iload 11, 2) := by decide +kernel
theorem dL_ahead_124 : decode cL_ahead 124 = .ok (.ifCond .ne 10, 3) := by decide +kernel
theorem dL_ahead_127 : decode cL_ahead 127 = .ok (.iconst 1, 1) := by decide +kernel
theorem dL_ahead_128 : decode cL_ahead 128 = .ok (.iload 8, 2) := by decide +kernel
theorem dL_ahead_130 : decode cL_ahead 130 = .ok (.ishl, 1) := by decide +kernel
theorem dL_ahead_131 : decode cL_ahead 131 = .ok (.goto 4, 3) := by decide +kernel
theorem dL_ahead_134 : decode cL_ahead 134 = .ok (.iconst 0, 1) := by decide +kernel
theorem dL_ahead_135 : decode cL_ahead 135 = .ok (.iadd, 1) := by decide +kernel
theorem dL_ahead_136 : decode cL_ahead 136 = .ok (.istore 7, 2) := by decide +kernel
theorem dL_ahead_138 : decode cL_ahead 138 = .ok (.iload 5, 2) := by decide +kernel
theorem dL_ahead_140 : decode cL_ahead 140 = .ok (.ifCond .lt 10, 3) := by decide +kernel
theorem dL_ahead_143 : decode cL_ahead 143 = .ok (.iload 12, 2) := by decide +kernel
theorem dL_ahead_145 : decode cL_ahead 145 = .ok (.iload 6, 2) := by decide +kernel
theorem dL_ahead_147 : decode cL_ahead 147 = .ok (.if_icmp .le 11, 3) := by decide +kernel
theorem dL_ahead_150 : decode cL_ahead 150 = .ok (.iload 8, 2) := by decide +kernel
theorem dL_ahead_152 : decode cL_ahead 152 = .ok (.istore 5, 2) := by decide +kernel
theorem dL_ahead_154 : decode cL_ahead 154 = .ok (.iload 12, 2) := by decide +kernel
theorem dL_ahead_156 : decode cL_ahead 156 = .ok (.istore 6, 2) := by decide +kernel
theorem dL_ahead_158 : decode cL_ahead 158 = .ok (.aload_n 0, 1) := by decide +kernel
theorem dL_ahead_159 : decode cL_ahead 159 = .ok (.iload 8, 2) := by decide +kernel
theorem dL_ahead_161 : decode cL_ahead 161 = .ok (.iconst 0, 1) := by decide +kernel
theorem dL_ahead_162 : decode cL_ahead 162 = .ok (.invokevirtual 31, 3) := by decide +kernel
theorem dL_ahead_165 : decode cL_ahead 165 = .ok (.aload 9, 2) := by decide +kernel
theorem dL_ahead_167 : decode cL_ahead 167 = .ok (.bipush 6, 2) := by decide +kernel
theorem dL_ahead_169 : decode cL_ahead 169 = .ok (.aload 4, 2) := by decide +kernel
theorem dL_ahead_171 : decode cL_ahead 171 = .ok (.iconst 2, 1) := by decide +kernel
theorem dL_ahead_172 : decode cL_ahead 172 = .ok (.iaload, 1) := by decide +kernel
theorem dL_ahead_173 : decode cL_ahead 173 = .ok (.imul, 1) := by decide +kernel
theorem dL_ahead_174 : decode cL_ahead 174 = .ok (.iaload, 1) := by decide +kernel
theorem dL_ahead_175 : decode cL_ahead 175 = .ok (.if_icmp .ne 72, 3) := by decide +kernel
theorem dL_ahead_178 : decode cL_ahead 178 = .ok (.aload_n 0, 1) := by decide +kernel
theorem dL_ahead_179 : decode cL_ahead 179 = .ok (.iload 8, 2) := by decide +kernel
theorem dL_ahead_181 : decode cL_ahead 181 = .ok (.iconst 1, 1) := by decide +kernel
theorem dL_ahead_182 : decode cL_ahead 182 = .ok (.invokevirtual 31, 3) := by decide +kernel
theorem dL_ahead_185 : decode cL_ahead 185 = .ok (.iload 11, 2) := by decide +kernel
theorem dL_ahead_187 : decode cL_ahead 187 = .ok (.if_icmp .ne 60, 3) := by decide +kernel
theorem dL_ahead_190 : decode cL_ahead 190 = .ok (.aload_n 0, 1) := by decide +kernel
theorem dL_ahead_191 : decode cL_ahead 191 = .ok (.iload 8, 2) := by decide +kernel
theorem dL_ahead_193 : decode cL_ahead 193 = .ok (.iconst 2, 1) := by decide +kernel
theorem dL_ahead_194 : decode cL_ahead 194 = .ok (.invokevirtual 31, 3) := by decide +kernel
theorem dL_ahead_197 : decode cL_ahead 197 = .ok (.aload 9, 2) := by decide +kernel
theorem dL_ahead_199 : decode cL_ahead 199 = .ok (.aload 10, 2) := by decide +kernel
theorem dL_ahead_201 : decode cL_ahead 201 = .ok (.invokestatic 37, 3) := by decide +kernel
theorem dL_ahead_204 : decode cL_ahead 204 = .ok (.aload_n 3, 1) := by decide +kernel
theorem dL_ahead_205 : decode cL_ahead 205 = .ok (.aload 4, 2) := by decide +kernel
theorem dL_ahead_207 : decode cL_ahead 207 = .ok (.invokestatic 37, 3) := by decide +kernel
theorem dL_ahead_210 : decode cL_ahead 210 = .ok (.isub, 1) := by decide +kernel
theorem dL_ahead_211 : decode cL_ahead 211 = .ok (.if_icmp .ne 36, 3) := by decide +kernel
theorem dL_ahead_214 : decode cL_ahead 214 = .ok (.aload_n 0, 1) := by decide +kernel
theorem dL_ahead_215 : decode cL_ahead 215 = .ok (.iload 8, 2) := by decide +kernel
theorem dL_ahead_217 : decode cL_ahead 217 = .ok (.iconst 3, 1) := by decide +kernel
theorem dL_ahead_218 : decode cL_ahead 218 = .ok (.invokevirtual 31, 3) := by decide +kernel
theorem dL_ahead_221 : decode cL_ahead 221 = .ok (.aload 10, 2) := by decide +kernel
theorem dL_ahead_223 : decode cL_ahead 223 = .ok (.iconst 5, 1) := by decide +kernel
theorem dL_ahead_224 : decode cL_ahead 224 = .ok (.iaload, 1) := by decide +kernel
theorem dL_ahead_225 : decode cL_ahead 225 = .ok (.aload 4, 2) := by decide +kernel
theorem dL_ahead_227 : decode cL_ahead 227 = .ok (.iconst 5, 1) := by decide +kernel
theorem dL_ahead_228 : decode cL_ahead 228 = .ok (.iaload, 1) := by decide +kernel
theorem dL_ahead_229 : decode cL_ahead 229 = .ok (.isub, 1) := by decide +kernel
theorem dL_ahead_230 : decode cL_ahead 230 = .ok (.if_icmp .ne 17, 3) := by decide +kernel
theorem dL_ahead_233 : decode cL_ahead 233 = .ok (.aload_n 0, 1) := by decide +kernel
theorem dL_ahead_234 : decode cL_ahead 234 = .ok (.iload 8, 2) := by decide +kernel
theorem dL_ahead_236 : decode cL_ahead 236 = .ok (.iconst 4, 1) := by decide +kernel
theorem dL_ahead_237 : decode cL_ahead 237 = .ok (.invokevirtual 31, 3) := by decide +kernel
theorem dL_ahead_240 : decode cL_ahead 240 = .ok (.aload 10, 2) := by decide +kernel
theorem dL_ahead_242 : decode cL_ahead 242 = .ok (.iconst 2, 1) := by decide +kernel
theorem dL_ahead_243 : decode cL_ahead 243 = .ok (.iaload, 1) := by decide +kernel
theorem dL_ahead_244 : decode cL_ahead 244 = .ok (.if_icmp .eq 5, 3) := by decide +kernel
theorem dL_ahead_247 : decode cL_ahead 247 = .ok (.iconst 0, 1) := by decide +kernel
theorem dL_ahead_248 : decode cL_ahead 248 = .ok (.ireturn, 1) := by decide +kernel
theorem dL_ahead_249 : decode cL_ahead 249 = .ok (.iinc 8 1, 3) := by decide +kernel
theorem dL_ahead_252 : decode cL_ahead 252 = .ok (.goto (-240), 3) := by decide +kernel
theorem dL_ahead_255 : decode cL_ahead 255 = .ok (.aload_n 0, 1) := by decide +kernel
theorem dL_ahead_256 : decode cL_ahead 256 = .ok (.invokevirtual 41, 3) := by decide +kernel
theorem dL_ahead_259 : decode cL_ahead 259 = .ok (.iload 5, 2) := by decide +kernel
theorem dL_ahead_261 : decode cL_ahead 261 = .ok (.if_icmp .ne 16, 3) := by decide +kernel
theorem dL_ahead_264 : decode cL_ahead 264 = .ok (.aload_n 0, 1) := by decide +kernel
theorem dL_ahead_265 : decode cL_ahead 265 = .ok (.invokevirtual 45, 3) := by decide +kernel
theorem dL_ahead_268 : decode cL_ahead 268 = .ok (.iload 7, 2) := by decide +kernel
theorem dL_ahead_270 : decode cL_ahead 270 = .ok (.if_icmp .ne 7, 3) := by decide +kernel
theorem dL_ahead_273 : decode cL_ahead 273 = .ok (.iconst 1, 1) := by decide +kernel
theorem dL_ahead_274 : decode cL_ahead 274 = .ok (.goto 4, 3) := by decide +kernel
theorem dL_ahead_277 : decode cL_ahead 277 = .ok (.iconst 0, 1) := by decide +kernel
theorem dL_ahead_278 : decode cL_ahead 278 = .ok (.ireturn, 1) := by decide +kernel
theorem dL_fewest_0 : decode cL_fewest 0 = .ok (.bipush 61, 2) := by decide +kernel
theorem dL_fewest_2 : decode cL_fewest 2 = .ok (.newarray .int, 2) := by decide +kernel
theorem dL_fewest_4 : decode cL_fewest 4 = .ok (.astore_n 3, 1) := by decide +kernel
theorem dL_fewest_5 : decode cL_fewest 5 = .ok (.iconst 1, 1) := by decide +kernel
theorem dL_fewest_6 : decode cL_fewest 6 = .ok (.istore 4, 2) := by decide +kernel
theorem dL_fewest_8 : decode cL_fewest 8 = .ok (.iload 4, 2) := by decide +kernel
theorem dL_fewest_10 : decode cL_fewest 10 = .ok (.ifCond .eq 138, 3) := by decide +kernel
theorem dL_fewest_13 : decode cL_fewest 13 = .ok (.iconst 0, 1) := by decide +kernel
theorem dL_fewest_14 : decode cL_fewest 14 = .ok (.istore 4, 2) := by decide +kernel
theorem dL_fewest_16 : decode cL_fewest 16 = .ok (.iconst 0, 1) := by decide +kernel
theorem dL_fewest_17 : decode cL_fewest 17 = .ok (.istore 5, 2) := by decide +kernel
theorem dL_fewest_19 : decode cL_fewest 19 = .ok (.iload 5, 2) := by decide +kernel
theorem dL_fewest_21 : decode cL_fewest 21 = .ok (.aload_n 1, 1) := by decide +kernel
theorem dL_fewest_22 : decode cL_fewest 22 = .ok (.iconst 0, 1) := by decide +kernel
theorem dL_fewest_23 : decode cL_fewest 23 = .ok (.iaload, 1) := by decide +kernel
theorem dL_fewest_24 : decode cL_fewest 24 = .ok (.if_icmp .ge 121, 3) := by decide +kernel
theorem dL_fewest_27 : decode cL_fewest 27 = .ok (.iconst 1, 1) := by decide +kernel
theorem dL_fewest_28 : decode cL_fewest 28 = .ok (.istore 6, 2) := by decide +kernel
theorem dL_fewest_30 : decode cL_fewest 30 = .ok (.iload 6, 2) := by decide +kernel
theorem dL_fewest_32 : decode cL_fewest 32 = .ok (.bipush 7, 2) := by decide +kernel
theorem dL_fewest_34 : decode cL_fewest 34 = .ok (.if_icmp .ge 105, 3) := by decide +kernel
theorem dL_fewest_37 : decode cL_fewest 37 = .ok (.iload 5, 2) := by decide +kernel
theorem dL_fewest_39 : decode cL_fewest 39 = .ok (.iload 6, 2) := by decide +kernel
theorem dL_fewest_41 : decode cL_fewest 41 = .ok (.iadd, 1) := by decide +kernel
theorem dL_fewest_42 : decode cL_fewest 42 = .ok (.istore 7, 2) := by decide +kernel
theorem dL_fewest_44 : decode cL_fewest 44 = .ok (.iload 7, 2) := by decide +kernel
theorem dL_fewest_46 : decode cL_fewest 46 = .ok (.aload_n 1, 1) := by decide +kernel
theorem dL_fewest_47 : decode cL_fewest 47 = .ok (.iconst 0, 1) := by decide +kernel
theorem dL_fewest_48 : decode cL_fewest 48 = .ok (.iaload, 1) := by decide +kernel
theorem dL_fewest_49 : decode cL_fewest 49 = .ok (.if_icmp .lt 7, 3) := by decide +kernel
theorem dL_fewest_52 : decode cL_fewest 52 = .ok (.iconst 1, 1) := by decide +kernel
theorem dL_fewest_53 : decode cL_fewest 53 = .ok (.goto 21, 3) := by decide +kernel
theorem dL_fewest_56 : decode cL_fewest 56 = .ok (.aload_n 3, 1) := by decide +kernel
theorem dL_fewest_57 : decode cL_fewest 57 = .ok (.aload_n 0, 1) := by decide +kernel
theorem dL_fewest_58 : decode cL_fewest 58 = .ok (.iload 7, 2) := by decide +kernel
theorem dL_fewest_60 : decode cL_fewest 60 = .ok (.iaload, 1) := by decide +kernel
theorem dL_fewest_61 : decode cL_fewest 61 = .ok (.ifCond .lt 10, 3) := by decide +kernel
theorem dL_fewest_64 : decode cL_fewest 64 = .ok (.aload_n 0, 1) := by decide +kernel
theorem dL_fewest_65 : decode cL_fewest 65 = .ok (.iload 7, 2) := by decide +kernel
theorem dL_fewest_67 : decode cL_fewest 67 = .ok (.iaload, 1) := by decide +kernel
theorem dL_fewest_68 : decode cL_fewest 68 = .ok (.goto 5, 3) := by decide +kernel
theorem dL_fewest_71 : decode cL_fewest 71 = .ok (.iload 7, 2) := by decide +kernel
theorem dL_fewest_73 : decode cL_fewest 73 = .ok (.iaload, 1) := by decide +kernel
theorem dL_fewest_74 : decode cL_fewest 74 = .ok (.istore 8, 2) := by decide +kernel
theorem dL_fewest_76 : decode cL_fewest 76 = .ok (.iload 7, 2) := by decide +kernel
theorem dL_fewest_78 : decode cL_fewest 78 = .ok (.aload_n 1, 1) := by decide +kernel
theorem dL_fewest_79 : decode cL_fewest 79 = .ok (.iconst 0, 1) := by decide +kernel
theorem dL_fewest_80 : decode cL_fewest 80 = .ok (.iaload, 1) := by decide +kernel
theorem dL_fewest_81 : decode cL_fewest 81 = .ok (.if_icmp .lt 7, 3) := by decide +kernel
theorem dL_fewest_84 : decode cL_fewest 84 = .ok (.iconst 1, 1) := by decide +kernel
theorem dL_fewest_85 : decode cL_fewest 85 = .ok (.goto 16, 3) := by decide +kernel
theorem dL_fewest_88 : decode cL_fewest 88 = .ok (.iload 8, 2) := by decide +kernel
theorem dL_fewest_90 : decode cL_fewest 90 = .ok (.ifCond .le 10, 3) := by decide +kernel
theorem dL_fewest_93 : decode cL_fewest 93 = .ok (.iload 8, 2) := by decide +kernel
theorem dL_fewest_95 : decode cL_fewest 95 = .ok (.iconst 1, 1) := by decide +kernel
theorem dL_fewest_96 : decode cL_fewest 96 = .ok (.iadd, 1) := by decide +kernel
theorem dL_fewest_97 : decode cL_fewest 97 = .ok (.goto 4, 3) := by decide +kernel
theorem dL_fewest_100 : decode cL_fewest 100 = .ok (.iconst 0, 1) := by decide +kernel
theorem dL_fewest_101 : decode cL_fewest 101 = .ok (.istore 8, 2) := by decide +kernel
theorem dL_fewest_103 : decode cL_fewest 103 = .ok (.iload 8, 2) := by decide +kernel
theorem dL_fewest_105 : decode cL_fewest 105 = .ok (.ifCond .le 28, 3) := by decide +kernel
theorem dL_fewest_108 : decode cL_fewest 108 = .ok (.aload_n 3, 1) := by decide +kernel
theorem dL_fewest_109 : decode cL_fewest 109 = .ok (.iload 5, 2) := by decide +kernel
theorem dL_fewest_111 : decode cL_fewest 111 = .ok (.iaload, 1) := by decide +kernel
theorem dL_fewest_112 : decode cL_fewest 112 = .ok (.ifCond .eq 12, 3) := by decide +kernel
theorem dL_fewest_115 : decode cL_fewest 115 = .ok (.iload 8, 2) := by decide +kernel
theorem dL_fewest_117 : decode cL_fewest 117 = .ok (.aload_n 3, 1) := by decide +kernel
theorem dL_fewest_118 : decode cL_fewest 118 = .ok (.iload 5, 2) := by decide +kernel
theorem dL_fewest_120 : decode cL_fewest 120 = .ok (.iaload, 1) := by decide +kernel
theorem dL_fewest_121 : decode cL_fewest 121 = .ok (.if_icmp .ge 12, 3) := by decide +kernel
theorem dL_fewest_124 : decode cL_fewest 124 = .ok (.aload_n 3, 1) := by decide +kernel
theorem dL_fewest_125 : decode cL_fewest 125 = .ok (.iload 5, 2) := by decide +kernel
theorem dL_fewest_127 : decode cL_fewest 127 = .ok (.iload 8, 2) := by decide +kernel
theorem dL_fewest_129 : decode cL_fewest 129 = .ok (.iastore, 1) := by decide +kernel
theorem dL_fewest_130 : decode cL_fewest 130 = .ok (.iconst 1, 1) := by decide +kernel
theorem dL_fewest_131 : decode cL_fewest 131 = .ok (.istore 4, 2) := by decide +kernel
theorem dL_fewest_133 : decode cL_fewest 133 = .ok (.iinc 6 1, 3) := by decide +kernel
theorem dL_fewest_136 : decode cL_fewest 136 = .ok (.goto (-106), 3) := by decide +kernel
theorem dL_fewest_139 : decode cL_fewest 139 = .ok (.iinc 5 1, 3) := by decide +kernel
theorem dL_fewest_142 : decode cL_fewest 142 = .ok (.goto (-123), 3) := by decide +kernel
theorem dL_fewest_145 : decode cL_fewest 145 = .ok (.goto (-137), 3) := by decide +kernel
theorem dL_fewest_148 : decode cL_fewest 148 = .ok (.aload_n 3, 1) := by decide +kernel
theorem dL_fewest_149 : decode cL_fewest 149 = .ok (.iload_n 2, 1) := by decide +kernel
theorem dL_fewest_150 : decode cL_fewest 150 = .ok (.iaload, 1) := by decide +kernel
theorem dL_fewest_151 : decode cL_fewest 151 = .ok (.ifCond .ne 8, 3) := by decide +kernel
theorem dL_fewest_154 : decode cL_fewest 154 = .ok (.bipush (-6), 2) := by decide +kernel
theorem dL_fewest_156 : decode cL_fewest 156 = .ok (.goto 6, 3) := by decide +kernel
theorem dL_fewest_159 : decode cL_fewest 159 = .ok (.aload_n 3, 1) := by decide +kernel
theorem dL_fewest_160 : decode cL_fewest 160 = .ok (.iload_n 2, 1) := by decide +kernel
theorem dL_fewest_161 : decode cL_fewest 161 = .ok (.iaload, 1) := by decide +kernel
theorem dL_fewest_162 : decode cL_fewest 162 = .ok (.ireturn, 1) := by decide +kernel
theorem dL_game_0 : decode cL_game 0 = .ok (.iconst 0, 1) := by decide +kernel
theorem dL_game_1 : decode cL_game 1 = .ok (.istore 6, 2) := by decide +kernel
theorem dL_game_3 : decode cL_game 3 = .ok (.iload 6, 2) := by decide +kernel
theorem dL_game_5 : decode cL_game 5 = .ok (.aload 4, 2) := by decide +kernel
theorem dL_game_7 : decode cL_game 7 = .ok (.iconst 1, 1) := by decide +kernel
theorem dL_game_8 : decode cL_game 8 = .ok (.iaload, 1) := by decide +kernel
theorem dL_game_9 : decode cL_game 9 = .ok (.if_icmp .ge 178, 3) := by decide +kernel
theorem dL_game_12 : decode cL_game 12 = .ok (.iconst 0, 1) := by decide +kernel
theorem dL_game_13 : decode cL_game 13 = .ok (.istore 7, 2) := by decide +kernel
theorem dL_game_15 : decode cL_game 15 = .ok (.iconst 0, 1) := by decide +kernel
theorem dL_game_16 : decode cL_game 16 = .ok (.istore 8, 2) := by decide +kernel
theorem dL_game_18 : decode cL_game 18 = .ok (.iload 8, 2) := by decide +kernel
theorem dL_game_20 : decode cL_game 20 = .ok (.aload 4, 2) := by decide +kernel
theorem dL_game_22 : decode cL_game 22 = .ok (.iconst 1, 1) := by decide +kernel
theorem dL_game_23 : decode cL_game 23 = .ok (.iaload, 1) := by decide +kernel
theorem dL_game_24 : decode cL_game 24 = .ok (.if_icmp .ge 64, 3) := by decide +kernel
theorem dL_game_27 : decode cL_game 27 = .ok (.iload 7, 2) := by decide +kernel
theorem dL_game_29 : decode cL_game 29 = .ok (.aload_n 3, 1) := by decide +kernel
theorem dL_game_30 : decode cL_game 30 = .ok (.aload 4, 2) := by decide +kernel
theorem dL_game_32 : decode cL_game 32 = .ok (.iload 8, 2) := by decide +kernel
theorem dL_game_34 : decode cL_game 34 = .ok (.invokestatic 27, 3) := by decide +kernel
theorem dL_game_37 : decode cL_game 37 = .ok (.aload_n 3, 1) := by decide +kernel
theorem dL_game_38 : decode cL_game 38 = .ok (.aload 4, 2) := by decide +kernel
theorem dL_game_40 : decode cL_game 40 = .ok (.iload 6, 2) := by decide +kernel
theorem dL_game_42 : decode cL_game 42 = .ok (.invokestatic 27, 3) := by decide +kernel
theorem dL_game_45 : decode cL_game 45 = .ok (.if_icmp .gt 29, 3) := by decide +kernel
theorem dL_game_48 : decode cL_game 48 = .ok (.aload_n 3, 1) := by decide +kernel
theorem dL_game_49 : decode cL_game 49 = .ok (.aload 4, 2) := by decide +kernel
theorem dL_game_51 : decode cL_game 51 = .ok (.iload 8, 2) := by decide +kernel
theorem dL_game_53 : decode cL_game 53 = .ok (.invokestatic 27, 3) := by decide +kernel
theorem dL_game_56 : decode cL_game 56 = .ok (.aload_n 3, 1) := by decide +kernel
theorem dL_game_57 : decode cL_game 57 = .ok (.aload 4, 2) := by decide +kernel
theorem dL_game_59 : decode cL_game 59 = .ok (.iload 6, 2) := by decide +kernel
theorem dL_game_61 : decode cL_game 61 = .ok (.invokestatic 27, 3) := by decide +kernel
theorem dL_game_64 : decode cL_game 64 = .ok (.if_icmp .ne 14, 3) := by decide +kernel
theorem dL_game_67 : decode cL_game 67 = .ok (.iload 8, 2) := by decide +kernel
theorem dL_game_69 : decode cL_game 69 = .ok (.iload 6, 2) := by decide +kernel
theorem dL_game_71 : decode cL_game 71 = .ok (.if_icmp .ge 7, 3) := by decide +kernel
theorem dL_game_74 : decode cL_game 74 = .ok (.iconst 1, 1) := by decide +kernel
theorem dL_game_75 : decode cL_game 75 = .ok (.goto 4, 3) := by decide +kernel
theorem dL_game_78 : decode cL_game 78 = .ok (.iconst 0, 1) := by decide +kernel
theorem dL_game_79 : decode cL_game 79 = .ok (.iadd, 1) := by decide +kernel
theorem dL_game_80 : decode cL_game 80 = .ok (.istore 7, 2) := by decide +kernel
theorem dL_game_82 : decode cL_game 82 = .ok (.iinc 8 1, 3) := by decide +kernel
theorem dL_game_85 : decode cL_game 85 = .ok (.goto (-67), 3) := by decide +kernel
theorem dL_game_88 : decode cL_game 88 = .ok (.iconst 0, 1) := by decide +kernel
theorem dL_game_89 : decode cL_game 89 = .ok (.istore 8, 2) := by decide +kernel
theorem dL_game_91 : decode cL_game 91 = .ok (.iload 8, 2) := by decide +kernel
theorem dL_game_93 : decode cL_game 93 = .ok (.bipush 6, 2) := by decide +kernel
theorem dL_game_95 : decode cL_game 95 = .ok (.if_icmp .ge 32, 3) := by decide +kernel
theorem dL_game_98 : decode cL_game 98 = .ok (.aload_n 0, 1) := by decide +kernel
theorem dL_game_99 : decode cL_game 99 = .ok (.iload 6, 2) := by decide +kernel
theorem dL_game_101 : decode cL_game 101 = .ok (.iload 8, 2) := by decide +kernel
theorem dL_game_103 : decode cL_game 103 = .ok (.invokevirtual 48, 3) := by decide +kernel
theorem dL_game_106 : decode cL_game 106 = .ok (.aload_n 3, 1) := by decide +kernel
theorem dL_game_107 : decode cL_game 107 = .ok (.bipush 6, 2) := by decide +kernel
theorem dL_game_109 : decode cL_game 109 = .ok (.iload 6, 2) := by decide +kernel
theorem dL_game_111 : decode cL_game 111 = .ok (.imul, 1) := by decide +kernel
theorem dL_game_112 : decode cL_game 112 = .ok (.iload 8, 2) := by decide +kernel
theorem dL_game_114 : decode cL_game 114 = .ok (.iadd, 1) := by decide +kernel
theorem dL_game_115 : decode cL_game 115 = .ok (.iaload, 1) := by decide +kernel
theorem dL_game_116 : decode cL_game 116 = .ok (.if_icmp .eq 5, 3) := by decide +kernel
theorem dL_game_119 : decode cL_game 119 = .ok (.iconst 0, 1) := by decide +kernel
theorem dL_game_120 : decode cL_game 120 = .ok (.ireturn, 1) := by decide +kernel
theorem dL_game_121 : decode cL_game 121 = .ok (.iinc 8 1, 3) := by decide +kernel
theorem dL_game_124 : decode cL_game 124 = .ok (.goto (-33), 3) := by decide +kernel
theorem dL_game_127 : decode cL_game 127 = .ok (.aload_n 0, 1) := by decide +kernel
theorem dL_game_128 : decode cL_game 128 = .ok (.iload 6, 2) := by decide +kernel
theorem dL_game_130 : decode cL_game 130 = .ok (.bipush 6, 2) := by decide +kernel
theorem dL_game_132 : decode cL_game 132 = .ok (.invokevirtual 48, 3) := by decide +kernel
theorem dL_game_135 : decode cL_game 135 = .ok (.aload_n 3, 1) := by decide +kernel
theorem dL_game_136 : decode cL_game 136 = .ok (.aload 4, 2) := by decide +kernel
theorem dL_game_138 : decode cL_game 138 = .ok (.iload 6, 2) := by decide +kernel
theorem dL_game_140 : decode cL_game 140 = .ok (.invokestatic 27, 3) := by decide +kernel
theorem dL_game_143 : decode cL_game 143 = .ok (.if_icmp .ne 36, 3) := by decide +kernel
theorem dL_game_146 : decode cL_game 146 = .ok (.aload_n 0, 1) := by decide +kernel
theorem dL_game_147 : decode cL_game 147 = .ok (.iload 7, 2) := by decide +kernel
theorem dL_game_149 : decode cL_game 149 = .ok (.invokevirtual 51, 3) := by decide +kernel
theorem dL_game_152 : decode cL_game 152 = .ok (.iload 6, 2) := by decide +kernel
theorem dL_game_154 : decode cL_game 154 = .ok (.if_icmp .ne 25, 3) := by decide +kernel
theorem dL_game_157 : decode cL_game 157 = .ok (.aload_n 0, 1) := by decide +kernel
theorem dL_game_158 : decode cL_game 158 = .ok (.iload 6, 2) := by decide +kernel
theorem dL_game_160 : decode cL_game 160 = .ok (.invokevirtual 55, 3) := by decide +kernel
theorem dL_game_163 : decode cL_game 163 = .ok (.aload_n 1, 1) := by decide +kernel
theorem dL_game_164 : decode cL_game 164 = .ok (.aload 4, 2) := by decide +kernel
theorem dL_game_166 : decode cL_game 166 = .ok (.aload_n 3, 1) := by decide +kernel
theorem dL_game_167 : decode cL_game 167 = .ok (.bipush 6, 2) := by decide +kernel
theorem dL_game_169 : decode cL_game 169 = .ok (.iload 6, 2) := by decide +kernel
theorem dL_game_171 : decode cL_game 171 = .ok (.imul, 1) := by decide +kernel
theorem dL_game_172 : decode cL_game 172 = .ok (.iaload, 1) := by decide +kernel
theorem dL_game_173 : decode cL_game 173 = .ok (.invokestatic 58, 3) := by decide +kernel
theorem dL_game_176 : decode cL_game 176 = .ok (.if_icmp .eq 5, 3) := by decide +kernel
theorem dL_game_179 : decode cL_game 179 = .ok (.iconst 0, 1) := by decide +kernel
theorem dL_game_180 : decode cL_game 180 = .ok (.ireturn, 1) := by decide +kernel
theorem dL_game_181 : decode cL_game 181 = .ok (.iinc 6 1, 3) := by decide +kernel
theorem dL_game_184 : decode cL_game 184 = .ok (.goto (-181), 3) := by decide +kernel
theorem dL_game_187 : decode cL_game 187 = .ok (.iconst 0, 1) := by decide +kernel
theorem dL_game_188 : decode cL_game 188 = .ok (.istore 6, 2) := by decide +kernel
theorem dL_game_190 : decode cL_game 190 = .ok (.iload 6, 2) := by decide +kernel
theorem dL_game_192 : decode cL_game 192 = .ok (.aload 4, 2) := by decide +kernel
theorem dL_game_194 : decode cL_game 194 = .ok (.iconst 0, 1) := by decide +kernel
theorem dL_game_195 : decode cL_game 195 = .ok (.iaload, 1) := by decide +kernel
theorem dL_game_196 : decode cL_game 196 = .ok (.if_icmp .ge 158, 3) := by decide +kernel
theorem dL_game_199 : decode cL_game 199 = .ok (.iconst 0, 1) := by decide +kernel
theorem dL_game_200 : decode cL_game 200 = .ok (.istore 7, 2) := by decide +kernel
theorem dL_game_202 : decode cL_game 202 = .ok (.iconst 0, 1) := by decide +kernel
theorem dL_game_203 : decode cL_game 203 = .ok (.istore 8, 2) := by decide +kernel
theorem dL_game_205 : decode cL_game 205 = .ok (.iconst 0, 1) := by decide +kernel
theorem dL_game_206 : decode cL_game 206 = .ok (.istore 9, 2) := by decide +kernel
theorem dL_game_208 : decode cL_game 208 = .ok (.iload 9, 2) := by decide +kernel
theorem dL_game_210 : decode cL_game 210 = .ok (.aload 4, 2) := by decide +kernel
theorem dL_game_212 : decode cL_game 212 = .ok (.iconst 1, 1) := by decide +kernel
theorem dL_game_213 : decode cL_game 213 = .ok (.iaload, 1) := by decide +kernel
theorem dL_game_214 : decode cL_game 214 = .ok (.if_icmp .ge 34, 3) := by decide +kernel
theorem dL_game_217 : decode cL_game 217 = .ok (.iload 7, 2) := by decide +kernel
theorem dL_game_219 : decode cL_game 219 = .ok (.aload_n 3, 1) := by decide +kernel
theorem dL_game_220 : decode cL_game 220 = .ok (.bipush 6, 2) := by decide +kernel
theorem dL_game_222 : decode cL_game 222 = .ok (.iload 9, 2) := by decide +kernel
theorem dL_game_224 : decode cL_game 224 = .ok (.imul, 1) := by decide +kernel
theorem dL_game_225 : decode cL_game 225 = .ok (.iaload, 1) := by decide +kernel
theorem dL_game_226 : decode cL_game 226 = .ok (.iload 6, 2) := by decide +kernel
theorem dL_game_228 : decode cL_game 228 = .ok (.if_icmp .ne 10, 3) := by decide +kernel
theorem dL_game_231 : decode cL_game 231 = .ok (.iconst 1, 1) := by decide +kernel
theorem dL_game_232 : decode cL_game 232 = .ok (.iload 9, 2) := by decide +kernel
theorem dL_game_234 : decode cL_game 234 = .ok (.ishl, 1) := by decide +kernel
theorem dL_game_235 : decode cL_game 235 = .ok (.goto 4, 3) := by decide +kernel
theorem dL_game_238 : decode cL_game 238 = .ok (.iconst 0, 1) := by decide +kernel
theorem dL_game_239 : decode cL_game 239 = .ok (.iadd, 1) := by decide +kernel
theorem dL_game_240 : decode cL_game 240 = .ok (.istore 7, 2) := by decide +kernel
theorem dL_game_242 : decode cL_game 242 = .ok (.iinc 9 1, 3) := by decide +kernel
theorem dL_game_245 : decode cL_game 245 = .ok (.goto (-37), 3) := by decide +kernel
theorem dL_game_248 : decode cL_game 248 = .ok (.iconst 0, 1) := by decide +kernel
theorem dL_game_249 : decode cL_game 249 = .ok (.istore 9, 2) := by decide +kernel
theorem dL_game_251 : decode cL_game 251 = .ok (.iload 9, 2) := by decide +kernel
theorem dL_game_253 : decode cL_game 253 = .ok (.bipush 61, 2) := by decide +kernel
theorem dL_game_255 : decode cL_game 255 = .ok (.if_icmp .ge 28, 3) := by decide +kernel
theorem dL_game_258 : decode cL_game 258 = .ok (.iload 8, 2) := by decide +kernel
theorem dL_game_260 : decode cL_game 260 = .ok (.aload_n 1, 1) := by decide +kernel
theorem dL_game_261 : decode cL_game 261 = .ok (.iload 9, 2) := by decide +kernel
theorem dL_game_263 : decode cL_game 263 = .ok (.iaload, 1) := by decide +kernel
theorem dL_game_264 : decode cL_game 264 = .ok (.iload 6, 2) := by decide +kernel
theorem dL_game_266 : decode cL_game 266 = .ok (.if_icmp .ne 7, 3) := by decide +kernel
theorem dL_game_269 : decode cL_game 269 = .ok (.iconst 1, 1) := by decide +kernel
theorem dL_game_270 : decode cL_game 270 = .ok (.goto 4, 3) := by decide +kernel
theorem dL_game_273 : decode cL_game 273 = .ok (.iconst 0, 1) := by decide +kernel
theorem dL_game_274 : decode cL_game 274 = .ok (.iadd, 1) := by decide +kernel
theorem dL_game_275 : decode cL_game 275 = .ok (.istore 8, 2) := by decide +kernel
theorem dL_game_277 : decode cL_game 277 = .ok (.iinc 9 1, 3) := by decide +kernel
theorem dL_game_280 : decode cL_game 280 = .ok (.goto (-29), 3) := by decide +kernel
theorem dL_game_283 : decode cL_game 283 = .ok (.aload_n 0, 1) := by decide +kernel
theorem dL_game_284 : decode cL_game 284 = .ok (.iload 6, 2) := by decide +kernel
theorem dL_game_286 : decode cL_game 286 = .ok (.invokevirtual 61, 3) := by decide +kernel
theorem dL_game_289 : decode cL_game 289 = .ok (.iload 7, 2) := by decide +kernel
theorem dL_game_291 : decode cL_game 291 = .ok (.if_icmp .ne 55, 3) := by decide +kernel
theorem dL_game_294 : decode cL_game 294 = .ok (.aload_n 0, 1) := by decide +kernel
theorem dL_game_295 : decode cL_game 295 = .ok (.iload 6, 2) := by decide +kernel
theorem dL_game_297 : decode cL_game 297 = .ok (.iconst 0, 1) := by decide +kernel
theorem dL_game_298 : decode cL_game 298 = .ok (.invokevirtual 64, 3) := by decide +kernel
theorem dL_game_301 : decode cL_game 301 = .ok (.aload_n 2, 1) := by decide +kernel
theorem dL_game_302 : decode cL_game 302 = .ok (.iload 6, 2) := by decide +kernel
theorem dL_game_304 : decode cL_game 304 = .ok (.iaload, 1) := by decide +kernel
theorem dL_game_305 : decode cL_game 305 = .ok (.if_icmp .ne 41, 3) := by decide +kernel
theorem dL_game_308 : decode cL_game 308 = .ok (.aload_n 0, 1) := by decide +kernel
theorem dL_game_309 : decode cL_game 309 = .ok (.iload 6, 2) := by decide +kernel
theorem dL_game_311 : decode cL_game 311 = .ok (.iconst 1, 1) := by decide +kernel
theorem dL_game_312 : decode cL_game 312 = .ok (.invokevirtual 64, 3) := by decide +kernel
theorem dL_game_315 : decode cL_game 315 = .ok (.aload_n 1, 1) := by decide +kernel
theorem dL_game_316 : decode cL_game 316 = .ok (.iload 6, 2) := by decide +kernel
theorem dL_game_318 : decode cL_game 318 = .ok (.iaload, 1) := by decide +kernel
theorem dL_game_319 : decode cL_game 319 = .ok (.ifCond .ge 8, 3) := by decide +kernel
theorem dL_game_322 : decode cL_game 322 = .ok (.bipush (-6), 2) := by decide +kernel
theorem dL_game_324 : decode cL_game 324 = .ok (.goto 7, 3) := by decide +kernel
theorem dL_game_327 : decode cL_game 327 = .ok (.aload_n 1, 1) := by decide +kernel
theorem dL_game_328 : decode cL_game 328 = .ok (.iload 6, 2) := by decide +kernel
theorem dL_game_330 : decode cL_game 330 = .ok (.iaload, 1) := by decide +kernel
theorem dL_game_331 : decode cL_game 331 = .ok (.if_icmp .ne 15, 3) := by decide +kernel
theorem dL_game_334 : decode cL_game 334 = .ok (.aload_n 0, 1) := by decide +kernel
theorem dL_game_335 : decode cL_game 335 = .ok (.iload 6, 2) := by decide +kernel
theorem dL_game_337 : decode cL_game 337 = .ok (.iconst 2, 1) := by decide +kernel
theorem dL_game_338 : decode cL_game 338 = .ok (.invokevirtual 64, 3) := by decide +kernel
theorem dL_game_341 : decode cL_game 341 = .ok (.iload 8, 2) := by decide +kernel
theorem dL_game_343 : decode cL_game 343 = .ok (.if_icmp .eq 5, 3) := by decide +kernel
theorem dL_game_346 : decode cL_game 346 = .ok (.iconst 0, 1) := by decide +kernel
theorem dL_game_347 : decode cL_game 347 = .ok (.ireturn, 1) := by decide +kernel
theorem dL_game_348 : decode cL_game 348 = .ok (.iinc 6 1, 3) := by decide +kernel
theorem dL_game_351 : decode cL_game 351 = .ok (.goto (-161), 3) := by decide +kernel
theorem dL_game_354 : decode cL_game 354 = .ok (.aload_n 0, 1) := by decide +kernel
theorem dL_game_355 : decode cL_game 355 = .ok (.invokevirtual 67, 3) := by decide +kernel
theorem dL_game_358 : decode cL_game 358 = .ok (.aload 4, 2) := by decide +kernel
theorem dL_game_360 : decode cL_game 360 = .ok (.iconst 1, 1) := by decide +kernel
theorem dL_game_361 : decode cL_game 361 = .ok (.iaload, 1) := by decide +kernel
theorem dL_game_362 : decode cL_game 362 = .ok (.ifCond .ne 8, 3) := by decide +kernel
theorem dL_game_365 : decode cL_game 365 = .ok (.bipush (-6), 2) := by decide +kernel
theorem dL_game_367 : decode cL_game 367 = .ok (.goto 7, 3) := by decide +kernel
theorem dL_game_370 : decode cL_game 370 = .ok (.aload 4, 2) := by decide +kernel
theorem dL_game_372 : decode cL_game 372 = .ok (.iconst 2, 1) := by decide +kernel
theorem dL_game_373 : decode cL_game 373 = .ok (.iaload, 1) := by decide +kernel
theorem dL_game_374 : decode cL_game 374 = .ok (.if_icmp .ne 156, 3) := by decide +kernel
theorem dL_game_377 : decode cL_game 377 = .ok (.aload_n 0, 1) := by decide +kernel
theorem dL_game_378 : decode cL_game 378 = .ok (.aload 4, 2) := by decide +kernel
theorem dL_game_380 : decode cL_game 380 = .ok (.iconst 1, 1) := by decide +kernel
theorem dL_game_381 : decode cL_game 381 = .ok (.iaload, 1) := by decide +kernel
theorem dL_game_382 : decode cL_game 382 = .ok (.invokevirtual 51, 3) := by decide +kernel
theorem dL_game_385 : decode cL_game 385 = .ok (.bipush (-6), 2) := by decide +kernel
theorem dL_game_387 : decode cL_game 387 = .ok (.if_icmp .ne 143, 3) := by decide +kernel
theorem dL_game_390 : decode cL_game 390 = .ok (.aload_n 0, 1) := by decide +kernel
theorem dL_game_391 : decode cL_game 391 = .ok (.iconst 0, 1) := by decide +kernel
theorem dL_game_392 : decode cL_game 392 = .ok (.invokevirtual 70, 3) := by decide +kernel
theorem dL_game_395 : decode cL_game 395 = .ok (.aload 4, 2) := by decide +kernel
theorem dL_game_397 : decode cL_game 397 = .ok (.iconst 0, 1) := by decide +kernel
theorem dL_game_398 : decode cL_game 398 = .ok (.iaload, 1) := by decide +kernel
theorem dL_game_399 : decode cL_game 399 = .ok (.if_icmp .ne 131, 3) := by decide +kernel
theorem dL_game_402 : decode cL_game 402 = .ok (.aload_n 0, 1) := by decide +kernel
theorem dL_game_403 : decode cL_game 403 = .ok (.iconst 1, 1) := by decide +kernel
theorem dL_game_404 : decode cL_game 404 = .ok (.invokevirtual 70, 3) := by decide +kernel
theorem dL_game_407 : decode cL_game 407 = .ok (.aload 4, 2) := by decide +kernel
theorem dL_game_409 : decode cL_game 409 = .ok (.iconst 1, 1) := by decide +kernel
theorem dL_game_410 : decode cL_game 410 = .ok (.iaload, 1) := by decide +kernel
theorem dL_game_411 : decode cL_game 411 = .ok (.if_icmp .ne 119, 3) := by decide +kernel
theorem dL_game_414 : decode cL_game 414 = .ok (.aload_n 0, 1) := by decide +kernel
theorem dL_game_415 : decode cL_game 415 = .ok (.iconst 2, 1) := by decide +kernel
theorem dL_game_416 : decode cL_game 416 = .ok (.invokevirtual 70, 3) := by decide +kernel
theorem dL_game_419 : decode cL_game 419 = .ok (.iload 5, 2) := by decide +kernel
theorem dL_game_421 : decode cL_game 421 = .ok (.if_icmp .ne 109, 3) := by decide +kernel
theorem dL_game_424 : decode cL_game 424 = .ok (.aload_n 0, 1) := by decide +kernel
theorem dL_game_425 : decode cL_game 425 = .ok (.iconst 3, 1) := by decide +kernel
theorem dL_game_426 : decode cL_game 426 = .ok (.invokevirtual 70, 3) := by decide +kernel
theorem dL_game_429 : decode cL_game 429 = .ok (.aload_n 2, 1) := by decide +kernel
theorem dL_game_430 : decode cL_game 430 = .ok (.invokestatic 73, 3) := by decide +kernel
theorem dL_game_433 : decode cL_game 433 = .ok (.if_icmp .ne 97, 3) := by decide +kernel
theorem dL_game_436 : decode cL_game 436 = .ok (.aload_n 0, 1) := by decide +kernel
theorem dL_game_437 : decode cL_game 437 = .ok (.iconst 4, 1) := by decide +kernel
theorem dL_game_438 : decode cL_game 438 = .ok (.invokevirtual 70, 3) := by decide +kernel
theorem dL_game_441 : decode cL_game 441 = .ok (.aload 4, 2) := by decide +kernel
theorem dL_game_443 : decode cL_game 443 = .ok (.iconst 3, 1) := by decide +kernel
theorem dL_game_444 : decode cL_game 444 = .ok (.iaload, 1) := by decide +kernel
theorem dL_game_445 : decode cL_game 445 = .ok (.if_icmp .ne 85, 3) := by decide +kernel
theorem dL_game_448 : decode cL_game 448 = .ok (.aload_n 0, 1) := by decide +kernel
theorem dL_game_449 : decode cL_game 449 = .ok (.iconst 5, 1) := by decide +kernel
theorem dL_game_450 : decode cL_game 450 = .ok (.invokevirtual 70, 3) := by decide +kernel
theorem dL_game_453 : decode cL_game 453 = .ok (.aload 4, 2) := by decide +kernel
theorem dL_game_455 : decode cL_game 455 = .ok (.iconst 4, 1) := by decide +kernel
theorem dL_game_456 : decode cL_game 456 = .ok (.iaload, 1) := by decide +kernel
theorem dL_game_457 : decode cL_game 457 = .ok (.if_icmp .ne 73, 3) := by decide +kernel
theorem dL_game_460 : decode cL_game 460 = .ok (.aload_n 0, 1) := by decide +kernel
theorem dL_game_461 : decode cL_game 461 = .ok (.bipush 6, 2) := by decide +kernel
theorem dL_game_463 : decode cL_game 463 = .ok (.invokevirtual 70, 3) := by decide +kernel
theorem dL_game_466 : decode cL_game 466 = .ok (.aload 4, 2) := by decide +kernel
theorem dL_game_468 : decode cL_game 468 = .ok (.iconst 5, 1) := by decide +kernel
theorem dL_game_469 : decode cL_game 469 = .ok (.iaload, 1) := by decide +kernel
theorem dL_game_470 : decode cL_game 470 = .ok (.if_icmp .ne 60, 3) := by decide +kernel
theorem dL_game_473 : decode cL_game 473 = .ok (.aload_n 0, 1) := by decide +kernel
theorem dL_game_474 : decode cL_game 474 = .ok (.bipush 7, 2) := by decide +kernel
theorem dL_game_476 : decode cL_game 476 = .ok (.invokevirtual 70, 3) := by decide +kernel
theorem dL_game_479 : decode cL_game 479 = .ok (.aload_n 3, 1) := by decide +kernel
theorem dL_game_480 : decode cL_game 480 = .ok (.aload 4, 2) := by decide +kernel
theorem dL_game_482 : decode cL_game 482 = .ok (.invokestatic 37, 3) := by decide +kernel
theorem dL_game_485 : decode cL_game 485 = .ok (.if_icmp .ne 45, 3) := by decide +kernel
theorem dL_game_488 : decode cL_game 488 = .ok (.aload_n 0, 1) := by decide +kernel
theorem dL_game_489 : decode cL_game 489 = .ok (.bipush 8, 2) := by decide +kernel
theorem dL_game_491 : decode cL_game 491 = .ok (.invokevirtual 70, 3) := by decide +kernel
theorem dL_game_494 : decode cL_game 494 = .ok (.aload 4, 2) := by decide +kernel
theorem dL_game_496 : decode cL_game 496 = .ok (.bipush 6, 2) := by decide +kernel
theorem dL_game_498 : decode cL_game 498 = .ok (.iaload, 1) := by decide +kernel
theorem dL_game_499 : decode cL_game 499 = .ok (.if_icmp .ne 31, 3) := by decide +kernel
theorem dL_game_502 : decode cL_game 502 = .ok (.aload_n 0, 1) := by decide +kernel
theorem dL_game_503 : decode cL_game 503 = .ok (.aload 4, 2) := by decide +kernel
theorem dL_game_505 : decode cL_game 505 = .ok (.iconst 0, 1) := by decide +kernel
theorem dL_game_506 : decode cL_game 506 = .ok (.iaload, 1) := by decide +kernel
theorem dL_game_507 : decode cL_game 507 = .ok (.iconst 0, 1) := by decide +kernel
theorem dL_game_508 : decode cL_game 508 = .ok (.invokevirtual 64, 3) := by decide +kernel
theorem dL_game_511 : decode cL_game 511 = .ok (.ifCond .ne 19, 3) := by decide +kernel
theorem dL_game_514 : decode cL_game 514 = .ok (.aload_n 0, 1) := by decide +kernel
theorem dL_game_515 : decode cL_game 515 = .ok (.aload 4, 2) := by decide +kernel
theorem dL_game_517 : decode cL_game 517 = .ok (.iconst 0, 1) := by decide +kernel
theorem dL_game_518 : decode cL_game 518 = .ok (.iaload, 1) := by decide +kernel
theorem dL_game_519 : decode cL_game 519 = .ok (.invokevirtual 61, 3) := by decide +kernel
theorem dL_game_522 : decode cL_game 522 = .ok (.iconst (-1), 1) := by decide +kernel
theorem dL_game_523 : decode cL_game 523 = .ok (.if_icmp .ne 7, 3) := by decide +kernel
theorem dL_game_526 : decode cL_game 526 = .ok (.iconst 1, 1) := by decide +kernel
theorem dL_game_527 : decode cL_game 527 = .ok (.goto 4, 3) := by decide +kernel
theorem dL_game_530 : decode cL_game 530 = .ok (.iconst 0, 1) := by decide +kernel
theorem dL_game_531 : decode cL_game 531 = .ok (.ireturn, 1) := by decide +kernel
theorem dL_law_0 : decode cL_law 0 = .ok (.new 32, 3) := by decide +kernel
theorem dL_law_3 : decode cL_law 3 = .ok (.dup, 1) := by decide +kernel
theorem dL_law_4 : decode cL_law 4 = .ok (.invokespecial 77, 3) := by decide +kernel
theorem dL_law_7 : decode cL_law 7 = .ok (.astore_n 1, 1) := by decide +kernel
theorem dL_law_8 : decode cL_law 8 = .ok (.bipush 61, 2) := by decide +kernel
theorem dL_law_10 : decode cL_law 10 = .ok (.newarray .int, 2) := by decide +kernel
theorem dL_law_12 : decode cL_law 12 = .ok (.astore_n 2, 1) := by decide +kernel
theorem dL_law_13 : decode cL_law 13 = .ok (.bipush 61, 2) := by decide +kernel
theorem dL_law_15 : decode cL_law 15 = .ok (.newarray .int, 2) := by decide +kernel
theorem dL_law_17 : decode cL_law 17 = .ok (.astore_n 3, 1) := by decide +kernel
theorem dL_law_18 : decode cL_law 18 = .ok (.bipush 36, 2) := by decide +kernel
theorem dL_law_20 : decode cL_law 20 = .ok (.newarray .int, 2) := by decide +kernel
theorem dL_law_22 : decode cL_law 22 = .ok (.astore 4, 2) := by decide +kernel
theorem dL_law_24 : decode cL_law 24 = .ok (.bipush 7, 2) := by decide +kernel
theorem dL_law_26 : decode cL_law 26 = .ok (.newarray .int, 2) := by decide +kernel
theorem dL_law_28 : decode cL_law 28 = .ok (.astore 5, 2) := by decide +kernel
theorem dL_law_30 : decode cL_law 30 = .ok (.iconst 0, 1) := by decide +kernel
theorem dL_law_31 : decode cL_law 31 = .ok (.istore 6, 2) := by decide +kernel
theorem dL_law_33 : decode cL_law 33 = .ok (.aload 5, 2) := by decide +kernel
theorem dL_law_35 : decode cL_law 35 = .ok (.iconst 0, 1) := by decide +kernel
theorem dL_law_36 : decode cL_law 36 = .ok (.bipush 30, 2) := by decide +kernel
theorem dL_law_38 : decode cL_law 38 = .ok (.iastore, 1) := by decide +kernel
theorem dL_law_39 : decode cL_law 39 = .ok (.iconst 0, 1) := by decide +kernel
theorem dL_law_40 : decode cL_law 40 = .ok (.istore 7, 2) := by decide +kernel
theorem dL_law_42 : decode cL_law 42 = .ok (.iload 7, 2) := by decide +kernel
theorem dL_law_44 : decode cL_law 44 = .ok (.bipush 61, 2) := by decide +kernel
theorem dL_law_46 : decode cL_law 46 = .ok (.if_icmp .ge 14, 3) := by decide +kernel
theorem dL_law_49 : decode cL_law 49 = .ok (.aload_n 2, 1) := by decide +kernel
theorem dL_law_50 : decode cL_law 50 = .ok (.iload 7, 2) := by decide +kernel
theorem dL_law_52 : decode cL_law 52 = .ok (.iconst (-1), 1) := by decide +kernel
theorem dL_law_53 : decode cL_law 53 = .ok (.iastore, 1) := by decide +kernel
theorem dL_law_54 : decode cL_law 54 = .ok (.iinc 7 1, 3) := by decide +kernel
theorem dL_law_57 : decode cL_law 57 = .ok (.goto (-15), 3) := by decide +kernel
theorem dL_law_60 : decode cL_law 60 = .ok (.iconst 0, 1) := by decide +kernel
theorem dL_law_61 : decode cL_law 61 = .ok (.istore 7, 2) := by decide +kernel
theorem dL_law_63 : decode cL_law 63 = .ok (.iload 7, 2) := by decide +kernel
theorem dL_law_65 : decode cL_law 65 = .ok (.bipush 70, 2) := by decide +kernel
theorem dL_law_67 : decode cL_law 67 = .ok (.if_icmp .ge 917, 3) := by decide +kernel
theorem dL_law_70 : decode cL_law 70 = .ok (.aload_n 0, 1) := by decide +kernel
theorem dL_law_71 : decode cL_law 71 = .ok (.iload 7, 2) := by decide +kernel
theorem dL_law_73 : decode cL_law 73 = .ok (.invokestatic 78, 3) := by decide +kernel
theorem dL_law_76 : decode cL_law 76 = .ok (.istore 8, 2) := by decide +kernel
theorem dL_law_78 : decode cL_law 78 = .ok (.iload 8, 2) := by decide +kernel
theorem dL_law_80 : decode cL_law 80 = .ok (.bipush 20, 2) := by decide +kernel
theorem dL_law_82 : decode cL_law 82 = .ok (.invokestatic 82, 3) := by decide +kernel
theorem dL_law_85 : decode cL_law 85 = .ok (.istore 9, 2) := by decide +kernel
theorem dL_law_87 : decode cL_law 87 = .ok (.iload 8, 2) := by decide +kernel
theorem dL_law_89 : decode cL_law 89 = .ok (.iconst 5, 1) := by decide +kernel
theorem dL_law_90 : decode cL_law 90 = .ok (.ishr, 1) := by decide +kernel
theorem dL_law_91 : decode cL_law 91 = .ok (.aload 5, 2) := by decide +kernel
theorem dL_law_93 : decode cL_law 93 = .ok (.iconst 0, 1) := by decide +kernel
theorem dL_law_94 : decode cL_law 94 = .ok (.iaload, 1) := by decide +kernel
theorem dL_law_95 : decode cL_law 95 = .ok (.iconst 1, 1) := by decide +kernel
theorem dL_law_96 : decode cL_law 96 = .ok (.iadd, 1) := by decide +kernel
theorem dL_law_97 : decode cL_law 97 = .ok (.invokestatic 82, 3) := by decide +kernel
theorem dL_law_100 : decode cL_law 100 = .ok (.istore 10, 2) := by decide +kernel
theorem dL_law_102 : decode cL_law 102 = .ok (.iload 10, 2) := by decide +kernel
theorem dL_law_104 : decode cL_law 104 = .ok (.ifCond .le 16, 3) := by decide +kernel
theorem dL_law_107 : decode cL_law 107 = .ok (.iload 10, 2) := by decide +kernel
theorem dL_law_109 : decode cL_law 109 = .ok (.aload 5, 2) := by decide +kernel
theorem dL_law_111 : decode cL_law 111 = .ok (.iconst 0, 1) := by decide +kernel
theorem dL_law_112 : decode cL_law 112 = .ok (.iaload, 1) := by decide +kernel
theorem dL_law_113 : decode cL_law 113 = .ok (.if_icmp .ge 7, 3) := by decide +kernel
theorem dL_law_116 : decode cL_law 116 = .ok (.iconst 1, 1) := by decide +kernel
theorem dL_law_117 : decode cL_law 117 = .ok (.goto 4, 3) := by decide +kernel
theorem dL_law_120 : decode cL_law 120 = .ok (.iconst 0, 1) := by decide +kernel
theorem dL_law_121 : decode cL_law 121 = .ok (.istore 11, 2) := by decide +kernel
theorem dL_law_123 : decode cL_law 123 = .ok (.iconst 0, 1) := by decide +kernel
theorem dL_law_124 : decode cL_law 124 = .ok (.istore 12, 2) := by decide +kernel
theorem dL_law_126 : decode cL_law 126 = .ok (.iconst 0, 1) := by decide +kernel
theorem dL_law_127 : decode cL_law 127 = .ok (.istore 13, 2) := by decide +kernel
theorem dL_law_129 : decode cL_law 129 = .ok (.iconst 0, 1) := by decide +kernel
theorem dL_law_130 : decode cL_law 130 = .ok (.istore 14, 2) := by decide +kernel
theorem dL_law_132 : decode cL_law 132 = .ok (.iload 14, 2) := by decide +kernel
theorem dL_law_134 : decode cL_law 134 = .ok (.aload 5, 2) := by decide +kernel
theorem dL_law_136 : decode cL_law 136 = .ok (.iconst 1, 1) := by decide +kernel
theorem dL_law_137 : decode cL_law 137 = .ok (.iaload, 1) := by decide +kernel
theorem dL_law_138 : decode cL_law 138 = .ok (.if_icmp .ge 32, 3) := by decide +kernel
theorem dL_law_141 : decode cL_law 141 = .ok (.iload 12, 2) := by decide +kernel
theorem dL_law_143 : decode cL_law 143 = .ok (.aload 4, 2) := by decide +kernel
theorem dL_law_145 : decode cL_law 145 = .ok (.bipush 6, 2) := by decide +kernel
theorem dL_law_147 : decode cL_law 147 = .ok (.iload 14, 2) := by decide +kernel
theorem dL_law_149 : decode cL_law 149 = .ok (.imul, 1) := by decide +kernel
theorem dL_law_150 : decode cL_law 150 = .ok (.iaload, 1) := by decide +kernel
theorem dL_law_151 : decode cL_law 151 = .ok (.iload 10, 2) := by decide +kernel
theorem dL_law_153 : decode cL_law 153 = .ok (.if_icmp .ne 7, 3) := by decide +kernel
theorem dL_law_156 : decode cL_law 156 = .ok (.iconst 1, 1) := by decide +kernel
theorem dL_law_157 : decode cL_law 157 = .ok (.goto 4, 3) := by decide +kernel
theorem dL_law_160 : decode cL_law 160 = .ok (.iconst 0, 1) := by decide +kernel
theorem dL_law_161 : decode cL_law 161 = .ok (.iadd, 1) := by decide +kernel
theorem dL_law_162 : decode cL_law 162 = .ok (.istore 12, 2) := by decide +kernel
theorem dL_law_164 : decode cL_law 164 = .ok (.iinc 14 1, 3) := by decide +kernel
theorem dL_law_167 : decode cL_law 167 = .ok (.goto (-35), 3) := by decide +kernel
theorem dL_law_170 : decode cL_law 170 = .ok (.iconst 0, 1) := by decide +kernel
theorem dL_law_171 : decode cL_law 171 = .ok (.istore 14, 2) := by decide +kernel
theorem dL_law_173 : decode cL_law 173 = .ok (.iload 14, 2) := by decide +kernel
theorem dL_law_175 : decode cL_law 175 = .ok (.bipush 61, 2) := by decide +kernel
theorem dL_law_177 : decode cL_law 177 = .ok (.if_icmp .ge 28, 3) := by decide +kernel
theorem dL_law_180 : decode cL_law 180 = .ok (.iload 13, 2) := by decide +kernel
theorem dL_law_182 : decode cL_law 182 = .ok (.aload_n 2, 1) := by decide +kernel
theorem dL_law_183 : decode cL_law 183 = .ok (.iload 14, 2) := by decide +kernel
theorem dL_law_185 : decode cL_law 185 = .ok (.iaload, 1) := by decide +kernel
theorem dL_law_186 : decode cL_law 186 = .ok (.iload 10, 2) := by decide +kernel
theorem dL_law_188 : decode cL_law 188 = .ok (.if_icmp .ne 7, 3) := by decide +kernel
theorem dL_law_191 : decode cL_law 191 = .ok (.iconst 1, 1) := by decide +kernel
theorem dL_law_192 : decode cL_law 192 = .ok (.goto 4, 3) := by decide +kernel
theorem dL_law_195 : decode cL_law 195 = .ok (.iconst 0, 1) := by decide +kernel
theorem dL_law_196 : decode cL_law 196 = .ok (.iadd, 1) := by decide +kernel
theorem dL_law_197 : decode cL_law 197 = .ok (.istore 13, 2) := by decide +kernel
theorem dL_law_199 : decode cL_law 199 = .ok (.iinc 14 1, 3) := by decide +kernel
theorem dL_law_202 : decode cL_law 202 = .ok (.goto (-29), 3) := by decide +kernel
theorem dL_law_205 : decode cL_law 205 = .ok (.iconst 1, 1) := by decide +kernel
theorem dL_law_206 : decode cL_law 206 = .ok (.istore 14, 2) := by decide +kernel
theorem dL_law_208 : decode cL_law 208 = .ok (.iload 9, 2) := by decide +kernel
theorem dL_law_210 : decode cL_law 210 = .ok (.ifCond .ne 12, 3) := by decide +kernel
theorem dL_law_213 : decode cL_law 213 = .ok (.aload 5, 2) := by decide +kernel
theorem dL_law_215 : decode cL_law 215 = .ok (.iconst 1, 1) := by decide +kernel
theorem dL_law_216 : decode cL_law 216 = .ok (.iaload, 1) := by decide +kernel
theorem dL_law_217 : decode cL_law 217 = .ok (.bipush 6, 2) := by decide +kernel
theorem dL_law_219 : decode cL_law 219 = .ok (.if_icmp .lt 9, 3) := by decide +kernel
theorem dL_law_222 : decode cL_law 222 = .ok (.iload 7, 2) := by decide +kernel
theorem dL_law_224 : decode cL_law 224 = .ok (.iconst 2, 1) := by decide +kernel
theorem dL_law_225 : decode cL_law 225 = .ok (.if_icmp .ge 64, 3) := by decide +kernel
theorem dL_law_228 : decode cL_law 228 = .ok (.iconst 0, 1) := by decide +kernel
theorem dL_law_229 : decode cL_law 229 = .ok (.istore 15, 2) := by decide +kernel
theorem dL_law_231 : decode cL_law 231 = .ok (.iload 15, 2) := by decide +kernel
theorem dL_law_233 : decode cL_law 233 = .ok (.bipush 6, 2) := by decide +kernel
theorem dL_law_235 : decode cL_law 235 = .ok (.if_icmp .ge 23, 3) := by decide +kernel
theorem dL_law_238 : decode cL_law 238 = .ok (.aload 4, 2) := by decide +kernel
theorem dL_law_240 : decode cL_law 240 = .ok (.bipush 6, 2) := by decide +kernel
theorem dL_law_242 : decode cL_law 242 = .ok (.aload 5, 2) := by decide +kernel
theorem dL_law_244 : decode cL_law 244 = .ok (.iconst 1, 1) := by decide +kernel
theorem dL_law_245 : decode cL_law 245 = .ok (.iaload, 1) := by decide +kernel
theorem dL_law_246 : decode cL_law 246 = .ok (.imul, 1) := by decide +kernel
theorem dL_law_247 : decode cL_law 247 = .ok (.iload 15, 2) := by decide +kernel
theorem dL_law_249 : decode cL_law 249 = .ok (.iadd, 1) := by decide +kernel
theorem dL_law_250 : decode cL_law 250 = .ok (.iconst 0, 1) := by decide +kernel
theorem dL_law_251 : decode cL_law 251 = .ok (.iastore, 1) := by decide +kernel
theorem dL_law_252 : decode cL_law 252 = .ok (.iinc 15 1, 3) := by decide +kernel
theorem dL_law_255 : decode cL_law 255 = .ok (.goto (-24), 3) := by decide +kernel
theorem dL_law_258 : decode cL_law 258 = .ok (.aload 5, 2) := by decide +kernel
theorem dL_law_260 : decode cL_law 260 = .ok (.iconst 1, 1) := by decide +kernel
theorem dL_law_261 : decode cL_law 261 = .ok (.dup2, 1) := by decide +kernel
theorem dL_law_262 : decode cL_law 262 = .ok (.iaload, 1) := by decide +kernel
theorem dL_law_263 : decode cL_law 263 = .ok (.iconst 1, 1) := by decide +kernel
theorem dL_law_264 : decode cL_law 264 = .ok (.iadd, 1) := by decide +kernel
theorem dL_law_265 : decode cL_law 265 = .ok (.iastore, 1) := by decide +kernel
theorem dL_law_266 : decode cL_law 266 = .ok (.aload_n 1, 1) := by decide +kernel
theorem dL_law_267 : decode cL_law 267 = .ok (.invokevirtual 85, 3) := by decide +kernel
theorem dL_law_270 : decode cL_law 270 = .ok (.aload 5, 2) := by decide +kernel
theorem dL_law_272 : decode cL_law 272 = .ok (.iconst 1, 1) := by decide +kernel
theorem dL_law_273 : decode cL_law 273 = .ok (.iaload, 1) := by decide +kernel
theorem dL_law_274 : decode cL_law 274 = .ok (.iconst 1, 1) := by decide +kernel
theorem dL_law_275 : decode cL_law 275 = .ok (.isub, 1) := by decide +kernel
theorem dL_law_276 : decode cL_law 276 = .ok (.if_icmp .ne 7, 3) := by decide +kernel
theorem dL_law_279 : decode cL_law 279 = .ok (.iconst 1, 1) := by decide +kernel
theorem dL_law_280 : decode cL_law 280 = .ok (.goto 4, 3) := by decide +kernel
theorem dL_law_283 : decode cL_law 283 = .ok (.iconst 0, 1) := by decide +kernel
theorem dL_law_284 : decode cL_law 284 = .ok (.istore 14, 2) := by decide +kernel
theorem dL_law_286 : decode cL_law 286 = .ok (.goto 649, 3) := by decide +kernel
theorem dL_law_289 : decode cL_law 289 = .ok (.iload 9, 2) := by decide +kernel
theorem dL_law_291 : decode cL_law 291 = .ok (.iconst 1, 1) := by decide +kernel
theorem dL_law_292 : decode cL_law 292 = .ok (.if_icmp .ne 175, 3) := by decide +kernel
theorem dL_law_295 : decode cL_law 295 = .ok (.bipush 10, 2) := by decide +kernel
theorem dL_law_297 : decode cL_law 297 = .ok (.iload 8, 2) := by decide +kernel
theorem dL_law_299 : decode cL_law 299 = .ok (.bipush 12, 2) := by decide +kernel
theorem dL_law_301 : decode cL_law 301 = .ok (.ishr, 1) := by decide +kernel
theorem dL_law_302 : decode cL_law 302 = .ok (.iload 8, 2) := by decide +kernel
theorem dL_law_304 : decode cL_law 304 = .ok (.bipush 25, 2) := by decide +kernel
theorem dL_law_306 : decode cL_law 306 = .ok (.ishr, 1) := by decide +kernel
theorem dL_law_307 : decode cL_law 307 = .ok (.iconst 2, 1) := by decide +kernel
theorem dL_law_308 : decode cL_law 308 = .ok (.invokestatic 82, 3) := by decide +kernel
theorem dL_law_311 : decode cL_law 311 = .ok (.ifCond .ne 8, 3) := by decide +kernel
theorem dL_law_314 : decode cL_law 314 = .ok (.bipush 51, 2) := by decide +kernel
theorem dL_law_316 : decode cL_law 316 = .ok (.goto 5, 3) := by decide +kernel
theorem dL_law_319 : decode cL_law 319 = .ok (.bipush 12, 2) := by decide +kernel
theorem dL_law_321 : decode cL_law 321 = .ok (.invokestatic 82, 3) := by decide +kernel
theorem dL_law_324 : decode cL_law 324 = .ok (.iadd, 1) := by decide +kernel
theorem dL_law_325 : decode cL_law 325 = .ok (.istore 15, 2) := by decide +kernel
theorem dL_law_327 : decode cL_law 327 = .ok (.iconst 1, 1) := by decide +kernel
theorem dL_law_328 : decode cL_law 328 = .ok (.istore 16, 2) := by decide +kernel
theorem dL_law_330 : decode cL_law 330 = .ok (.iload 15, 2) := by decide +kernel
theorem dL_law_332 : decode cL_law 332 = .ok (.istore 17, 2) := by decide +kernel
theorem dL_law_334 : decode cL_law 334 = .ok (.iload 17, 2) := by decide +kernel
theorem dL_law_336 : decode cL_law 336 = .ok (.bipush 61, 2) := by decide +kernel
theorem dL_law_338 : decode cL_law 338 = .ok (.if_icmp .ge 35, 3) := by decide +kernel
theorem dL_law_341 : decode cL_law 341 = .ok (.iload 16, 2) := by decide +kernel
theorem dL_law_343 : decode cL_law 343 = .ok (.ifCond .eq 21, 3) := by decide +kernel
theorem dL_law_346 : decode cL_law 346 = .ok (.aload_n 3, 1) := by decide +kernel
theorem dL_law_347 : decode cL_law 347 = .ok (.iload 17, 2) := by decide +kernel
theorem dL_law_349 : decode cL_law 349 = .ok (.iaload, 1) := by decide +kernel
theorem dL_law_350 : decode cL_law 350 = .ok (.ifCond .ne 14, 3) := by decide +kernel
theorem dL_law_353 : decode cL_law 353 = .ok (.aload_n 2, 1) := by decide +kernel
theorem dL_law_354 : decode cL_law 354 = .ok (.iload 17, 2) := by decide +kernel
theorem dL_law_356 : decode cL_law 356 = .ok (.iaload, 1) := by decide +kernel
theorem dL_law_357 : decode cL_law 357 = .ok (.ifCond .ge 7, 3) := by decide +kernel
theorem dL_law_360 : decode cL_law 360 = .ok (.iconst 1, 1) := by decide +kernel
theorem dL_law_361 : decode cL_law 361 = .ok (.goto 4, 3) := by decide +kernel
theorem dL_law_364 : decode cL_law 364 = .ok (.iconst 0, 1) := by decide +kernel
theorem dL_law_365 : decode cL_law 365 = .ok (.istore 16, 2) := by decide +kernel
theorem dL_law_367 : decode cL_law 367 = .ok (.iinc 17 1, 3) := by decide +kernel
theorem dL_law_370 : decode cL_law 370 = .ok (.goto (-36), 3) := by decide +kernel
theorem dL_law_373 : decode cL_law 373 = .ok (.iconst 0, 1) := by decide +kernel
theorem dL_law_374 : decode cL_law 374 = .ok (.istore 17, 2) := by decide +kernel
theorem dL_law_376 : decode cL_law 376 = .ok (.iload 17, 2) := by decide +kernel
theorem dL_law_378 : decode cL_law 378 = .ok (.aload 5, 2) := by decide +kernel
theorem dL_law_380 : decode cL_law 380 = .ok (.iconst 1, 1) := by decide +kernel
theorem dL_law_381 : decode cL_law 381 = .ok (.iaload, 1) := by decide +kernel
theorem dL_law_382 : decode cL_law 382 = .ok (.if_icmp .ge 34, 3) := by decide +kernel
theorem dL_law_385 : decode cL_law 385 = .ok (.iload 16, 2) := by decide +kernel
theorem dL_law_387 : decode cL_law 387 = .ok (.ifCond .eq 20, 3) := by decide +kernel
theorem dL_law_390 : decode cL_law 390 = .ok (.aload 4, 2) := by decide +kernel
theorem dL_law_392 : decode cL_law 392 = .ok (.bipush 6, 2) := by decide +kernel
theorem dL_law_394 : decode cL_law 394 = .ok (.iload 17, 2) := by decide +kernel
theorem dL_law_396 : decode cL_law 396 = .ok (.imul, 1) := by decide +kernel
theorem dL_law_397 : decode cL_law 397 = .ok (.iaload, 1) := by decide +kernel
theorem dL_law_398 : decode cL_law 398 = .ok (.iload 15, 2) := by decide +kernel
theorem dL_law_400 : decode cL_law 400 = .ok (.if_icmp .ge 7, 3) := by decide +kernel
theorem dL_law_403 : decode cL_law 403 = .ok (.iconst 1, 1) := by decide +kernel
theorem dL_law_404 : decode cL_law 404 = .ok (.goto 4, 3) := by decide +kernel
theorem dL_law_407 : decode cL_law 407 = .ok (.iconst 0, 1) := by decide +kernel
theorem dL_law_408 : decode cL_law 408 = .ok (.istore 16, 2) := by decide +kernel
theorem dL_law_410 : decode cL_law 410 = .ok (.iinc 17 1, 3) := by decide +kernel
theorem dL_law_413 : decode cL_law 413 = .ok (.goto (-37), 3) := by decide +kernel
theorem dL_law_416 : decode cL_law 416 = .ok (.aload_n 1, 1) := by decide +kernel
theorem dL_law_417 : decode cL_law 417 = .ok (.iload 15, 2) := by decide +kernel
theorem dL_law_419 : decode cL_law 419 = .ok (.invokevirtual 88, 3) := by decide +kernel
theorem dL_law_422 : decode cL_law 422 = .ok (.iload 16, 2) := by decide +kernel
theorem dL_law_424 : decode cL_law 424 = .ok (.ifCond .eq 10, 3) := by decide +kernel
theorem dL_law_427 : decode cL_law 427 = .ok (.aload 5, 2) := by decide +kernel
theorem dL_law_429 : decode cL_law 429 = .ok (.iconst 0, 1) := by decide +kernel
theorem dL_law_430 : decode cL_law 430 = .ok (.iaload, 1) := by decide +kernel
theorem dL_law_431 : decode cL_law 431 = .ok (.goto 5, 3) := by decide +kernel
theorem dL_law_434 : decode cL_law 434 = .ok (.bipush (-3), 2) := by decide +kernel
theorem dL_law_436 : decode cL_law 436 = .ok (.if_icmp .ne 7, 3) := by decide +kernel
theorem dL_law_439 : decode cL_law 439 = .ok (.iconst 1, 1) := by decide +kernel
theorem dL_law_440 : decode cL_law 440 = .ok (.goto 4, 3) := by decide +kernel
theorem dL_law_443 : decode cL_law 443 = .ok (.iconst 0, 1) := by decide +kernel
theorem dL_law_444 : decode cL_law 444 = .ok (.istore 14, 2) := by decide +kernel
theorem dL_law_446 : decode cL_law 446 = .ok (.aload 5, 2) := by decide +kernel
theorem dL_law_448 : decode cL_law 448 = .ok (.iconst 0, 1) := by decide +kernel
theorem dL_law_449 : decode cL_law 449 = .ok (.iload 16, 2) := by decide +kernel
theorem dL_law_451 : decode cL_law 451 = .ok (.ifCond .eq 8, 3) := by decide +kernel
theorem dL_law_454 : decode cL_law 454 = .ok (.iload 15, 2) := by decide +kernel
theorem dL_law_456 : decode cL_law 456 = .ok (.goto 7, 3) := by decide +kernel
theorem dL_law_459 : decode cL_law 459 = .ok (.aload 5, 2) := by decide +kernel
theorem dL_law_461 : decode cL_law 461 = .ok (.iconst 0, 1) := by decide +kernel
theorem dL_law_462 : decode cL_law 462 = .ok (.iaload, 1) := by decide +kernel
theorem dL_law_463 : decode cL_law 463 = .ok (.iastore, 1) := by decide +kernel
theorem dL_law_464 : decode cL_law 464 = .ok (.goto 471, 3) := by decide +kernel
theorem dL_law_467 : decode cL_law 467 = .ok (.iload 9, 2) := by decide +kernel
theorem dL_law_469 : decode cL_law 469 = .ok (.iconst 2, 1) := by decide +kernel
theorem dL_law_470 : decode cL_law 470 = .ok (.if_icmp .eq 9, 3) := by decide +kernel
theorem dL_law_473 : decode cL_law 473 = .ok (.iload 9, 2) := by decide +kernel
theorem dL_law_475 : decode cL_law 475 = .ok (.iconst 3, 1) := by decide +kernel
theorem dL_law_476 : decode cL_law 476 = .ok (.if_icmp .ne 160, 3) := by decide +kernel
theorem dL_law_479 : decode cL_law 479 = .ok (.iload 8, 2) := by decide +kernel
theorem dL_law_481 : decode cL_law 481 = .ok (.bipush 12, 2) := by decide +kernel
theorem dL_law_483 : decode cL_law 483 = .ok (.ishr, 1) := by decide +kernel
theorem dL_law_484 : decode cL_law 484 = .ok (.iload 10, 2) := by decide +kernel
theorem dL_law_486 : decode cL_law 486 = .ok (.iconst 1, 1) := by decide +kernel
theorem dL_law_487 : decode cL_law 487 = .ok (.iadd, 1) := by decide +kernel
theorem dL_law_488 : decode cL_law 488 = .ok (.invokestatic 82, 3) := by decide +kernel
theorem dL_law_491 : decode cL_law 491 = .ok (.istore 15, 2) := by decide +kernel
theorem dL_law_493 : decode cL_law 493 = .ok (.iload 11, 2) := by decide +kernel
theorem dL_law_495 : decode cL_law 495 = .ok (.ifCond .eq 45, 3) := by decide +kernel
theorem dL_law_498 : decode cL_law 498 = .ok (.iload 15, 2) := by decide +kernel
theorem dL_law_500 : decode cL_law 500 = .ok (.iload 10, 2) := by decide +kernel
theorem dL_law_502 : decode cL_law 502 = .ok (.if_icmp .ge 38, 3) := by decide +kernel
theorem dL_law_505 : decode cL_law 505 = .ok (.aload_n 2, 1) := by decide +kernel
theorem dL_law_506 : decode cL_law 506 = .ok (.iload 10, 2) := by decide +kernel
theorem dL_law_508 : decode cL_law 508 = .ok (.iaload, 1) := by decide +kernel
theorem dL_law_509 : decode cL_law 509 = .ok (.ifCond .ge 31, 3) := by decide +kernel
theorem dL_law_512 : decode cL_law 512 = .ok (.iload 13, 2) := by decide +kernel
theorem dL_law_514 : decode cL_law 514 = .ok (.ifCond .ne 26, 3) := by decide +kernel
theorem dL_law_517 : decode cL_law 517 = .ok (.aload_n 2, 1) := by decide +kernel
theorem dL_law_518 : decode cL_law 518 = .ok (.iload 15, 2) := by decide +kernel
theorem dL_law_520 : decode cL_law 520 = .ok (.iaload, 1) := by decide +kernel
theorem dL_law_521 : decode cL_law 521 = .ok (.ifCond .ge 19, 3) := by decide +kernel
theorem dL_law_524 : decode cL_law 524 = .ok (.aload_n 3, 1) := by decide +kernel
theorem dL_law_525 : decode cL_law 525 = .ok (.iload 10, 2) := by decide +kernel
theorem dL_law_527 : decode cL_law 527 = .ok (.iaload, 1) := by decide +kernel
theorem dL_law_528 : decode cL_law 528 = .ok (.ifCond .ne 12, 3) := by decide +kernel
theorem dL_law_531 : decode cL_law 531 = .ok (.iload 12, 2) := by decide +kernel
theorem dL_law_533 : decode cL_law 533 = .ok (.ifCond .ne 7, 3) := by decide +kernel
theorem dL_law_536 : decode cL_law 536 = .ok (.iconst 1, 1) := by decide +kernel
theorem dL_law_537 : decode cL_law 537 = .ok (.goto 4, 3) := by decide +kernel
theorem dL_law_540 : decode cL_law 540 = .ok (.iconst 0, 1) := by decide +kernel
theorem dL_law_541 : decode cL_law 541 = .ok (.istore 16, 2) := by decide +kernel
theorem dL_law_543 : decode cL_law 543 = .ok (.iload 11, 2) := by decide +kernel
theorem dL_law_545 : decode cL_law 545 = .ok (.ifCond .ne 7, 3) := by decide +kernel
theorem dL_law_548 : decode cL_law 548 = .ok (.iconst (-1), 1) := by decide +kernel
theorem dL_law_549 : decode cL_law 549 = .ok (.goto 41, 3) := by decide +kernel
theorem dL_law_552 : decode cL_law 552 = .ok (.iload 15, 2) := by decide +kernel
theorem dL_law_554 : decode cL_law 554 = .ok (.iload 10, 2) := by decide +kernel
theorem dL_law_556 : decode cL_law 556 = .ok (.if_icmp .lt 8, 3) := by decide +kernel
theorem dL_law_559 : decode cL_law 559 = .ok (.bipush (-2), 2) := by decide +kernel
theorem dL_law_561 : decode cL_law 561 = .ok (.goto 29, 3) := by decide +kernel
theorem dL_law_564 : decode cL_law 564 = .ok (.iload 16, 2) := by decide +kernel
theorem dL_law_566 : decode cL_law 566 = .ok (.ifCond .ne 8, 3) := by decide +kernel
theorem dL_law_569 : decode cL_law 569 = .ok (.bipush (-3), 2) := by decide +kernel
theorem dL_law_571 : decode cL_law 571 = .ok (.goto 19, 3) := by decide +kernel
theorem dL_law_574 : decode cL_law 574 = .ok (.iload 6, 2) := by decide +kernel
theorem dL_law_576 : decode cL_law 576 = .ok (.bipush 6, 2) := by decide +kernel
theorem dL_law_578 : decode cL_law 578 = .ok (.if_icmp .ne 8, 3) := by decide +kernel
theorem dL_law_581 : decode cL_law 581 = .ok (.bipush (-4), 2) := by decide +kernel
theorem dL_law_583 : decode cL_law 583 = .ok (.goto 7, 3) := by decide +kernel
theorem dL_law_586 : decode cL_law 586 = .ok (.iload 6, 2) := by decide +kernel
theorem dL_law_588 : decode cL_law 588 = .ok (.iconst 1, 1) := by decide +kernel
theorem dL_law_589 : decode cL_law 589 = .ok (.iadd, 1) := by decide +kernel
theorem dL_law_590 : decode cL_law 590 = .ok (.istore 17, 2) := by decide +kernel
theorem dL_law_592 : decode cL_law 592 = .ok (.aload_n 1, 1) := by decide +kernel
theorem dL_law_593 : decode cL_law 593 = .ok (.iload 10, 2) := by decide +kernel
theorem dL_law_595 : decode cL_law 595 = .ok (.iload 15, 2) := by decide +kernel
theorem dL_law_597 : decode cL_law 597 = .ok (.invokevirtual 91, 3) := by decide +kernel
theorem dL_law_600 : decode cL_law 600 = .ok (.iload 17, 2) := by decide +kernel
theorem dL_law_602 : decode cL_law 602 = .ok (.if_icmp .ne 7, 3) := by decide +kernel
theorem dL_law_605 : decode cL_law 605 = .ok (.iconst 1, 1) := by decide +kernel
theorem dL_law_606 : decode cL_law 606 = .ok (.goto 4, 3) := by decide +kernel
theorem dL_law_609 : decode cL_law 609 = .ok (.iconst 0, 1) := by decide +kernel
theorem dL_law_610 : decode cL_law 610 = .ok (.istore 14, 2) := by decide +kernel
theorem dL_law_612 : decode cL_law 612 = .ok (.iload 16, 2) := by decide +kernel
theorem dL_law_614 : decode cL_law 614 = .ok (.ifCond .eq 19, 3) := by decide +kernel
theorem dL_law_617 : decode cL_law 617 = .ok (.iload 6, 2) := by decide +kernel
theorem dL_law_619 : decode cL_law 619 = .ok (.bipush 6, 2) := by decide +kernel
theorem dL_law_621 : decode cL_law 621 = .ok (.if_icmp .ge 12, 3) := by decide +kernel
theorem dL_law_624 : decode cL_law 624 = .ok (.aload_n 2, 1) := by decide +kernel
theorem dL_law_625 : decode cL_law 625 = .ok (.iload 10, 2) := by decide +kernel
theorem dL_law_627 : decode cL_law 627 = .ok (.iload 15, 2) := by decide +kernel
theorem dL_law_629 : decode cL_law 629 = .ok (.iastore, 1) := by decide +kernel
theorem dL_law_630 : decode cL_law 630 = .ok (.iinc 6 1, 3) := by decide +kernel
theorem dL_law_633 : decode cL_law 633 = .ok (.goto 302, 3) := by decide +kernel
theorem dL_law_636 : decode cL_law 636 = .ok (.iload 9, 2) := by decide +kernel
theorem dL_law_638 : decode cL_law 638 = .ok (.iconst 4, 1) := by decide +kernel
theorem dL_law_639 : decode cL_law 639 = .ok (.if_icmp .ne 51, 3) := by decide +kernel
theorem dL_law_642 : decode cL_law 642 = .ok (.aload_n 2, 1) := by decide +kernel
theorem dL_law_643 : decode cL_law 643 = .ok (.iload 10, 2) := by decide +kernel
theorem dL_law_645 : decode cL_law 645 = .ok (.iaload, 1) := by decide +kernel
theorem dL_law_646 : decode cL_law 646 = .ok (.ifCond .lt 44, 3) := by decide +kernel
theorem dL_law_649 : decode cL_law 649 = .ok (.aload_n 1, 1) := by decide +kernel
theorem dL_law_650 : decode cL_law 650 = .ok (.iload 10, 2) := by decide +kernel
theorem dL_law_652 : decode cL_law 652 = .ok (.invokevirtual 94, 3) := by decide +kernel
theorem dL_law_655 : decode cL_law 655 = .ok (.aload_n 2, 1) := by decide +kernel
theorem dL_law_656 : decode cL_law 656 = .ok (.iload 10, 2) := by decide +kernel
theorem dL_law_658 : decode cL_law 658 = .ok (.iaload, 1) := by decide +kernel
theorem dL_law_659 : decode cL_law 659 = .ok (.if_icmp .ne 17, 3) := by decide +kernel
theorem dL_law_662 : decode cL_law 662 = .ok (.aload_n 1, 1) := by decide +kernel
theorem dL_law_663 : decode cL_law 663 = .ok (.iload 10, 2) := by decide +kernel
theorem dL_law_665 : decode cL_law 665 = .ok (.invokevirtual 94, 3) := by decide +kernel
theorem dL_law_668 : decode cL_law 668 = .ok (.iconst (-1), 1) := by decide +kernel
theorem dL_law_669 : decode cL_law 669 = .ok (.if_icmp .ne 7, 3) := by decide +kernel
theorem dL_law_672 : decode cL_law 672 = .ok (.iconst 1, 1) := by decide +kernel
theorem dL_law_673 : decode cL_law 673 = .ok (.goto 4, 3) := by decide +kernel
theorem dL_law_676 : decode cL_law 676 = .ok (.iconst 0, 1) := by decide +kernel
theorem dL_law_677 : decode cL_law 677 = .ok (.istore 14, 2) := by decide +kernel
theorem dL_law_679 : decode cL_law 679 = .ok (.aload_n 2, 1) := by decide +kernel
theorem dL_law_680 : decode cL_law 680 = .ok (.iload 10, 2) := by decide +kernel
theorem dL_law_682 : decode cL_law 682 = .ok (.iconst (-1), 1) := by decide +kernel
theorem dL_law_683 : decode cL_law 683 = .ok (.iastore, 1) := by decide +kernel
theorem dL_law_684 : decode cL_law 684 = .ok (.iinc 6 (-1), 3) := by decide +kernel
theorem dL_law_687 : decode cL_law 687 = .ok (.goto 248, 3) := by decide +kernel
theorem dL_law_690 : decode cL_law 690 = .ok (.iload 9, 2) := by decide +kernel
theorem dL_law_692 : decode cL_law 692 = .ok (.iconst 4, 1) := by decide +kernel
theorem dL_law_693 : decode cL_law 693 = .ok (.if_icmp .eq 9, 3) := by decide +kernel
theorem dL_law_696 : decode cL_law 696 = .ok (.iload 9, 2) := by decide +kernel
theorem dL_law_698 : decode cL_law 698 = .ok (.iconst 5, 1) := by decide +kernel
theorem dL_law_699 : decode cL_law 699 = .ok (.if_icmp .ne 88, 3) := by decide +kernel
theorem dL_law_702 : decode cL_law 702 = .ok (.iload 11, 2) := by decide +kernel
theorem dL_law_704 : decode cL_law 704 = .ok (.ifCond .eq 21, 3) := by decide +kernel
theorem dL_law_707 : decode cL_law 707 = .ok (.aload_n 3, 1) := by decide +kernel
theorem dL_law_708 : decode cL_law 708 = .ok (.iload 10, 2) := by decide +kernel
theorem dL_law_710 : decode cL_law 710 = .ok (.iaload, 1) := by decide +kernel
theorem dL_law_711 : decode cL_law 711 = .ok (.ifCond .ne 14, 3) := by decide +kernel
theorem dL_law_714 : decode cL_law 714 = .ok (.aload_n 2, 1) := by decide +kernel
theorem dL_law_715 : decode cL_law 715 = .ok (.iload 10, 2) := by decide +kernel
theorem dL_law_717 : decode cL_law 717 = .ok (.iaload, 1) := by decide +kernel
theorem dL_law_718 : decode cL_law 718 = .ok (.ifCond .ge 7, 3) := by decide +kernel
theorem dL_law_721 : decode cL_law 721 = .ok (.iconst 1, 1) := by decide +kernel
theorem dL_law_722 : decode cL_law 722 = .ok (.goto 4, 3) := by decide +kernel
theorem dL_law_725 : decode cL_law 725 = .ok (.iconst 0, 1) := by decide +kernel
theorem dL_law_726 : decode cL_law 726 = .ok (.istore 15, 2) := by decide +kernel
theorem dL_law_728 : decode cL_law 728 = .ok (.aload_n 3, 1) := by decide +kernel
theorem dL_law_729 : decode cL_law 729 = .ok (.iload 10, 2) := by decide +kernel
theorem dL_law_731 : decode cL_law 731 = .ok (.iload 15, 2) := by decide +kernel
theorem dL_law_733 : decode cL_law 733 = .ok (.ifCond .eq 7, 3) := by decide +kernel
theorem dL_law_736 : decode cL_law 736 = .ok (.iconst 1, 1) := by decide +kernel
theorem dL_law_737 : decode cL_law 737 = .ok (.goto 7, 3) := by decide +kernel
theorem dL_law_740 : decode cL_law 740 = .ok (.aload_n 3, 1) := by decide +kernel
theorem dL_law_741 : decode cL_law 741 = .ok (.iload 10, 2) := by decide +kernel
theorem dL_law_743 : decode cL_law 743 = .ok (.iaload, 1) := by decide +kernel
theorem dL_law_744 : decode cL_law 744 = .ok (.iastore, 1) := by decide +kernel
theorem dL_law_745 : decode cL_law 745 = .ok (.aload_n 1, 1) := by decide +kernel
theorem dL_law_746 : decode cL_law 746 = .ok (.iload 10, 2) := by decide +kernel
theorem dL_law_748 : decode cL_law 748 = .ok (.invokevirtual 97, 3) := by decide +kernel
theorem dL_law_751 : decode cL_law 751 = .ok (.iload 11, 2) := by decide +kernel
theorem dL_law_753 : decode cL_law 753 = .ok (.ifCond .ne 7, 3) := by decide +kernel
theorem dL_law_756 : decode cL_law 756 = .ok (.iconst (-1), 1) := by decide +kernel
theorem dL_law_757 : decode cL_law 757 = .ok (.goto 17, 3) := by decide +kernel
theorem dL_law_760 : decode cL_law 760 = .ok (.iload 15, 2) := by decide +kernel
theorem dL_law_762 : decode cL_law 762 = .ok (.ifCond .eq 10, 3) := by decide +kernel
theorem dL_law_765 : decode cL_law 765 = .ok (.aload_n 3, 1) := by decide +kernel
theorem dL_law_766 : decode cL_law 766 = .ok (.invokestatic 73, 3) := by decide +kernel
theorem dL_law_769 : decode cL_law 769 = .ok (.goto 5, 3) := by decide +kernel
theorem dL_law_772 : decode cL_law 772 = .ok (.bipush (-3), 2) := by decide +kernel
theorem dL_law_774 : decode cL_law 774 = .ok (.if_icmp .ne 7, 3) := by decide +kernel
theorem dL_law_777 : decode cL_law 777 = .ok (.iconst 1, 1) := by decide +kernel
theorem dL_law_778 : decode cL_law 778 = .ok (.goto 4, 3) := by decide +kernel
theorem dL_law_781 : decode cL_law 781 = .ok (.iconst 0, 1) := by decide +kernel
theorem dL_law_782 : decode cL_law 782 = .ok (.istore 14, 2) := by decide +kernel
theorem dL_law_784 : decode cL_law 784 = .ok (.goto 151, 3) := by decide +kernel
theorem dL_law_787 : decode cL_law 787 = .ok (.iload 9, 2) := by decide +kernel
theorem dL_law_789 : decode cL_law 789 = .ok (.bipush 6, 2) := by decide +kernel
theorem dL_law_791 : decode cL_law 791 = .ok (.if_icmp .ne 53, 3) := by decide +kernel
theorem dL_law_794 : decode cL_law 794 = .ok (.iload 8, 2) := by decide +kernel
theorem dL_law_796 : decode cL_law 796 = .ok (.bipush 12, 2) := by decide +kernel
theorem dL_law_798 : decode cL_law 798 = .ok (.ishr, 1) := by decide +kernel
theorem dL_law_799 : decode cL_law 799 = .ok (.iconst 2, 1) := by decide +kernel
theorem dL_law_800 : decode cL_law 800 = .ok (.invokestatic 82, 3) := by decide +kernel
theorem dL_law_803 : decode cL_law 803 = .ok (.ifCond .ne 41, 3) := by decide +kernel
theorem dL_law_806 : decode cL_law 806 = .ok (.aload_n 1, 1) := by decide +kernel
theorem dL_law_807 : decode cL_law 807 = .ok (.iload 10, 2) := by decide +kernel
theorem dL_law_809 : decode cL_law 809 = .ok (.invokevirtual 100, 3) := by decide +kernel
theorem dL_law_812 : decode cL_law 812 = .ok (.aload_n 3, 1) := by decide +kernel
theorem dL_law_813 : decode cL_law 813 = .ok (.iload 10, 2) := by decide +kernel
theorem dL_law_815 : decode cL_law 815 = .ok (.iaload, 1) := by decide +kernel
theorem dL_law_816 : decode cL_law 816 = .ok (.iconst 1, 1) := by decide +kernel
theorem dL_law_817 : decode cL_law 817 = .ok (.if_icmp .ne 8, 3) := by decide +kernel
theorem dL_law_820 : decode cL_law 820 = .ok (.iload 12, 2) := by decide +kernel
theorem dL_law_822 : decode cL_law 822 = .ok (.goto 4, 3) := by decide +kernel
theorem dL_law_825 : decode cL_law 825 = .ok (.iconst (-1), 1) := by decide +kernel
theorem dL_law_826 : decode cL_law 826 = .ok (.if_icmp .ne 7, 3) := by decide +kernel
theorem dL_law_829 : decode cL_law 829 = .ok (.iconst 1, 1) := by decide +kernel
theorem dL_law_830 : decode cL_law 830 = .ok (.goto 4, 3) := by decide +kernel
theorem dL_law_833 : decode cL_law 833 = .ok (.iconst 0, 1) := by decide +kernel
theorem dL_law_834 : decode cL_law 834 = .ok (.istore 14, 2) := by decide +kernel
theorem dL_law_836 : decode cL_law 836 = .ok (.aload_n 3, 1) := by decide +kernel
theorem dL_law_837 : decode cL_law 837 = .ok (.iload 10, 2) := by decide +kernel
theorem dL_law_839 : decode cL_law 839 = .ok (.iconst 0, 1) := by decide +kernel
theorem dL_law_840 : decode cL_law 840 = .ok (.iastore, 1) := by decide +kernel
theorem dL_law_841 : decode cL_law 841 = .ok (.goto 94, 3) := by decide +kernel
theorem dL_law_844 : decode cL_law 844 = .ok (.iload 9, 2) := by decide +kernel
theorem dL_law_846 : decode cL_law 846 = .ok (.bipush 7, 2) := by decide +kernel
theorem dL_law_848 : decode cL_law 848 = .ok (.if_icmp .ne 31, 3) := by decide +kernel
theorem dL_law_851 : decode cL_law 851 = .ok (.aload 4, 2) := by decide +kernel
theorem dL_law_853 : decode cL_law 853 = .ok (.aload 5, 2) := by decide +kernel
theorem dL_law_855 : decode cL_law 855 = .ok (.invokestatic 16, 3) := by decide +kernel
theorem dL_law_858 : decode cL_law 858 = .ok (.aload_n 1, 1) := by decide +kernel
theorem dL_law_859 : decode cL_law 859 = .ok (.invokevirtual 103, 3) := by decide +kernel
theorem dL_law_862 : decode cL_law 862 = .ok (.aload 5, 2) := by decide +kernel
theorem dL_law_864 : decode cL_law 864 = .ok (.iconst 2, 1) := by decide +kernel
theorem dL_law_865 : decode cL_law 865 = .ok (.iaload, 1) := by decide +kernel
theorem dL_law_866 : decode cL_law 866 = .ok (.if_icmp .ne 7, 3) := by decide +kernel
theorem dL_law_869 : decode cL_law 869 = .ok (.iconst 1, 1) := by decide +kernel
theorem dL_law_870 : decode cL_law 870 = .ok (.goto 4, 3) := by decide +kernel
theorem dL_law_873 : decode cL_law 873 = .ok (.iconst 0, 1) := by decide +kernel
theorem dL_law_874 : decode cL_law 874 = .ok (.istore 14, 2) := by decide +kernel
theorem dL_law_876 : decode cL_law 876 = .ok (.goto 59, 3) := by decide +kernel
theorem dL_law_879 : decode cL_law 879 = .ok (.iconst 1, 1) := by decide +kernel
theorem dL_law_880 : decode cL_law 880 = .ok (.iload 8, 2) := by decide +kernel
theorem dL_law_882 : decode cL_law 882 = .ok (.bipush 12, 2) := by decide +kernel
theorem dL_law_884 : decode cL_law 884 = .ok (.ishr, 1) := by decide +kernel
theorem dL_law_885 : decode cL_law 885 = .ok (.bipush 6, 2) := by decide +kernel
theorem dL_law_887 : decode cL_law 887 = .ok (.invokestatic 82, 3) := by decide +kernel
theorem dL_law_890 : decode cL_law 890 = .ok (.iadd, 1) := by decide +kernel
theorem dL_law_891 : decode cL_law 891 = .ok (.istore 15, 2) := by decide +kernel
theorem dL_law_893 : decode cL_law 893 = .ok (.aload 5, 2) := by decide +kernel
theorem dL_law_895 : decode cL_law 895 = .ok (.iconst 2, 1) := by decide +kernel
theorem dL_law_896 : decode cL_law 896 = .ok (.iaload, 1) := by decide +kernel
theorem dL_law_897 : decode cL_law 897 = .ok (.istore 16, 2) := by decide +kernel
theorem dL_law_899 : decode cL_law 899 = .ok (.aload_n 2, 1) := by decide +kernel
theorem dL_law_900 : decode cL_law 900 = .ok (.aload_n 3, 1) := by decide +kernel
theorem dL_law_901 : decode cL_law 901 = .ok (.aload 4, 2) := by decide +kernel
theorem dL_law_903 : decode cL_law 903 = .ok (.aload 5, 2) := by decide +kernel
theorem dL_law_905 : decode cL_law 905 = .ok (.iload 15, 2) := by decide +kernel
theorem dL_law_907 : decode cL_law 907 = .ok (.invokestatic 23, 3) := by decide +kernel
theorem dL_law_910 : decode cL_law 910 = .ok (.pop, 1) := by decide +kernel
theorem dL_law_911 : decode cL_law 911 = .ok (.aload_n 1, 1) := by decide +kernel
theorem dL_law_912 : decode cL_law 912 = .ok (.iload 15, 2) := by decide +kernel
theorem dL_law_914 : decode cL_law 914 = .ok (.invokevirtual 106, 3) := by decide +kernel
theorem dL_law_917 : decode cL_law 917 = .ok (.aload 4, 2) := by decide +kernel
theorem dL_law_919 : decode cL_law 919 = .ok (.bipush 6, 2) := by decide +kernel
theorem dL_law_921 : decode cL_law 921 = .ok (.iload 16, 2) := by decide +kernel
theorem dL_law_923 : decode cL_law 923 = .ok (.imul, 1) := by decide +kernel
theorem dL_law_924 : decode cL_law 924 = .ok (.iaload, 1) := by decide +kernel
theorem dL_law_925 : decode cL_law 925 = .ok (.if_icmp .ne 7, 3) := by decide +kernel
theorem dL_law_928 : decode cL_law 928 = .ok (.iconst 1, 1) := by decide +kernel
theorem dL_law_929 : decode cL_law 929 = .ok (.goto 4, 3) := by decide +kernel
theorem dL_law_932 : decode cL_law 932 = .ok (.iconst 0, 1) := by decide +kernel
theorem dL_law_933 : decode cL_law 933 = .ok (.istore 14, 2) := by decide +kernel
theorem dL_law_935 : decode cL_law 935 = .ok (.iload 14, 2) := by decide +kernel
theorem dL_law_937 : decode cL_law 937 = .ok (.ifCond .eq 39, 3) := by decide +kernel
theorem dL_law_940 : decode cL_law 940 = .ok (.aload_n 1, 1) := by decide +kernel
theorem dL_law_941 : decode cL_law 941 = .ok (.aload_n 2, 1) := by decide +kernel
theorem dL_law_942 : decode cL_law 942 = .ok (.aload_n 3, 1) := by decide +kernel
theorem dL_law_943 : decode cL_law 943 = .ok (.aload 4, 2) := by decide +kernel
theorem dL_law_945 : decode cL_law 945 = .ok (.aload 5, 2) := by decide +kernel
theorem dL_law_947 : decode cL_law 947 = .ok (.iload 6, 2) := by decide +kernel
theorem dL_law_949 : decode cL_law 949 = .ok (.invokestatic 108, 3) := by decide +kernel
theorem dL_law_952 : decode cL_law 952 = .ok (.ifCond .eq 24, 3) := by decide +kernel
theorem dL_law_955 : decode cL_law 955 = .ok (.iload 7, 2) := by decide +kernel
theorem dL_law_957 : decode cL_law 957 = .ok (.iconst 2, 1) := by decide +kernel
theorem dL_law_958 : decode cL_law 958 = .ok (.irem, 1) := by decide +kernel
theorem dL_law_959 : decode cL_law 959 = .ok (.iconst 1, 1) := by decide +kernel
theorem dL_law_960 : decode cL_law 960 = .ok (.if_icmp .ne 18, 3) := by decide +kernel
theorem dL_law_963 : decode cL_law 963 = .ok (.aload_n 1, 1) := by decide +kernel
theorem dL_law_964 : decode cL_law 964 = .ok (.aload_n 2, 1) := by decide +kernel
theorem dL_law_965 : decode cL_law 965 = .ok (.aload_n 3, 1) := by decide +kernel
theorem dL_law_966 : decode cL_law 966 = .ok (.aload 4, 2) := by decide +kernel
theorem dL_law_968 : decode cL_law 968 = .ok (.aload 5, 2) := by decide +kernel
theorem dL_law_970 : decode cL_law 970 = .ok (.invokestatic 112, 3) := by decide +kernel
theorem dL_law_973 : decode cL_law 973 = .ok (.ifCond .ne 5, 3) := by decide +kernel
theorem dL_law_976 : decode cL_law 976 = .ok (.iconst 0, 1) := by decide +kernel
theorem dL_law_977 : decode cL_law 977 = .ok (.ireturn, 1) := by decide +kernel
theorem dL_law_978 : decode cL_law 978 = .ok (.iinc 7 1, 3) := by decide +kernel
theorem dL_law_981 : decode cL_law 981 = .ok (.goto (-918), 3) := by decide +kernel
theorem dL_law_984 : decode cL_law 984 = .ok (.iconst 1, 1) := by decide +kernel
theorem dL_law_985 : decode cL_law 985 = .ok (.ireturn, 1) := by decide +kernel
abbrev vwCl : List vw_C := [(RX0, TX0, 13), (RX1, TX1, 2), (RX2, TX2, 2), (RX3, TX3, 7)]
