section
-- ===== PART A: goes FIRST, ahead of the names: the tables' words, and 'selects' of the private methods out of them =====
/-- a private method of a class that the tables say can be made, by its rows of tables_1 -/
def lw_okq (q : MethodName × Nat) : Prop := (q.1.cls ≠ "java/lang/invoke/MethodHandle" ∧ q.1.cls ≠ "java/lang/invoke/VarHandle") ∧ Cond.instantiable q.1.cls q.2 ∈ tables_1 ∧ Cond.privateMethod q.1 ∈ tables_1 ∧ Cond.instanceMethod q.1 ∈ tables_1
theorem lw_p0 : lw_okq (⟨"LiftingStairs", "recordUnlessError", "(I)I"⟩, 7) := ⟨⟨by decide +kernel, by decide +kernel⟩, List.mem_of_getElem? (i := 8) (by decide +kernel), List.mem_of_getElem? (i := 141) (by decide +kernel), List.mem_of_getElem? (i := 142) (by decide +kernel)⟩
theorem lw_p1 : lw_okq (⟨"LiftingStairs$History", "makeOldestLast", "()V"⟩, 2) := ⟨⟨by decide +kernel, by decide +kernel⟩, List.mem_of_getElem? (i := 66) (by decide +kernel), List.mem_of_getElem? (i := 149) (by decide +kernel), List.mem_of_getElem? (i := 150) (by decide +kernel)⟩
theorem lw_p2 : lw_okq (⟨"LiftingStairs$Game", "liftThosePassed", "(I)V"⟩, 13) := ⟨⟨by decide +kernel, by decide +kernel⟩, List.mem_of_getElem? (i := 16) (by decide +kernel), List.mem_of_getElem? (i := 239) (by decide +kernel), List.mem_of_getElem? (i := 240) (by decide +kernel)⟩
theorem lw_p3 : lw_okq (⟨"LiftingStairs$Game", "isPassed", "(II)Z"⟩, 13) := ⟨⟨by decide +kernel, by decide +kernel⟩, List.mem_of_getElem? (i := 16) (by decide +kernel), List.mem_of_getElem? (i := 243) (by decide +kernel), List.mem_of_getElem? (i := 244) (by decide +kernel)⟩
theorem lw_p4 : lw_okq (⟨"LiftingStairs$Game", "comeTo", "(II)V"⟩, 13) := ⟨⟨by decide +kernel, by decide +kernel⟩, List.mem_of_getElem? (i := 16) (by decide +kernel), List.mem_of_getElem? (i := 247) (by decide +kernel), List.mem_of_getElem? (i := 248) (by decide +kernel)⟩
theorem lw_p5 : lw_okq (⟨"LiftingStairs$Game", "goToNextMover", "()V"⟩, 13) := ⟨⟨by decide +kernel, by decide +kernel⟩, List.mem_of_getElem? (i := 16) (by decide +kernel), List.mem_of_getElem? (i := 251) (by decide +kernel), List.mem_of_getElem? (i := 252) (by decide +kernel)⟩
theorem lw_p6 : lw_okq (⟨"LiftingStairs$Game", "behind", "(I)I"⟩, 13) := ⟨⟨by decide +kernel, by decide +kernel⟩, List.mem_of_getElem? (i := 16) (by decide +kernel), List.mem_of_getElem? (i := 255) (by decide +kernel), List.mem_of_getElem? (i := 256) (by decide +kernel)⟩
theorem lw_p7 : lw_okq (⟨"LiftingStairs", "rollInTrial", "(I)I"⟩, 7) := ⟨⟨by decide +kernel, by decide +kernel⟩, List.mem_of_getElem? (i := 8) (by decide +kernel), List.mem_of_getElem? (i := 303) (by decide +kernel), List.mem_of_getElem? (i := 304) (by decide +kernel)⟩
theorem lw_p8 : lw_okq (⟨"LiftingStairs", "gainOfRoll", "(I)I"⟩, 7) := ⟨⟨by decide +kernel, by decide +kernel⟩, List.mem_of_getElem? (i := 8) (by decide +kernel), List.mem_of_getElem? (i := 329) (by decide +kernel), List.mem_of_getElem? (i := 330) (by decide +kernel)⟩
theorem lw_p9 : lw_okq (⟨"LiftingStairs$Game", "climbersAheadOf", "(I)I"⟩, 13) := ⟨⟨by decide +kernel, by decide +kernel⟩, List.mem_of_getElem? (i := 16) (by decide +kernel), List.mem_of_getElem? (i := 365) (by decide +kernel), List.mem_of_getElem? (i := 366) (by decide +kernel)⟩
theorem lw_p10 : lw_okq (⟨"LiftingStairs$Game", "reachedWithOneMore", "(J)J"⟩, 13) := ⟨⟨by decide +kernel, by decide +kernel⟩, List.mem_of_getElem? (i := 16) (by decide +kernel), List.mem_of_getElem? (i := 378) (by decide +kernel), List.mem_of_getElem? (i := 379) (by decide +kernel)⟩
theorem lw_p11 : lw_okq (⟨"LiftingStairs$Game", "reachedFrom", "(I)J"⟩, 13) := ⟨⟨by decide +kernel, by decide +kernel⟩, List.mem_of_getElem? (i := 16) (by decide +kernel), List.mem_of_getElem? (i := 382) (by decide +kernel), List.mem_of_getElem? (i := 383) (by decide +kernel)⟩
def lw_privs_1 : List (MethodName × Nat) := [(⟨"LiftingStairs", "recordUnlessError", "(I)I"⟩, 7), (⟨"LiftingStairs$History", "makeOldestLast", "()V"⟩, 2), (⟨"LiftingStairs$Game", "liftThosePassed", "(I)V"⟩, 13), (⟨"LiftingStairs$Game", "isPassed", "(II)Z"⟩, 13), (⟨"LiftingStairs$Game", "comeTo", "(II)V"⟩, 13), (⟨"LiftingStairs$Game", "goToNextMover", "()V"⟩, 13), (⟨"LiftingStairs$Game", "behind", "(I)I"⟩, 13), (⟨"LiftingStairs", "rollInTrial", "(I)I"⟩, 7), (⟨"LiftingStairs", "gainOfRoll", "(I)I"⟩, 7), (⟨"LiftingStairs$Game", "climbersAheadOf", "(I)I"⟩, 13), (⟨"LiftingStairs$Game", "reachedWithOneMore", "(J)J"⟩, 13), (⟨"LiftingStairs$Game", "reachedFrom", "(I)J"⟩, 13)]
theorem lw_r1 : ∀ q ∈ lw_privs_1, lw_okq q := List.forall_mem_cons.mpr ⟨lw_p0, List.forall_mem_cons.mpr ⟨lw_p1, List.forall_mem_cons.mpr ⟨lw_p2, List.forall_mem_cons.mpr ⟨lw_p3, List.forall_mem_cons.mpr ⟨lw_p4, List.forall_mem_cons.mpr ⟨lw_p5, List.forall_mem_cons.mpr ⟨lw_p6, List.forall_mem_cons.mpr ⟨lw_p7, List.forall_mem_cons.mpr ⟨lw_p8, List.forall_mem_cons.mpr ⟨lw_p9, List.forall_mem_cons.mpr ⟨lw_p10, List.forall_mem_cons.mpr ⟨lw_p11, fun _ h => absurd h List.not_mem_nil⟩⟩⟩⟩⟩⟩⟩⟩⟩⟩⟩⟩
def lw_privs : List (MethodName × Nat) := lw_privs_1
def lw_tbl : List Cond := k2_sels lw_privs ++ tables_1
theorem lw_privs_ok : ∀ q ∈ lw_privs, lw_okq q := lw_r1
end
section
theorem goodIn_r {big : List Cond} (ws : List Cond) (ps : List Nat) (hp : ws = ps.filterMap (fun i => big[i]?)) (h : ws.all goodWord = true) : GoodIn big ws := by
  intro w hw
  have h1 := List.all_eq_true.mp h w hw
  rw [hp] at hw
  obtain ⟨i, -, hi⟩ := List.mem_filterMap.mp hw
  have hm : w ∈ big := by first | exact List.mem_of_getElem? hi | exact List.getElem?_mem hi
  exact ⟨hm, good_of_word h1⟩
theorem goodIn_app {big a b : List Cond} (ha : GoodIn big a) (hb : GoodIn big b) : GoodIn big (a ++ b) := fun w h => (List.mem_append.mp h).elim (ha w) (hb w)
theorem goodIn_ca {big a b : List Cond} {c : Cond} (ha : GoodIn big (c :: a)) (hb : GoodIn big b) : GoodIn big (c :: (a ++ b)) := fun w h => (List.mem_cons.mp h).elim (fun e => ha w (List.mem_cons.mpr (Or.inl e))) (fun h => (List.mem_append.mp h).elim (fun h => ha w (List.mem_cons.mpr (Or.inr h))) (hb w))
theorem goodIn_sub {big ws : List Cond} (hm : ∀ w ∈ ws, w ∈ big) (h : ws.all goodWord = true) : GoodIn big ws := fun w hw => ⟨hm w hw, good_of_word (List.all_eq_true.mp h w hw)⟩
def RX0 : String := "LiftingStairs$Game"
def TX0 : u_T := fun k => match k with
  | 0 => ("LiftingStairs$Game", "lowerEnds", "[I", true)
  | 1 => ("LiftingStairs$Game", "landings", "[Z", true)
  | 2 => ("LiftingStairs$Game", "places", "[I", true)
  | 3 => ("LiftingStairs$Game", "tops", "[I", true)
  | 4 => ("LiftingStairs$Game", "rests", "[I", true)
  | 5 => ("LiftingStairs$Game", "timesLifted", "[I", true)
  | 6 => ("LiftingStairs$Game", "liftsMade", "[I", true)
  | 7 => ("LiftingStairs$Game", "slips", "[I", true)
  | 8 => ("LiftingStairs$Game", "top", "I", false)
  | 9 => ("LiftingStairs$Game", "climbers", "I", false)
  | 10 => ("LiftingStairs$Game", "mover", "I", false)
  | 11 => ("LiftingStairs$Game", "rolls", "I", false)
  | _ => ("LiftingStairs$Game", "turnsLeftOut", "I", false)
def tyX0 : Nat → FieldType := fun k => match k with
  | 0 => .array .int
  | 1 => .array .boolean
  | 2 => .array .int
  | 3 => .array .int
  | 4 => .array .int
  | 5 => .array .int
  | 6 => .array .int
  | 7 => .array .int
  | 8 => .int
  | 9 => .int
  | 10 => .int
  | 11 => .int
  | _ => .int
abbrev wsX00 : List Cond := u_ws RX0 TX0 13
theorem nmX0 : ∀ a, a < 13 → ∀ b, b < 13 → a ≠ b → (TX0 a).2.1 ≠ (TX0 b).2.1 := by decide +kernel
theorem tyX0_ok : ∀ k, k < 13 → parseFieldDescriptor (TX0 k).2.2.1 = some (tyX0 k) := by decide +kernel
abbrev cX0_init : ByteArray := prog_2_method_1_code
def yX0_init : MethodName := ⟨RX0, "<init>", "()V"⟩
abbrev cX0_copyFrom : ByteArray := prog_2_method_2_code
def yX0_copyFrom : MethodName := ⟨RX0, "copyFrom", "(LLiftingStairs$Game;)V"⟩
abbrev cX0_isBelowTop : ByteArray := prog_2_method_3_code
def yX0_isBelowTop : MethodName := ⟨RX0, "isBelowTop", "(I)Z"⟩
abbrev cX0_isClimber : ByteArray := prog_2_method_4_code
def yX0_isClimber : MethodName := ⟨RX0, "isClimber", "(I)Z"⟩
abbrev cX0_hasMover : ByteArray := prog_2_method_5_code
def yX0_hasMover : MethodName := ⟨RX0, "hasMover", "()Z"⟩
abbrev cX0_changeTop : ByteArray := prog_2_method_6_code
def yX0_changeTop : MethodName := ⟨RX0, "changeTop", "(I)I"⟩
abbrev cX0_layCarpet : ByteArray := prog_2_method_7_code
def yX0_layCarpet : MethodName := ⟨RX0, "layCarpet", "(II)I"⟩
abbrev cX0_takeCarpet : ByteArray := prog_2_method_8_code
def yX0_takeCarpet : MethodName := ⟨RX0, "takeCarpet", "(I)I"⟩
abbrev cX0_putLanding : ByteArray := prog_2_method_9_code
def yX0_putLanding : MethodName := ⟨RX0, "putLanding", "(I)I"⟩
abbrev cX0_removeLanding : ByteArray := prog_2_method_10_code
def yX0_removeLanding : MethodName := ⟨RX0, "removeLanding", "(I)I"⟩
abbrev cX0_addClimber : ByteArray := prog_2_method_11_code
def yX0_addClimber : MethodName := ⟨RX0, "addClimber", "()I"⟩
abbrev cX0_makeRoll : ByteArray := prog_2_method_12_code
def yX0_makeRoll : MethodName := ⟨RX0, "makeRoll", "(I)I"⟩
abbrev cX0_makePass : ByteArray := prog_2_method_13_code
def yX0_makePass : MethodName := ⟨RX0, "makePass", "()I"⟩
abbrev cX0_wouldLift : ByteArray := prog_2_method_14_code
def yX0_wouldLift : MethodName := ⟨RX0, "wouldLift", "(I)Z"⟩
abbrev cX0_isPassed : ByteArray := prog_2_method_15_code
def yX0_isPassed : MethodName := ⟨RX0, "isPassed", "(II)Z"⟩
abbrev cX0_liftThosePassed : ByteArray := prog_2_method_16_code
def yX0_liftThosePassed : MethodName := ⟨RX0, "liftThosePassed", "(I)V"⟩
abbrev cX0_comeTo : ByteArray := prog_2_method_17_code
def yX0_comeTo : MethodName := ⟨RX0, "comeTo", "(II)V"⟩
abbrev cX0_goToNextMover : ByteArray := prog_2_method_18_code
def yX0_goToNextMover : MethodName := ⟨RX0, "goToNextMover", "()V"⟩
abbrev cX0_behind : ByteArray := prog_2_method_19_code
def yX0_behind : MethodName := ⟨RX0, "behind", "(I)I"⟩
abbrev cX0_isLanding : ByteArray := prog_2_method_20_code
def yX0_isLanding : MethodName := ⟨RX0, "isLanding", "(I)Z"⟩
abbrev cX0_isUpperEnd : ByteArray := prog_2_method_21_code
def yX0_isUpperEnd : MethodName := ⟨RX0, "isUpperEnd", "(I)Z"⟩
abbrev cX0_climbersOn : ByteArray := prog_2_method_22_code
def yX0_climbersOn : MethodName := ⟨RX0, "climbersOn", "(I)I"⟩
abbrev cX0_countCarpets : ByteArray := prog_2_method_23_code
def yX0_countCarpets : MethodName := ⟨RX0, "countCarpets", "()I"⟩
abbrev cX0_countLandings : ByteArray := prog_2_method_24_code
def yX0_countLandings : MethodName := ⟨RX0, "countLandings", "()I"⟩
abbrev cX0_lowerEndsAt : ByteArray := prog_2_method_25_code
def yX0_lowerEndsAt : MethodName := ⟨RX0, "lowerEndsAt", "(I)I"⟩
abbrev cX0_partOfStep : ByteArray := prog_2_method_26_code
def yX0_partOfStep : MethodName := ⟨RX0, "partOfStep", "(II)I"⟩
abbrev cX0_partOfClimber : ByteArray := prog_2_method_27_code
def yX0_partOfClimber : MethodName := ⟨RX0, "partOfClimber", "(II)I"⟩
abbrev cX0_progressOf : ByteArray := prog_2_method_28_code
def yX0_progressOf : MethodName := ⟨RX0, "progressOf", "(I)I"⟩
abbrev cX0_totalOf : ByteArray := prog_2_method_29_code
def yX0_totalOf : MethodName := ⟨RX0, "totalOf", "(I)I"⟩
abbrev cX0_liftsOfAll : ByteArray := prog_2_method_30_code
def yX0_liftsOfAll : MethodName := ⟨RX0, "liftsOfAll", "()I"⟩
abbrev cX0_slipsOfAll : ByteArray := prog_2_method_31_code
def yX0_slipsOfAll : MethodName := ⟨RX0, "slipsOfAll", "()I"⟩
abbrev cX0_topsOfAll : ByteArray := prog_2_method_32_code
def yX0_topsOfAll : MethodName := ⟨RX0, "topsOfAll", "()I"⟩
abbrev cX0_sumOf : ByteArray := prog_2_method_33_code
def yX0_sumOf : MethodName := ⟨RX0, "sumOf", "([I)I"⟩
abbrev cX0_climberAtPlace : ByteArray := prog_2_method_34_code
def yX0_climberAtPlace : MethodName := ⟨RX0, "climberAtPlace", "(I)I"⟩
abbrev cX0_climbersAheadOf : ByteArray := prog_2_method_35_code
def yX0_climbersAheadOf : MethodName := ⟨RX0, "climbersAheadOf", "(I)I"⟩
abbrev cX0_fewestRollsOf : ByteArray := prog_2_method_36_code
def yX0_fewestRollsOf : MethodName := ⟨RX0, "fewestRollsOf", "(I)I"⟩
abbrev cX0_reachedWithOneMore : ByteArray := prog_2_method_37_code
def yX0_reachedWithOneMore : MethodName := ⟨RX0, "reachedWithOneMore", "(J)J"⟩
abbrev cX0_reachedFrom : ByteArray := prog_2_method_38_code
def yX0_reachedFrom : MethodName := ⟨RX0, "reachedFrom", "(I)J"⟩
def RX1 : String := "LiftingStairs$History"
def TX1 : u_T := fun k => match k with
  | 0 => ("LiftingStairs$History", "games", "[LLiftingStairs$Game;", true)
  | _ => ("LiftingStairs$History", "count", "I", false)
def tyX1 : Nat → FieldType := fun k => match k with
  | 0 => .array (.object "LiftingStairs$Game")
  | _ => .int
abbrev wsX10 : List Cond := u_ws RX1 TX1 2
theorem nmX1 : ∀ a, a < 2 → ∀ b, b < 2 → a ≠ b → (TX1 a).2.1 ≠ (TX1 b).2.1 := by decide +kernel
theorem tyX1_ok : ∀ k, k < 2 → parseFieldDescriptor (TX1 k).2.2.1 = some (tyX1 k) := by decide +kernel
abbrev cX1_init : ByteArray := prog_3_method_1_code
def yX1_init : MethodName := ⟨RX1, "<init>", "()V"⟩
abbrev cX1_keep : ByteArray := prog_3_method_3_code
def yX1_keep : MethodName := ⟨RX1, "keep", "(LLiftingStairs$Game;)V"⟩
abbrev cX1_makeOldestLast : ByteArray := prog_3_method_5_code
def yX1_makeOldestLast : MethodName := ⟨RX1, "makeOldestLast", "()V"⟩
def RX2 : String := "LiftingStairs$MoveText"
def TX2 : u_T := fun k => match k with
  | 0 => ("LiftingStairs$MoveText", "signs", "[C", true)
  | _ => ("LiftingStairs$MoveText", "length", "I", false)
def tyX2 : Nat → FieldType := fun k => match k with
  | 0 => .array .char
  | _ => .int
abbrev wsX20 : List Cond := u_ws RX2 TX2 2
theorem nmX2 : ∀ a, a < 2 → ∀ b, b < 2 → a ≠ b → (TX2 a).2.1 ≠ (TX2 b).2.1 := by decide +kernel
theorem tyX2_ok : ∀ k, k < 2 → parseFieldDescriptor (TX2 k).2.2.1 = some (tyX2 k) := by decide +kernel
abbrev cX2_init : ByteArray := prog_4_method_1_code
def yX2_init : MethodName := ⟨RX2, "<init>", "()V"⟩
def RX3 : String := "LiftingStairs"
def TX3 : u_T := fun k => match k with
  | 0 => ("LiftingStairs", "game", "LLiftingStairs$Game;", true)
  | 1 => ("LiftingStairs", "ahead", "LLiftingStairs$Game;", true)
  | 2 => ("LiftingStairs", "trial", "LLiftingStairs$Game;", true)
  | 3 => ("LiftingStairs", "saved", "LLiftingStairs$Game;", true)
  | 4 => ("LiftingStairs", "history", "LLiftingStairs$History;", true)
  | 5 => ("LiftingStairs", "text", "LLiftingStairs$MoveText;", true)
  | _ => ("LiftingStairs", "hasSaved", "Z", false)
def tyX3 : Nat → FieldType := fun k => match k with
  | 0 => .object "LiftingStairs$Game"
  | 1 => .object "LiftingStairs$Game"
  | 2 => .object "LiftingStairs$Game"
  | 3 => .object "LiftingStairs$Game"
  | 4 => .object "LiftingStairs$History"
  | 5 => .object "LiftingStairs$MoveText"
  | _ => .boolean
abbrev wsX30 : List Cond := u_ws RX3 TX3 7
theorem nmX3 : ∀ a, a < 7 → ∀ b, b < 7 → a ≠ b → (TX3 a).2.1 ≠ (TX3 b).2.1 := by decide +kernel
theorem tyX3_ok : ∀ k, k < 7 → parseFieldDescriptor (TX3 k).2.2.1 = some (tyX3 k) := by decide +kernel
abbrev cX3_init : ByteArray := prog_1_method_1_code
def yX3_init : MethodName := ⟨RX3, "<init>", "()V"⟩
abbrev cX3_setTop : ByteArray := prog_1_method_2_code
def yX3_setTop : MethodName := ⟨RX3, "setTop", "(I)I"⟩
abbrev cX3_lay : ByteArray := prog_1_method_3_code
def yX3_lay : MethodName := ⟨RX3, "lay", "(II)I"⟩
abbrev cX3_take : ByteArray := prog_1_method_4_code
def yX3_take : MethodName := ⟨RX3, "take", "(I)I"⟩
abbrev cX3_put : ByteArray := prog_1_method_5_code
def yX3_put : MethodName := ⟨RX3, "put", "(I)I"⟩
abbrev cX3_remove : ByteArray := prog_1_method_6_code
def yX3_remove : MethodName := ⟨RX3, "remove", "(I)I"⟩
abbrev cX3_join : ByteArray := prog_1_method_7_code
def yX3_join : MethodName := ⟨RX3, "join", "()I"⟩
abbrev cX3_roll : ByteArray := prog_1_method_8_code
def yX3_roll : MethodName := ⟨RX3, "roll", "(I)I"⟩
abbrev cX3_pass : ByteArray := prog_1_method_9_code
def yX3_pass : MethodName := ⟨RX3, "pass", "()I"⟩
abbrev cX3_climber : ByteArray := prog_1_method_10_code
def yX3_climber : MethodName := ⟨RX3, "climber", "(II)I"⟩
abbrev cX3_turn : ByteArray := prog_1_method_11_code
def yX3_turn : MethodName := ⟨RX3, "turn", "()I"⟩
abbrev cX3_on : ByteArray := prog_1_method_12_code
def yX3_on : MethodName := ⟨RX3, "on", "(I)I"⟩
abbrev cX3_step : ByteArray := prog_1_method_13_code
def yX3_step : MethodName := ⟨RX3, "step", "(II)I"⟩
abbrev cX3_total : ByteArray := prog_1_method_14_code
def yX3_total : MethodName := ⟨RX3, "total", "(I)I"⟩
abbrev cX3_rank : ByteArray := prog_1_method_15_code
def yX3_rank : MethodName := ⟨RX3, "rank", "(I)I"⟩
abbrev cX3_ifRolled : ByteArray := prog_1_method_16_code
def yX3_ifRolled : MethodName := ⟨RX3, "ifRolled", "(II)I"⟩
abbrev cX3_bestRoll : ByteArray := prog_1_method_17_code
def yX3_bestRoll : MethodName := ⟨RX3, "bestRoll", "()I"⟩
abbrev cX3_quietRolls : ByteArray := prog_1_method_18_code
def yX3_quietRolls : MethodName := ⟨RX3, "quietRolls", "()I"⟩
abbrev cX3_rollsToTop : ByteArray := prog_1_method_19_code
def yX3_rollsToTop : MethodName := ⟨RX3, "rollsToTop", "(I)I"⟩
abbrev cX3_recordUnlessError : ByteArray := prog_1_method_27_code
def yX3_recordUnlessError : MethodName := ⟨RX3, "recordUnlessError", "(I)I"⟩
abbrev cX3_rollInTrial : ByteArray := prog_1_method_28_code
def yX3_rollInTrial : MethodName := ⟨RX3, "rollInTrial", "(I)I"⟩
abbrev cX3_gainOfRoll : ByteArray := prog_1_method_29_code
def yX3_gainOfRoll : MethodName := ⟨RX3, "gainOfRoll", "(I)I"⟩
abbrev cX3_isRoll : ByteArray := prog_1_method_32_code
def yX3_isRoll : MethodName := ⟨RX3, "isRoll", "(I)Z"⟩
def RX4 : String := "LiftingStairsModel"
def TX4 : u_T := fun k => match k with
  | _ => ("", "", "", false)
def tyX4 : Nat → FieldType := fun k => match k with
  | _ => .int
abbrev wsX40 : List Cond := u_ws RX4 TX4 0
theorem nmX4 : ∀ a, a < 0 → ∀ b, b < 0 → a ≠ b → (TX4 a).2.1 ≠ (TX4 b).2.1 := by decide +kernel
theorem tyX4_ok : ∀ k, k < 0 → parseFieldDescriptor (TX4 k).2.2.1 = some (tyX4 k) := by decide +kernel
def RJ6 : String := "java/lang/Integer"
def TJ6 : u_T := fun k => match k with
  | _ => ("", "", "", false)
def tyJ6 : Nat → FieldType := fun k => match k with
  | _ => .int
abbrev wsJ60 : List Cond := u_ws RJ6 TJ6 0
theorem nmJ6 : ∀ a, a < 0 → ∀ b, b < 0 → a ≠ b → (TJ6 a).2.1 ≠ (TJ6 b).2.1 := by decide +kernel
theorem tyJ6_ok : ∀ k, k < 0 → parseFieldDescriptor (TJ6 k).2.2.1 = some (tyJ6 k) := by decide +kernel
abbrev cJ6_bitCount_0f7a4 : ByteArray := prog_7_method_49_code
def yJ6_bitCount_0f7a4 : MethodName := ⟨RJ6, "bitCount", "(I)I"⟩
def RJ10 : String := "java/lang/System"
def TJ10 : u_T := fun k => match k with
  | _ => ("", "", "", false)
def tyJ10 : Nat → FieldType := fun k => match k with
  | _ => .int
abbrev wsJ100 : List Cond := u_ws RJ10 TJ10 0
theorem nmJ10 : ∀ a, a < 0 → ∀ b, b < 0 → a ≠ b → (TJ10 a).2.1 ≠ (TJ10 b).2.1 := by decide +kernel
theorem tyJ10_ok : ∀ k, k < 0 → parseFieldDescriptor (TJ10 k).2.2.1 = some (tyJ10 k) := by decide +kernel
def RL : String := "LiftingStairsLaw"
abbrev cL_cell : ByteArray := method_2_code
def yL_cell : MethodName := ⟨RL, "cell", "([II)I"⟩
abbrev cL_low : ByteArray := method_3_code
def yL_low : MethodName := ⟨RL, "low", "(II)I"⟩
abbrev cL_come : ByteArray := method_4_code
def yL_come : MethodName := ⟨RL, "come", "([I[I[III)V"⟩
abbrev cL_next : ByteArray := method_5_code
def yL_next : MethodName := ⟨RL, "next", "([I[I)V"⟩
abbrev cL_roll : ByteArray := method_6_code
def yL_roll : MethodName := ⟨RL, "roll", "([I[I[I[II)I"⟩
abbrev cL_progress : ByteArray := method_7_code
def yL_progress : MethodName := ⟨RL, "progress", "([I[II)I"⟩
abbrev cL_tops : ByteArray := method_8_code
def yL_tops : MethodName := ⟨RL, "tops", "([I[I)I"⟩
abbrev cL_copy : ByteArray := method_9_code
def yL_copy : MethodName := ⟨RL, "copy", "([I[I)V"⟩
abbrev cL_sum : ByteArray := method_10_code
def yL_sum : MethodName := ⟨RL, "sum", "([I)I"⟩
abbrev cL_ahead : ByteArray := method_11_code
def yL_ahead : MethodName := ⟨RL, "ahead", "(LLiftingStairs;[I[I[I[I)Z"⟩
abbrev cL_fewest : ByteArray := method_12_code
def yL_fewest : MethodName := ⟨RL, "fewest", "([I[II)I"⟩
abbrev cL_game : ByteArray := method_13_code
def yL_game : MethodName := ⟨RL, "game", "(LLiftingStairs;[I[I[I[II)Z"⟩
abbrev cL_law : ByteArray := code
def yL_law : MethodName := ⟨RL, "law", "([I)Z"⟩
theorem dX0_init_0 : decode cX0_init 0 = .ok (.aload_n 0, 1) := by decide +kernel
theorem dX0_init_1 : decode cX0_init 1 = .ok (.invokespecial 3, 3) := by decide +kernel
theorem dX0_init_4 : decode cX0_init 4 = .ok (.aload_n 0, 1) := by decide +kernel
theorem dX0_init_5 : decode cX0_init 5 = .ok (.bipush 60, 2) := by decide +kernel
theorem dX0_init_7 : decode cX0_init 7 = .ok (.newarray .int, 2) := by decide +kernel
theorem dX0_init_9 : decode cX0_init 9 = .ok (.putfield 9, 3) := by decide +kernel
theorem dX0_init_12 : decode cX0_init 12 = .ok (.aload_n 0, 1) := by decide +kernel
theorem dX0_init_13 : decode cX0_init 13 = .ok (.bipush 60, 2) := by decide +kernel
theorem dX0_init_15 : decode cX0_init 15 = .ok (.newarray .boolean, 2) := by decide +kernel
theorem dX0_init_17 : decode cX0_init 17 = .ok (.putfield 15, 3) := by decide +kernel
theorem dX0_init_20 : decode cX0_init 20 = .ok (.aload_n 0, 1) := by decide +kernel
theorem dX0_init_21 : decode cX0_init 21 = .ok (.bipush 6, 2) := by decide +kernel
theorem dX0_init_23 : decode cX0_init 23 = .ok (.newarray .int, 2) := by decide +kernel
theorem dX0_init_25 : decode cX0_init 25 = .ok (.putfield 19, 3) := by decide +kernel
theorem dX0_init_28 : decode cX0_init 28 = .ok (.aload_n 0, 1) := by decide +kernel
theorem dX0_init_29 : decode cX0_init 29 = .ok (.bipush 6, 2) := by decide +kernel
theorem dX0_init_31 : decode cX0_init 31 = .ok (.newarray .int, 2) := by decide +kernel
theorem dX0_init_33 : decode cX0_init 33 = .ok (.putfield 22, 3) := by decide +kernel
theorem dX0_init_36 : decode cX0_init 36 = .ok (.aload_n 0, 1) := by decide +kernel
theorem dX0_init_37 : decode cX0_init 37 = .ok (.bipush 6, 2) := by decide +kernel
theorem dX0_init_39 : decode cX0_init 39 = .ok (.newarray .int, 2) := by decide +kernel
theorem dX0_init_41 : decode cX0_init 41 = .ok (.putfield 25, 3) := by decide +kernel
theorem dX0_init_44 : decode cX0_init 44 = .ok (.aload_n 0, 1) := by decide +kernel
theorem dX0_init_45 : decode cX0_init 45 = .ok (.bipush 6, 2) := by decide +kernel
theorem dX0_init_47 : decode cX0_init 47 = .ok (.newarray .int, 2) := by decide +kernel
theorem dX0_init_49 : decode cX0_init 49 = .ok (.putfield 28, 3) := by decide +kernel
theorem dX0_init_52 : decode cX0_init 52 = .ok (.aload_n 0, 1) := by decide +kernel
theorem dX0_init_53 : decode cX0_init 53 = .ok (.bipush 6, 2) := by decide +kernel
theorem dX0_init_55 : decode cX0_init 55 = .ok (.newarray .int, 2) := by decide +kernel
theorem dX0_init_57 : decode cX0_init 57 = .ok (.putfield 31, 3) := by decide +kernel
theorem dX0_init_60 : decode cX0_init 60 = .ok (.aload_n 0, 1) := by decide +kernel
theorem dX0_init_61 : decode cX0_init 61 = .ok (.bipush 6, 2) := by decide +kernel
theorem dX0_init_63 : decode cX0_init 63 = .ok (.newarray .int, 2) := by decide +kernel
theorem dX0_init_65 : decode cX0_init 65 = .ok (.putfield 34, 3) := by decide +kernel
theorem dX0_init_68 : decode cX0_init 68 = .ok (.aload_n 0, 1) := by decide +kernel
theorem dX0_init_69 : decode cX0_init 69 = .ok (.bipush 30, 2) := by decide +kernel
theorem dX0_init_71 : decode cX0_init 71 = .ok (.putfield 37, 3) := by decide +kernel
theorem dX0_init_74 : decode cX0_init 74 = .ok (.aload_n 0, 1) := by decide +kernel
theorem dX0_init_75 : decode cX0_init 75 = .ok (.iconst 0, 1) := by decide +kernel
theorem dX0_init_76 : decode cX0_init 76 = .ok (.putfield 41, 3) := by decide +kernel
theorem dX0_init_79 : decode cX0_init 79 = .ok (.aload_n 0, 1) := by decide +kernel
theorem dX0_init_80 : decode cX0_init 80 = .ok (.iconst 0, 1) := by decide +kernel
theorem dX0_init_81 : decode cX0_init 81 = .ok (.putfield 44, 3) := by decide +kernel
theorem dX0_init_84 : decode cX0_init 84 = .ok (.aload_n 0, 1) := by decide +kernel
theorem dX0_init_85 : decode cX0_init 85 = .ok (.iconst 0, 1) := by decide +kernel
theorem dX0_init_86 : decode cX0_init 86 = .ok (.putfield 47, 3) := by decide +kernel
theorem dX0_init_89 : decode cX0_init 89 = .ok (.aload_n 0, 1) := by decide +kernel
theorem dX0_init_90 : decode cX0_init 90 = .ok (.iconst 0, 1) := by decide +kernel
theorem dX0_init_91 : decode cX0_init 91 = .ok (.putfield 50, 3) := by decide +kernel
theorem dX0_init_94 : decode cX0_init 94 = .ok (.iconst 0, 1) := by decide +kernel
theorem dX0_init_95 : decode cX0_init 95 = .ok (.istore_n 1, 1) := by decide +kernel
theorem dX0_init_96 : decode cX0_init 96 = .ok (.iload_n 1, 1) := by decide +kernel
theorem dX0_init_97 : decode cX0_init 97 = .ok (.bipush 60, 2) := by decide +kernel
theorem dX0_init_99 : decode cX0_init 99 = .ok (.if_icmp .ge 17, 3) := by decide +kernel
theorem dX0_init_102 : decode cX0_init 102 = .ok (.aload_n 0, 1) := by decide +kernel
theorem dX0_init_103 : decode cX0_init 103 = .ok (.getfield 9, 3) := by decide +kernel
theorem dX0_init_106 : decode cX0_init 106 = .ok (.iload_n 1, 1) := by decide +kernel
theorem dX0_init_107 : decode cX0_init 107 = .ok (.bipush (-6), 2) := by decide +kernel
theorem dX0_init_109 : decode cX0_init 109 = .ok (.iastore, 1) := by decide +kernel
theorem dX0_init_110 : decode cX0_init 110 = .ok (.iinc 1 1, 3) := by decide +kernel
theorem dX0_init_113 : decode cX0_init 113 = .ok (.goto (-17), 3) := by decide +kernel
theorem dX0_init_116 : decode cX0_init 116 = .ok (.return_, 1) := by decide +kernel
theorem dX0_copyFrom_0 : decode cX0_copyFrom 0 = .ok (.aload_n 1, 1) := by decide +kernel
theorem dX0_copyFrom_1 : decode cX0_copyFrom 1 = .ok (.ifnonnull 4, 3) := by decide +kernel
theorem dX0_copyFrom_4 : decode cX0_copyFrom 4 = .ok (.return_, 1) := by decide +kernel
theorem dX0_copyFrom_5 : decode cX0_copyFrom 5 = .ok (.aload_n 1, 1) := by decide +kernel
theorem dX0_copyFrom_6 : decode cX0_copyFrom 6 = .ok (.getfield 9, 3) := by decide +kernel
theorem dX0_copyFrom_9 : decode cX0_copyFrom 9 = .ok (.iconst 0, 1) := by decide +kernel
theorem dX0_copyFrom_10 : decode cX0_copyFrom 10 = .ok (.aload_n 0, 1) := by decide +kernel
theorem dX0_copyFrom_11 : decode cX0_copyFrom 11 = .ok (.getfield 9, 3) := by decide +kernel
theorem dX0_copyFrom_14 : decode cX0_copyFrom 14 = .ok (.iconst 0, 1) := by decide +kernel
theorem dX0_copyFrom_15 : decode cX0_copyFrom 15 = .ok (.bipush 60, 2) := by decide +kernel
theorem dX0_copyFrom_17 : decode cX0_copyFrom 17 = .ok (.invokestatic 53, 3) := by decide +kernel
theorem dX0_copyFrom_20 : decode cX0_copyFrom 20 = .ok (.aload_n 1, 1) := by decide +kernel
theorem dX0_copyFrom_21 : decode cX0_copyFrom 21 = .ok (.getfield 15, 3) := by decide +kernel
theorem dX0_copyFrom_24 : decode cX0_copyFrom 24 = .ok (.iconst 0, 1) := by decide +kernel
theorem dX0_copyFrom_25 : decode cX0_copyFrom 25 = .ok (.aload_n 0, 1) := by decide +kernel
theorem dX0_copyFrom_26 : decode cX0_copyFrom 26 = .ok (.getfield 15, 3) := by decide +kernel
theorem dX0_copyFrom_29 : decode cX0_copyFrom 29 = .ok (.iconst 0, 1) := by decide +kernel
theorem dX0_copyFrom_30 : decode cX0_copyFrom 30 = .ok (.bipush 60, 2) := by decide +kernel
theorem dX0_copyFrom_32 : decode cX0_copyFrom 32 = .ok (.invokestatic 53, 3) := by decide +kernel
theorem dX0_copyFrom_35 : decode cX0_copyFrom 35 = .ok (.aload_n 1, 1) := by decide +kernel
theorem dX0_copyFrom_36 : decode cX0_copyFrom 36 = .ok (.getfield 19, 3) := by decide +kernel
theorem dX0_copyFrom_39 : decode cX0_copyFrom 39 = .ok (.iconst 0, 1) := by decide +kernel
theorem dX0_copyFrom_40 : decode cX0_copyFrom 40 = .ok (.aload_n 0, 1) := by decide +kernel
theorem dX0_copyFrom_41 : decode cX0_copyFrom 41 = .ok (.getfield 19, 3) := by decide +kernel
theorem dX0_copyFrom_44 : decode cX0_copyFrom 44 = .ok (.iconst 0, 1) := by decide +kernel
theorem dX0_copyFrom_45 : decode cX0_copyFrom 45 = .ok (.bipush 6, 2) := by decide +kernel
theorem dX0_copyFrom_47 : decode cX0_copyFrom 47 = .ok (.invokestatic 53, 3) := by decide +kernel
theorem dX0_copyFrom_50 : decode cX0_copyFrom 50 = .ok (.aload_n 1, 1) := by decide +kernel
theorem dX0_copyFrom_51 : decode cX0_copyFrom 51 = .ok (.getfield 22, 3) := by decide +kernel
theorem dX0_copyFrom_54 : decode cX0_copyFrom 54 = .ok (.iconst 0, 1) := by decide +kernel
theorem dX0_copyFrom_55 : decode cX0_copyFrom 55 = .ok (.aload_n 0, 1) := by decide +kernel
theorem dX0_copyFrom_56 : decode cX0_copyFrom 56 = .ok (.getfield 22, 3) := by decide +kernel
theorem dX0_copyFrom_59 : decode cX0_copyFrom 59 = .ok (.iconst 0, 1) := by decide +kernel
theorem dX0_copyFrom_60 : decode cX0_copyFrom 60 = .ok (.bipush 6, 2) := by decide +kernel
theorem dX0_copyFrom_62 : decode cX0_copyFrom 62 = .ok (.invokestatic 53, 3) := by decide +kernel
theorem dX0_copyFrom_65 : decode cX0_copyFrom 65 = .ok (.aload_n 1, 1) := by decide +kernel
theorem dX0_copyFrom_66 : decode cX0_copyFrom 66 = .ok (.getfield 25, 3) := by decide +kernel
theorem dX0_copyFrom_69 : decode cX0_copyFrom 69 = .ok (.iconst 0, 1) := by decide +kernel
theorem dX0_copyFrom_70 : decode cX0_copyFrom 70 = .ok (.aload_n 0, 1) := by decide +kernel
theorem dX0_copyFrom_71 : decode cX0_copyFrom 71 = .ok (.getfield 25, 3) := by decide +kernel
theorem dX0_copyFrom_74 : decode cX0_copyFrom 74 = .ok (.iconst 0, 1) := by decide +kernel
theorem dX0_copyFrom_75 : decode cX0_copyFrom 75 = .ok (.bipush 6, 2) := by decide +kernel
theorem dX0_copyFrom_77 : decode cX0_copyFrom 77 = .ok (.invokestatic 53, 3) := by decide +kernel
theorem dX0_copyFrom_80 : decode cX0_copyFrom 80 = .ok (.aload_n 1, 1) := by decide +kernel
theorem dX0_copyFrom_81 : decode cX0_copyFrom 81 = .ok (.getfield 28, 3) := by decide +kernel
theorem dX0_copyFrom_84 : decode cX0_copyFrom 84 = .ok (.iconst 0, 1) := by decide +kernel
theorem dX0_copyFrom_85 : decode cX0_copyFrom 85 = .ok (.aload_n 0, 1) := by decide +kernel
theorem dX0_copyFrom_86 : decode cX0_copyFrom 86 = .ok (.getfield 28, 3) := by decide +kernel
theorem dX0_copyFrom_89 : decode cX0_copyFrom 89 = .ok (.iconst 0, 1) := by decide +kernel
theorem dX0_copyFrom_90 : decode cX0_copyFrom 90 = .ok (.bipush 6, 2) := by decide +kernel
theorem dX0_copyFrom_92 : decode cX0_copyFrom 92 = .ok (.invokestatic 53, 3) := by decide +kernel
theorem dX0_copyFrom_95 : decode cX0_copyFrom 95 = .ok (.aload_n 1, 1) := by decide +kernel
theorem dX0_copyFrom_96 : decode cX0_copyFrom 96 = .ok (.getfield 31, 3) := by decide +kernel
theorem dX0_copyFrom_99 : decode cX0_copyFrom 99 = .ok (.iconst 0, 1) := by decide +kernel
theorem dX0_copyFrom_100 : decode cX0_copyFrom 100 = .ok (.aload_n 0, 1) := by decide +kernel
theorem dX0_copyFrom_101 : decode cX0_copyFrom 101 = .ok (.getfield 31, 3) := by decide +kernel
theorem dX0_copyFrom_104 : decode cX0_copyFrom 104 = .ok (.iconst 0, 1) := by decide +kernel
theorem dX0_copyFrom_105 : decode cX0_copyFrom 105 = .ok (.bipush 6, 2) := by decide +kernel
theorem dX0_copyFrom_107 : decode cX0_copyFrom 107 = .ok (.invokestatic 53, 3) := by decide +kernel
theorem dX0_copyFrom_110 : decode cX0_copyFrom 110 = .ok (.aload_n 1, 1) := by decide +kernel
theorem dX0_copyFrom_111 : decode cX0_copyFrom 111 = .ok (.getfield 34, 3) := by decide +kernel
theorem dX0_copyFrom_114 : decode cX0_copyFrom 114 = .ok (.iconst 0, 1) := by decide +kernel
theorem dX0_copyFrom_115 : decode cX0_copyFrom 115 = .ok (.aload_n 0, 1) := by decide +kernel
theorem dX0_copyFrom_116 : decode cX0_copyFrom 116 = .ok (.getfield 34, 3) := by decide +kernel
theorem dX0_copyFrom_119 : decode cX0_copyFrom 119 = .ok (.iconst 0, 1) := by decide +kernel
theorem dX0_copyFrom_120 : decode cX0_copyFrom 120 = .ok (.bipush 6, 2) := by decide +kernel
theorem dX0_copyFrom_122 : decode cX0_copyFrom 122 = .ok (.invokestatic 53, 3) := by decide +kernel
theorem dX0_copyFrom_125 : decode cX0_copyFrom 125 = .ok (.aload_n 0, 1) := by decide +kernel
theorem dX0_copyFrom_126 : decode cX0_copyFrom 126 = .ok (.aload_n 1, 1) := by decide +kernel
theorem dX0_copyFrom_127 : decode cX0_copyFrom 127 = .ok (.getfield 37, 3) := by decide +kernel
theorem dX0_copyFrom_130 : decode cX0_copyFrom 130 = .ok (.putfield 37, 3) := by decide +kernel
theorem dX0_copyFrom_133 : decode cX0_copyFrom 133 = .ok (.aload_n 0, 1) := by decide +kernel
theorem dX0_copyFrom_134 : decode cX0_copyFrom 134 = .ok (.aload_n 1, 1) := by decide +kernel
theorem dX0_copyFrom_135 : decode cX0_copyFrom 135 = .ok (.getfield 41, 3) := by decide +kernel
theorem dX0_copyFrom_138 : decode cX0_copyFrom 138 = .ok (.putfield 41, 3) := by decide +kernel
theorem dX0_copyFrom_141 : decode cX0_copyFrom 141 = .ok (.aload_n 0, 1) := by decide +kernel
theorem dX0_copyFrom_142 : decode cX0_copyFrom 142 = .ok (.aload_n 1, 1) := by decide +kernel
theorem dX0_copyFrom_143 : decode cX0_copyFrom 143 = .ok (.getfield 44, 3) := by decide +kernel
theorem dX0_copyFrom_146 : decode cX0_copyFrom 146 = .ok (.putfield 44, 3) := by decide +kernel
theorem dX0_copyFrom_149 : decode cX0_copyFrom 149 = .ok (.aload_n 0, 1) := by decide +kernel
theorem dX0_copyFrom_150 : decode cX0_copyFrom 150 = .ok (.aload_n 1, 1) := by decide +kernel
theorem dX0_copyFrom_151 : decode cX0_copyFrom 151 = .ok (.getfield 47, 3) := by decide +kernel
theorem dX0_copyFrom_154 : decode cX0_copyFrom 154 = .ok (.putfield 47, 3) := by decide +kernel
theorem dX0_copyFrom_157 : decode cX0_copyFrom 157 = .ok (.aload_n 0, 1) := by decide +kernel
theorem dX0_copyFrom_158 : decode cX0_copyFrom 158 = .ok (.aload_n 1, 1) := by decide +kernel
theorem dX0_copyFrom_159 : decode cX0_copyFrom 159 = .ok (.getfield 50, 3) := by decide +kernel
theorem dX0_copyFrom_162 : decode cX0_copyFrom 162 = .ok (.putfield 50, 3) := by decide +kernel
theorem dX0_copyFrom_165 : decode cX0_copyFrom 165 = .ok (.return_, 1) := by decide +kernel
theorem dX0_isBelowTop_0 : decode cX0_isBelowTop 0 = .ok (.iload_n 1, 1) := by decide +kernel
theorem dX0_isBelowTop_1 : decode cX0_isBelowTop 1 = .ok (.ifCond .lt 15, 3) := by decide +kernel
theorem dX0_isBelowTop_4 : decode cX0_isBelowTop 4 = .ok (.iload_n 1, 1) := by decide +kernel
theorem dX0_isBelowTop_5 : decode cX0_isBelowTop 5 = .ok (.aload_n 0, 1) := by decide +kernel
theorem dX0_isBelowTop_6 : decode cX0_isBelowTop 6 = .ok (.getfield 37, 3) := by decide +kernel
theorem dX0_isBelowTop_9 : decode cX0_isBelowTop 9 = .ok (.if_icmp .ge 7, 3) := by decide +kernel
theorem dX0_isBelowTop_12 : decode cX0_isBelowTop 12 = .ok (.iconst 1, 1) := by decide +kernel
theorem dX0_isBelowTop_13 : decode cX0_isBelowTop 13 = .ok (.goto 4, 3) := by decide +kernel
theorem dX0_isBelowTop_16 : decode cX0_isBelowTop 16 = .ok (.iconst 0, 1) := by decide +kernel
theorem dX0_isBelowTop_17 : decode cX0_isBelowTop 17 = .ok (.ireturn, 1) := by decide +kernel
theorem dX0_isClimber_0 : decode cX0_isClimber 0 = .ok (.iload_n 1, 1) := by decide +kernel
theorem dX0_isClimber_1 : decode cX0_isClimber 1 = .ok (.ifCond .lt 15, 3) := by decide +kernel
theorem dX0_isClimber_4 : decode cX0_isClimber 4 = .ok (.iload_n 1, 1) := by decide +kernel
theorem dX0_isClimber_5 : decode cX0_isClimber 5 = .ok (.aload_n 0, 1) := by decide +kernel
theorem dX0_isClimber_6 : decode cX0_isClimber 6 = .ok (.getfield 41, 3) := by decide +kernel
theorem dX0_isClimber_9 : decode cX0_isClimber 9 = .ok (.if_icmp .ge 7, 3) := by decide +kernel
theorem dX0_isClimber_12 : decode cX0_isClimber 12 = .ok (.iconst 1, 1) := by decide +kernel
theorem dX0_isClimber_13 : decode cX0_isClimber 13 = .ok (.goto 4, 3) := by decide +kernel
theorem dX0_isClimber_16 : decode cX0_isClimber 16 = .ok (.iconst 0, 1) := by decide +kernel
theorem dX0_isClimber_17 : decode cX0_isClimber 17 = .ok (.ireturn, 1) := by decide +kernel
theorem dX0_hasMover_0 : decode cX0_hasMover 0 = .ok (.aload_n 0, 1) := by decide +kernel
theorem dX0_hasMover_1 : decode cX0_hasMover 1 = .ok (.aload_n 0, 1) := by decide +kernel
theorem dX0_hasMover_2 : decode cX0_hasMover 2 = .ok (.getfield 44, 3) := by decide +kernel
theorem dX0_hasMover_5 : decode cX0_hasMover 5 = .ok (.invokevirtual 59, 3) := by decide +kernel
theorem dX0_hasMover_8 : decode cX0_hasMover 8 = .ok (.ireturn, 1) := by decide +kernel
theorem dX0_changeTop_0 : decode cX0_changeTop 0 = .ok (.iload_n 1, 1) := by decide +kernel
theorem dX0_changeTop_1 : decode cX0_changeTop 1 = .ok (.bipush 10, 2) := by decide +kernel
theorem dX0_changeTop_3 : decode cX0_changeTop 3 = .ok (.if_icmp .lt 9, 3) := by decide +kernel
theorem dX0_changeTop_6 : decode cX0_changeTop 6 = .ok (.iload_n 1, 1) := by decide +kernel
theorem dX0_changeTop_7 : decode cX0_changeTop 7 = .ok (.bipush 60, 2) := by decide +kernel
theorem dX0_changeTop_9 : decode cX0_changeTop 9 = .ok (.if_icmp .le 6, 3) := by decide +kernel
theorem dX0_changeTop_12 : decode cX0_changeTop 12 = .ok (.bipush (-2), 2) := by decide +kernel
theorem dX0_changeTop_14 : decode cX0_changeTop 14 = .ok (.ireturn, 1) := by decide +kernel
theorem dX0_changeTop_15 : decode cX0_changeTop 15 = .ok (.iload_n 1, 1) := by decide +kernel
theorem dX0_changeTop_16 : decode cX0_changeTop 16 = .ok (.istore_n 2, 1) := by decide +kernel
theorem dX0_changeTop_17 : decode cX0_changeTop 17 = .ok (.iload_n 2, 1) := by decide +kernel
theorem dX0_changeTop_18 : decode cX0_changeTop 18 = .ok (.aload_n 0, 1) := by decide +kernel
theorem dX0_changeTop_19 : decode cX0_changeTop 19 = .ok (.getfield 37, 3) := by decide +kernel
theorem dX0_changeTop_22 : decode cX0_changeTop 22 = .ok (.if_icmp .ge 37, 3) := by decide +kernel
theorem dX0_changeTop_25 : decode cX0_changeTop 25 = .ok (.aload_n 0, 1) := by decide +kernel
theorem dX0_changeTop_26 : decode cX0_changeTop 26 = .ok (.getfield 15, 3) := by decide +kernel
theorem dX0_changeTop_29 : decode cX0_changeTop 29 = .ok (.iload_n 2, 1) := by decide +kernel
theorem dX0_changeTop_30 : decode cX0_changeTop 30 = .ok (.baload, 1) := by decide +kernel
theorem dX0_changeTop_31 : decode cX0_changeTop 31 = .ok (.ifCond .ne 19, 3) := by decide +kernel
theorem dX0_changeTop_34 : decode cX0_changeTop 34 = .ok (.aload_n 0, 1) := by decide +kernel
theorem dX0_changeTop_35 : decode cX0_changeTop 35 = .ok (.iload_n 2, 1) := by decide +kernel
theorem dX0_changeTop_36 : decode cX0_changeTop 36 = .ok (.invokevirtual 63, 3) := by decide +kernel
theorem dX0_changeTop_39 : decode cX0_changeTop 39 = .ok (.ifCond .ne 11, 3) := by decide +kernel
theorem dX0_changeTop_42 : decode cX0_changeTop 42 = .ok (.aload_n 0, 1) := by decide +kernel
theorem dX0_changeTop_43 : decode cX0_changeTop 43 = .ok (.iload_n 2, 1) := by decide +kernel
theorem dX0_changeTop_44 : decode cX0_changeTop 44 = .ok (.invokevirtual 66, 3) := by decide +kernel
theorem dX0_changeTop_47 : decode cX0_changeTop 47 = .ok (.ifCond .eq 6, 3) := by decide +kernel
theorem dX0_changeTop_50 : decode cX0_changeTop 50 = .ok (.bipush (-3), 2) := by decide +kernel
theorem dX0_changeTop_52 : decode cX0_changeTop 52 = .ok (.ireturn, 1) := by decide +kernel
theorem dX0_changeTop_53 : decode cX0_changeTop 53 = .ok (.iinc 2 1, 3) := by decide +kernel
theorem dX0_changeTop_56 : decode cX0_changeTop 56 = .ok (.goto (-39), 3) := by decide +kernel
theorem dX0_changeTop_59 : decode cX0_changeTop 59 = .ok (.aload_n 0, 1) := by decide +kernel
theorem dX0_changeTop_60 : decode cX0_changeTop 60 = .ok (.getfield 37, 3) := by decide +kernel
theorem dX0_changeTop_63 : decode cX0_changeTop 63 = .ok (.istore_n 2, 1) := by decide +kernel
theorem dX0_changeTop_64 : decode cX0_changeTop 64 = .ok (.aload_n 0, 1) := by decide +kernel
theorem dX0_changeTop_65 : decode cX0_changeTop 65 = .ok (.iload_n 1, 1) := by decide +kernel
theorem dX0_changeTop_66 : decode cX0_changeTop 66 = .ok (.putfield 37, 3) := by decide +kernel
theorem dX0_changeTop_69 : decode cX0_changeTop 69 = .ok (.iload_n 2, 1) := by decide +kernel
theorem dX0_changeTop_70 : decode cX0_changeTop 70 = .ok (.ireturn, 1) := by decide +kernel
theorem dX0_layCarpet_0 : decode cX0_layCarpet 0 = .ok (.iload_n 1, 1) := by decide +kernel
theorem dX0_layCarpet_1 : decode cX0_layCarpet 1 = .ok (.ifCond .eq 11, 3) := by decide +kernel
theorem dX0_layCarpet_4 : decode cX0_layCarpet 4 = .ok (.aload_n 0, 1) := by decide +kernel
theorem dX0_layCarpet_5 : decode cX0_layCarpet 5 = .ok (.iload_n 1, 1) := by decide +kernel
theorem dX0_layCarpet_6 : decode cX0_layCarpet 6 = .ok (.invokevirtual 70, 3) := by decide +kernel
theorem dX0_layCarpet_9 : decode cX0_layCarpet 9 = .ok (.ifCond .ne 5, 3) := by decide +kernel
theorem dX0_layCarpet_12 : decode cX0_layCarpet 12 = .ok (.iconst (-1), 1) := by decide +kernel
theorem dX0_layCarpet_13 : decode cX0_layCarpet 13 = .ok (.ireturn, 1) := by decide +kernel
theorem dX0_layCarpet_14 : decode cX0_layCarpet 14 = .ok (.iload_n 2, 1) := by decide +kernel
theorem dX0_layCarpet_15 : decode cX0_layCarpet 15 = .ok (.ifCond .lt 8, 3) := by decide +kernel
theorem dX0_layCarpet_18 : decode cX0_layCarpet 18 = .ok (.iload_n 2, 1) := by decide +kernel
theorem dX0_layCarpet_19 : decode cX0_layCarpet 19 = .ok (.iload_n 1, 1) := by decide +kernel
theorem dX0_layCarpet_20 : decode cX0_layCarpet 20 = .ok (.if_icmp .lt 6, 3) := by decide +kernel
theorem dX0_layCarpet_23 : decode cX0_layCarpet 23 = .ok (.bipush (-2), 2) := by decide +kernel
theorem dX0_layCarpet_25 : decode cX0_layCarpet 25 = .ok (.ireturn, 1) := by decide +kernel
theorem dX0_layCarpet_26 : decode cX0_layCarpet 26 = .ok (.aload_n 0, 1) := by decide +kernel
theorem dX0_layCarpet_27 : decode cX0_layCarpet 27 = .ok (.iload_n 1, 1) := by decide +kernel
theorem dX0_layCarpet_28 : decode cX0_layCarpet 28 = .ok (.invokevirtual 63, 3) := by decide +kernel
theorem dX0_layCarpet_31 : decode cX0_layCarpet 31 = .ok (.ifCond .ne 19, 3) := by decide +kernel
theorem dX0_layCarpet_34 : decode cX0_layCarpet 34 = .ok (.aload_n 0, 1) := by decide +kernel
theorem dX0_layCarpet_35 : decode cX0_layCarpet 35 = .ok (.iload_n 2, 1) := by decide +kernel
theorem dX0_layCarpet_36 : decode cX0_layCarpet 36 = .ok (.invokevirtual 63, 3) := by decide +kernel
theorem dX0_layCarpet_39 : decode cX0_layCarpet 39 = .ok (.ifCond .ne 11, 3) := by decide +kernel
theorem dX0_layCarpet_42 : decode cX0_layCarpet 42 = .ok (.aload_n 0, 1) := by decide +kernel
theorem dX0_layCarpet_43 : decode cX0_layCarpet 43 = .ok (.iload_n 1, 1) := by decide +kernel
theorem dX0_layCarpet_44 : decode cX0_layCarpet 44 = .ok (.invokevirtual 73, 3) := by decide +kernel
theorem dX0_layCarpet_47 : decode cX0_layCarpet 47 = .ok (.ifCond .le 6, 3) := by decide +kernel
theorem dX0_layCarpet_50 : decode cX0_layCarpet 50 = .ok (.bipush (-3), 2) := by decide +kernel
theorem dX0_layCarpet_52 : decode cX0_layCarpet 52 = .ok (.ireturn, 1) := by decide +kernel
theorem dX0_layCarpet_53 : decode cX0_layCarpet 53 = .ok (.aload_n 0, 1) := by decide +kernel
theorem dX0_layCarpet_54 : decode cX0_layCarpet 54 = .ok (.getfield 15, 3) := by decide +kernel
theorem dX0_layCarpet_57 : decode cX0_layCarpet 57 = .ok (.iload_n 1, 1) := by decide +kernel
theorem dX0_layCarpet_58 : decode cX0_layCarpet 58 = .ok (.baload, 1) := by decide +kernel
theorem dX0_layCarpet_59 : decode cX0_layCarpet 59 = .ok (.ifCond .ne 11, 3) := by decide +kernel
theorem dX0_layCarpet_62 : decode cX0_layCarpet 62 = .ok (.aload_n 0, 1) := by decide +kernel
theorem dX0_layCarpet_63 : decode cX0_layCarpet 63 = .ok (.iload_n 1, 1) := by decide +kernel
theorem dX0_layCarpet_64 : decode cX0_layCarpet 64 = .ok (.invokevirtual 66, 3) := by decide +kernel
theorem dX0_layCarpet_67 : decode cX0_layCarpet 67 = .ok (.ifCond .eq 6, 3) := by decide +kernel
theorem dX0_layCarpet_70 : decode cX0_layCarpet 70 = .ok (.bipush (-3), 2) := by decide +kernel
theorem dX0_layCarpet_72 : decode cX0_layCarpet 72 = .ok (.ireturn, 1) := by decide +kernel
theorem dX0_layCarpet_73 : decode cX0_layCarpet 73 = .ok (.aload_n 0, 1) := by decide +kernel
theorem dX0_layCarpet_74 : decode cX0_layCarpet 74 = .ok (.invokevirtual 76, 3) := by decide +kernel
theorem dX0_layCarpet_77 : decode cX0_layCarpet 77 = .ok (.bipush 6, 2) := by decide +kernel
theorem dX0_layCarpet_79 : decode cX0_layCarpet 79 = .ok (.if_icmp .lt 6, 3) := by decide +kernel
theorem dX0_layCarpet_82 : decode cX0_layCarpet 82 = .ok (.bipush (-4), 2) := by decide +kernel
theorem dX0_layCarpet_84 : decode cX0_layCarpet 84 = .ok (.ireturn, 1) := by decide +kernel
theorem dX0_layCarpet_85 : decode cX0_layCarpet 85 = .ok (.aload_n 0, 1) := by decide +kernel
theorem dX0_layCarpet_86 : decode cX0_layCarpet 86 = .ok (.getfield 9, 3) := by decide +kernel
theorem dX0_layCarpet_89 : decode cX0_layCarpet 89 = .ok (.iload_n 1, 1) := by decide +kernel
theorem dX0_layCarpet_90 : decode cX0_layCarpet 90 = .ok (.iload_n 2, 1) := by decide +kernel
theorem dX0_layCarpet_91 : decode cX0_layCarpet 91 = .ok (.iastore, 1) := by decide +kernel
theorem dX0_layCarpet_92 : decode cX0_layCarpet 92 = .ok (.aload_n 0, 1) := by decide +kernel
theorem dX0_layCarpet_93 : decode cX0_layCarpet 93 = .ok (.invokevirtual 76, 3) := by decide +kernel
theorem dX0_layCarpet_96 : decode cX0_layCarpet 96 = .ok (.ireturn, 1) := by decide +kernel
theorem dX0_takeCarpet_0 : decode cX0_takeCarpet 0 = .ok (.aload_n 0, 1) := by decide +kernel
theorem dX0_takeCarpet_1 : decode cX0_takeCarpet 1 = .ok (.iload_n 1, 1) := by decide +kernel
theorem dX0_takeCarpet_2 : decode cX0_takeCarpet 2 = .ok (.invokevirtual 63, 3) := by decide +kernel
theorem dX0_takeCarpet_5 : decode cX0_takeCarpet 5 = .ok (.ifCond .ne 5, 3) := by decide +kernel
theorem dX0_takeCarpet_8 : decode cX0_takeCarpet 8 = .ok (.iconst (-1), 1) := by decide +kernel
theorem dX0_takeCarpet_9 : decode cX0_takeCarpet 9 = .ok (.ireturn, 1) := by decide +kernel
theorem dX0_takeCarpet_10 : decode cX0_takeCarpet 10 = .ok (.aload_n 0, 1) := by decide +kernel
theorem dX0_takeCarpet_11 : decode cX0_takeCarpet 11 = .ok (.getfield 9, 3) := by decide +kernel
theorem dX0_takeCarpet_14 : decode cX0_takeCarpet 14 = .ok (.iload_n 1, 1) := by decide +kernel
theorem dX0_takeCarpet_15 : decode cX0_takeCarpet 15 = .ok (.iaload, 1) := by decide +kernel
theorem dX0_takeCarpet_16 : decode cX0_takeCarpet 16 = .ok (.istore_n 2, 1) := by decide +kernel
theorem dX0_takeCarpet_17 : decode cX0_takeCarpet 17 = .ok (.aload_n 0, 1) := by decide +kernel
theorem dX0_takeCarpet_18 : decode cX0_takeCarpet 18 = .ok (.getfield 9, 3) := by decide +kernel
theorem dX0_takeCarpet_21 : decode cX0_takeCarpet 21 = .ok (.iload_n 1, 1) := by decide +kernel
theorem dX0_takeCarpet_22 : decode cX0_takeCarpet 22 = .ok (.bipush (-6), 2) := by decide +kernel
theorem dX0_takeCarpet_24 : decode cX0_takeCarpet 24 = .ok (.iastore, 1) := by decide +kernel
theorem dX0_takeCarpet_25 : decode cX0_takeCarpet 25 = .ok (.iload_n 2, 1) := by decide +kernel
theorem dX0_takeCarpet_26 : decode cX0_takeCarpet 26 = .ok (.ireturn, 1) := by decide +kernel
theorem dX0_putLanding_0 : decode cX0_putLanding 0 = .ok (.iload_n 1, 1) := by decide +kernel
theorem dX0_putLanding_1 : decode cX0_putLanding 1 = .ok (.ifCond .eq 11, 3) := by decide +kernel
theorem dX0_putLanding_4 : decode cX0_putLanding 4 = .ok (.aload_n 0, 1) := by decide +kernel
theorem dX0_putLanding_5 : decode cX0_putLanding 5 = .ok (.iload_n 1, 1) := by decide +kernel
theorem dX0_putLanding_6 : decode cX0_putLanding 6 = .ok (.invokevirtual 70, 3) := by decide +kernel
theorem dX0_putLanding_9 : decode cX0_putLanding 9 = .ok (.ifCond .ne 5, 3) := by decide +kernel
theorem dX0_putLanding_12 : decode cX0_putLanding 12 = .ok (.iconst (-1), 1) := by decide +kernel
theorem dX0_putLanding_13 : decode cX0_putLanding 13 = .ok (.ireturn, 1) := by decide +kernel
theorem dX0_putLanding_14 : decode cX0_putLanding 14 = .ok (.aload_n 0, 1) := by decide +kernel
theorem dX0_putLanding_15 : decode cX0_putLanding 15 = .ok (.getfield 15, 3) := by decide +kernel
theorem dX0_putLanding_18 : decode cX0_putLanding 18 = .ok (.iload_n 1, 1) := by decide +kernel
theorem dX0_putLanding_19 : decode cX0_putLanding 19 = .ok (.baload, 1) := by decide +kernel
theorem dX0_putLanding_20 : decode cX0_putLanding 20 = .ok (.ifCond .ne 11, 3) := by decide +kernel
theorem dX0_putLanding_23 : decode cX0_putLanding 23 = .ok (.aload_n 0, 1) := by decide +kernel
theorem dX0_putLanding_24 : decode cX0_putLanding 24 = .ok (.iload_n 1, 1) := by decide +kernel
theorem dX0_putLanding_25 : decode cX0_putLanding 25 = .ok (.invokevirtual 63, 3) := by decide +kernel
theorem dX0_putLanding_28 : decode cX0_putLanding 28 = .ok (.ifCond .eq 6, 3) := by decide +kernel
theorem dX0_putLanding_31 : decode cX0_putLanding 31 = .ok (.bipush (-3), 2) := by decide +kernel
theorem dX0_putLanding_33 : decode cX0_putLanding 33 = .ok (.ireturn, 1) := by decide +kernel
theorem dX0_putLanding_34 : decode cX0_putLanding 34 = .ok (.aload_n 0, 1) := by decide +kernel
theorem dX0_putLanding_35 : decode cX0_putLanding 35 = .ok (.getfield 15, 3) := by decide +kernel
theorem dX0_putLanding_38 : decode cX0_putLanding 38 = .ok (.iload_n 1, 1) := by decide +kernel
theorem dX0_putLanding_39 : decode cX0_putLanding 39 = .ok (.iconst 1, 1) := by decide +kernel
theorem dX0_putLanding_40 : decode cX0_putLanding 40 = .ok (.bastore, 1) := by decide +kernel
theorem dX0_putLanding_41 : decode cX0_putLanding 41 = .ok (.aload_n 0, 1) := by decide +kernel
theorem dX0_putLanding_42 : decode cX0_putLanding 42 = .ok (.invokevirtual 80, 3) := by decide +kernel
theorem dX0_putLanding_45 : decode cX0_putLanding 45 = .ok (.ireturn, 1) := by decide +kernel
theorem dX0_removeLanding_0 : decode cX0_removeLanding 0 = .ok (.aload_n 0, 1) := by decide +kernel
theorem dX0_removeLanding_1 : decode cX0_removeLanding 1 = .ok (.iload_n 1, 1) := by decide +kernel
theorem dX0_removeLanding_2 : decode cX0_removeLanding 2 = .ok (.invokevirtual 83, 3) := by decide +kernel
theorem dX0_removeLanding_5 : decode cX0_removeLanding 5 = .ok (.ifCond .ne 5, 3) := by decide +kernel
theorem dX0_removeLanding_8 : decode cX0_removeLanding 8 = .ok (.iconst (-1), 1) := by decide +kernel
theorem dX0_removeLanding_9 : decode cX0_removeLanding 9 = .ok (.ireturn, 1) := by decide +kernel
theorem dX0_removeLanding_10 : decode cX0_removeLanding 10 = .ok (.aload_n 0, 1) := by decide +kernel
theorem dX0_removeLanding_11 : decode cX0_removeLanding 11 = .ok (.getfield 15, 3) := by decide +kernel
theorem dX0_removeLanding_14 : decode cX0_removeLanding 14 = .ok (.iload_n 1, 1) := by decide +kernel
theorem dX0_removeLanding_15 : decode cX0_removeLanding 15 = .ok (.iconst 0, 1) := by decide +kernel
theorem dX0_removeLanding_16 : decode cX0_removeLanding 16 = .ok (.bastore, 1) := by decide +kernel
theorem dX0_removeLanding_17 : decode cX0_removeLanding 17 = .ok (.aload_n 0, 1) := by decide +kernel
theorem dX0_removeLanding_18 : decode cX0_removeLanding 18 = .ok (.iload_n 1, 1) := by decide +kernel
theorem dX0_removeLanding_19 : decode cX0_removeLanding 19 = .ok (.invokevirtual 66, 3) := by decide +kernel
theorem dX0_removeLanding_22 : decode cX0_removeLanding 22 = .ok (.invokestatic 86, 3) := by decide +kernel
theorem dX0_removeLanding_25 : decode cX0_removeLanding 25 = .ok (.ireturn, 1) := by decide +kernel
theorem dX0_addClimber_0 : decode cX0_addClimber 0 = .ok (.aload_n 0, 1) := by decide +kernel
theorem dX0_addClimber_1 : decode cX0_addClimber 1 = .ok (.getfield 41, 3) := by decide +kernel
theorem dX0_addClimber_4 : decode cX0_addClimber 4 = .ok (.bipush 6, 2) := by decide +kernel
theorem dX0_addClimber_6 : decode cX0_addClimber 6 = .ok (.if_icmp .lt 6, 3) := by decide +kernel
theorem dX0_addClimber_9 : decode cX0_addClimber 9 = .ok (.bipush (-4), 2) := by decide +kernel
theorem dX0_addClimber_11 : decode cX0_addClimber 11 = .ok (.ireturn, 1) := by decide +kernel
theorem dX0_addClimber_12 : decode cX0_addClimber 12 = .ok (.aload_n 0, 1) := by decide +kernel
theorem dX0_addClimber_13 : decode cX0_addClimber 13 = .ok (.dup, 1) := by decide +kernel
theorem dX0_addClimber_14 : decode cX0_addClimber 14 = .ok (.getfield 41, 3) := by decide +kernel
theorem dX0_addClimber_17 : decode cX0_addClimber 17 = .ok (.iconst 1, 1) := by decide +kernel
theorem dX0_addClimber_18 : decode cX0_addClimber 18 = .ok (.iadd, 1) := by decide +kernel
theorem dX0_addClimber_19 : decode cX0_addClimber 19 = .ok (.putfield 41, 3) := by decide +kernel
theorem dX0_addClimber_22 : decode cX0_addClimber 22 = .ok (.aload_n 0, 1) := by decide +kernel
theorem dX0_addClimber_23 : decode cX0_addClimber 23 = .ok (.getfield 41, 3) := by decide +kernel
theorem dX0_addClimber_26 : decode cX0_addClimber 26 = .ok (.iconst 1, 1) := by decide +kernel
theorem dX0_addClimber_27 : decode cX0_addClimber 27 = .ok (.isub, 1) := by decide +kernel
theorem dX0_addClimber_28 : decode cX0_addClimber 28 = .ok (.ireturn, 1) := by decide +kernel
theorem dX0_makeRoll_0 : decode cX0_makeRoll 0 = .ok (.iload_n 1, 1) := by decide +kernel
theorem dX0_makeRoll_1 : decode cX0_makeRoll 1 = .ok (.invokestatic 91, 3) := by decide +kernel
theorem dX0_makeRoll_4 : decode cX0_makeRoll 4 = .ok (.ifCond .ne 6, 3) := by decide +kernel
theorem dX0_makeRoll_7 : decode cX0_makeRoll 7 = .ok (.bipush (-2), 2) := by decide +kernel
theorem dX0_makeRoll_9 : decode cX0_makeRoll 9 = .ok (.ireturn, 1) := by decide +kernel
theorem dX0_makeRoll_10 : decode cX0_makeRoll 10 = .ok (.aload_n 0, 1) := by decide +kernel
theorem dX0_makeRoll_11 : decode cX0_makeRoll 11 = .ok (.invokevirtual 94, 3) := by decide +kernel
theorem dX0_makeRoll_14 : decode cX0_makeRoll 14 = .ok (.ifCond .ne 6, 3) := by decide +kernel
theorem dX0_makeRoll_17 : decode cX0_makeRoll 17 = .ok (.bipush (-3), 2) := by decide +kernel
theorem dX0_makeRoll_19 : decode cX0_makeRoll 19 = .ok (.ireturn, 1) := by decide +kernel
theorem dX0_makeRoll_20 : decode cX0_makeRoll 20 = .ok (.aload_n 0, 1) := by decide +kernel
theorem dX0_makeRoll_21 : decode cX0_makeRoll 21 = .ok (.getfield 44, 3) := by decide +kernel
theorem dX0_makeRoll_24 : decode cX0_makeRoll 24 = .ok (.istore_n 2, 1) := by decide +kernel
theorem dX0_makeRoll_25 : decode cX0_makeRoll 25 = .ok (.aload_n 0, 1) := by decide +kernel
theorem dX0_makeRoll_26 : decode cX0_makeRoll 26 = .ok (.getfield 19, 3) := by decide +kernel
theorem dX0_makeRoll_29 : decode cX0_makeRoll 29 = .ok (.iload_n 2, 1) := by decide +kernel
theorem dX0_makeRoll_30 : decode cX0_makeRoll 30 = .ok (.iaload, 1) := by decide +kernel
theorem dX0_makeRoll_31 : decode cX0_makeRoll 31 = .ok (.iload_n 1, 1) := by decide +kernel
theorem dX0_makeRoll_32 : decode cX0_makeRoll 32 = .ok (.iadd, 1) := by decide +kernel
theorem dX0_makeRoll_33 : decode cX0_makeRoll 33 = .ok (.istore_n 3, 1) := by decide +kernel
theorem dX0_makeRoll_34 : decode cX0_makeRoll 34 = .ok (.aload_n 0, 1) := by decide +kernel
theorem dX0_makeRoll_35 : decode cX0_makeRoll 35 = .ok (.dup, 1) := by decide +kernel
theorem dX0_makeRoll_36 : decode cX0_makeRoll 36 = .ok (.getfield 47, 3) := by decide +kernel
theorem dX0_makeRoll_39 : decode cX0_makeRoll 39 = .ok (.iconst 1, 1) := by decide +kernel
theorem dX0_makeRoll_40 : decode cX0_makeRoll 40 = .ok (.iadd, 1) := by decide +kernel
theorem dX0_makeRoll_41 : decode cX0_makeRoll 41 = .ok (.putfield 47, 3) := by decide +kernel
theorem dX0_makeRoll_44 : decode cX0_makeRoll 44 = .ok (.aload_n 0, 1) := by decide +kernel
theorem dX0_makeRoll_45 : decode cX0_makeRoll 45 = .ok (.iload_n 1, 1) := by decide +kernel
theorem dX0_makeRoll_46 : decode cX0_makeRoll 46 = .ok (.invokevirtual 98, 3) := by decide +kernel
theorem dX0_makeRoll_49 : decode cX0_makeRoll 49 = .ok (.aload_n 0, 1) := by decide +kernel
theorem dX0_makeRoll_50 : decode cX0_makeRoll 50 = .ok (.iload_n 2, 1) := by decide +kernel
theorem dX0_makeRoll_51 : decode cX0_makeRoll 51 = .ok (.iload_n 3, 1) := by decide +kernel
theorem dX0_makeRoll_52 : decode cX0_makeRoll 52 = .ok (.invokevirtual 102, 3) := by decide +kernel
theorem dX0_makeRoll_55 : decode cX0_makeRoll 55 = .ok (.aload_n 0, 1) := by decide +kernel
theorem dX0_makeRoll_56 : decode cX0_makeRoll 56 = .ok (.iload_n 3, 1) := by decide +kernel
theorem dX0_makeRoll_57 : decode cX0_makeRoll 57 = .ok (.invokevirtual 83, 3) := by decide +kernel
theorem dX0_makeRoll_60 : decode cX0_makeRoll 60 = .ok (.ifCond .eq 13, 3) := by decide +kernel
theorem dX0_makeRoll_63 : decode cX0_makeRoll 63 = .ok (.aload_n 0, 1) := by decide +kernel
theorem dX0_makeRoll_64 : decode cX0_makeRoll 64 = .ok (.getfield 25, 3) := by decide +kernel
theorem dX0_makeRoll_67 : decode cX0_makeRoll 67 = .ok (.iload_n 2, 1) := by decide +kernel
theorem dX0_makeRoll_68 : decode cX0_makeRoll 68 = .ok (.dup2, 1) := by decide +kernel
theorem dX0_makeRoll_69 : decode cX0_makeRoll 69 = .ok (.iaload, 1) := by decide +kernel
theorem dX0_makeRoll_70 : decode cX0_makeRoll 70 = .ok (.iconst 1, 1) := by decide +kernel
theorem dX0_makeRoll_71 : decode cX0_makeRoll 71 = .ok (.iadd, 1) := by decide +kernel
theorem dX0_makeRoll_72 : decode cX0_makeRoll 72 = .ok (.iastore, 1) := by decide +kernel
theorem dX0_makeRoll_73 : decode cX0_makeRoll 73 = .ok (.aload_n 0, 1) := by decide +kernel
theorem dX0_makeRoll_74 : decode cX0_makeRoll 74 = .ok (.invokevirtual 106, 3) := by decide +kernel
theorem dX0_makeRoll_77 : decode cX0_makeRoll 77 = .ok (.aload_n 0, 1) := by decide +kernel
theorem dX0_makeRoll_78 : decode cX0_makeRoll 78 = .ok (.getfield 19, 3) := by decide +kernel
theorem dX0_makeRoll_81 : decode cX0_makeRoll 81 = .ok (.iload_n 2, 1) := by decide +kernel
theorem dX0_makeRoll_82 : decode cX0_makeRoll 82 = .ok (.iaload, 1) := by decide +kernel
theorem dX0_makeRoll_83 : decode cX0_makeRoll 83 = .ok (.ireturn, 1) := by decide +kernel
theorem dX0_makePass_0 : decode cX0_makePass 0 = .ok (.aload_n 0, 1) := by decide +kernel
theorem dX0_makePass_1 : decode cX0_makePass 1 = .ok (.invokevirtual 94, 3) := by decide +kernel
theorem dX0_makePass_4 : decode cX0_makePass 4 = .ok (.ifCond .ne 6, 3) := by decide +kernel
theorem dX0_makePass_7 : decode cX0_makePass 7 = .ok (.bipush (-3), 2) := by decide +kernel
theorem dX0_makePass_9 : decode cX0_makePass 9 = .ok (.ireturn, 1) := by decide +kernel
theorem dX0_makePass_10 : decode cX0_makePass 10 = .ok (.aload_n 0, 1) := by decide +kernel
theorem dX0_makePass_11 : decode cX0_makePass 11 = .ok (.invokevirtual 106, 3) := by decide +kernel
theorem dX0_makePass_14 : decode cX0_makePass 14 = .ok (.aload_n 0, 1) := by decide +kernel
theorem dX0_makePass_15 : decode cX0_makePass 15 = .ok (.getfield 44, 3) := by decide +kernel
theorem dX0_makePass_18 : decode cX0_makePass 18 = .ok (.ireturn, 1) := by decide +kernel
theorem dX0_wouldLift_0 : decode cX0_wouldLift 0 = .ok (.iconst 0, 1) := by decide +kernel
theorem dX0_wouldLift_1 : decode cX0_wouldLift 1 = .ok (.istore_n 2, 1) := by decide +kernel
theorem dX0_wouldLift_2 : decode cX0_wouldLift 2 = .ok (.iload_n 2, 1) := by decide +kernel
theorem dX0_wouldLift_3 : decode cX0_wouldLift 3 = .ok (.aload_n 0, 1) := by decide +kernel
theorem dX0_wouldLift_4 : decode cX0_wouldLift 4 = .ok (.getfield 41, 3) := by decide +kernel
theorem dX0_wouldLift_7 : decode cX0_wouldLift 7 = .ok (.if_icmp .ge 20, 3) := by decide +kernel
theorem dX0_wouldLift_10 : decode cX0_wouldLift 10 = .ok (.aload_n 0, 1) := by decide +kernel
theorem dX0_wouldLift_11 : decode cX0_wouldLift 11 = .ok (.iload_n 2, 1) := by decide +kernel
theorem dX0_wouldLift_12 : decode cX0_wouldLift 12 = .ok (.iload_n 1, 1) := by decide +kernel
theorem dX0_wouldLift_13 : decode cX0_wouldLift 13 = .ok (.invokevirtual 109, 3) := by decide +kernel
theorem dX0_wouldLift_16 : decode cX0_wouldLift 16 = .ok (.ifCond .eq 5, 3) := by decide +kernel
theorem dX0_wouldLift_19 : decode cX0_wouldLift 19 = .ok (.iconst 1, 1) := by decide +kernel
theorem dX0_wouldLift_20 : decode cX0_wouldLift 20 = .ok (.ireturn, 1) := by decide +kernel
theorem dX0_wouldLift_21 : decode cX0_wouldLift 21 = .ok (.iinc 2 1, 3) := by decide +kernel
theorem dX0_wouldLift_24 : decode cX0_wouldLift 24 = .ok (.goto (-22), 3) := by decide +kernel
theorem dX0_wouldLift_27 : decode cX0_wouldLift 27 = .ok (.iconst 0, 1) := by decide +kernel
theorem dX0_wouldLift_28 : decode cX0_wouldLift 28 = .ok (.ireturn, 1) := by decide +kernel
theorem dX0_isPassed_0 : decode cX0_isPassed 0 = .ok (.aload_n 0, 1) := by decide +kernel
theorem dX0_isPassed_1 : decode cX0_isPassed 1 = .ok (.getfield 19, 3) := by decide +kernel
theorem dX0_isPassed_4 : decode cX0_isPassed 4 = .ok (.iload_n 1, 1) := by decide +kernel
theorem dX0_isPassed_5 : decode cX0_isPassed 5 = .ok (.iaload, 1) := by decide +kernel
theorem dX0_isPassed_6 : decode cX0_isPassed 6 = .ok (.istore_n 3, 1) := by decide +kernel
theorem dX0_isPassed_7 : decode cX0_isPassed 7 = .ok (.aload_n 0, 1) := by decide +kernel
theorem dX0_isPassed_8 : decode cX0_isPassed 8 = .ok (.getfield 19, 3) := by decide +kernel
theorem dX0_isPassed_11 : decode cX0_isPassed 11 = .ok (.aload_n 0, 1) := by decide +kernel
theorem dX0_isPassed_12 : decode cX0_isPassed 12 = .ok (.getfield 44, 3) := by decide +kernel
theorem dX0_isPassed_15 : decode cX0_isPassed 15 = .ok (.iaload, 1) := by decide +kernel
theorem dX0_isPassed_16 : decode cX0_isPassed 16 = .ok (.istore 4, 2) := by decide +kernel
theorem dX0_isPassed_18 : decode cX0_isPassed 18 = .ok (.iload_n 3, 1) := by decide +kernel
theorem dX0_isPassed_19 : decode cX0_isPassed 19 = .ok (.iload 4, 2) := by decide +kernel
theorem dX0_isPassed_21 : decode cX0_isPassed 21 = .ok (.if_icmp .le 23, 3) := by decide +kernel
theorem dX0_isPassed_24 : decode cX0_isPassed 24 = .ok (.iload_n 3, 1) := by decide +kernel
theorem dX0_isPassed_25 : decode cX0_isPassed 25 = .ok (.iload 4, 2) := by decide +kernel
theorem dX0_isPassed_27 : decode cX0_isPassed 27 = .ok (.iload_n 2, 1) := by decide +kernel
theorem dX0_isPassed_28 : decode cX0_isPassed 28 = .ok (.iadd, 1) := by decide +kernel
theorem dX0_isPassed_29 : decode cX0_isPassed 29 = .ok (.if_icmp .ge 15, 3) := by decide +kernel
theorem dX0_isPassed_32 : decode cX0_isPassed 32 = .ok (.aload_n 0, 1) := by decide +kernel
theorem dX0_isPassed_33 : decode cX0_isPassed 33 = .ok (.iload_n 3, 1) := by decide +kernel
theorem dX0_isPassed_34 : decode cX0_isPassed 34 = .ok (.invokevirtual 83, 3) := by decide +kernel
theorem dX0_isPassed_37 : decode cX0_isPassed 37 = .ok (.ifCond .ne 7, 3) := by decide +kernel
theorem dX0_isPassed_40 : decode cX0_isPassed 40 = .ok (.iconst 1, 1) := by decide +kernel
theorem dX0_isPassed_41 : decode cX0_isPassed 41 = .ok (.goto 4, 3) := by decide +kernel
theorem dX0_isPassed_44 : decode cX0_isPassed 44 = .ok (.iconst 0, 1) := by decide +kernel
theorem dX0_isPassed_45 : decode cX0_isPassed 45 = .ok (.ireturn, 1) := by decide +kernel
theorem dX0_liftThosePassed_0 : decode cX0_liftThosePassed 0 = .ok (.iconst 0, 1) := by decide +kernel
theorem dX0_liftThosePassed_1 : decode cX0_liftThosePassed 1 = .ok (.istore_n 2, 1) := by decide +kernel
theorem dX0_liftThosePassed_2 : decode cX0_liftThosePassed 2 = .ok (.iload_n 2, 1) := by decide +kernel
theorem dX0_liftThosePassed_3 : decode cX0_liftThosePassed 3 = .ok (.aload_n 0, 1) := by decide +kernel
theorem dX0_liftThosePassed_4 : decode cX0_liftThosePassed 4 = .ok (.getfield 41, 3) := by decide +kernel
theorem dX0_liftThosePassed_7 : decode cX0_liftThosePassed 7 = .ok (.if_icmp .ge 54, 3) := by decide +kernel
theorem dX0_liftThosePassed_10 : decode cX0_liftThosePassed 10 = .ok (.aload_n 0, 1) := by decide +kernel
theorem dX0_liftThosePassed_11 : decode cX0_liftThosePassed 11 = .ok (.iload_n 2, 1) := by decide +kernel
theorem dX0_liftThosePassed_12 : decode cX0_liftThosePassed 12 = .ok (.iload_n 1, 1) := by decide +kernel
theorem dX0_liftThosePassed_13 : decode cX0_liftThosePassed 13 = .ok (.invokevirtual 109, 3) := by decide +kernel
theorem dX0_liftThosePassed_16 : decode cX0_liftThosePassed 16 = .ok (.ifCond .eq 39, 3) := by decide +kernel
theorem dX0_liftThosePassed_19 : decode cX0_liftThosePassed 19 = .ok (.aload_n 0, 1) := by decide +kernel
theorem dX0_liftThosePassed_20 : decode cX0_liftThosePassed 20 = .ok (.getfield 28, 3) := by decide +kernel
theorem dX0_liftThosePassed_23 : decode cX0_liftThosePassed 23 = .ok (.iload_n 2, 1) := by decide +kernel
theorem dX0_liftThosePassed_24 : decode cX0_liftThosePassed 24 = .ok (.dup2, 1) := by decide +kernel
theorem dX0_liftThosePassed_25 : decode cX0_liftThosePassed 25 = .ok (.iaload, 1) := by decide +kernel
theorem dX0_liftThosePassed_26 : decode cX0_liftThosePassed 26 = .ok (.iconst 1, 1) := by decide +kernel
theorem dX0_liftThosePassed_27 : decode cX0_liftThosePassed 27 = .ok (.iadd, 1) := by decide +kernel
theorem dX0_liftThosePassed_28 : decode cX0_liftThosePassed 28 = .ok (.iastore, 1) := by decide +kernel
theorem dX0_liftThosePassed_29 : decode cX0_liftThosePassed 29 = .ok (.aload_n 0, 1) := by decide +kernel
theorem dX0_liftThosePassed_30 : decode cX0_liftThosePassed 30 = .ok (.getfield 31, 3) := by decide +kernel
theorem dX0_liftThosePassed_33 : decode cX0_liftThosePassed 33 = .ok (.aload_n 0, 1) := by decide +kernel
theorem dX0_liftThosePassed_34 : decode cX0_liftThosePassed 34 = .ok (.getfield 44, 3) := by decide +kernel
theorem dX0_liftThosePassed_37 : decode cX0_liftThosePassed 37 = .ok (.dup2, 1) := by decide +kernel
theorem dX0_liftThosePassed_38 : decode cX0_liftThosePassed 38 = .ok (.iaload, 1) := by decide +kernel
theorem dX0_liftThosePassed_39 : decode cX0_liftThosePassed 39 = .ok (.iconst 1, 1) := by decide +kernel
theorem dX0_liftThosePassed_40 : decode cX0_liftThosePassed 40 = .ok (.iadd, 1) := by decide +kernel
theorem dX0_liftThosePassed_41 : decode cX0_liftThosePassed 41 = .ok (.iastore, 1) := by decide +kernel
theorem dX0_liftThosePassed_42 : decode cX0_liftThosePassed 42 = .ok (.aload_n 0, 1) := by decide +kernel
theorem dX0_liftThosePassed_43 : decode cX0_liftThosePassed 43 = .ok (.iload_n 2, 1) := by decide +kernel
theorem dX0_liftThosePassed_44 : decode cX0_liftThosePassed 44 = .ok (.aload_n 0, 1) := by decide +kernel
theorem dX0_liftThosePassed_45 : decode cX0_liftThosePassed 45 = .ok (.getfield 19, 3) := by decide +kernel
theorem dX0_liftThosePassed_48 : decode cX0_liftThosePassed 48 = .ok (.iload_n 2, 1) := by decide +kernel
theorem dX0_liftThosePassed_49 : decode cX0_liftThosePassed 49 = .ok (.iaload, 1) := by decide +kernel
theorem dX0_liftThosePassed_50 : decode cX0_liftThosePassed 50 = .ok (.iconst 1, 1) := by decide +kernel
theorem dX0_liftThosePassed_51 : decode cX0_liftThosePassed 51 = .ok (.iadd, 1) := by decide +kernel
theorem dX0_liftThosePassed_52 : decode cX0_liftThosePassed 52 = .ok (.invokevirtual 102, 3) := by decide +kernel
theorem dX0_liftThosePassed_55 : decode cX0_liftThosePassed 55 = .ok (.iinc 2 1, 3) := by decide +kernel
theorem dX0_liftThosePassed_58 : decode cX0_liftThosePassed 58 = .ok (.goto (-56), 3) := by decide +kernel
theorem dX0_liftThosePassed_61 : decode cX0_liftThosePassed 61 = .ok (.return_, 1) := by decide +kernel
theorem dX0_comeTo_0 : decode cX0_comeTo 0 = .ok (.aload_n 0, 1) := by decide +kernel
theorem dX0_comeTo_1 : decode cX0_comeTo 1 = .ok (.iload_n 2, 1) := by decide +kernel
theorem dX0_comeTo_2 : decode cX0_comeTo 2 = .ok (.invokevirtual 70, 3) := by decide +kernel
theorem dX0_comeTo_5 : decode cX0_comeTo 5 = .ok (.ifCond .ne 23, 3) := by decide +kernel
theorem dX0_comeTo_8 : decode cX0_comeTo 8 = .ok (.aload_n 0, 1) := by decide +kernel
theorem dX0_comeTo_9 : decode cX0_comeTo 9 = .ok (.getfield 22, 3) := by decide +kernel
theorem dX0_comeTo_12 : decode cX0_comeTo 12 = .ok (.iload_n 1, 1) := by decide +kernel
theorem dX0_comeTo_13 : decode cX0_comeTo 13 = .ok (.dup2, 1) := by decide +kernel
theorem dX0_comeTo_14 : decode cX0_comeTo 14 = .ok (.iaload, 1) := by decide +kernel
theorem dX0_comeTo_15 : decode cX0_comeTo 15 = .ok (.iconst 1, 1) := by decide +kernel
theorem dX0_comeTo_16 : decode cX0_comeTo 16 = .ok (.iadd, 1) := by decide +kernel
theorem dX0_comeTo_17 : decode cX0_comeTo 17 = .ok (.iastore, 1) := by decide +kernel
theorem dX0_comeTo_18 : decode cX0_comeTo 18 = .ok (.aload_n 0, 1) := by decide +kernel
theorem dX0_comeTo_19 : decode cX0_comeTo 19 = .ok (.getfield 19, 3) := by decide +kernel
theorem dX0_comeTo_22 : decode cX0_comeTo 22 = .ok (.iload_n 1, 1) := by decide +kernel
theorem dX0_comeTo_23 : decode cX0_comeTo 23 = .ok (.iconst 0, 1) := by decide +kernel
theorem dX0_comeTo_24 : decode cX0_comeTo 24 = .ok (.iastore, 1) := by decide +kernel
theorem dX0_comeTo_25 : decode cX0_comeTo 25 = .ok (.goto 46, 3) := by decide +kernel
theorem dX0_comeTo_28 : decode cX0_comeTo 28 = .ok (.aload_n 0, 1) := by decide +kernel
theorem dX0_comeTo_29 : decode cX0_comeTo 29 = .ok (.getfield 9, 3) := by decide +kernel
theorem dX0_comeTo_32 : decode cX0_comeTo 32 = .ok (.iload_n 2, 1) := by decide +kernel
theorem dX0_comeTo_33 : decode cX0_comeTo 33 = .ok (.iaload, 1) := by decide +kernel
theorem dX0_comeTo_34 : decode cX0_comeTo 34 = .ok (.bipush (-6), 2) := by decide +kernel
theorem dX0_comeTo_36 : decode cX0_comeTo 36 = .ok (.if_icmp .eq 28, 3) := by decide +kernel
theorem dX0_comeTo_39 : decode cX0_comeTo 39 = .ok (.aload_n 0, 1) := by decide +kernel
theorem dX0_comeTo_40 : decode cX0_comeTo 40 = .ok (.getfield 34, 3) := by decide +kernel
theorem dX0_comeTo_43 : decode cX0_comeTo 43 = .ok (.iload_n 1, 1) := by decide +kernel
theorem dX0_comeTo_44 : decode cX0_comeTo 44 = .ok (.dup2, 1) := by decide +kernel
theorem dX0_comeTo_45 : decode cX0_comeTo 45 = .ok (.iaload, 1) := by decide +kernel
theorem dX0_comeTo_46 : decode cX0_comeTo 46 = .ok (.iconst 1, 1) := by decide +kernel
theorem dX0_comeTo_47 : decode cX0_comeTo 47 = .ok (.iadd, 1) := by decide +kernel
theorem dX0_comeTo_48 : decode cX0_comeTo 48 = .ok (.iastore, 1) := by decide +kernel
theorem dX0_comeTo_49 : decode cX0_comeTo 49 = .ok (.aload_n 0, 1) := by decide +kernel
theorem dX0_comeTo_50 : decode cX0_comeTo 50 = .ok (.getfield 19, 3) := by decide +kernel
theorem dX0_comeTo_53 : decode cX0_comeTo 53 = .ok (.iload_n 1, 1) := by decide +kernel
theorem dX0_comeTo_54 : decode cX0_comeTo 54 = .ok (.aload_n 0, 1) := by decide +kernel
theorem dX0_comeTo_55 : decode cX0_comeTo 55 = .ok (.getfield 9, 3) := by decide +kernel
theorem dX0_comeTo_58 : decode cX0_comeTo 58 = .ok (.iload_n 2, 1) := by decide +kernel
theorem dX0_comeTo_59 : decode cX0_comeTo 59 = .ok (.iaload, 1) := by decide +kernel
theorem dX0_comeTo_60 : decode cX0_comeTo 60 = .ok (.iastore, 1) := by decide +kernel
theorem dX0_comeTo_61 : decode cX0_comeTo 61 = .ok (.goto 10, 3) := by decide +kernel
theorem dX0_comeTo_64 : decode cX0_comeTo 64 = .ok (.aload_n 0, 1) := by decide +kernel
theorem dX0_comeTo_65 : decode cX0_comeTo 65 = .ok (.getfield 19, 3) := by decide +kernel
theorem dX0_comeTo_68 : decode cX0_comeTo 68 = .ok (.iload_n 1, 1) := by decide +kernel
theorem dX0_comeTo_69 : decode cX0_comeTo 69 = .ok (.iload_n 2, 1) := by decide +kernel
theorem dX0_comeTo_70 : decode cX0_comeTo 70 = .ok (.iastore, 1) := by decide +kernel
theorem dX0_comeTo_71 : decode cX0_comeTo 71 = .ok (.return_, 1) := by decide +kernel
theorem dX0_goToNextMover_0 : decode cX0_goToNextMover 0 = .ok (.aload_n 0, 1) := by decide +kernel
theorem dX0_goToNextMover_1 : decode cX0_goToNextMover 1 = .ok (.aload_n 0, 1) := by decide +kernel
theorem dX0_goToNextMover_2 : decode cX0_goToNextMover 2 = .ok (.getfield 44, 3) := by decide +kernel
theorem dX0_goToNextMover_5 : decode cX0_goToNextMover 5 = .ok (.invokevirtual 113, 3) := by decide +kernel
theorem dX0_goToNextMover_8 : decode cX0_goToNextMover 8 = .ok (.istore_n 1, 1) := by decide +kernel
theorem dX0_goToNextMover_9 : decode cX0_goToNextMover 9 = .ok (.iconst 0, 1) := by decide +kernel
theorem dX0_goToNextMover_10 : decode cX0_goToNextMover 10 = .ok (.istore_n 2, 1) := by decide +kernel
theorem dX0_goToNextMover_11 : decode cX0_goToNextMover 11 = .ok (.iload_n 2, 1) := by decide +kernel
theorem dX0_goToNextMover_12 : decode cX0_goToNextMover 12 = .ok (.bipush 12, 2) := by decide +kernel
theorem dX0_goToNextMover_14 : decode cX0_goToNextMover 14 = .ok (.if_icmp .ge 44, 3) := by decide +kernel
theorem dX0_goToNextMover_17 : decode cX0_goToNextMover 17 = .ok (.aload_n 0, 1) := by decide +kernel
theorem dX0_goToNextMover_18 : decode cX0_goToNextMover 18 = .ok (.getfield 25, 3) := by decide +kernel
theorem dX0_goToNextMover_21 : decode cX0_goToNextMover 21 = .ok (.iload_n 1, 1) := by decide +kernel
theorem dX0_goToNextMover_22 : decode cX0_goToNextMover 22 = .ok (.iaload, 1) := by decide +kernel
theorem dX0_goToNextMover_23 : decode cX0_goToNextMover 23 = .ok (.ifCond .le 35, 3) := by decide +kernel
theorem dX0_goToNextMover_26 : decode cX0_goToNextMover 26 = .ok (.aload_n 0, 1) := by decide +kernel
theorem dX0_goToNextMover_27 : decode cX0_goToNextMover 27 = .ok (.getfield 25, 3) := by decide +kernel
theorem dX0_goToNextMover_30 : decode cX0_goToNextMover 30 = .ok (.iload_n 1, 1) := by decide +kernel
theorem dX0_goToNextMover_31 : decode cX0_goToNextMover 31 = .ok (.dup2, 1) := by decide +kernel
theorem dX0_goToNextMover_32 : decode cX0_goToNextMover 32 = .ok (.iaload, 1) := by decide +kernel
theorem dX0_goToNextMover_33 : decode cX0_goToNextMover 33 = .ok (.iconst 1, 1) := by decide +kernel
theorem dX0_goToNextMover_34 : decode cX0_goToNextMover 34 = .ok (.isub, 1) := by decide +kernel
theorem dX0_goToNextMover_35 : decode cX0_goToNextMover 35 = .ok (.iastore, 1) := by decide +kernel
theorem dX0_goToNextMover_36 : decode cX0_goToNextMover 36 = .ok (.aload_n 0, 1) := by decide +kernel
theorem dX0_goToNextMover_37 : decode cX0_goToNextMover 37 = .ok (.dup, 1) := by decide +kernel
theorem dX0_goToNextMover_38 : decode cX0_goToNextMover 38 = .ok (.getfield 50, 3) := by decide +kernel
theorem dX0_goToNextMover_41 : decode cX0_goToNextMover 41 = .ok (.iconst 1, 1) := by decide +kernel
theorem dX0_goToNextMover_42 : decode cX0_goToNextMover 42 = .ok (.iadd, 1) := by decide +kernel
theorem dX0_goToNextMover_43 : decode cX0_goToNextMover 43 = .ok (.putfield 50, 3) := by decide +kernel
theorem dX0_goToNextMover_46 : decode cX0_goToNextMover 46 = .ok (.aload_n 0, 1) := by decide +kernel
theorem dX0_goToNextMover_47 : decode cX0_goToNextMover 47 = .ok (.iload_n 1, 1) := by decide +kernel
theorem dX0_goToNextMover_48 : decode cX0_goToNextMover 48 = .ok (.invokevirtual 113, 3) := by decide +kernel
theorem dX0_goToNextMover_51 : decode cX0_goToNextMover 51 = .ok (.istore_n 1, 1) := by decide +kernel
theorem dX0_goToNextMover_52 : decode cX0_goToNextMover 52 = .ok (.iinc 2 1, 3) := by decide +kernel
theorem dX0_goToNextMover_55 : decode cX0_goToNextMover 55 = .ok (.goto (-44), 3) := by decide +kernel
theorem dX0_goToNextMover_58 : decode cX0_goToNextMover 58 = .ok (.aload_n 0, 1) := by decide +kernel
theorem dX0_goToNextMover_59 : decode cX0_goToNextMover 59 = .ok (.iload_n 1, 1) := by decide +kernel
theorem dX0_goToNextMover_60 : decode cX0_goToNextMover 60 = .ok (.putfield 44, 3) := by decide +kernel
theorem dX0_goToNextMover_63 : decode cX0_goToNextMover 63 = .ok (.return_, 1) := by decide +kernel
theorem dX0_behind_0 : decode cX0_behind 0 = .ok (.aload_n 0, 1) := by decide +kernel
theorem dX0_behind_1 : decode cX0_behind 1 = .ok (.iload_n 1, 1) := by decide +kernel
theorem dX0_behind_2 : decode cX0_behind 2 = .ok (.iconst 1, 1) := by decide +kernel
theorem dX0_behind_3 : decode cX0_behind 3 = .ok (.iadd, 1) := by decide +kernel
theorem dX0_behind_4 : decode cX0_behind 4 = .ok (.invokevirtual 59, 3) := by decide +kernel
theorem dX0_behind_7 : decode cX0_behind 7 = .ok (.ifCond .eq 9, 3) := by decide +kernel
theorem dX0_behind_10 : decode cX0_behind 10 = .ok (.iload_n 1, 1) := by decide +kernel
theorem dX0_behind_11 : decode cX0_behind 11 = .ok (.iconst 1, 1) := by decide +kernel
theorem dX0_behind_12 : decode cX0_behind 12 = .ok (.iadd, 1) := by decide +kernel
theorem dX0_behind_13 : decode cX0_behind 13 = .ok (.goto 4, 3) := by decide +kernel
theorem dX0_behind_16 : decode cX0_behind 16 = .ok (.iconst 0, 1) := by decide +kernel
theorem dX0_behind_17 : decode cX0_behind 17 = .ok (.ireturn, 1) := by decide +kernel
theorem dX0_isLanding_0 : decode cX0_isLanding 0 = .ok (.iload_n 1, 1) := by decide +kernel
theorem dX0_isLanding_1 : decode cX0_isLanding 1 = .ok (.ifCond .lt 24, 3) := by decide +kernel
theorem dX0_isLanding_4 : decode cX0_isLanding 4 = .ok (.iload_n 1, 1) := by decide +kernel
theorem dX0_isLanding_5 : decode cX0_isLanding 5 = .ok (.aload_n 0, 1) := by decide +kernel
theorem dX0_isLanding_6 : decode cX0_isLanding 6 = .ok (.getfield 37, 3) := by decide +kernel
theorem dX0_isLanding_9 : decode cX0_isLanding 9 = .ok (.if_icmp .ge 16, 3) := by decide +kernel
theorem dX0_isLanding_12 : decode cX0_isLanding 12 = .ok (.aload_n 0, 1) := by decide +kernel
theorem dX0_isLanding_13 : decode cX0_isLanding 13 = .ok (.getfield 15, 3) := by decide +kernel
theorem dX0_isLanding_16 : decode cX0_isLanding 16 = .ok (.iload_n 1, 1) := by decide +kernel
theorem dX0_isLanding_17 : decode cX0_isLanding 17 = .ok (.baload, 1) := by decide +kernel
theorem dX0_isLanding_18 : decode cX0_isLanding 18 = .ok (.ifCond .eq 7, 3) := by decide +kernel
theorem dX0_isLanding_21 : decode cX0_isLanding 21 = .ok (.iconst 1, 1) := by decide +kernel
theorem dX0_isLanding_22 : decode cX0_isLanding 22 = .ok (.goto 4, 3) := by decide +kernel
theorem dX0_isLanding_25 : decode cX0_isLanding 25 = .ok (.iconst 0, 1) := by decide +kernel
theorem dX0_isLanding_26 : decode cX0_isLanding 26 = .ok (.ireturn, 1) := by decide +kernel
theorem dX0_isUpperEnd_0 : decode cX0_isUpperEnd 0 = .ok (.iload_n 1, 1) := by decide +kernel
theorem dX0_isUpperEnd_1 : decode cX0_isUpperEnd 1 = .ok (.ifCond .lt 26, 3) := by decide +kernel
theorem dX0_isUpperEnd_4 : decode cX0_isUpperEnd 4 = .ok (.iload_n 1, 1) := by decide +kernel
theorem dX0_isUpperEnd_5 : decode cX0_isUpperEnd 5 = .ok (.aload_n 0, 1) := by decide +kernel
theorem dX0_isUpperEnd_6 : decode cX0_isUpperEnd 6 = .ok (.getfield 37, 3) := by decide +kernel
theorem dX0_isUpperEnd_9 : decode cX0_isUpperEnd 9 = .ok (.if_icmp .ge 18, 3) := by decide +kernel
theorem dX0_isUpperEnd_12 : decode cX0_isUpperEnd 12 = .ok (.aload_n 0, 1) := by decide +kernel
theorem dX0_isUpperEnd_13 : decode cX0_isUpperEnd 13 = .ok (.getfield 9, 3) := by decide +kernel
theorem dX0_isUpperEnd_16 : decode cX0_isUpperEnd 16 = .ok (.iload_n 1, 1) := by decide +kernel
theorem dX0_isUpperEnd_17 : decode cX0_isUpperEnd 17 = .ok (.iaload, 1) := by decide +kernel
theorem dX0_isUpperEnd_18 : decode cX0_isUpperEnd 18 = .ok (.bipush (-6), 2) := by decide +kernel
theorem dX0_isUpperEnd_20 : decode cX0_isUpperEnd 20 = .ok (.if_icmp .eq 7, 3) := by decide +kernel
theorem dX0_isUpperEnd_23 : decode cX0_isUpperEnd 23 = .ok (.iconst 1, 1) := by decide +kernel
theorem dX0_isUpperEnd_24 : decode cX0_isUpperEnd 24 = .ok (.goto 4, 3) := by decide +kernel
theorem dX0_isUpperEnd_27 : decode cX0_isUpperEnd 27 = .ok (.iconst 0, 1) := by decide +kernel
theorem dX0_isUpperEnd_28 : decode cX0_isUpperEnd 28 = .ok (.ireturn, 1) := by decide +kernel
theorem dX0_climbersOn_0 : decode cX0_climbersOn 0 = .ok (.iconst 0, 1) := by decide +kernel
theorem dX0_climbersOn_1 : decode cX0_climbersOn 1 = .ok (.istore_n 2, 1) := by decide +kernel
theorem dX0_climbersOn_2 : decode cX0_climbersOn 2 = .ok (.iconst 0, 1) := by decide +kernel
theorem dX0_climbersOn_3 : decode cX0_climbersOn 3 = .ok (.istore_n 3, 1) := by decide +kernel
theorem dX0_climbersOn_4 : decode cX0_climbersOn 4 = .ok (.iload_n 3, 1) := by decide +kernel
theorem dX0_climbersOn_5 : decode cX0_climbersOn 5 = .ok (.aload_n 0, 1) := by decide +kernel
theorem dX0_climbersOn_6 : decode cX0_climbersOn 6 = .ok (.getfield 41, 3) := by decide +kernel
theorem dX0_climbersOn_9 : decode cX0_climbersOn 9 = .ok (.if_icmp .ge 25, 3) := by decide +kernel
theorem dX0_climbersOn_12 : decode cX0_climbersOn 12 = .ok (.aload_n 0, 1) := by decide +kernel
theorem dX0_climbersOn_13 : decode cX0_climbersOn 13 = .ok (.getfield 19, 3) := by decide +kernel
theorem dX0_climbersOn_16 : decode cX0_climbersOn 16 = .ok (.iload_n 3, 1) := by decide +kernel
theorem dX0_climbersOn_17 : decode cX0_climbersOn 17 = .ok (.iaload, 1) := by decide +kernel
theorem dX0_climbersOn_18 : decode cX0_climbersOn 18 = .ok (.iload_n 1, 1) := by decide +kernel
theorem dX0_climbersOn_19 : decode cX0_climbersOn 19 = .ok (.if_icmp .ne 9, 3) := by decide +kernel
theorem dX0_climbersOn_22 : decode cX0_climbersOn 22 = .ok (.iload_n 2, 1) := by decide +kernel
theorem dX0_climbersOn_23 : decode cX0_climbersOn 23 = .ok (.iconst 1, 1) := by decide +kernel
theorem dX0_climbersOn_24 : decode cX0_climbersOn 24 = .ok (.iload_n 3, 1) := by decide +kernel
theorem dX0_climbersOn_25 : decode cX0_climbersOn 25 = .ok (.ishl, 1) := by decide +kernel
theorem dX0_climbersOn_26 : decode cX0_climbersOn 26 = .ok (.ior, 1) := by decide +kernel
theorem dX0_climbersOn_27 : decode cX0_climbersOn 27 = .ok (.istore_n 2, 1) := by decide +kernel
theorem dX0_climbersOn_28 : decode cX0_climbersOn 28 = .ok (.iinc 3 1, 3) := by decide +kernel
theorem dX0_climbersOn_31 : decode cX0_climbersOn 31 = .ok (.goto (-27), 3) := by decide +kernel
theorem dX0_climbersOn_34 : decode cX0_climbersOn 34 = .ok (.iload_n 2, 1) := by decide +kernel
theorem dX0_climbersOn_35 : decode cX0_climbersOn 35 = .ok (.ireturn, 1) := by decide +kernel
theorem dX0_countCarpets_0 : decode cX0_countCarpets 0 = .ok (.iconst 0, 1) := by decide +kernel
theorem dX0_countCarpets_1 : decode cX0_countCarpets 1 = .ok (.istore_n 1, 1) := by decide +kernel
theorem dX0_countCarpets_2 : decode cX0_countCarpets 2 = .ok (.iconst 0, 1) := by decide +kernel
theorem dX0_countCarpets_3 : decode cX0_countCarpets 3 = .ok (.istore_n 2, 1) := by decide +kernel
theorem dX0_countCarpets_4 : decode cX0_countCarpets 4 = .ok (.iload_n 2, 1) := by decide +kernel
theorem dX0_countCarpets_5 : decode cX0_countCarpets 5 = .ok (.aload_n 0, 1) := by decide +kernel
theorem dX0_countCarpets_6 : decode cX0_countCarpets 6 = .ok (.getfield 37, 3) := by decide +kernel
theorem dX0_countCarpets_9 : decode cX0_countCarpets 9 = .ok (.if_icmp .ge 20, 3) := by decide +kernel
theorem dX0_countCarpets_12 : decode cX0_countCarpets 12 = .ok (.aload_n 0, 1) := by decide +kernel
theorem dX0_countCarpets_13 : decode cX0_countCarpets 13 = .ok (.iload_n 2, 1) := by decide +kernel
theorem dX0_countCarpets_14 : decode cX0_countCarpets 14 = .ok (.invokevirtual 63, 3) := by decide +kernel
theorem dX0_countCarpets_17 : decode cX0_countCarpets 17 = .ok (.ifCond .eq 6, 3) := by decide +kernel
theorem dX0_countCarpets_20 : decode cX0_countCarpets 20 = .ok (.iinc 1 1, 3) := by decide +kernel
theorem dX0_countCarpets_23 : decode cX0_countCarpets 23 = .ok (.iinc 2 1, 3) := by decide +kernel
theorem dX0_countCarpets_26 : decode cX0_countCarpets 26 = .ok (.goto (-22), 3) := by decide +kernel
theorem dX0_countCarpets_29 : decode cX0_countCarpets 29 = .ok (.iload_n 1, 1) := by decide +kernel
theorem dX0_countCarpets_30 : decode cX0_countCarpets 30 = .ok (.ireturn, 1) := by decide +kernel
theorem dX0_countLandings_0 : decode cX0_countLandings 0 = .ok (.iconst 0, 1) := by decide +kernel
theorem dX0_countLandings_1 : decode cX0_countLandings 1 = .ok (.istore_n 1, 1) := by decide +kernel
theorem dX0_countLandings_2 : decode cX0_countLandings 2 = .ok (.iconst 0, 1) := by decide +kernel
theorem dX0_countLandings_3 : decode cX0_countLandings 3 = .ok (.istore_n 2, 1) := by decide +kernel
theorem dX0_countLandings_4 : decode cX0_countLandings 4 = .ok (.iload_n 2, 1) := by decide +kernel
theorem dX0_countLandings_5 : decode cX0_countLandings 5 = .ok (.aload_n 0, 1) := by decide +kernel
theorem dX0_countLandings_6 : decode cX0_countLandings 6 = .ok (.getfield 37, 3) := by decide +kernel
theorem dX0_countLandings_9 : decode cX0_countLandings 9 = .ok (.if_icmp .ge 20, 3) := by decide +kernel
theorem dX0_countLandings_12 : decode cX0_countLandings 12 = .ok (.aload_n 0, 1) := by decide +kernel
theorem dX0_countLandings_13 : decode cX0_countLandings 13 = .ok (.iload_n 2, 1) := by decide +kernel
theorem dX0_countLandings_14 : decode cX0_countLandings 14 = .ok (.invokevirtual 83, 3) := by decide +kernel
theorem dX0_countLandings_17 : decode cX0_countLandings 17 = .ok (.ifCond .eq 6, 3) := by decide +kernel
theorem dX0_countLandings_20 : decode cX0_countLandings 20 = .ok (.iinc 1 1, 3) := by decide +kernel
theorem dX0_countLandings_23 : decode cX0_countLandings 23 = .ok (.iinc 2 1, 3) := by decide +kernel
theorem dX0_countLandings_26 : decode cX0_countLandings 26 = .ok (.goto (-22), 3) := by decide +kernel
theorem dX0_countLandings_29 : decode cX0_countLandings 29 = .ok (.iload_n 1, 1) := by decide +kernel
theorem dX0_countLandings_30 : decode cX0_countLandings 30 = .ok (.ireturn, 1) := by decide +kernel
theorem dX0_lowerEndsAt_0 : decode cX0_lowerEndsAt 0 = .ok (.iconst 0, 1) := by decide +kernel
theorem dX0_lowerEndsAt_1 : decode cX0_lowerEndsAt 1 = .ok (.istore_n 2, 1) := by decide +kernel
theorem dX0_lowerEndsAt_2 : decode cX0_lowerEndsAt 2 = .ok (.iconst 0, 1) := by decide +kernel
theorem dX0_lowerEndsAt_3 : decode cX0_lowerEndsAt 3 = .ok (.istore_n 3, 1) := by decide +kernel
theorem dX0_lowerEndsAt_4 : decode cX0_lowerEndsAt 4 = .ok (.iload_n 3, 1) := by decide +kernel
theorem dX0_lowerEndsAt_5 : decode cX0_lowerEndsAt 5 = .ok (.aload_n 0, 1) := by decide +kernel
theorem dX0_lowerEndsAt_6 : decode cX0_lowerEndsAt 6 = .ok (.getfield 37, 3) := by decide +kernel
theorem dX0_lowerEndsAt_9 : decode cX0_lowerEndsAt 9 = .ok (.if_icmp .ge 22, 3) := by decide +kernel
theorem dX0_lowerEndsAt_12 : decode cX0_lowerEndsAt 12 = .ok (.aload_n 0, 1) := by decide +kernel
theorem dX0_lowerEndsAt_13 : decode cX0_lowerEndsAt 13 = .ok (.getfield 9, 3) := by decide +kernel
theorem dX0_lowerEndsAt_16 : decode cX0_lowerEndsAt 16 = .ok (.iload_n 3, 1) := by decide +kernel
theorem dX0_lowerEndsAt_17 : decode cX0_lowerEndsAt 17 = .ok (.iaload, 1) := by decide +kernel
theorem dX0_lowerEndsAt_18 : decode cX0_lowerEndsAt 18 = .ok (.iload_n 1, 1) := by decide +kernel
theorem dX0_lowerEndsAt_19 : decode cX0_lowerEndsAt 19 = .ok (.if_icmp .ne 6, 3) := by decide +kernel
theorem dX0_lowerEndsAt_22 : decode cX0_lowerEndsAt 22 = .ok (.iinc 2 1, 3) := by decide +kernel
theorem dX0_lowerEndsAt_25 : decode cX0_lowerEndsAt 25 = .ok (.iinc 3 1, 3) := by decide +kernel
theorem dX0_lowerEndsAt_28 : decode cX0_lowerEndsAt 28 = .ok (.goto (-24), 3) := by decide +kernel
theorem dX0_lowerEndsAt_31 : decode cX0_lowerEndsAt 31 = .ok (.iload_n 2, 1) := by decide +kernel
theorem dX0_lowerEndsAt_32 : decode cX0_lowerEndsAt 32 = .ok (.ireturn, 1) := by decide +kernel
theorem dX0_partOfStep_0 : decode cX0_partOfStep 0 = .ok (.iload_n 1, 1) := by decide +kernel
theorem dX0_partOfStep_1 : decode cX0_partOfStep 1 = .ok (.aload_n 0, 1) := by decide +kernel
theorem dX0_partOfStep_2 : decode cX0_partOfStep 2 = .ok (.getfield 37, 3) := by decide +kernel
theorem dX0_partOfStep_5 : decode cX0_partOfStep 5 = .ok (.if_icmp .eq 13, 3) := by decide +kernel
theorem dX0_partOfStep_8 : decode cX0_partOfStep 8 = .ok (.aload_n 0, 1) := by decide +kernel
theorem dX0_partOfStep_9 : decode cX0_partOfStep 9 = .ok (.iload_n 1, 1) := by decide +kernel
theorem dX0_partOfStep_10 : decode cX0_partOfStep 10 = .ok (.invokevirtual 70, 3) := by decide +kernel
theorem dX0_partOfStep_13 : decode cX0_partOfStep 13 = .ok (.ifCond .ne 5, 3) := by decide +kernel
theorem dX0_partOfStep_16 : decode cX0_partOfStep 16 = .ok (.iconst (-1), 1) := by decide +kernel
theorem dX0_partOfStep_17 : decode cX0_partOfStep 17 = .ok (.ireturn, 1) := by decide +kernel
theorem dX0_partOfStep_18 : decode cX0_partOfStep 18 = .ok (.iload_n 2, 1) := by decide +kernel
theorem dX0_partOfStep_19 : decode cX0_partOfStep 19 = .ok (.tableswitch 65 0 2 #[25, 39, 59], 25) := by decide +kernel
theorem dX0_partOfStep_44 : decode cX0_partOfStep 44 = .ok (.aload_n 0, 1) := by decide +kernel
theorem dX0_partOfStep_45 : decode cX0_partOfStep 45 = .ok (.iload_n 1, 1) := by decide +kernel
theorem dX0_partOfStep_46 : decode cX0_partOfStep 46 = .ok (.invokevirtual 83, 3) := by decide +kernel
theorem dX0_partOfStep_49 : decode cX0_partOfStep 49 = .ok (.ifCond .eq 7, 3) := by decide +kernel
theorem dX0_partOfStep_52 : decode cX0_partOfStep 52 = .ok (.iconst 1, 1) := by decide +kernel
theorem dX0_partOfStep_53 : decode cX0_partOfStep 53 = .ok (.goto 4, 3) := by decide +kernel
theorem dX0_partOfStep_56 : decode cX0_partOfStep 56 = .ok (.iconst 0, 1) := by decide +kernel
theorem dX0_partOfStep_57 : decode cX0_partOfStep 57 = .ok (.ireturn, 1) := by decide +kernel
theorem dX0_partOfStep_58 : decode cX0_partOfStep 58 = .ok (.aload_n 0, 1) := by decide +kernel
theorem dX0_partOfStep_59 : decode cX0_partOfStep 59 = .ok (.iload_n 1, 1) := by decide +kernel
theorem dX0_partOfStep_60 : decode cX0_partOfStep 60 = .ok (.invokevirtual 63, 3) := by decide +kernel
theorem dX0_partOfStep_63 : decode cX0_partOfStep 63 = .ok (.ifCond .eq 12, 3) := by decide +kernel
theorem dX0_partOfStep_66 : decode cX0_partOfStep 66 = .ok (.aload_n 0, 1) := by decide +kernel
theorem dX0_partOfStep_67 : decode cX0_partOfStep 67 = .ok (.getfield 9, 3) := by decide +kernel
theorem dX0_partOfStep_70 : decode cX0_partOfStep 70 = .ok (.iload_n 1, 1) := by decide +kernel
theorem dX0_partOfStep_71 : decode cX0_partOfStep 71 = .ok (.iaload, 1) := by decide +kernel
theorem dX0_partOfStep_72 : decode cX0_partOfStep 72 = .ok (.goto 5, 3) := by decide +kernel
theorem dX0_partOfStep_75 : decode cX0_partOfStep 75 = .ok (.bipush (-6), 2) := by decide +kernel
theorem dX0_partOfStep_77 : decode cX0_partOfStep 77 = .ok (.ireturn, 1) := by decide +kernel
theorem dX0_partOfStep_78 : decode cX0_partOfStep 78 = .ok (.aload_n 0, 1) := by decide +kernel
theorem dX0_partOfStep_79 : decode cX0_partOfStep 79 = .ok (.iload_n 1, 1) := by decide +kernel
theorem dX0_partOfStep_80 : decode cX0_partOfStep 80 = .ok (.invokevirtual 73, 3) := by decide +kernel
theorem dX0_partOfStep_83 : decode cX0_partOfStep 83 = .ok (.ireturn, 1) := by decide +kernel
theorem dX0_partOfStep_84 : decode cX0_partOfStep 84 = .ok (.bipush (-2), 2) := by decide +kernel
theorem dX0_partOfStep_86 : decode cX0_partOfStep 86 = .ok (.ireturn, 1) := by decide +kernel
theorem dX0_partOfClimber_0 : decode cX0_partOfClimber 0 = .ok (.aload_n 0, 1) := by decide +kernel
theorem dX0_partOfClimber_1 : decode cX0_partOfClimber 1 = .ok (.iload_n 1, 1) := by decide +kernel
theorem dX0_partOfClimber_2 : decode cX0_partOfClimber 2 = .ok (.invokevirtual 59, 3) := by decide +kernel
theorem dX0_partOfClimber_5 : decode cX0_partOfClimber 5 = .ok (.ifCond .ne 5, 3) := by decide +kernel
theorem dX0_partOfClimber_8 : decode cX0_partOfClimber 8 = .ok (.iconst (-1), 1) := by decide +kernel
theorem dX0_partOfClimber_9 : decode cX0_partOfClimber 9 = .ok (.ireturn, 1) := by decide +kernel
theorem dX0_partOfClimber_10 : decode cX0_partOfClimber 10 = .ok (.iload_n 2, 1) := by decide +kernel
theorem dX0_partOfClimber_11 : decode cX0_partOfClimber 11 = .ok (.tableswitch 89 0 6 #[41, 48, 55, 62, 69, 76, 83], 41) := by decide +kernel
theorem dX0_partOfClimber_52 : decode cX0_partOfClimber 52 = .ok (.aload_n 0, 1) := by decide +kernel
theorem dX0_partOfClimber_53 : decode cX0_partOfClimber 53 = .ok (.getfield 19, 3) := by decide +kernel
theorem dX0_partOfClimber_56 : decode cX0_partOfClimber 56 = .ok (.iload_n 1, 1) := by decide +kernel
theorem dX0_partOfClimber_57 : decode cX0_partOfClimber 57 = .ok (.iaload, 1) := by decide +kernel
theorem dX0_partOfClimber_58 : decode cX0_partOfClimber 58 = .ok (.ireturn, 1) := by decide +kernel
theorem dX0_partOfClimber_59 : decode cX0_partOfClimber 59 = .ok (.aload_n 0, 1) := by decide +kernel
theorem dX0_partOfClimber_60 : decode cX0_partOfClimber 60 = .ok (.getfield 22, 3) := by decide +kernel
theorem dX0_partOfClimber_63 : decode cX0_partOfClimber 63 = .ok (.iload_n 1, 1) := by decide +kernel
theorem dX0_partOfClimber_64 : decode cX0_partOfClimber 64 = .ok (.iaload, 1) := by decide +kernel
theorem dX0_partOfClimber_65 : decode cX0_partOfClimber 65 = .ok (.ireturn, 1) := by decide +kernel
theorem dX0_partOfClimber_66 : decode cX0_partOfClimber 66 = .ok (.aload_n 0, 1) := by decide +kernel
theorem dX0_partOfClimber_67 : decode cX0_partOfClimber 67 = .ok (.getfield 25, 3) := by decide +kernel
theorem dX0_partOfClimber_70 : decode cX0_partOfClimber 70 = .ok (.iload_n 1, 1) := by decide +kernel
theorem dX0_partOfClimber_71 : decode cX0_partOfClimber 71 = .ok (.iaload, 1) := by decide +kernel
theorem dX0_partOfClimber_72 : decode cX0_partOfClimber 72 = .ok (.ireturn, 1) := by decide +kernel
theorem dX0_partOfClimber_73 : decode cX0_partOfClimber 73 = .ok (.aload_n 0, 1) := by decide +kernel
theorem dX0_partOfClimber_74 : decode cX0_partOfClimber 74 = .ok (.getfield 28, 3) := by decide +kernel
theorem dX0_partOfClimber_77 : decode cX0_partOfClimber 77 = .ok (.iload_n 1, 1) := by decide +kernel
theorem dX0_partOfClimber_78 : decode cX0_partOfClimber 78 = .ok (.iaload, 1) := by decide +kernel
theorem dX0_partOfClimber_79 : decode cX0_partOfClimber 79 = .ok (.ireturn, 1) := by decide +kernel
theorem dX0_partOfClimber_80 : decode cX0_partOfClimber 80 = .ok (.aload_n 0, 1) := by decide +kernel
theorem dX0_partOfClimber_81 : decode cX0_partOfClimber 81 = .ok (.getfield 31, 3) := by decide +kernel
theorem dX0_partOfClimber_84 : decode cX0_partOfClimber 84 = .ok (.iload_n 1, 1) := by decide +kernel
theorem dX0_partOfClimber_85 : decode cX0_partOfClimber 85 = .ok (.iaload, 1) := by decide +kernel
theorem dX0_partOfClimber_86 : decode cX0_partOfClimber 86 = .ok (.ireturn, 1) := by decide +kernel
theorem dX0_partOfClimber_87 : decode cX0_partOfClimber 87 = .ok (.aload_n 0, 1) := by decide +kernel
theorem dX0_partOfClimber_88 : decode cX0_partOfClimber 88 = .ok (.getfield 34, 3) := by decide +kernel
theorem dX0_partOfClimber_91 : decode cX0_partOfClimber 91 = .ok (.iload_n 1, 1) := by decide +kernel
theorem dX0_partOfClimber_92 : decode cX0_partOfClimber 92 = .ok (.iaload, 1) := by decide +kernel
theorem dX0_partOfClimber_93 : decode cX0_partOfClimber 93 = .ok (.ireturn, 1) := by decide +kernel
theorem dX0_partOfClimber_94 : decode cX0_partOfClimber 94 = .ok (.aload_n 0, 1) := by decide +kernel
theorem dX0_partOfClimber_95 : decode cX0_partOfClimber 95 = .ok (.iload_n 1, 1) := by decide +kernel
theorem dX0_partOfClimber_96 : decode cX0_partOfClimber 96 = .ok (.invokevirtual 116, 3) := by decide +kernel
theorem dX0_partOfClimber_99 : decode cX0_partOfClimber 99 = .ok (.ireturn, 1) := by decide +kernel
theorem dX0_partOfClimber_100 : decode cX0_partOfClimber 100 = .ok (.bipush (-2), 2) := by decide +kernel
theorem dX0_partOfClimber_102 : decode cX0_partOfClimber 102 = .ok (.ireturn, 1) := by decide +kernel
theorem dX0_progressOf_0 : decode cX0_progressOf 0 = .ok (.aload_n 0, 1) := by decide +kernel
theorem dX0_progressOf_1 : decode cX0_progressOf 1 = .ok (.iload_n 1, 1) := by decide +kernel
theorem dX0_progressOf_2 : decode cX0_progressOf 2 = .ok (.invokevirtual 59, 3) := by decide +kernel
theorem dX0_progressOf_5 : decode cX0_progressOf 5 = .ok (.ifCond .eq 24, 3) := by decide +kernel
theorem dX0_progressOf_8 : decode cX0_progressOf 8 = .ok (.aload_n 0, 1) := by decide +kernel
theorem dX0_progressOf_9 : decode cX0_progressOf 9 = .ok (.getfield 22, 3) := by decide +kernel
theorem dX0_progressOf_12 : decode cX0_progressOf 12 = .ok (.iload_n 1, 1) := by decide +kernel
theorem dX0_progressOf_13 : decode cX0_progressOf 13 = .ok (.iaload, 1) := by decide +kernel
theorem dX0_progressOf_14 : decode cX0_progressOf 14 = .ok (.aload_n 0, 1) := by decide +kernel
theorem dX0_progressOf_15 : decode cX0_progressOf 15 = .ok (.getfield 37, 3) := by decide +kernel
theorem dX0_progressOf_18 : decode cX0_progressOf 18 = .ok (.imul, 1) := by decide +kernel
theorem dX0_progressOf_19 : decode cX0_progressOf 19 = .ok (.aload_n 0, 1) := by decide +kernel
theorem dX0_progressOf_20 : decode cX0_progressOf 20 = .ok (.getfield 19, 3) := by decide +kernel
theorem dX0_progressOf_23 : decode cX0_progressOf 23 = .ok (.iload_n 1, 1) := by decide +kernel
theorem dX0_progressOf_24 : decode cX0_progressOf 24 = .ok (.iaload, 1) := by decide +kernel
theorem dX0_progressOf_25 : decode cX0_progressOf 25 = .ok (.iadd, 1) := by decide +kernel
theorem dX0_progressOf_26 : decode cX0_progressOf 26 = .ok (.goto 4, 3) := by decide +kernel
theorem dX0_progressOf_29 : decode cX0_progressOf 29 = .ok (.iconst 0, 1) := by decide +kernel
theorem dX0_progressOf_30 : decode cX0_progressOf 30 = .ok (.ireturn, 1) := by decide +kernel
theorem dX0_totalOf_0 : decode cX0_totalOf 0 = .ok (.iload_n 1, 1) := by decide +kernel
theorem dX0_totalOf_1 : decode cX0_totalOf 1 = .ok (.tableswitch 96 0 8 #[51, 56, 61, 66, 71, 76, 81, 86, 91], 51) := by decide +kernel
theorem dX0_totalOf_52 : decode cX0_totalOf 52 = .ok (.aload_n 0, 1) := by decide +kernel
theorem dX0_totalOf_53 : decode cX0_totalOf 53 = .ok (.getfield 37, 3) := by decide +kernel
theorem dX0_totalOf_56 : decode cX0_totalOf 56 = .ok (.ireturn, 1) := by decide +kernel
theorem dX0_totalOf_57 : decode cX0_totalOf 57 = .ok (.aload_n 0, 1) := by decide +kernel
theorem dX0_totalOf_58 : decode cX0_totalOf 58 = .ok (.getfield 41, 3) := by decide +kernel
theorem dX0_totalOf_61 : decode cX0_totalOf 61 = .ok (.ireturn, 1) := by decide +kernel
theorem dX0_totalOf_62 : decode cX0_totalOf 62 = .ok (.aload_n 0, 1) := by decide +kernel
theorem dX0_totalOf_63 : decode cX0_totalOf 63 = .ok (.invokevirtual 76, 3) := by decide +kernel
theorem dX0_totalOf_66 : decode cX0_totalOf 66 = .ok (.ireturn, 1) := by decide +kernel
theorem dX0_totalOf_67 : decode cX0_totalOf 67 = .ok (.aload_n 0, 1) := by decide +kernel
theorem dX0_totalOf_68 : decode cX0_totalOf 68 = .ok (.invokevirtual 80, 3) := by decide +kernel
theorem dX0_totalOf_71 : decode cX0_totalOf 71 = .ok (.ireturn, 1) := by decide +kernel
theorem dX0_totalOf_72 : decode cX0_totalOf 72 = .ok (.aload_n 0, 1) := by decide +kernel
theorem dX0_totalOf_73 : decode cX0_totalOf 73 = .ok (.getfield 47, 3) := by decide +kernel
theorem dX0_totalOf_76 : decode cX0_totalOf 76 = .ok (.ireturn, 1) := by decide +kernel
theorem dX0_totalOf_77 : decode cX0_totalOf 77 = .ok (.aload_n 0, 1) := by decide +kernel
theorem dX0_totalOf_78 : decode cX0_totalOf 78 = .ok (.invokevirtual 119, 3) := by decide +kernel
theorem dX0_totalOf_81 : decode cX0_totalOf 81 = .ok (.ireturn, 1) := by decide +kernel
theorem dX0_totalOf_82 : decode cX0_totalOf 82 = .ok (.aload_n 0, 1) := by decide +kernel
theorem dX0_totalOf_83 : decode cX0_totalOf 83 = .ok (.invokevirtual 122, 3) := by decide +kernel
theorem dX0_totalOf_86 : decode cX0_totalOf 86 = .ok (.ireturn, 1) := by decide +kernel
theorem dX0_totalOf_87 : decode cX0_totalOf 87 = .ok (.aload_n 0, 1) := by decide +kernel
theorem dX0_totalOf_88 : decode cX0_totalOf 88 = .ok (.invokevirtual 125, 3) := by decide +kernel
theorem dX0_totalOf_91 : decode cX0_totalOf 91 = .ok (.ireturn, 1) := by decide +kernel
theorem dX0_totalOf_92 : decode cX0_totalOf 92 = .ok (.aload_n 0, 1) := by decide +kernel
theorem dX0_totalOf_93 : decode cX0_totalOf 93 = .ok (.getfield 50, 3) := by decide +kernel
theorem dX0_totalOf_96 : decode cX0_totalOf 96 = .ok (.ireturn, 1) := by decide +kernel
theorem dX0_totalOf_97 : decode cX0_totalOf 97 = .ok (.bipush (-2), 2) := by decide +kernel
theorem dX0_totalOf_99 : decode cX0_totalOf 99 = .ok (.ireturn, 1) := by decide +kernel
theorem dX0_liftsOfAll_0 : decode cX0_liftsOfAll 0 = .ok (.aload_n 0, 1) := by decide +kernel
theorem dX0_liftsOfAll_1 : decode cX0_liftsOfAll 1 = .ok (.getfield 28, 3) := by decide +kernel
theorem dX0_liftsOfAll_4 : decode cX0_liftsOfAll 4 = .ok (.invokestatic 128, 3) := by decide +kernel
theorem dX0_liftsOfAll_7 : decode cX0_liftsOfAll 7 = .ok (.ireturn, 1) := by decide +kernel
theorem dX0_slipsOfAll_0 : decode cX0_slipsOfAll 0 = .ok (.aload_n 0, 1) := by decide +kernel
theorem dX0_slipsOfAll_1 : decode cX0_slipsOfAll 1 = .ok (.getfield 34, 3) := by decide +kernel
theorem dX0_slipsOfAll_4 : decode cX0_slipsOfAll 4 = .ok (.invokestatic 128, 3) := by decide +kernel
theorem dX0_slipsOfAll_7 : decode cX0_slipsOfAll 7 = .ok (.ireturn, 1) := by decide +kernel
theorem dX0_topsOfAll_0 : decode cX0_topsOfAll 0 = .ok (.aload_n 0, 1) := by decide +kernel
theorem dX0_topsOfAll_1 : decode cX0_topsOfAll 1 = .ok (.getfield 22, 3) := by decide +kernel
theorem dX0_topsOfAll_4 : decode cX0_topsOfAll 4 = .ok (.invokestatic 128, 3) := by decide +kernel
theorem dX0_topsOfAll_7 : decode cX0_topsOfAll 7 = .ok (.ireturn, 1) := by decide +kernel
theorem dX0_sumOf_0 : decode cX0_sumOf 0 = .ok (.iconst 0, 1) := by decide +kernel
theorem dX0_sumOf_1 : decode cX0_sumOf 1 = .ok (.istore_n 1, 1) := by decide +kernel
theorem dX0_sumOf_2 : decode cX0_sumOf 2 = .ok (.aload_n 0, 1) := by decide +kernel
theorem dX0_sumOf_3 : decode cX0_sumOf 3 = .ok (.astore_n 2, 1) := by decide +kernel
theorem dX0_sumOf_4 : decode cX0_sumOf 4 = .ok (.aload_n 2, 1) := by decide +kernel
theorem dX0_sumOf_5 : decode cX0_sumOf 5 = .ok (.arraylength, 1) := by decide +kernel
theorem dX0_sumOf_6 : decode cX0_sumOf 6 = .ok (.istore_n 3, 1) := by decide +kernel
theorem dX0_sumOf_7 : decode cX0_sumOf 7 = .ok (.iconst 0, 1) := by decide +kernel
theorem dX0_sumOf_8 : decode cX0_sumOf 8 = .ok (.istore 4, 2) := by decide +kernel
theorem dX0_sumOf_10 : decode cX0_sumOf 10 = .ok (.iload 4, 2) := by decide +kernel
theorem dX0_sumOf_12 : decode cX0_sumOf 12 = .ok (.iload_n 3, 1) := by decide +kernel
theorem dX0_sumOf_13 : decode cX0_sumOf 13 = .ok (.if_icmp .ge 20, 3) := by decide +kernel
theorem dX0_sumOf_16 : decode cX0_sumOf 16 = .ok (.aload_n 2, 1) := by decide +kernel
theorem dX0_sumOf_17 : decode cX0_sumOf 17 = .ok (.iload 4, 2) := by decide +kernel
theorem dX0_sumOf_19 : decode cX0_sumOf 19 = .ok (.iaload, 1) := by decide +kernel
theorem dX0_sumOf_20 : decode cX0_sumOf 20 = .ok (.istore 5, 2) := by decide +kernel
theorem dX0_sumOf_22 : decode cX0_sumOf 22 = .ok (.iload_n 1, 1) := by decide +kernel
theorem dX0_sumOf_23 : decode cX0_sumOf 23 = .ok (.iload 5, 2) := by decide +kernel
theorem dX0_sumOf_25 : decode cX0_sumOf 25 = .ok (.iadd, 1) := by decide +kernel
theorem dX0_sumOf_26 : decode cX0_sumOf 26 = .ok (.istore_n 1, 1) := by decide +kernel
theorem dX0_sumOf_27 : decode cX0_sumOf 27 = .ok (.iinc 4 1, 3) := by decide +kernel
theorem dX0_sumOf_30 : decode cX0_sumOf 30 = .ok (.goto (-20), 3) := by decide +kernel
theorem dX0_sumOf_33 : decode cX0_sumOf 33 = .ok (.iload_n 1, 1) := by decide +kernel
theorem dX0_sumOf_34 : decode cX0_sumOf 34 = .ok (.ireturn, 1) := by decide +kernel
theorem dX0_climberAtPlace_0 : decode cX0_climberAtPlace 0 = .ok (.iconst 0, 1) := by decide +kernel
theorem dX0_climberAtPlace_1 : decode cX0_climberAtPlace 1 = .ok (.istore_n 2, 1) := by decide +kernel
theorem dX0_climberAtPlace_2 : decode cX0_climberAtPlace 2 = .ok (.iload_n 2, 1) := by decide +kernel
theorem dX0_climberAtPlace_3 : decode cX0_climberAtPlace 3 = .ok (.aload_n 0, 1) := by decide +kernel
theorem dX0_climberAtPlace_4 : decode cX0_climberAtPlace 4 = .ok (.getfield 41, 3) := by decide +kernel
theorem dX0_climberAtPlace_7 : decode cX0_climberAtPlace 7 = .ok (.if_icmp .ge 20, 3) := by decide +kernel
theorem dX0_climberAtPlace_10 : decode cX0_climberAtPlace 10 = .ok (.aload_n 0, 1) := by decide +kernel
theorem dX0_climberAtPlace_11 : decode cX0_climberAtPlace 11 = .ok (.iload_n 2, 1) := by decide +kernel
theorem dX0_climberAtPlace_12 : decode cX0_climberAtPlace 12 = .ok (.invokevirtual 132, 3) := by decide +kernel
theorem dX0_climberAtPlace_15 : decode cX0_climberAtPlace 15 = .ok (.iload_n 1, 1) := by decide +kernel
theorem dX0_climberAtPlace_16 : decode cX0_climberAtPlace 16 = .ok (.if_icmp .ne 5, 3) := by decide +kernel
theorem dX0_climberAtPlace_19 : decode cX0_climberAtPlace 19 = .ok (.iload_n 2, 1) := by decide +kernel
theorem dX0_climberAtPlace_20 : decode cX0_climberAtPlace 20 = .ok (.ireturn, 1) := by decide +kernel
theorem dX0_climberAtPlace_21 : decode cX0_climberAtPlace 21 = .ok (.iinc 2 1, 3) := by decide +kernel
theorem dX0_climberAtPlace_24 : decode cX0_climberAtPlace 24 = .ok (.goto (-22), 3) := by decide +kernel
theorem dX0_climberAtPlace_27 : decode cX0_climberAtPlace 27 = .ok (.bipush (-6), 2) := by decide +kernel
theorem dX0_climberAtPlace_29 : decode cX0_climberAtPlace 29 = .ok (.ireturn, 1) := by decide +kernel
theorem dX0_climbersAheadOf_0 : decode cX0_climbersAheadOf 0 = .ok (.iconst 0, 1) := by decide +kernel
theorem dX0_climbersAheadOf_1 : decode cX0_climbersAheadOf 1 = .ok (.istore_n 2, 1) := by decide +kernel
theorem dX0_climbersAheadOf_2 : decode cX0_climbersAheadOf 2 = .ok (.aload_n 0, 1) := by decide +kernel
theorem dX0_climbersAheadOf_3 : decode cX0_climbersAheadOf 3 = .ok (.iload_n 1, 1) := by decide +kernel
theorem dX0_climbersAheadOf_4 : decode cX0_climbersAheadOf 4 = .ok (.invokevirtual 116, 3) := by decide +kernel
theorem dX0_climbersAheadOf_7 : decode cX0_climbersAheadOf 7 = .ok (.istore_n 3, 1) := by decide +kernel
theorem dX0_climbersAheadOf_8 : decode cX0_climbersAheadOf 8 = .ok (.iconst 0, 1) := by decide +kernel
theorem dX0_climbersAheadOf_9 : decode cX0_climbersAheadOf 9 = .ok (.istore 4, 2) := by decide +kernel
theorem dX0_climbersAheadOf_11 : decode cX0_climbersAheadOf 11 = .ok (.iload 4, 2) := by decide +kernel
theorem dX0_climbersAheadOf_13 : decode cX0_climbersAheadOf 13 = .ok (.aload_n 0, 1) := by decide +kernel
theorem dX0_climbersAheadOf_14 : decode cX0_climbersAheadOf 14 = .ok (.getfield 41, 3) := by decide +kernel
theorem dX0_climbersAheadOf_17 : decode cX0_climbersAheadOf 17 = .ok (.if_icmp .ge 38, 3) := by decide +kernel
theorem dX0_climbersAheadOf_20 : decode cX0_climbersAheadOf 20 = .ok (.aload_n 0, 1) := by decide +kernel
theorem dX0_climbersAheadOf_21 : decode cX0_climbersAheadOf 21 = .ok (.iload 4, 2) := by decide +kernel
theorem dX0_climbersAheadOf_23 : decode cX0_climbersAheadOf 23 = .ok (.invokevirtual 116, 3) := by decide +kernel
theorem dX0_climbersAheadOf_26 : decode cX0_climbersAheadOf 26 = .ok (.istore 5, 2) := by decide +kernel
theorem dX0_climbersAheadOf_28 : decode cX0_climbersAheadOf 28 = .ok (.iload 5, 2) := by decide +kernel
theorem dX0_climbersAheadOf_30 : decode cX0_climbersAheadOf 30 = .ok (.iload_n 3, 1) := by decide +kernel
theorem dX0_climbersAheadOf_31 : decode cX0_climbersAheadOf 31 = .ok (.if_icmp .gt 15, 3) := by decide +kernel
theorem dX0_climbersAheadOf_34 : decode cX0_climbersAheadOf 34 = .ok (.iload 5, 2) := by decide +kernel
theorem dX0_climbersAheadOf_36 : decode cX0_climbersAheadOf 36 = .ok (.iload_n 3, 1) := by decide +kernel
theorem dX0_climbersAheadOf_37 : decode cX0_climbersAheadOf 37 = .ok (.if_icmp .ne 12, 3) := by decide +kernel
theorem dX0_climbersAheadOf_40 : decode cX0_climbersAheadOf 40 = .ok (.iload 4, 2) := by decide +kernel
theorem dX0_climbersAheadOf_42 : decode cX0_climbersAheadOf 42 = .ok (.iload_n 1, 1) := by decide +kernel
theorem dX0_climbersAheadOf_43 : decode cX0_climbersAheadOf 43 = .ok (.if_icmp .ge 6, 3) := by decide +kernel
theorem dX0_climbersAheadOf_46 : decode cX0_climbersAheadOf 46 = .ok (.iinc 2 1, 3) := by decide +kernel
theorem dX0_climbersAheadOf_49 : decode cX0_climbersAheadOf 49 = .ok (.iinc 4 1, 3) := by decide +kernel
theorem dX0_climbersAheadOf_52 : decode cX0_climbersAheadOf 52 = .ok (.goto (-41), 3) := by decide +kernel
theorem dX0_climbersAheadOf_55 : decode cX0_climbersAheadOf 55 = .ok (.iload_n 2, 1) := by decide +kernel
theorem dX0_climbersAheadOf_56 : decode cX0_climbersAheadOf 56 = .ok (.ireturn, 1) := by decide +kernel
theorem dX0_fewestRollsOf_0 : decode cX0_fewestRollsOf 0 = .ok (.lconst 1, 1) := by decide +kernel
theorem dX0_fewestRollsOf_1 : decode cX0_fewestRollsOf 1 = .ok (.aload_n 0, 1) := by decide +kernel
theorem dX0_fewestRollsOf_2 : decode cX0_fewestRollsOf 2 = .ok (.getfield 19, 3) := by decide +kernel
theorem dX0_fewestRollsOf_5 : decode cX0_fewestRollsOf 5 = .ok (.iload_n 1, 1) := by decide +kernel
theorem dX0_fewestRollsOf_6 : decode cX0_fewestRollsOf 6 = .ok (.iaload, 1) := by decide +kernel
theorem dX0_fewestRollsOf_7 : decode cX0_fewestRollsOf 7 = .ok (.lshl, 1) := by decide +kernel
theorem dX0_fewestRollsOf_8 : decode cX0_fewestRollsOf 8 = .ok (.lstore_n 2, 1) := by decide +kernel
theorem dX0_fewestRollsOf_9 : decode cX0_fewestRollsOf 9 = .ok (.iconst 1, 1) := by decide +kernel
theorem dX0_fewestRollsOf_10 : decode cX0_fewestRollsOf 10 = .ok (.istore 4, 2) := by decide +kernel
theorem dX0_fewestRollsOf_12 : decode cX0_fewestRollsOf 12 = .ok (.iload 4, 2) := by decide +kernel
theorem dX0_fewestRollsOf_14 : decode cX0_fewestRollsOf 14 = .ok (.aload_n 0, 1) := by decide +kernel
theorem dX0_fewestRollsOf_15 : decode cX0_fewestRollsOf 15 = .ok (.getfield 37, 3) := by decide +kernel
theorem dX0_fewestRollsOf_18 : decode cX0_fewestRollsOf 18 = .ok (.if_icmp .gt 32, 3) := by decide +kernel
theorem dX0_fewestRollsOf_21 : decode cX0_fewestRollsOf 21 = .ok (.lload_n 2, 1) := by decide +kernel
theorem dX0_fewestRollsOf_22 : decode cX0_fewestRollsOf 22 = .ok (.aload_n 0, 1) := by decide +kernel
theorem dX0_fewestRollsOf_23 : decode cX0_fewestRollsOf 23 = .ok (.getfield 37, 3) := by decide +kernel
theorem dX0_fewestRollsOf_26 : decode cX0_fewestRollsOf 26 = .ok (.bipush 6, 2) := by decide +kernel
theorem dX0_fewestRollsOf_28 : decode cX0_fewestRollsOf 28 = .ok (.isub, 1) := by decide +kernel
theorem dX0_fewestRollsOf_29 : decode cX0_fewestRollsOf 29 = .ok (.lushr, 1) := by decide +kernel
theorem dX0_fewestRollsOf_30 : decode cX0_fewestRollsOf 30 = .ok (.lconst 0, 1) := by decide +kernel
theorem dX0_fewestRollsOf_31 : decode cX0_fewestRollsOf 31 = .ok (.lcmp, 1) := by decide +kernel
theorem dX0_fewestRollsOf_32 : decode cX0_fewestRollsOf 32 = .ok (.ifCond .eq 6, 3) := by decide +kernel
theorem dX0_fewestRollsOf_35 : decode cX0_fewestRollsOf 35 = .ok (.iload 4, 2) := by decide +kernel
theorem dX0_fewestRollsOf_37 : decode cX0_fewestRollsOf 37 = .ok (.ireturn, 1) := by decide +kernel
theorem dX0_fewestRollsOf_38 : decode cX0_fewestRollsOf 38 = .ok (.aload_n 0, 1) := by decide +kernel
theorem dX0_fewestRollsOf_39 : decode cX0_fewestRollsOf 39 = .ok (.lload_n 2, 1) := by decide +kernel
theorem dX0_fewestRollsOf_40 : decode cX0_fewestRollsOf 40 = .ok (.invokevirtual 135, 3) := by decide +kernel
theorem dX0_fewestRollsOf_43 : decode cX0_fewestRollsOf 43 = .ok (.lstore_n 2, 1) := by decide +kernel
theorem dX0_fewestRollsOf_44 : decode cX0_fewestRollsOf 44 = .ok (.iinc 4 1, 3) := by decide +kernel
theorem dX0_fewestRollsOf_47 : decode cX0_fewestRollsOf 47 = .ok (.goto (-35), 3) := by decide +kernel
theorem dX0_fewestRollsOf_50 : decode cX0_fewestRollsOf 50 = .ok (.bipush (-6), 2) := by decide +kernel
theorem dX0_fewestRollsOf_52 : decode cX0_fewestRollsOf 52 = .ok (.ireturn, 1) := by decide +kernel
theorem dX0_reachedWithOneMore_0 : decode cX0_reachedWithOneMore 0 = .ok (.lload_n 1, 1) := by decide +kernel
theorem dX0_reachedWithOneMore_1 : decode cX0_reachedWithOneMore 1 = .ok (.lstore_n 3, 1) := by decide +kernel
theorem dX0_reachedWithOneMore_2 : decode cX0_reachedWithOneMore 2 = .ok (.iconst 0, 1) := by decide +kernel
theorem dX0_reachedWithOneMore_3 : decode cX0_reachedWithOneMore 3 = .ok (.istore 5, 2) := by decide +kernel
theorem dX0_reachedWithOneMore_5 : decode cX0_reachedWithOneMore 5 = .ok (.iload 5, 2) := by decide +kernel
theorem dX0_reachedWithOneMore_7 : decode cX0_reachedWithOneMore 7 = .ok (.aload_n 0, 1) := by decide +kernel
theorem dX0_reachedWithOneMore_8 : decode cX0_reachedWithOneMore 8 = .ok (.getfield 37, 3) := by decide +kernel
theorem dX0_reachedWithOneMore_11 : decode cX0_reachedWithOneMore 11 = .ok (.if_icmp .ge 29, 3) := by decide +kernel
theorem dX0_reachedWithOneMore_14 : decode cX0_reachedWithOneMore 14 = .ok (.lload_n 1, 1) := by decide +kernel
theorem dX0_reachedWithOneMore_15 : decode cX0_reachedWithOneMore 15 = .ok (.iload 5, 2) := by decide +kernel
theorem dX0_reachedWithOneMore_17 : decode cX0_reachedWithOneMore 17 = .ok (.lushr, 1) := by decide +kernel
theorem dX0_reachedWithOneMore_18 : decode cX0_reachedWithOneMore 18 = .ok (.lconst 1, 1) := by decide +kernel
theorem dX0_reachedWithOneMore_19 : decode cX0_reachedWithOneMore 19 = .ok (.land, 1) := by decide +kernel
theorem dX0_reachedWithOneMore_20 : decode cX0_reachedWithOneMore 20 = .ok (.lconst 0, 1) := by decide +kernel
theorem dX0_reachedWithOneMore_21 : decode cX0_reachedWithOneMore 21 = .ok (.lcmp, 1) := by decide +kernel
theorem dX0_reachedWithOneMore_22 : decode cX0_reachedWithOneMore 22 = .ok (.ifCond .eq 12, 3) := by decide +kernel
theorem dX0_reachedWithOneMore_25 : decode cX0_reachedWithOneMore 25 = .ok (.lload_n 3, 1) := by decide +kernel
theorem dX0_reachedWithOneMore_26 : decode cX0_reachedWithOneMore 26 = .ok (.aload_n 0, 1) := by decide +kernel
theorem dX0_reachedWithOneMore_27 : decode cX0_reachedWithOneMore 27 = .ok (.iload 5, 2) := by decide +kernel
theorem dX0_reachedWithOneMore_29 : decode cX0_reachedWithOneMore 29 = .ok (.invokevirtual 139, 3) := by decide +kernel
theorem dX0_reachedWithOneMore_32 : decode cX0_reachedWithOneMore 32 = .ok (.lor, 1) := by decide +kernel
theorem dX0_reachedWithOneMore_33 : decode cX0_reachedWithOneMore 33 = .ok (.lstore_n 3, 1) := by decide +kernel
theorem dX0_reachedWithOneMore_34 : decode cX0_reachedWithOneMore 34 = .ok (.iinc 5 1, 3) := by decide +kernel
theorem dX0_reachedWithOneMore_37 : decode cX0_reachedWithOneMore 37 = .ok (.goto (-32), 3) := by decide +kernel
theorem dX0_reachedWithOneMore_40 : decode cX0_reachedWithOneMore 40 = .ok (.lload_n 3, 1) := by decide +kernel
theorem dX0_reachedWithOneMore_41 : decode cX0_reachedWithOneMore 41 = .ok (.lreturn, 1) := by decide +kernel
theorem dX0_reachedFrom_0 : decode cX0_reachedFrom 0 = .ok (.lconst 0, 1) := by decide +kernel
theorem dX0_reachedFrom_1 : decode cX0_reachedFrom 1 = .ok (.lstore_n 2, 1) := by decide +kernel
theorem dX0_reachedFrom_2 : decode cX0_reachedFrom 2 = .ok (.iload_n 1, 1) := by decide +kernel
theorem dX0_reachedFrom_3 : decode cX0_reachedFrom 3 = .ok (.iconst 1, 1) := by decide +kernel
theorem dX0_reachedFrom_4 : decode cX0_reachedFrom 4 = .ok (.iadd, 1) := by decide +kernel
theorem dX0_reachedFrom_5 : decode cX0_reachedFrom 5 = .ok (.istore 4, 2) := by decide +kernel
theorem dX0_reachedFrom_7 : decode cX0_reachedFrom 7 = .ok (.iload 4, 2) := by decide +kernel
theorem dX0_reachedFrom_9 : decode cX0_reachedFrom 9 = .ok (.iload_n 1, 1) := by decide +kernel
theorem dX0_reachedFrom_10 : decode cX0_reachedFrom 10 = .ok (.bipush 6, 2) := by decide +kernel
theorem dX0_reachedFrom_12 : decode cX0_reachedFrom 12 = .ok (.iadd, 1) := by decide +kernel
theorem dX0_reachedFrom_13 : decode cX0_reachedFrom 13 = .ok (.if_icmp .gt 44, 3) := by decide +kernel
theorem dX0_reachedFrom_16 : decode cX0_reachedFrom 16 = .ok (.iload 4, 2) := by decide +kernel
theorem dX0_reachedFrom_18 : decode cX0_reachedFrom 18 = .ok (.aload_n 0, 1) := by decide +kernel
theorem dX0_reachedFrom_19 : decode cX0_reachedFrom 19 = .ok (.getfield 37, 3) := by decide +kernel
theorem dX0_reachedFrom_22 : decode cX0_reachedFrom 22 = .ok (.if_icmp .ge 35, 3) := by decide +kernel
theorem dX0_reachedFrom_25 : decode cX0_reachedFrom 25 = .ok (.lload_n 2, 1) := by decide +kernel
theorem dX0_reachedFrom_26 : decode cX0_reachedFrom 26 = .ok (.lconst 1, 1) := by decide +kernel
theorem dX0_reachedFrom_27 : decode cX0_reachedFrom 27 = .ok (.aload_n 0, 1) := by decide +kernel
theorem dX0_reachedFrom_28 : decode cX0_reachedFrom 28 = .ok (.iload 4, 2) := by decide +kernel
theorem dX0_reachedFrom_30 : decode cX0_reachedFrom 30 = .ok (.invokevirtual 63, 3) := by decide +kernel
theorem dX0_reachedFrom_33 : decode cX0_reachedFrom 33 = .ok (.ifCond .eq 13, 3) := by decide +kernel
theorem dX0_reachedFrom_36 : decode cX0_reachedFrom 36 = .ok (.aload_n 0, 1) := by decide +kernel
theorem dX0_reachedFrom_37 : decode cX0_reachedFrom 37 = .ok (.getfield 9, 3) := by decide +kernel
theorem dX0_reachedFrom_40 : decode cX0_reachedFrom 40 = .ok (.iload 4, 2) := by decide +kernel
theorem dX0_reachedFrom_42 : decode cX0_reachedFrom 42 = .ok (.iaload, 1) := by decide +kernel
theorem dX0_reachedFrom_43 : decode cX0_reachedFrom 43 = .ok (.goto 5, 3) := by decide +kernel
theorem dX0_reachedFrom_46 : decode cX0_reachedFrom 46 = .ok (.iload 4, 2) := by decide +kernel
theorem dX0_reachedFrom_48 : decode cX0_reachedFrom 48 = .ok (.lshl, 1) := by decide +kernel
theorem dX0_reachedFrom_49 : decode cX0_reachedFrom 49 = .ok (.lor, 1) := by decide +kernel
theorem dX0_reachedFrom_50 : decode cX0_reachedFrom 50 = .ok (.lstore_n 2, 1) := by decide +kernel
theorem dX0_reachedFrom_51 : decode cX0_reachedFrom 51 = .ok (.iinc 4 1, 3) := by decide +kernel
theorem dX0_reachedFrom_54 : decode cX0_reachedFrom 54 = .ok (.goto (-47), 3) := by decide +kernel
theorem dX0_reachedFrom_57 : decode cX0_reachedFrom 57 = .ok (.lload_n 2, 1) := by decide +kernel
theorem dX0_reachedFrom_58 : decode cX0_reachedFrom 58 = .ok (.lreturn, 1) := by decide +kernel
theorem dX1_init_0 : decode cX1_init 0 = .ok (.aload_n 0, 1) := by decide +kernel
theorem dX1_init_1 : decode cX1_init 1 = .ok (.invokespecial 3, 3) := by decide +kernel
theorem dX1_init_4 : decode cX1_init 4 = .ok (.aload_n 0, 1) := by decide +kernel
theorem dX1_init_5 : decode cX1_init 5 = .ok (.iconst 5, 1) := by decide +kernel
theorem dX1_init_6 : decode cX1_init 6 = .ok (.anewarray 9, 3) := by decide +kernel
theorem dX1_init_9 : decode cX1_init 9 = .ok (.putfield 11, 3) := by decide +kernel
theorem dX1_init_12 : decode cX1_init 12 = .ok (.aload_n 0, 1) := by decide +kernel
theorem dX1_init_13 : decode cX1_init 13 = .ok (.iconst 0, 1) := by decide +kernel
theorem dX1_init_14 : decode cX1_init 14 = .ok (.putfield 17, 3) := by decide +kernel
theorem dX1_init_17 : decode cX1_init 17 = .ok (.iconst 0, 1) := by decide +kernel
theorem dX1_init_18 : decode cX1_init 18 = .ok (.istore_n 1, 1) := by decide +kernel
theorem dX1_init_19 : decode cX1_init 19 = .ok (.iload_n 1, 1) := by decide +kernel
theorem dX1_init_20 : decode cX1_init 20 = .ok (.iconst 5, 1) := by decide +kernel
theorem dX1_init_21 : decode cX1_init 21 = .ok (.if_icmp .ge 22, 3) := by decide +kernel
theorem dX1_init_24 : decode cX1_init 24 = .ok (.aload_n 0, 1) := by decide +kernel
theorem dX1_init_25 : decode cX1_init 25 = .ok (.getfield 11, 3) := by decide +kernel
theorem dX1_init_28 : decode cX1_init 28 = .ok (.iload_n 1, 1) := by decide +kernel
theorem dX1_init_29 : decode cX1_init 29 = .ok (.new 9, 3) := by decide +kernel
theorem dX1_init_32 : decode cX1_init 32 = .ok (.dup, 1) := by decide +kernel
theorem dX1_init_33 : decode cX1_init 33 = .ok (.invokespecial 21, 3) := by decide +kernel
theorem dX1_init_36 : decode cX1_init 36 = .ok (.aastore, 1) := by decide +kernel
theorem dX1_init_37 : decode cX1_init 37 = .ok (.iinc 1 1, 3) := by decide +kernel
theorem dX1_init_40 : decode cX1_init 40 = .ok (.goto (-21), 3) := by decide +kernel
theorem dX1_init_43 : decode cX1_init 43 = .ok (.return_, 1) := by decide +kernel
theorem dX1_keep_0 : decode cX1_keep 0 = .ok (.aload_n 0, 1) := by decide +kernel
theorem dX1_keep_1 : decode cX1_keep 1 = .ok (.getfield 17, 3) := by decide +kernel
theorem dX1_keep_4 : decode cX1_keep 4 = .ok (.iconst 5, 1) := by decide +kernel
theorem dX1_keep_5 : decode cX1_keep 5 = .ok (.if_icmp .lt 12, 3) := by decide +kernel
theorem dX1_keep_8 : decode cX1_keep 8 = .ok (.aload_n 0, 1) := by decide +kernel
theorem dX1_keep_9 : decode cX1_keep 9 = .ok (.invokevirtual 22, 3) := by decide +kernel
theorem dX1_keep_12 : decode cX1_keep 12 = .ok (.aload_n 0, 1) := by decide +kernel
theorem dX1_keep_13 : decode cX1_keep 13 = .ok (.iconst 4, 1) := by decide +kernel
theorem dX1_keep_14 : decode cX1_keep 14 = .ok (.putfield 17, 3) := by decide +kernel
theorem dX1_keep_17 : decode cX1_keep 17 = .ok (.aload_n 0, 1) := by decide +kernel
theorem dX1_keep_18 : decode cX1_keep 18 = .ok (.getfield 11, 3) := by decide +kernel
theorem dX1_keep_21 : decode cX1_keep 21 = .ok (.aload_n 0, 1) := by decide +kernel
theorem dX1_keep_22 : decode cX1_keep 22 = .ok (.getfield 17, 3) := by decide +kernel
theorem dX1_keep_25 : decode cX1_keep 25 = .ok (.aaload, 1) := by decide +kernel
theorem dX1_keep_26 : decode cX1_keep 26 = .ok (.astore_n 2, 1) := by decide +kernel
theorem dX1_keep_27 : decode cX1_keep 27 = .ok (.aload_n 2, 1) := by decide +kernel
theorem dX1_keep_28 : decode cX1_keep 28 = .ok (.ifnull 8, 3) := by decide +kernel
theorem dX1_keep_31 : decode cX1_keep 31 = .ok (.aload_n 2, 1) := by decide +kernel
theorem dX1_keep_32 : decode cX1_keep 32 = .ok (.aload_n 1, 1) := by decide +kernel
theorem dX1_keep_33 : decode cX1_keep 33 = .ok (.invokevirtual 25, 3) := by decide +kernel
theorem dX1_keep_36 : decode cX1_keep 36 = .ok (.aload_n 0, 1) := by decide +kernel
theorem dX1_keep_37 : decode cX1_keep 37 = .ok (.dup, 1) := by decide +kernel
theorem dX1_keep_38 : decode cX1_keep 38 = .ok (.getfield 17, 3) := by decide +kernel
theorem dX1_keep_41 : decode cX1_keep 41 = .ok (.iconst 1, 1) := by decide +kernel
theorem dX1_keep_42 : decode cX1_keep 42 = .ok (.iadd, 1) := by decide +kernel
theorem dX1_keep_43 : decode cX1_keep 43 = .ok (.putfield 17, 3) := by decide +kernel
theorem dX1_keep_46 : decode cX1_keep 46 = .ok (.return_, 1) := by decide +kernel
theorem dX1_makeOldestLast_0 : decode cX1_makeOldestLast 0 = .ok (.aload_n 0, 1) := by decide +kernel
theorem dX1_makeOldestLast_1 : decode cX1_makeOldestLast 1 = .ok (.getfield 11, 3) := by decide +kernel
theorem dX1_makeOldestLast_4 : decode cX1_makeOldestLast 4 = .ok (.iconst 0, 1) := by decide +kernel
theorem dX1_makeOldestLast_5 : decode cX1_makeOldestLast 5 = .ok (.aaload, 1) := by decide +kernel
theorem dX1_makeOldestLast_6 : decode cX1_makeOldestLast 6 = .ok (.astore_n 1, 1) := by decide +kernel
theorem dX1_makeOldestLast_7 : decode cX1_makeOldestLast 7 = .ok (.iconst 1, 1) := by decide +kernel
theorem dX1_makeOldestLast_8 : decode cX1_makeOldestLast 8 = .ok (.istore_n 2, 1) := by decide +kernel
theorem dX1_makeOldestLast_9 : decode cX1_makeOldestLast 9 = .ok (.iload_n 2, 1) := by decide +kernel
theorem dX1_makeOldestLast_10 : decode cX1_makeOldestLast 10 = .ok (.iconst 5, 1) := by decide +kernel
theorem dX1_makeOldestLast_11 : decode cX1_makeOldestLast 11 = .ok (.if_icmp .ge 23, 3) := by decide +kernel
theorem dX1_makeOldestLast_14 : decode cX1_makeOldestLast 14 = .ok (.aload_n 0, 1) := by decide +kernel
theorem dX1_makeOldestLast_15 : decode cX1_makeOldestLast 15 = .ok (.getfield 11, 3) := by decide +kernel
theorem dX1_makeOldestLast_18 : decode cX1_makeOldestLast 18 = .ok (.iload_n 2, 1) := by decide +kernel
theorem dX1_makeOldestLast_19 : decode cX1_makeOldestLast 19 = .ok (.iconst 1, 1) := by decide +kernel
theorem dX1_makeOldestLast_20 : decode cX1_makeOldestLast 20 = .ok (.isub, 1) := by decide +kernel
theorem dX1_makeOldestLast_21 : decode cX1_makeOldestLast 21 = .ok (.aload_n 0, 1) := by decide +kernel
theorem dX1_makeOldestLast_22 : decode cX1_makeOldestLast 22 = .ok (.getfield 11, 3) := by decide +kernel
theorem dX1_makeOldestLast_25 : decode cX1_makeOldestLast 25 = .ok (.iload_n 2, 1) := by decide +kernel
theorem dX1_makeOldestLast_26 : decode cX1_makeOldestLast 26 = .ok (.aaload, 1) := by decide +kernel
theorem dX1_makeOldestLast_27 : decode cX1_makeOldestLast 27 = .ok (.aastore, 1) := by decide +kernel
theorem dX1_makeOldestLast_28 : decode cX1_makeOldestLast 28 = .ok (.iinc 2 1, 3) := by decide +kernel
theorem dX1_makeOldestLast_31 : decode cX1_makeOldestLast 31 = .ok (.goto (-22), 3) := by decide +kernel
theorem dX1_makeOldestLast_34 : decode cX1_makeOldestLast 34 = .ok (.aload_n 0, 1) := by decide +kernel
theorem dX1_makeOldestLast_35 : decode cX1_makeOldestLast 35 = .ok (.getfield 11, 3) := by decide +kernel
theorem dX1_makeOldestLast_38 : decode cX1_makeOldestLast 38 = .ok (.iconst 4, 1) := by decide +kernel
theorem dX1_makeOldestLast_39 : decode cX1_makeOldestLast 39 = .ok (.aload_n 1, 1) := by decide +kernel
theorem dX1_makeOldestLast_40 : decode cX1_makeOldestLast 40 = .ok (.aastore, 1) := by decide +kernel
theorem dX1_makeOldestLast_41 : decode cX1_makeOldestLast 41 = .ok (.return_, 1) := by decide +kernel
theorem dX2_init_0 : decode cX2_init 0 = .ok (.aload_n 0, 1) := by decide +kernel
theorem dX2_init_1 : decode cX2_init 1 = .ok (.invokespecial 3, 3) := by decide +kernel
theorem dX2_init_4 : decode cX2_init 4 = .ok (.aload_n 0, 1) := by decide +kernel
theorem dX2_init_5 : decode cX2_init 5 = .ok (.bipush 60, 2) := by decide +kernel
theorem dX2_init_7 : decode cX2_init 7 = .ok (.newarray .char, 2) := by decide +kernel
theorem dX2_init_9 : decode cX2_init 9 = .ok (.putfield 9, 3) := by decide +kernel
theorem dX2_init_12 : decode cX2_init 12 = .ok (.aload_n 0, 1) := by decide +kernel
theorem dX2_init_13 : decode cX2_init 13 = .ok (.iconst 0, 1) := by decide +kernel
theorem dX2_init_14 : decode cX2_init 14 = .ok (.putfield 15, 3) := by decide +kernel
theorem dX2_init_17 : decode cX2_init 17 = .ok (.return_, 1) := by decide +kernel
theorem dX3_init_0 : decode cX3_init 0 = .ok (.aload_n 0, 1) := by decide +kernel
theorem dX3_init_1 : decode cX3_init 1 = .ok (.invokespecial 1, 3) := by decide +kernel
theorem dX3_init_4 : decode cX3_init 4 = .ok (.aload_n 0, 1) := by decide +kernel
theorem dX3_init_5 : decode cX3_init 5 = .ok (.new 7, 3) := by decide +kernel
theorem dX3_init_8 : decode cX3_init 8 = .ok (.dup, 1) := by decide +kernel
theorem dX3_init_9 : decode cX3_init 9 = .ok (.invokespecial 9, 3) := by decide +kernel
theorem dX3_init_12 : decode cX3_init 12 = .ok (.putfield 10, 3) := by decide +kernel
theorem dX3_init_15 : decode cX3_init 15 = .ok (.aload_n 0, 1) := by decide +kernel
theorem dX3_init_16 : decode cX3_init 16 = .ok (.new 7, 3) := by decide +kernel
theorem dX3_init_19 : decode cX3_init 19 = .ok (.dup, 1) := by decide +kernel
theorem dX3_init_20 : decode cX3_init 20 = .ok (.invokespecial 9, 3) := by decide +kernel
theorem dX3_init_23 : decode cX3_init 23 = .ok (.putfield 16, 3) := by decide +kernel
theorem dX3_init_26 : decode cX3_init 26 = .ok (.aload_n 0, 1) := by decide +kernel
theorem dX3_init_27 : decode cX3_init 27 = .ok (.new 7, 3) := by decide +kernel
theorem dX3_init_30 : decode cX3_init 30 = .ok (.dup, 1) := by decide +kernel
theorem dX3_init_31 : decode cX3_init 31 = .ok (.invokespecial 9, 3) := by decide +kernel
theorem dX3_init_34 : decode cX3_init 34 = .ok (.putfield 19, 3) := by decide +kernel
theorem dX3_init_37 : decode cX3_init 37 = .ok (.aload_n 0, 1) := by decide +kernel
theorem dX3_init_38 : decode cX3_init 38 = .ok (.new 7, 3) := by decide +kernel
theorem dX3_init_41 : decode cX3_init 41 = .ok (.dup, 1) := by decide +kernel
theorem dX3_init_42 : decode cX3_init 42 = .ok (.invokespecial 9, 3) := by decide +kernel
theorem dX3_init_45 : decode cX3_init 45 = .ok (.putfield 22, 3) := by decide +kernel
theorem dX3_init_48 : decode cX3_init 48 = .ok (.aload_n 0, 1) := by decide +kernel
theorem dX3_init_49 : decode cX3_init 49 = .ok (.new 25, 3) := by decide +kernel
theorem dX3_init_52 : decode cX3_init 52 = .ok (.dup, 1) := by decide +kernel
theorem dX3_init_53 : decode cX3_init 53 = .ok (.invokespecial 27, 3) := by decide +kernel
theorem dX3_init_56 : decode cX3_init 56 = .ok (.putfield 28, 3) := by decide +kernel
theorem dX3_init_59 : decode cX3_init 59 = .ok (.aload_n 0, 1) := by decide +kernel
theorem dX3_init_60 : decode cX3_init 60 = .ok (.new 32, 3) := by decide +kernel
theorem dX3_init_63 : decode cX3_init 63 = .ok (.dup, 1) := by decide +kernel
theorem dX3_init_64 : decode cX3_init 64 = .ok (.invokespecial 34, 3) := by decide +kernel
theorem dX3_init_67 : decode cX3_init 67 = .ok (.putfield 35, 3) := by decide +kernel
theorem dX3_init_70 : decode cX3_init 70 = .ok (.aload_n 0, 1) := by decide +kernel
theorem dX3_init_71 : decode cX3_init 71 = .ok (.iconst 0, 1) := by decide +kernel
theorem dX3_init_72 : decode cX3_init 72 = .ok (.putfield 39, 3) := by decide +kernel
theorem dX3_init_75 : decode cX3_init 75 = .ok (.return_, 1) := by decide +kernel
theorem dX3_setTop_0 : decode cX3_setTop 0 = .ok (.aload_n 0, 1) := by decide +kernel
theorem dX3_setTop_1 : decode cX3_setTop 1 = .ok (.getfield 16, 3) := by decide +kernel
theorem dX3_setTop_4 : decode cX3_setTop 4 = .ok (.aload_n 0, 1) := by decide +kernel
theorem dX3_setTop_5 : decode cX3_setTop 5 = .ok (.getfield 10, 3) := by decide +kernel
theorem dX3_setTop_8 : decode cX3_setTop 8 = .ok (.invokevirtual 43, 3) := by decide +kernel
theorem dX3_setTop_11 : decode cX3_setTop 11 = .ok (.aload_n 0, 1) := by decide +kernel
theorem dX3_setTop_12 : decode cX3_setTop 12 = .ok (.aload_n 0, 1) := by decide +kernel
theorem dX3_setTop_13 : decode cX3_setTop 13 = .ok (.getfield 10, 3) := by decide +kernel
theorem dX3_setTop_16 : decode cX3_setTop 16 = .ok (.iload_n 1, 1) := by decide +kernel
theorem dX3_setTop_17 : decode cX3_setTop 17 = .ok (.invokevirtual 47, 3) := by decide +kernel
theorem dX3_setTop_20 : decode cX3_setTop 20 = .ok (.invokevirtual 51, 3) := by decide +kernel
theorem dX3_setTop_23 : decode cX3_setTop 23 = .ok (.ireturn, 1) := by decide +kernel
theorem dX3_lay_0 : decode cX3_lay 0 = .ok (.aload_n 0, 1) := by decide +kernel
theorem dX3_lay_1 : decode cX3_lay 1 = .ok (.getfield 16, 3) := by decide +kernel
theorem dX3_lay_4 : decode cX3_lay 4 = .ok (.aload_n 0, 1) := by decide +kernel
theorem dX3_lay_5 : decode cX3_lay 5 = .ok (.getfield 10, 3) := by decide +kernel
theorem dX3_lay_8 : decode cX3_lay 8 = .ok (.invokevirtual 43, 3) := by decide +kernel
theorem dX3_lay_11 : decode cX3_lay 11 = .ok (.aload_n 0, 1) := by decide +kernel
theorem dX3_lay_12 : decode cX3_lay 12 = .ok (.aload_n 0, 1) := by decide +kernel
theorem dX3_lay_13 : decode cX3_lay 13 = .ok (.getfield 10, 3) := by decide +kernel
theorem dX3_lay_16 : decode cX3_lay 16 = .ok (.iload_n 1, 1) := by decide +kernel
theorem dX3_lay_17 : decode cX3_lay 17 = .ok (.iload_n 2, 1) := by decide +kernel
theorem dX3_lay_18 : decode cX3_lay 18 = .ok (.invokevirtual 54, 3) := by decide +kernel
theorem dX3_lay_21 : decode cX3_lay 21 = .ok (.invokevirtual 51, 3) := by decide +kernel
theorem dX3_lay_24 : decode cX3_lay 24 = .ok (.ireturn, 1) := by decide +kernel
theorem dX3_take_0 : decode cX3_take 0 = .ok (.aload_n 0, 1) := by decide +kernel
theorem dX3_take_1 : decode cX3_take 1 = .ok (.getfield 16, 3) := by decide +kernel
theorem dX3_take_4 : decode cX3_take 4 = .ok (.aload_n 0, 1) := by decide +kernel
theorem dX3_take_5 : decode cX3_take 5 = .ok (.getfield 10, 3) := by decide +kernel
theorem dX3_take_8 : decode cX3_take 8 = .ok (.invokevirtual 43, 3) := by decide +kernel
theorem dX3_take_11 : decode cX3_take 11 = .ok (.aload_n 0, 1) := by decide +kernel
theorem dX3_take_12 : decode cX3_take 12 = .ok (.aload_n 0, 1) := by decide +kernel
theorem dX3_take_13 : decode cX3_take 13 = .ok (.getfield 10, 3) := by decide +kernel
theorem dX3_take_16 : decode cX3_take 16 = .ok (.iload_n 1, 1) := by decide +kernel
theorem dX3_take_17 : decode cX3_take 17 = .ok (.invokevirtual 58, 3) := by decide +kernel
theorem dX3_take_20 : decode cX3_take 20 = .ok (.invokevirtual 51, 3) := by decide +kernel
theorem dX3_take_23 : decode cX3_take 23 = .ok (.ireturn, 1) := by decide +kernel
theorem dX3_put_0 : decode cX3_put 0 = .ok (.aload_n 0, 1) := by decide +kernel
theorem dX3_put_1 : decode cX3_put 1 = .ok (.getfield 16, 3) := by decide +kernel
theorem dX3_put_4 : decode cX3_put 4 = .ok (.aload_n 0, 1) := by decide +kernel
theorem dX3_put_5 : decode cX3_put 5 = .ok (.getfield 10, 3) := by decide +kernel
theorem dX3_put_8 : decode cX3_put 8 = .ok (.invokevirtual 43, 3) := by decide +kernel
theorem dX3_put_11 : decode cX3_put 11 = .ok (.aload_n 0, 1) := by decide +kernel
theorem dX3_put_12 : decode cX3_put 12 = .ok (.aload_n 0, 1) := by decide +kernel
theorem dX3_put_13 : decode cX3_put 13 = .ok (.getfield 10, 3) := by decide +kernel
theorem dX3_put_16 : decode cX3_put 16 = .ok (.iload_n 1, 1) := by decide +kernel
theorem dX3_put_17 : decode cX3_put 17 = .ok (.invokevirtual 61, 3) := by decide +kernel
theorem dX3_put_20 : decode cX3_put 20 = .ok (.invokevirtual 51, 3) := by decide +kernel
theorem dX3_put_23 : decode cX3_put 23 = .ok (.ireturn, 1) := by decide +kernel
theorem dX3_remove_0 : decode cX3_remove 0 = .ok (.aload_n 0, 1) := by decide +kernel
theorem dX3_remove_1 : decode cX3_remove 1 = .ok (.getfield 16, 3) := by decide +kernel
theorem dX3_remove_4 : decode cX3_remove 4 = .ok (.aload_n 0, 1) := by decide +kernel
theorem dX3_remove_5 : decode cX3_remove 5 = .ok (.getfield 10, 3) := by decide +kernel
theorem dX3_remove_8 : decode cX3_remove 8 = .ok (.invokevirtual 43, 3) := by decide +kernel
theorem dX3_remove_11 : decode cX3_remove 11 = .ok (.aload_n 0, 1) := by decide +kernel
theorem dX3_remove_12 : decode cX3_remove 12 = .ok (.aload_n 0, 1) := by decide +kernel
theorem dX3_remove_13 : decode cX3_remove 13 = .ok (.getfield 10, 3) := by decide +kernel
theorem dX3_remove_16 : decode cX3_remove 16 = .ok (.iload_n 1, 1) := by decide +kernel
theorem dX3_remove_17 : decode cX3_remove 17 = .ok (.invokevirtual 64, 3) := by decide +kernel
theorem dX3_remove_20 : decode cX3_remove 20 = .ok (.invokevirtual 51, 3) := by decide +kernel
theorem dX3_remove_23 : decode cX3_remove 23 = .ok (.ireturn, 1) := by decide +kernel
theorem dX3_join_0 : decode cX3_join 0 = .ok (.aload_n 0, 1) := by decide +kernel
theorem dX3_join_1 : decode cX3_join 1 = .ok (.getfield 16, 3) := by decide +kernel
theorem dX3_join_4 : decode cX3_join 4 = .ok (.aload_n 0, 1) := by decide +kernel
theorem dX3_join_5 : decode cX3_join 5 = .ok (.getfield 10, 3) := by decide +kernel
theorem dX3_join_8 : decode cX3_join 8 = .ok (.invokevirtual 43, 3) := by decide +kernel
theorem dX3_join_11 : decode cX3_join 11 = .ok (.aload_n 0, 1) := by decide +kernel
theorem dX3_join_12 : decode cX3_join 12 = .ok (.aload_n 0, 1) := by decide +kernel
theorem dX3_join_13 : decode cX3_join 13 = .ok (.getfield 10, 3) := by decide +kernel
theorem dX3_join_16 : decode cX3_join 16 = .ok (.invokevirtual 67, 3) := by decide +kernel
theorem dX3_join_19 : decode cX3_join 19 = .ok (.invokevirtual 51, 3) := by decide +kernel
theorem dX3_join_22 : decode cX3_join 22 = .ok (.ireturn, 1) := by decide +kernel
theorem dX3_roll_0 : decode cX3_roll 0 = .ok (.aload_n 0, 1) := by decide +kernel
theorem dX3_roll_1 : decode cX3_roll 1 = .ok (.getfield 16, 3) := by decide +kernel
theorem dX3_roll_4 : decode cX3_roll 4 = .ok (.aload_n 0, 1) := by decide +kernel
theorem dX3_roll_5 : decode cX3_roll 5 = .ok (.getfield 10, 3) := by decide +kernel
theorem dX3_roll_8 : decode cX3_roll 8 = .ok (.invokevirtual 43, 3) := by decide +kernel
theorem dX3_roll_11 : decode cX3_roll 11 = .ok (.aload_n 0, 1) := by decide +kernel
theorem dX3_roll_12 : decode cX3_roll 12 = .ok (.aload_n 0, 1) := by decide +kernel
theorem dX3_roll_13 : decode cX3_roll 13 = .ok (.getfield 10, 3) := by decide +kernel
theorem dX3_roll_16 : decode cX3_roll 16 = .ok (.iload_n 1, 1) := by decide +kernel
theorem dX3_roll_17 : decode cX3_roll 17 = .ok (.invokevirtual 71, 3) := by decide +kernel
theorem dX3_roll_20 : decode cX3_roll 20 = .ok (.invokevirtual 51, 3) := by decide +kernel
theorem dX3_roll_23 : decode cX3_roll 23 = .ok (.ireturn, 1) := by decide +kernel
theorem dX3_pass_0 : decode cX3_pass 0 = .ok (.aload_n 0, 1) := by decide +kernel
theorem dX3_pass_1 : decode cX3_pass 1 = .ok (.getfield 16, 3) := by decide +kernel
theorem dX3_pass_4 : decode cX3_pass 4 = .ok (.aload_n 0, 1) := by decide +kernel
theorem dX3_pass_5 : decode cX3_pass 5 = .ok (.getfield 10, 3) := by decide +kernel
theorem dX3_pass_8 : decode cX3_pass 8 = .ok (.invokevirtual 43, 3) := by decide +kernel
theorem dX3_pass_11 : decode cX3_pass 11 = .ok (.aload_n 0, 1) := by decide +kernel
theorem dX3_pass_12 : decode cX3_pass 12 = .ok (.aload_n 0, 1) := by decide +kernel
theorem dX3_pass_13 : decode cX3_pass 13 = .ok (.getfield 10, 3) := by decide +kernel
theorem dX3_pass_16 : decode cX3_pass 16 = .ok (.invokevirtual 74, 3) := by decide +kernel
theorem dX3_pass_19 : decode cX3_pass 19 = .ok (.invokevirtual 51, 3) := by decide +kernel
theorem dX3_pass_22 : decode cX3_pass 22 = .ok (.ireturn, 1) := by decide +kernel
theorem dX3_climber_0 : decode cX3_climber 0 = .ok (.aload_n 0, 1) := by decide +kernel
theorem dX3_climber_1 : decode cX3_climber 1 = .ok (.getfield 10, 3) := by decide +kernel
theorem dX3_climber_4 : decode cX3_climber 4 = .ok (.iload_n 1, 1) := by decide +kernel
theorem dX3_climber_5 : decode cX3_climber 5 = .ok (.iload_n 2, 1) := by decide +kernel
theorem dX3_climber_6 : decode cX3_climber 6 = .ok (.invokevirtual 77, 3) := by decide +kernel
theorem dX3_climber_9 : decode cX3_climber 9 = .ok (.ireturn, 1) := by decide +kernel
theorem dX3_turn_0 : decode cX3_turn 0 = .ok (.aload_n 0, 1) := by decide +kernel
theorem dX3_turn_1 : decode cX3_turn 1 = .ok (.getfield 10, 3) := by decide +kernel
theorem dX3_turn_4 : decode cX3_turn 4 = .ok (.invokevirtual 80, 3) := by decide +kernel
theorem dX3_turn_7 : decode cX3_turn 7 = .ok (.ifCond .eq 13, 3) := by decide +kernel
theorem dX3_turn_10 : decode cX3_turn 10 = .ok (.aload_n 0, 1) := by decide +kernel
theorem dX3_turn_11 : decode cX3_turn 11 = .ok (.getfield 10, 3) := by decide +kernel
theorem dX3_turn_14 : decode cX3_turn 14 = .ok (.getfield 84, 3) := by decide +kernel
theorem dX3_turn_17 : decode cX3_turn 17 = .ok (.goto 5, 3) := by decide +kernel
theorem dX3_turn_20 : decode cX3_turn 20 = .ok (.bipush (-6), 2) := by decide +kernel
theorem dX3_turn_22 : decode cX3_turn 22 = .ok (.ireturn, 1) := by decide +kernel
theorem dX3_on_0 : decode cX3_on 0 = .ok (.aload_n 0, 1) := by decide +kernel
theorem dX3_on_1 : decode cX3_on 1 = .ok (.getfield 10, 3) := by decide +kernel
theorem dX3_on_4 : decode cX3_on 4 = .ok (.iload_n 1, 1) := by decide +kernel
theorem dX3_on_5 : decode cX3_on 5 = .ok (.invokevirtual 88, 3) := by decide +kernel
theorem dX3_on_8 : decode cX3_on 8 = .ok (.ifCond .eq 14, 3) := by decide +kernel
theorem dX3_on_11 : decode cX3_on 11 = .ok (.aload_n 0, 1) := by decide +kernel
theorem dX3_on_12 : decode cX3_on 12 = .ok (.getfield 10, 3) := by decide +kernel
theorem dX3_on_15 : decode cX3_on 15 = .ok (.iload_n 1, 1) := by decide +kernel
theorem dX3_on_16 : decode cX3_on 16 = .ok (.invokevirtual 92, 3) := by decide +kernel
theorem dX3_on_19 : decode cX3_on 19 = .ok (.goto 4, 3) := by decide +kernel
theorem dX3_on_22 : decode cX3_on 22 = .ok (.iconst (-1), 1) := by decide +kernel
theorem dX3_on_23 : decode cX3_on 23 = .ok (.ireturn, 1) := by decide +kernel
theorem dX3_step_0 : decode cX3_step 0 = .ok (.aload_n 0, 1) := by decide +kernel
theorem dX3_step_1 : decode cX3_step 1 = .ok (.getfield 10, 3) := by decide +kernel
theorem dX3_step_4 : decode cX3_step 4 = .ok (.iload_n 1, 1) := by decide +kernel
theorem dX3_step_5 : decode cX3_step 5 = .ok (.iload_n 2, 1) := by decide +kernel
theorem dX3_step_6 : decode cX3_step 6 = .ok (.invokevirtual 95, 3) := by decide +kernel
theorem dX3_step_9 : decode cX3_step 9 = .ok (.ireturn, 1) := by decide +kernel
theorem dX3_total_0 : decode cX3_total 0 = .ok (.aload_n 0, 1) := by decide +kernel
theorem dX3_total_1 : decode cX3_total 1 = .ok (.getfield 10, 3) := by decide +kernel
theorem dX3_total_4 : decode cX3_total 4 = .ok (.iload_n 1, 1) := by decide +kernel
theorem dX3_total_5 : decode cX3_total 5 = .ok (.invokevirtual 98, 3) := by decide +kernel
theorem dX3_total_8 : decode cX3_total 8 = .ok (.ireturn, 1) := by decide +kernel
theorem dX3_rank_0 : decode cX3_rank 0 = .ok (.iload_n 1, 1) := by decide +kernel
theorem dX3_rank_1 : decode cX3_rank 1 = .ok (.ifCond .ge 8, 3) := by decide +kernel
theorem dX3_rank_4 : decode cX3_rank 4 = .ok (.bipush (-2), 2) := by decide +kernel
theorem dX3_rank_6 : decode cX3_rank 6 = .ok (.goto 11, 3) := by decide +kernel
theorem dX3_rank_9 : decode cX3_rank 9 = .ok (.aload_n 0, 1) := by decide +kernel
theorem dX3_rank_10 : decode cX3_rank 10 = .ok (.getfield 10, 3) := by decide +kernel
theorem dX3_rank_13 : decode cX3_rank 13 = .ok (.iload_n 1, 1) := by decide +kernel
theorem dX3_rank_14 : decode cX3_rank 14 = .ok (.invokevirtual 101, 3) := by decide +kernel
theorem dX3_rank_17 : decode cX3_rank 17 = .ok (.ireturn, 1) := by decide +kernel
theorem dX3_ifRolled_0 : decode cX3_ifRolled 0 = .ok (.iload_n 1, 1) := by decide +kernel
theorem dX3_ifRolled_1 : decode cX3_ifRolled 1 = .ok (.invokestatic 104, 3) := by decide +kernel
theorem dX3_ifRolled_4 : decode cX3_ifRolled 4 = .ok (.ifCond .eq 12, 3) := by decide +kernel
theorem dX3_ifRolled_7 : decode cX3_ifRolled 7 = .ok (.iload_n 2, 1) := by decide +kernel
theorem dX3_ifRolled_8 : decode cX3_ifRolled 8 = .ok (.ifCond .lt 8, 3) := by decide +kernel
theorem dX3_ifRolled_11 : decode cX3_ifRolled 11 = .ok (.iload_n 2, 1) := by decide +kernel
theorem dX3_ifRolled_12 : decode cX3_ifRolled 12 = .ok (.iconst 4, 1) := by decide +kernel
theorem dX3_ifRolled_13 : decode cX3_ifRolled 13 = .ok (.if_icmp .le 6, 3) := by decide +kernel
theorem dX3_ifRolled_16 : decode cX3_ifRolled 16 = .ok (.bipush (-2), 2) := by decide +kernel
theorem dX3_ifRolled_18 : decode cX3_ifRolled 18 = .ok (.ireturn, 1) := by decide +kernel
theorem dX3_ifRolled_19 : decode cX3_ifRolled 19 = .ok (.aload_n 0, 1) := by decide +kernel
theorem dX3_ifRolled_20 : decode cX3_ifRolled 20 = .ok (.getfield 10, 3) := by decide +kernel
theorem dX3_ifRolled_23 : decode cX3_ifRolled 23 = .ok (.invokevirtual 80, 3) := by decide +kernel
theorem dX3_ifRolled_26 : decode cX3_ifRolled 26 = .ok (.ifCond .ne 6, 3) := by decide +kernel
theorem dX3_ifRolled_29 : decode cX3_ifRolled 29 = .ok (.bipush (-3), 2) := by decide +kernel
theorem dX3_ifRolled_31 : decode cX3_ifRolled 31 = .ok (.ireturn, 1) := by decide +kernel
theorem dX3_ifRolled_32 : decode cX3_ifRolled 32 = .ok (.aload_n 0, 1) := by decide +kernel
theorem dX3_ifRolled_33 : decode cX3_ifRolled 33 = .ok (.iload_n 1, 1) := by decide +kernel
theorem dX3_ifRolled_34 : decode cX3_ifRolled 34 = .ok (.invokevirtual 107, 3) := by decide +kernel
theorem dX3_ifRolled_37 : decode cX3_ifRolled 37 = .ok (.istore_n 3, 1) := by decide +kernel
theorem dX3_ifRolled_38 : decode cX3_ifRolled 38 = .ok (.iload_n 2, 1) := by decide +kernel
theorem dX3_ifRolled_39 : decode cX3_ifRolled 39 = .ok (.tableswitch 79 0 3 #[29, 31, 47, 63], 29) := by decide +kernel
theorem dX3_ifRolled_68 : decode cX3_ifRolled 68 = .ok (.iload_n 3, 1) := by decide +kernel
theorem dX3_ifRolled_69 : decode cX3_ifRolled 69 = .ok (.ireturn, 1) := by decide +kernel
theorem dX3_ifRolled_70 : decode cX3_ifRolled 70 = .ok (.aload_n 0, 1) := by decide +kernel
theorem dX3_ifRolled_71 : decode cX3_ifRolled 71 = .ok (.getfield 19, 3) := by decide +kernel
theorem dX3_ifRolled_74 : decode cX3_ifRolled 74 = .ok (.invokevirtual 110, 3) := by decide +kernel
theorem dX3_ifRolled_77 : decode cX3_ifRolled 77 = .ok (.aload_n 0, 1) := by decide +kernel
theorem dX3_ifRolled_78 : decode cX3_ifRolled 78 = .ok (.getfield 10, 3) := by decide +kernel
theorem dX3_ifRolled_81 : decode cX3_ifRolled 81 = .ok (.invokevirtual 110, 3) := by decide +kernel
theorem dX3_ifRolled_84 : decode cX3_ifRolled 84 = .ok (.isub, 1) := by decide +kernel
theorem dX3_ifRolled_85 : decode cX3_ifRolled 85 = .ok (.ireturn, 1) := by decide +kernel
theorem dX3_ifRolled_86 : decode cX3_ifRolled 86 = .ok (.aload_n 0, 1) := by decide +kernel
theorem dX3_ifRolled_87 : decode cX3_ifRolled 87 = .ok (.getfield 19, 3) := by decide +kernel
theorem dX3_ifRolled_90 : decode cX3_ifRolled 90 = .ok (.invokevirtual 113, 3) := by decide +kernel
theorem dX3_ifRolled_93 : decode cX3_ifRolled 93 = .ok (.aload_n 0, 1) := by decide +kernel
theorem dX3_ifRolled_94 : decode cX3_ifRolled 94 = .ok (.getfield 10, 3) := by decide +kernel
theorem dX3_ifRolled_97 : decode cX3_ifRolled 97 = .ok (.invokevirtual 113, 3) := by decide +kernel
theorem dX3_ifRolled_100 : decode cX3_ifRolled 100 = .ok (.isub, 1) := by decide +kernel
theorem dX3_ifRolled_101 : decode cX3_ifRolled 101 = .ok (.ireturn, 1) := by decide +kernel
theorem dX3_ifRolled_102 : decode cX3_ifRolled 102 = .ok (.aload_n 0, 1) := by decide +kernel
theorem dX3_ifRolled_103 : decode cX3_ifRolled 103 = .ok (.getfield 19, 3) := by decide +kernel
theorem dX3_ifRolled_106 : decode cX3_ifRolled 106 = .ok (.invokevirtual 116, 3) := by decide +kernel
theorem dX3_ifRolled_109 : decode cX3_ifRolled 109 = .ok (.aload_n 0, 1) := by decide +kernel
theorem dX3_ifRolled_110 : decode cX3_ifRolled 110 = .ok (.getfield 10, 3) := by decide +kernel
theorem dX3_ifRolled_113 : decode cX3_ifRolled 113 = .ok (.invokevirtual 116, 3) := by decide +kernel
theorem dX3_ifRolled_116 : decode cX3_ifRolled 116 = .ok (.isub, 1) := by decide +kernel
theorem dX3_ifRolled_117 : decode cX3_ifRolled 117 = .ok (.ireturn, 1) := by decide +kernel
theorem dX3_ifRolled_118 : decode cX3_ifRolled 118 = .ok (.aload_n 0, 1) := by decide +kernel
theorem dX3_ifRolled_119 : decode cX3_ifRolled 119 = .ok (.getfield 19, 3) := by decide +kernel
theorem dX3_ifRolled_122 : decode cX3_ifRolled 122 = .ok (.getfield 84, 3) := by decide +kernel
theorem dX3_ifRolled_125 : decode cX3_ifRolled 125 = .ok (.ireturn, 1) := by decide +kernel
theorem dX3_bestRoll_0 : decode cX3_bestRoll 0 = .ok (.aload_n 0, 1) := by decide +kernel
theorem dX3_bestRoll_1 : decode cX3_bestRoll 1 = .ok (.getfield 10, 3) := by decide +kernel
theorem dX3_bestRoll_4 : decode cX3_bestRoll 4 = .ok (.invokevirtual 80, 3) := by decide +kernel
theorem dX3_bestRoll_7 : decode cX3_bestRoll 7 = .ok (.ifCond .ne 6, 3) := by decide +kernel
theorem dX3_bestRoll_10 : decode cX3_bestRoll 10 = .ok (.bipush (-6), 2) := by decide +kernel
theorem dX3_bestRoll_12 : decode cX3_bestRoll 12 = .ok (.ireturn, 1) := by decide +kernel
theorem dX3_bestRoll_13 : decode cX3_bestRoll 13 = .ok (.iconst 1, 1) := by decide +kernel
theorem dX3_bestRoll_14 : decode cX3_bestRoll 14 = .ok (.istore_n 1, 1) := by decide +kernel
theorem dX3_bestRoll_15 : decode cX3_bestRoll 15 = .ok (.aload_n 0, 1) := by decide +kernel
theorem dX3_bestRoll_16 : decode cX3_bestRoll 16 = .ok (.iconst 1, 1) := by decide +kernel
theorem dX3_bestRoll_17 : decode cX3_bestRoll 17 = .ok (.invokevirtual 119, 3) := by decide +kernel
theorem dX3_bestRoll_20 : decode cX3_bestRoll 20 = .ok (.istore_n 2, 1) := by decide +kernel
theorem dX3_bestRoll_21 : decode cX3_bestRoll 21 = .ok (.iconst 2, 1) := by decide +kernel
theorem dX3_bestRoll_22 : decode cX3_bestRoll 22 = .ok (.istore_n 3, 1) := by decide +kernel
theorem dX3_bestRoll_23 : decode cX3_bestRoll 23 = .ok (.iload_n 3, 1) := by decide +kernel
theorem dX3_bestRoll_24 : decode cX3_bestRoll 24 = .ok (.bipush 6, 2) := by decide +kernel
theorem dX3_bestRoll_26 : decode cX3_bestRoll 26 = .ok (.if_icmp .gt 27, 3) := by decide +kernel
theorem dX3_bestRoll_29 : decode cX3_bestRoll 29 = .ok (.aload_n 0, 1) := by decide +kernel
theorem dX3_bestRoll_30 : decode cX3_bestRoll 30 = .ok (.iload_n 3, 1) := by decide +kernel
theorem dX3_bestRoll_31 : decode cX3_bestRoll 31 = .ok (.invokevirtual 119, 3) := by decide +kernel
theorem dX3_bestRoll_34 : decode cX3_bestRoll 34 = .ok (.istore 4, 2) := by decide +kernel
theorem dX3_bestRoll_36 : decode cX3_bestRoll 36 = .ok (.iload 4, 2) := by decide +kernel
theorem dX3_bestRoll_38 : decode cX3_bestRoll 38 = .ok (.iload_n 2, 1) := by decide +kernel
theorem dX3_bestRoll_39 : decode cX3_bestRoll 39 = .ok (.if_icmp .le 8, 3) := by decide +kernel
theorem dX3_bestRoll_42 : decode cX3_bestRoll 42 = .ok (.iload_n 3, 1) := by decide +kernel
theorem dX3_bestRoll_43 : decode cX3_bestRoll 43 = .ok (.istore_n 1, 1) := by decide +kernel
theorem dX3_bestRoll_44 : decode cX3_bestRoll 44 = .ok (.iload 4, 2) := by decide +kernel
theorem dX3_bestRoll_46 : decode cX3_bestRoll 46 = .ok (.istore_n 2, 1) := by decide +kernel
theorem dX3_bestRoll_47 : decode cX3_bestRoll 47 = .ok (.iinc 3 1, 3) := by decide +kernel
theorem dX3_bestRoll_50 : decode cX3_bestRoll 50 = .ok (.goto (-27), 3) := by decide +kernel
theorem dX3_bestRoll_53 : decode cX3_bestRoll 53 = .ok (.iload_n 1, 1) := by decide +kernel
theorem dX3_bestRoll_54 : decode cX3_bestRoll 54 = .ok (.ireturn, 1) := by decide +kernel
theorem dX3_quietRolls_0 : decode cX3_quietRolls 0 = .ok (.aload_n 0, 1) := by decide +kernel
theorem dX3_quietRolls_1 : decode cX3_quietRolls 1 = .ok (.getfield 10, 3) := by decide +kernel
theorem dX3_quietRolls_4 : decode cX3_quietRolls 4 = .ok (.invokevirtual 80, 3) := by decide +kernel
theorem dX3_quietRolls_7 : decode cX3_quietRolls 7 = .ok (.ifCond .ne 6, 3) := by decide +kernel
theorem dX3_quietRolls_10 : decode cX3_quietRolls 10 = .ok (.bipush (-6), 2) := by decide +kernel
theorem dX3_quietRolls_12 : decode cX3_quietRolls 12 = .ok (.ireturn, 1) := by decide +kernel
theorem dX3_quietRolls_13 : decode cX3_quietRolls 13 = .ok (.iconst 0, 1) := by decide +kernel
theorem dX3_quietRolls_14 : decode cX3_quietRolls 14 = .ok (.istore_n 1, 1) := by decide +kernel
theorem dX3_quietRolls_15 : decode cX3_quietRolls 15 = .ok (.iconst 1, 1) := by decide +kernel
theorem dX3_quietRolls_16 : decode cX3_quietRolls 16 = .ok (.istore_n 2, 1) := by decide +kernel
theorem dX3_quietRolls_17 : decode cX3_quietRolls 17 = .ok (.iload_n 2, 1) := by decide +kernel
theorem dX3_quietRolls_18 : decode cX3_quietRolls 18 = .ok (.bipush 6, 2) := by decide +kernel
theorem dX3_quietRolls_20 : decode cX3_quietRolls 20 = .ok (.if_icmp .gt 26, 3) := by decide +kernel
theorem dX3_quietRolls_23 : decode cX3_quietRolls 23 = .ok (.aload_n 0, 1) := by decide +kernel
theorem dX3_quietRolls_24 : decode cX3_quietRolls 24 = .ok (.getfield 10, 3) := by decide +kernel
theorem dX3_quietRolls_27 : decode cX3_quietRolls 27 = .ok (.iload_n 2, 1) := by decide +kernel
theorem dX3_quietRolls_28 : decode cX3_quietRolls 28 = .ok (.invokevirtual 122, 3) := by decide +kernel
theorem dX3_quietRolls_31 : decode cX3_quietRolls 31 = .ok (.ifCond .ne 9, 3) := by decide +kernel
theorem dX3_quietRolls_34 : decode cX3_quietRolls 34 = .ok (.iload_n 1, 1) := by decide +kernel
theorem dX3_quietRolls_35 : decode cX3_quietRolls 35 = .ok (.iconst 1, 1) := by decide +kernel
theorem dX3_quietRolls_36 : decode cX3_quietRolls 36 = .ok (.iload_n 2, 1) := by decide +kernel
theorem dX3_quietRolls_37 : decode cX3_quietRolls 37 = .ok (.ishl, 1) := by decide +kernel
theorem dX3_quietRolls_38 : decode cX3_quietRolls 38 = .ok (.ior, 1) := by decide +kernel
theorem dX3_quietRolls_39 : decode cX3_quietRolls 39 = .ok (.istore_n 1, 1) := by decide +kernel
theorem dX3_quietRolls_40 : decode cX3_quietRolls 40 = .ok (.iinc 2 1, 3) := by decide +kernel
theorem dX3_quietRolls_43 : decode cX3_quietRolls 43 = .ok (.goto (-26), 3) := by decide +kernel
theorem dX3_quietRolls_46 : decode cX3_quietRolls 46 = .ok (.iload_n 1, 1) := by decide +kernel
theorem dX3_quietRolls_47 : decode cX3_quietRolls 47 = .ok (.ireturn, 1) := by decide +kernel
theorem dX3_rollsToTop_0 : decode cX3_rollsToTop 0 = .ok (.aload_n 0, 1) := by decide +kernel
theorem dX3_rollsToTop_1 : decode cX3_rollsToTop 1 = .ok (.getfield 10, 3) := by decide +kernel
theorem dX3_rollsToTop_4 : decode cX3_rollsToTop 4 = .ok (.iload_n 1, 1) := by decide +kernel
theorem dX3_rollsToTop_5 : decode cX3_rollsToTop 5 = .ok (.invokevirtual 125, 3) := by decide +kernel
theorem dX3_rollsToTop_8 : decode cX3_rollsToTop 8 = .ok (.ifCond .eq 14, 3) := by decide +kernel
theorem dX3_rollsToTop_11 : decode cX3_rollsToTop 11 = .ok (.aload_n 0, 1) := by decide +kernel
theorem dX3_rollsToTop_12 : decode cX3_rollsToTop 12 = .ok (.getfield 10, 3) := by decide +kernel
theorem dX3_rollsToTop_15 : decode cX3_rollsToTop 15 = .ok (.iload_n 1, 1) := by decide +kernel
theorem dX3_rollsToTop_16 : decode cX3_rollsToTop 16 = .ok (.invokevirtual 128, 3) := by decide +kernel
theorem dX3_rollsToTop_19 : decode cX3_rollsToTop 19 = .ok (.goto 4, 3) := by decide +kernel
theorem dX3_rollsToTop_22 : decode cX3_rollsToTop 22 = .ok (.iconst (-1), 1) := by decide +kernel
theorem dX3_rollsToTop_23 : decode cX3_rollsToTop 23 = .ok (.ireturn, 1) := by decide +kernel
theorem dX3_recordUnlessError_0 : decode cX3_recordUnlessError 0 = .ok (.iload_n 1, 1) := by decide +kernel
theorem dX3_recordUnlessError_1 : decode cX3_recordUnlessError 1 = .ok (.ifCond .lt 14, 3) := by decide +kernel
theorem dX3_recordUnlessError_4 : decode cX3_recordUnlessError 4 = .ok (.aload_n 0, 1) := by decide +kernel
theorem dX3_recordUnlessError_5 : decode cX3_recordUnlessError 5 = .ok (.getfield 28, 3) := by decide +kernel
theorem dX3_recordUnlessError_8 : decode cX3_recordUnlessError 8 = .ok (.aload_n 0, 1) := by decide +kernel
theorem dX3_recordUnlessError_9 : decode cX3_recordUnlessError 9 = .ok (.getfield 16, 3) := by decide +kernel
theorem dX3_recordUnlessError_12 : decode cX3_recordUnlessError 12 = .ok (.invokevirtual 153, 3) := by decide +kernel
theorem dX3_recordUnlessError_15 : decode cX3_recordUnlessError 15 = .ok (.iload_n 1, 1) := by decide +kernel
theorem dX3_recordUnlessError_16 : decode cX3_recordUnlessError 16 = .ok (.ireturn, 1) := by decide +kernel
theorem dX3_rollInTrial_0 : decode cX3_rollInTrial 0 = .ok (.aload_n 0, 1) := by decide +kernel
theorem dX3_rollInTrial_1 : decode cX3_rollInTrial 1 = .ok (.getfield 19, 3) := by decide +kernel
theorem dX3_rollInTrial_4 : decode cX3_rollInTrial 4 = .ok (.aload_n 0, 1) := by decide +kernel
theorem dX3_rollInTrial_5 : decode cX3_rollInTrial 5 = .ok (.getfield 10, 3) := by decide +kernel
theorem dX3_rollInTrial_8 : decode cX3_rollInTrial 8 = .ok (.invokevirtual 43, 3) := by decide +kernel
theorem dX3_rollInTrial_11 : decode cX3_rollInTrial 11 = .ok (.aload_n 0, 1) := by decide +kernel
theorem dX3_rollInTrial_12 : decode cX3_rollInTrial 12 = .ok (.getfield 19, 3) := by decide +kernel
theorem dX3_rollInTrial_15 : decode cX3_rollInTrial 15 = .ok (.iload_n 1, 1) := by decide +kernel
theorem dX3_rollInTrial_16 : decode cX3_rollInTrial 16 = .ok (.invokevirtual 71, 3) := by decide +kernel
theorem dX3_rollInTrial_19 : decode cX3_rollInTrial 19 = .ok (.ireturn, 1) := by decide +kernel
theorem dX3_gainOfRoll_0 : decode cX3_gainOfRoll 0 = .ok (.aload_n 0, 1) := by decide +kernel
theorem dX3_gainOfRoll_1 : decode cX3_gainOfRoll 1 = .ok (.iload_n 1, 1) := by decide +kernel
theorem dX3_gainOfRoll_2 : decode cX3_gainOfRoll 2 = .ok (.invokevirtual 107, 3) := by decide +kernel
theorem dX3_gainOfRoll_5 : decode cX3_gainOfRoll 5 = .ok (.pop, 1) := by decide +kernel
theorem dX3_gainOfRoll_6 : decode cX3_gainOfRoll 6 = .ok (.iconst 0, 1) := by decide +kernel
theorem dX3_gainOfRoll_7 : decode cX3_gainOfRoll 7 = .ok (.istore_n 2, 1) := by decide +kernel
theorem dX3_gainOfRoll_8 : decode cX3_gainOfRoll 8 = .ok (.iconst 0, 1) := by decide +kernel
theorem dX3_gainOfRoll_9 : decode cX3_gainOfRoll 9 = .ok (.istore_n 3, 1) := by decide +kernel
theorem dX3_gainOfRoll_10 : decode cX3_gainOfRoll 10 = .ok (.iload_n 3, 1) := by decide +kernel
theorem dX3_gainOfRoll_11 : decode cX3_gainOfRoll 11 = .ok (.aload_n 0, 1) := by decide +kernel
theorem dX3_gainOfRoll_12 : decode cX3_gainOfRoll 12 = .ok (.getfield 10, 3) := by decide +kernel
theorem dX3_gainOfRoll_15 : decode cX3_gainOfRoll 15 = .ok (.getfield 150, 3) := by decide +kernel
theorem dX3_gainOfRoll_18 : decode cX3_gainOfRoll 18 = .ok (.if_icmp .ge 50, 3) := by decide +kernel
theorem dX3_gainOfRoll_21 : decode cX3_gainOfRoll 21 = .ok (.aload_n 0, 1) := by decide +kernel
theorem dX3_gainOfRoll_22 : decode cX3_gainOfRoll 22 = .ok (.getfield 19, 3) := by decide +kernel
theorem dX3_gainOfRoll_25 : decode cX3_gainOfRoll 25 = .ok (.iload_n 3, 1) := by decide +kernel
theorem dX3_gainOfRoll_26 : decode cX3_gainOfRoll 26 = .ok (.invokevirtual 156, 3) := by decide +kernel
theorem dX3_gainOfRoll_29 : decode cX3_gainOfRoll 29 = .ok (.aload_n 0, 1) := by decide +kernel
theorem dX3_gainOfRoll_30 : decode cX3_gainOfRoll 30 = .ok (.getfield 10, 3) := by decide +kernel
theorem dX3_gainOfRoll_33 : decode cX3_gainOfRoll 33 = .ok (.iload_n 3, 1) := by decide +kernel
theorem dX3_gainOfRoll_34 : decode cX3_gainOfRoll 34 = .ok (.invokevirtual 156, 3) := by decide +kernel
theorem dX3_gainOfRoll_37 : decode cX3_gainOfRoll 37 = .ok (.isub, 1) := by decide +kernel
theorem dX3_gainOfRoll_38 : decode cX3_gainOfRoll 38 = .ok (.istore 4, 2) := by decide +kernel
theorem dX3_gainOfRoll_40 : decode cX3_gainOfRoll 40 = .ok (.iload_n 2, 1) := by decide +kernel
theorem dX3_gainOfRoll_41 : decode cX3_gainOfRoll 41 = .ok (.iload_n 3, 1) := by decide +kernel
theorem dX3_gainOfRoll_42 : decode cX3_gainOfRoll 42 = .ok (.aload_n 0, 1) := by decide +kernel
theorem dX3_gainOfRoll_43 : decode cX3_gainOfRoll 43 = .ok (.getfield 10, 3) := by decide +kernel
theorem dX3_gainOfRoll_46 : decode cX3_gainOfRoll 46 = .ok (.getfield 84, 3) := by decide +kernel
theorem dX3_gainOfRoll_49 : decode cX3_gainOfRoll 49 = .ok (.if_icmp .ne 8, 3) := by decide +kernel
theorem dX3_gainOfRoll_52 : decode cX3_gainOfRoll 52 = .ok (.iload 4, 2) := by decide +kernel
theorem dX3_gainOfRoll_54 : decode cX3_gainOfRoll 54 = .ok (.goto 6, 3) := by decide +kernel
theorem dX3_gainOfRoll_57 : decode cX3_gainOfRoll 57 = .ok (.iload 4, 2) := by decide +kernel
theorem dX3_gainOfRoll_59 : decode cX3_gainOfRoll 59 = .ok (.ineg, 1) := by decide +kernel
theorem dX3_gainOfRoll_60 : decode cX3_gainOfRoll 60 = .ok (.iadd, 1) := by decide +kernel
theorem dX3_gainOfRoll_61 : decode cX3_gainOfRoll 61 = .ok (.istore_n 2, 1) := by decide +kernel
theorem dX3_gainOfRoll_62 : decode cX3_gainOfRoll 62 = .ok (.iinc 3 1, 3) := by decide +kernel
theorem dX3_gainOfRoll_65 : decode cX3_gainOfRoll 65 = .ok (.goto (-55), 3) := by decide +kernel
theorem dX3_gainOfRoll_68 : decode cX3_gainOfRoll 68 = .ok (.iload_n 2, 1) := by decide +kernel
theorem dX3_gainOfRoll_69 : decode cX3_gainOfRoll 69 = .ok (.ireturn, 1) := by decide +kernel
theorem dX3_isRoll_0 : decode cX3_isRoll 0 = .ok (.iload_n 0, 1) := by decide +kernel
theorem dX3_isRoll_1 : decode cX3_isRoll 1 = .ok (.iconst 1, 1) := by decide +kernel
theorem dX3_isRoll_2 : decode cX3_isRoll 2 = .ok (.if_icmp .lt 13, 3) := by decide +kernel
theorem dX3_isRoll_5 : decode cX3_isRoll 5 = .ok (.iload_n 0, 1) := by decide +kernel
theorem dX3_isRoll_6 : decode cX3_isRoll 6 = .ok (.bipush 6, 2) := by decide +kernel
theorem dX3_isRoll_8 : decode cX3_isRoll 8 = .ok (.if_icmp .gt 7, 3) := by decide +kernel
theorem dX3_isRoll_11 : decode cX3_isRoll 11 = .ok (.iconst 1, 1) := by decide +kernel
theorem dX3_isRoll_12 : decode cX3_isRoll 12 = .ok (.goto 4, 3) := by decide +kernel
theorem dX3_isRoll_15 : decode cX3_isRoll 15 = .ok (.iconst 0, 1) := by decide +kernel
theorem dX3_isRoll_16 : decode cX3_isRoll 16 = .ok (.ireturn, 1) := by decide +kernel
theorem dJ6_bitCount_0f7a4_0 : decode cJ6_bitCount_0f7a4 0 = .ok (.iload_n 0, 1) := by decide +kernel
theorem dJ6_bitCount_0f7a4_1 : decode cJ6_bitCount_0f7a4 1 = .ok (.iload_n 0, 1) := by decide +kernel
theorem dJ6_bitCount_0f7a4_2 : decode cJ6_bitCount_0f7a4 2 = .ok (.iconst 1, 1) := by decide +kernel
theorem dJ6_bitCount_0f7a4_3 : decode cJ6_bitCount_0f7a4 3 = .ok (.iushr, 1) := by decide +kernel
theorem dJ6_bitCount_0f7a4_4 : decode cJ6_bitCount_0f7a4 4 = .ok (.ldc_w 265, 3) := by decide +kernel
theorem dJ6_bitCount_0f7a4_7 : decode cJ6_bitCount_0f7a4 7 = .ok (.iand, 1) := by decide +kernel
theorem dJ6_bitCount_0f7a4_8 : decode cJ6_bitCount_0f7a4 8 = .ok (.isub, 1) := by decide +kernel
theorem dJ6_bitCount_0f7a4_9 : decode cJ6_bitCount_0f7a4 9 = .ok (.istore_n 0, 1) := by decide +kernel
theorem dJ6_bitCount_0f7a4_10 : decode cJ6_bitCount_0f7a4 10 = .ok (.iload_n 0, 1) := by decide +kernel
theorem dJ6_bitCount_0f7a4_11 : decode cJ6_bitCount_0f7a4 11 = .ok (.ldc_w 266, 3) := by decide +kernel
theorem dJ6_bitCount_0f7a4_14 : decode cJ6_bitCount_0f7a4 14 = .ok (.iand, 1) := by decide +kernel
theorem dJ6_bitCount_0f7a4_15 : decode cJ6_bitCount_0f7a4 15 = .ok (.iload_n 0, 1) := by decide +kernel
theorem dJ6_bitCount_0f7a4_16 : decode cJ6_bitCount_0f7a4 16 = .ok (.iconst 2, 1) := by decide +kernel
theorem dJ6_bitCount_0f7a4_17 : decode cJ6_bitCount_0f7a4 17 = .ok (.iushr, 1) := by decide +kernel
theorem dJ6_bitCount_0f7a4_18 : decode cJ6_bitCount_0f7a4 18 = .ok (.ldc_w 266, 3) := by decide +kernel
theorem dJ6_bitCount_0f7a4_21 : decode cJ6_bitCount_0f7a4 21 = .ok (.iand, 1) := by decide +kernel
theorem dJ6_bitCount_0f7a4_22 : decode cJ6_bitCount_0f7a4 22 = .ok (.iadd, 1) := by decide +kernel
theorem dJ6_bitCount_0f7a4_23 : decode cJ6_bitCount_0f7a4 23 = .ok (.istore_n 0, 1) := by decide +kernel
theorem dJ6_bitCount_0f7a4_24 : decode cJ6_bitCount_0f7a4 24 = .ok (.iload_n 0, 1) := by decide +kernel
theorem dJ6_bitCount_0f7a4_25 : decode cJ6_bitCount_0f7a4 25 = .ok (.iload_n 0, 1) := by decide +kernel
theorem dJ6_bitCount_0f7a4_26 : decode cJ6_bitCount_0f7a4 26 = .ok (.iconst 4, 1) := by decide +kernel
theorem dJ6_bitCount_0f7a4_27 : decode cJ6_bitCount_0f7a4 27 = .ok (.iushr, 1) := by decide +kernel
theorem dJ6_bitCount_0f7a4_28 : decode cJ6_bitCount_0f7a4 28 = .ok (.iadd, 1) := by decide +kernel
theorem dJ6_bitCount_0f7a4_29 : decode cJ6_bitCount_0f7a4 29 = .ok (.ldc_w 267, 3) := by decide +kernel
theorem dJ6_bitCount_0f7a4_32 : decode cJ6_bitCount_0f7a4 32 = .ok (.iand, 1) := by decide +kernel
theorem dJ6_bitCount_0f7a4_33 : decode cJ6_bitCount_0f7a4 33 = .ok (.istore_n 0, 1) := by decide +kernel
theorem dJ6_bitCount_0f7a4_34 : decode cJ6_bitCount_0f7a4 34 = .ok (.iload_n 0, 1) := by decide +kernel
theorem dJ6_bitCount_0f7a4_35 : decode cJ6_bitCount_0f7a4 35 = .ok (.iload_n 0, 1) := by decide +kernel
theorem dJ6_bitCount_0f7a4_36 : decode cJ6_bitCount_0f7a4 36 = .ok (.bipush 8, 2) := by decide +kernel
theorem dJ6_bitCount_0f7a4_38 : decode cJ6_bitCount_0f7a4 38 = .ok (.iushr, 1) := by decide +kernel
theorem dJ6_bitCount_0f7a4_39 : decode cJ6_bitCount_0f7a4 39 = .ok (.iadd, 1) := by decide +kernel
theorem dJ6_bitCount_0f7a4_40 : decode cJ6_bitCount_0f7a4 40 = .ok (.istore_n 0, 1) := by decide +kernel
theorem dJ6_bitCount_0f7a4_41 : decode cJ6_bitCount_0f7a4 41 = .ok (.iload_n 0, 1) := by decide +kernel
theorem dJ6_bitCount_0f7a4_42 : decode cJ6_bitCount_0f7a4 42 = .ok (.iload_n 0, 1) := by decide +kernel
theorem dJ6_bitCount_0f7a4_43 : decode cJ6_bitCount_0f7a4 43 = .ok (.bipush 16, 2) := by decide +kernel
theorem dJ6_bitCount_0f7a4_45 : decode cJ6_bitCount_0f7a4 45 = .ok (.iushr, 1) := by decide +kernel
theorem dJ6_bitCount_0f7a4_46 : decode cJ6_bitCount_0f7a4 46 = .ok (.iadd, 1) := by decide +kernel
theorem dJ6_bitCount_0f7a4_47 : decode cJ6_bitCount_0f7a4 47 = .ok (.istore_n 0, 1) := by decide +kernel
theorem dJ6_bitCount_0f7a4_48 : decode cJ6_bitCount_0f7a4 48 = .ok (.iload_n 0, 1) := by decide +kernel
theorem dJ6_bitCount_0f7a4_49 : decode cJ6_bitCount_0f7a4 49 = .ok (.bipush 63, 2) := by decide +kernel
theorem dJ6_bitCount_0f7a4_51 : decode cJ6_bitCount_0f7a4 51 = .ok (.iand, 1) := by decide +kernel
theorem dJ6_bitCount_0f7a4_52 : decode cJ6_bitCount_0f7a4 52 = .ok (.ireturn, 1) := by decide +kernel
theorem dL_cell_0 : decode cL_cell 0 = .ok (.iload_n 1, 1) := by decide +kernel
theorem dL_cell_1 : decode cL_cell 1 = .ok (.aload_n 0, 1) := by decide +kernel
theorem dL_cell_2 : decode cL_cell 2 = .ok (.arraylength, 1) := by decide +kernel
theorem dL_cell_3 : decode cL_cell 3 = .ok (.if_icmp .ge 9, 3) := by decide +kernel
theorem dL_cell_6 : decode cL_cell 6 = .ok (.aload_n 0, 1) := by decide +kernel
theorem dL_cell_7 : decode cL_cell 7 = .ok (.iload_n 1, 1) := by decide +kernel
theorem dL_cell_8 : decode cL_cell 8 = .ok (.iaload, 1) := by decide +kernel
theorem dL_cell_9 : decode cL_cell 9 = .ok (.goto 10, 3) := by decide +kernel
theorem dL_cell_12 : decode cL_cell 12 = .ok (.ldc 7, 2) := by decide +kernel
theorem dL_cell_14 : decode cL_cell 14 = .ok (.iload_n 1, 1) := by decide +kernel
theorem dL_cell_15 : decode cL_cell 15 = .ok (.imul, 1) := by decide +kernel
theorem dL_cell_16 : decode cL_cell 16 = .ok (.ldc 8, 2) := by decide +kernel
theorem dL_cell_18 : decode cL_cell 18 = .ok (.iadd, 1) := by decide +kernel
theorem dL_cell_19 : decode cL_cell 19 = .ok (.ireturn, 1) := by decide +kernel
theorem dL_low_0 : decode cL_low 0 = .ok (.iload_n 0, 1) := by decide +kernel
theorem dL_low_1 : decode cL_low 1 = .ok (.ldc 9, 2) := by decide +kernel
theorem dL_low_3 : decode cL_low 3 = .ok (.iand, 1) := by decide +kernel
theorem dL_low_4 : decode cL_low 4 = .ok (.iload_n 1, 1) := by decide +kernel
theorem dL_low_5 : decode cL_low 5 = .ok (.irem, 1) := by decide +kernel
theorem dL_low_6 : decode cL_low 6 = .ok (.ireturn, 1) := by decide +kernel
theorem dL_come_0 : decode cL_come 0 = .ok (.iload 4, 2) := by decide +kernel
theorem dL_come_2 : decode cL_come 2 = .ok (.aload_n 2, 1) := by decide +kernel
theorem dL_come_3 : decode cL_come 3 = .ok (.iconst 0, 1) := by decide +kernel
theorem dL_come_4 : decode cL_come 4 = .ok (.iaload, 1) := by decide +kernel
theorem dL_come_5 : decode cL_come 5 = .ok (.if_icmp .lt 25, 3) := by decide +kernel
theorem dL_come_8 : decode cL_come 8 = .ok (.aload_n 1, 1) := by decide +kernel
theorem dL_come_9 : decode cL_come 9 = .ok (.bipush 6, 2) := by decide +kernel
theorem dL_come_11 : decode cL_come 11 = .ok (.iload_n 3, 1) := by decide +kernel
theorem dL_come_12 : decode cL_come 12 = .ok (.imul, 1) := by decide +kernel
theorem dL_come_13 : decode cL_come 13 = .ok (.iconst 1, 1) := by decide +kernel
theorem dL_come_14 : decode cL_come 14 = .ok (.iadd, 1) := by decide +kernel
theorem dL_come_15 : decode cL_come 15 = .ok (.dup2, 1) := by decide +kernel
theorem dL_come_16 : decode cL_come 16 = .ok (.iaload, 1) := by decide +kernel
theorem dL_come_17 : decode cL_come 17 = .ok (.iconst 1, 1) := by decide +kernel
theorem dL_come_18 : decode cL_come 18 = .ok (.iadd, 1) := by decide +kernel
theorem dL_come_19 : decode cL_come 19 = .ok (.iastore, 1) := by decide +kernel
theorem dL_come_20 : decode cL_come 20 = .ok (.aload_n 1, 1) := by decide +kernel
theorem dL_come_21 : decode cL_come 21 = .ok (.bipush 6, 2) := by decide +kernel
theorem dL_come_23 : decode cL_come 23 = .ok (.iload_n 3, 1) := by decide +kernel
theorem dL_come_24 : decode cL_come 24 = .ok (.imul, 1) := by decide +kernel
theorem dL_come_25 : decode cL_come 25 = .ok (.iconst 0, 1) := by decide +kernel
theorem dL_come_26 : decode cL_come 26 = .ok (.iastore, 1) := by decide +kernel
theorem dL_come_27 : decode cL_come 27 = .ok (.goto 50, 3) := by decide +kernel
theorem dL_come_30 : decode cL_come 30 = .ok (.aload_n 0, 1) := by decide +kernel
theorem dL_come_31 : decode cL_come 31 = .ok (.iload 4, 2) := by decide +kernel
theorem dL_come_33 : decode cL_come 33 = .ok (.iaload, 1) := by decide +kernel
theorem dL_come_34 : decode cL_come 34 = .ok (.ifCond .lt 35, 3) := by decide +kernel
theorem dL_come_37 : decode cL_come 37 = .ok (.aload_n 1, 1) := by decide +kernel
theorem dL_come_38 : decode cL_come 38 = .ok (.bipush 6, 2) := by decide +kernel
theorem dL_come_40 : decode cL_come 40 = .ok (.iload_n 3, 1) := by decide +kernel
theorem dL_come_41 : decode cL_come 41 = .ok (.imul, 1) := by decide +kernel
theorem dL_come_42 : decode cL_come 42 = .ok (.iconst 5, 1) := by decide +kernel
theorem dL_come_43 : decode cL_come 43 = .ok (.iadd, 1) := by decide +kernel
theorem dL_come_44 : decode cL_come 44 = .ok (.dup2, 1) := by decide +kernel
theorem dL_come_45 : decode cL_come 45 = .ok (.iaload, 1) := by decide +kernel
theorem dL_come_46 : decode cL_come 46 = .ok (.iconst 1, 1) := by decide +kernel
theorem dL_come_47 : decode cL_come 47 = .ok (.iadd, 1) := by decide +kernel
theorem dL_come_48 : decode cL_come 48 = .ok (.iastore, 1) := by decide +kernel
theorem dL_come_49 : decode cL_come 49 = .ok (.aload_n 2, 1) := by decide +kernel
theorem dL_come_50 : decode cL_come 50 = .ok (.iconst 5, 1) := by decide +kernel
theorem dL_come_51 : decode cL_come 51 = .ok (.dup2, 1) := by decide +kernel
theorem dL_come_52 : decode cL_come 52 = .ok (.iaload, 1) := by decide +kernel
theorem dL_come_53 : decode cL_come 53 = .ok (.iconst 1, 1) := by decide +kernel
theorem dL_come_54 : decode cL_come 54 = .ok (.iadd, 1) := by decide +kernel
theorem dL_come_55 : decode cL_come 55 = .ok (.iastore, 1) := by decide +kernel
theorem dL_come_56 : decode cL_come 56 = .ok (.aload_n 1, 1) := by decide +kernel
theorem dL_come_57 : decode cL_come 57 = .ok (.bipush 6, 2) := by decide +kernel
theorem dL_come_59 : decode cL_come 59 = .ok (.iload_n 3, 1) := by decide +kernel
theorem dL_come_60 : decode cL_come 60 = .ok (.imul, 1) := by decide +kernel
theorem dL_come_61 : decode cL_come 61 = .ok (.aload_n 0, 1) := by decide +kernel
theorem dL_come_62 : decode cL_come 62 = .ok (.iload 4, 2) := by decide +kernel
theorem dL_come_64 : decode cL_come 64 = .ok (.iaload, 1) := by decide +kernel
theorem dL_come_65 : decode cL_come 65 = .ok (.iastore, 1) := by decide +kernel
theorem dL_come_66 : decode cL_come 66 = .ok (.goto 11, 3) := by decide +kernel
theorem dL_come_69 : decode cL_come 69 = .ok (.aload_n 1, 1) := by decide +kernel
theorem dL_come_70 : decode cL_come 70 = .ok (.bipush 6, 2) := by decide +kernel
theorem dL_come_72 : decode cL_come 72 = .ok (.iload_n 3, 1) := by decide +kernel
theorem dL_come_73 : decode cL_come 73 = .ok (.imul, 1) := by decide +kernel
theorem dL_come_74 : decode cL_come 74 = .ok (.iload 4, 2) := by decide +kernel
theorem dL_come_76 : decode cL_come 76 = .ok (.iastore, 1) := by decide +kernel
theorem dL_come_77 : decode cL_come 77 = .ok (.return_, 1) := by decide +kernel
theorem dL_next_0 : decode cL_next 0 = .ok (.iconst 0, 1) := by decide +kernel
theorem dL_next_1 : decode cL_next 1 = .ok (.istore_n 2, 1) := by decide +kernel
theorem dL_next_2 : decode cL_next 2 = .ok (.iload_n 2, 1) := by decide +kernel
theorem dL_next_3 : decode cL_next 3 = .ok (.ifCond .ne 86, 3) := by decide +kernel
theorem dL_next_6 : decode cL_next 6 = .ok (.aload_n 1, 1) := by decide +kernel
theorem dL_next_7 : decode cL_next 7 = .ok (.iconst 2, 1) := by decide +kernel
theorem dL_next_8 : decode cL_next 8 = .ok (.aload_n 1, 1) := by decide +kernel
theorem dL_next_9 : decode cL_next 9 = .ok (.iconst 2, 1) := by decide +kernel
theorem dL_next_10 : decode cL_next 10 = .ok (.iaload, 1) := by decide +kernel
theorem dL_next_11 : decode cL_next 11 = .ok (.iconst 1, 1) := by decide +kernel
theorem dL_next_12 : decode cL_next 12 = .ok (.iadd, 1) := by decide +kernel
theorem dL_next_13 : decode cL_next 13 = .ok (.aload_n 1, 1) := by decide +kernel
theorem dL_next_14 : decode cL_next 14 = .ok (.iconst 1, 1) := by decide +kernel
theorem dL_next_15 : decode cL_next 15 = .ok (.iaload, 1) := by decide +kernel
theorem dL_next_16 : decode cL_next 16 = .ok (.if_icmp .ne 7, 3) := by decide +kernel
theorem dL_next_19 : decode cL_next 19 = .ok (.iconst 0, 1) := by decide +kernel
theorem dL_next_20 : decode cL_next 20 = .ok (.goto 8, 3) := by decide +kernel
theorem dL_next_23 : decode cL_next 23 = .ok (.aload_n 1, 1) := by decide +kernel
theorem dL_next_24 : decode cL_next 24 = .ok (.iconst 2, 1) := by decide +kernel
theorem dL_next_25 : decode cL_next 25 = .ok (.iaload, 1) := by decide +kernel
theorem dL_next_26 : decode cL_next 26 = .ok (.iconst 1, 1) := by decide +kernel
theorem dL_next_27 : decode cL_next 27 = .ok (.iadd, 1) := by decide +kernel
theorem dL_next_28 : decode cL_next 28 = .ok (.iastore, 1) := by decide +kernel
theorem dL_next_29 : decode cL_next 29 = .ok (.aload_n 0, 1) := by decide +kernel
theorem dL_next_30 : decode cL_next 30 = .ok (.bipush 6, 2) := by decide +kernel
theorem dL_next_32 : decode cL_next 32 = .ok (.aload_n 1, 1) := by decide +kernel
theorem dL_next_33 : decode cL_next 33 = .ok (.iconst 2, 1) := by decide +kernel
theorem dL_next_34 : decode cL_next 34 = .ok (.iaload, 1) := by decide +kernel
theorem dL_next_35 : decode cL_next 35 = .ok (.imul, 1) := by decide +kernel
theorem dL_next_36 : decode cL_next 36 = .ok (.iconst 2, 1) := by decide +kernel
theorem dL_next_37 : decode cL_next 37 = .ok (.iadd, 1) := by decide +kernel
theorem dL_next_38 : decode cL_next 38 = .ok (.iaload, 1) := by decide +kernel
theorem dL_next_39 : decode cL_next 39 = .ok (.ifCond .ne 7, 3) := by decide +kernel
theorem dL_next_42 : decode cL_next 42 = .ok (.iconst 1, 1) := by decide +kernel
theorem dL_next_43 : decode cL_next 43 = .ok (.goto 4, 3) := by decide +kernel
theorem dL_next_46 : decode cL_next 46 = .ok (.iconst 0, 1) := by decide +kernel
theorem dL_next_47 : decode cL_next 47 = .ok (.istore_n 2, 1) := by decide +kernel
theorem dL_next_48 : decode cL_next 48 = .ok (.aload_n 0, 1) := by decide +kernel
theorem dL_next_49 : decode cL_next 49 = .ok (.bipush 6, 2) := by decide +kernel
theorem dL_next_51 : decode cL_next 51 = .ok (.aload_n 1, 1) := by decide +kernel
theorem dL_next_52 : decode cL_next 52 = .ok (.iconst 2, 1) := by decide +kernel
theorem dL_next_53 : decode cL_next 53 = .ok (.iaload, 1) := by decide +kernel
theorem dL_next_54 : decode cL_next 54 = .ok (.imul, 1) := by decide +kernel
theorem dL_next_55 : decode cL_next 55 = .ok (.iconst 2, 1) := by decide +kernel
theorem dL_next_56 : decode cL_next 56 = .ok (.iadd, 1) := by decide +kernel
theorem dL_next_57 : decode cL_next 57 = .ok (.dup2, 1) := by decide +kernel
theorem dL_next_58 : decode cL_next 58 = .ok (.iaload, 1) := by decide +kernel
theorem dL_next_59 : decode cL_next 59 = .ok (.iload_n 2, 1) := by decide +kernel
theorem dL_next_60 : decode cL_next 60 = .ok (.ifCond .eq 7, 3) := by decide +kernel
theorem dL_next_63 : decode cL_next 63 = .ok (.iconst 0, 1) := by decide +kernel
theorem dL_next_64 : decode cL_next 64 = .ok (.goto 4, 3) := by decide +kernel
theorem dL_next_67 : decode cL_next 67 = .ok (.iconst 1, 1) := by decide +kernel
theorem dL_next_68 : decode cL_next 68 = .ok (.isub, 1) := by decide +kernel
theorem dL_next_69 : decode cL_next 69 = .ok (.iastore, 1) := by decide +kernel
theorem dL_next_70 : decode cL_next 70 = .ok (.aload_n 1, 1) := by decide +kernel
theorem dL_next_71 : decode cL_next 71 = .ok (.bipush 6, 2) := by decide +kernel
theorem dL_next_73 : decode cL_next 73 = .ok (.dup2, 1) := by decide +kernel
theorem dL_next_74 : decode cL_next 74 = .ok (.iaload, 1) := by decide +kernel
theorem dL_next_75 : decode cL_next 75 = .ok (.iload_n 2, 1) := by decide +kernel
theorem dL_next_76 : decode cL_next 76 = .ok (.ifCond .eq 7, 3) := by decide +kernel
theorem dL_next_79 : decode cL_next 79 = .ok (.iconst 0, 1) := by decide +kernel
theorem dL_next_80 : decode cL_next 80 = .ok (.goto 4, 3) := by decide +kernel
theorem dL_next_83 : decode cL_next 83 = .ok (.iconst 1, 1) := by decide +kernel
theorem dL_next_84 : decode cL_next 84 = .ok (.iadd, 1) := by decide +kernel
theorem dL_next_85 : decode cL_next 85 = .ok (.iastore, 1) := by decide +kernel
theorem dL_next_86 : decode cL_next 86 = .ok (.goto (-84), 3) := by decide +kernel
theorem dL_next_89 : decode cL_next 89 = .ok (.return_, 1) := by decide +kernel
theorem dL_roll_0 : decode cL_roll 0 = .ok (.aload_n 3, 1) := by decide +kernel
theorem dL_roll_1 : decode cL_roll 1 = .ok (.iconst 2, 1) := by decide +kernel
theorem dL_roll_2 : decode cL_roll 2 = .ok (.iaload, 1) := by decide +kernel
theorem dL_roll_3 : decode cL_roll 3 = .ok (.istore 5, 2) := by decide +kernel
theorem dL_roll_5 : decode cL_roll 5 = .ok (.aload_n 2, 1) := by decide +kernel
theorem dL_roll_6 : decode cL_roll 6 = .ok (.bipush 6, 2) := by decide +kernel
theorem dL_roll_8 : decode cL_roll 8 = .ok (.iload 5, 2) := by decide +kernel
theorem dL_roll_10 : decode cL_roll 10 = .ok (.imul, 1) := by decide +kernel
theorem dL_roll_11 : decode cL_roll 11 = .ok (.iaload, 1) := by decide +kernel
theorem dL_roll_12 : decode cL_roll 12 = .ok (.istore 6, 2) := by decide +kernel
theorem dL_roll_14 : decode cL_roll 14 = .ok (.iconst 0, 1) := by decide +kernel
theorem dL_roll_15 : decode cL_roll 15 = .ok (.istore 7, 2) := by decide +kernel
theorem dL_roll_17 : decode cL_roll 17 = .ok (.bipush 6, 2) := by decide +kernel
theorem dL_roll_19 : decode cL_roll 19 = .ok (.newarray .int, 2) := by decide +kernel
theorem dL_roll_21 : decode cL_roll 21 = .ok (.astore 8, 2) := by decide +kernel
theorem dL_roll_23 : decode cL_roll 23 = .ok (.iconst 0, 1) := by decide +kernel
theorem dL_roll_24 : decode cL_roll 24 = .ok (.istore 9, 2) := by decide +kernel
theorem dL_roll_26 : decode cL_roll 26 = .ok (.iload 9, 2) := by decide +kernel
theorem dL_roll_28 : decode cL_roll 28 = .ok (.aload_n 3, 1) := by decide +kernel
theorem dL_roll_29 : decode cL_roll 29 = .ok (.iconst 1, 1) := by decide +kernel
theorem dL_roll_30 : decode cL_roll 30 = .ok (.iaload, 1) := by decide +kernel
theorem dL_roll_31 : decode cL_roll 31 = .ok (.if_icmp .ge 21, 3) := by decide +kernel
theorem dL_roll_34 : decode cL_roll 34 = .ok (.aload 8, 2) := by decide +kernel
theorem dL_roll_36 : decode cL_roll 36 = .ok (.iload 9, 2) := by decide +kernel
theorem dL_roll_38 : decode cL_roll 38 = .ok (.aload_n 2, 1) := by decide +kernel
theorem dL_roll_39 : decode cL_roll 39 = .ok (.bipush 6, 2) := by decide +kernel
theorem dL_roll_41 : decode cL_roll 41 = .ok (.iload 9, 2) := by decide +kernel
theorem dL_roll_43 : decode cL_roll 43 = .ok (.imul, 1) := by decide +kernel
theorem dL_roll_44 : decode cL_roll 44 = .ok (.iaload, 1) := by decide +kernel
theorem dL_roll_45 : decode cL_roll 45 = .ok (.iastore, 1) := by decide +kernel
theorem dL_roll_46 : decode cL_roll 46 = .ok (.iinc 9 1, 3) := by decide +kernel
theorem dL_roll_49 : decode cL_roll 49 = .ok (.goto (-23), 3) := by decide +kernel
theorem dL_roll_52 : decode cL_roll 52 = .ok (.iload 6, 2) := by decide +kernel
theorem dL_roll_54 : decode cL_roll 54 = .ok (.iload 4, 2) := by decide +kernel
theorem dL_roll_56 : decode cL_roll 56 = .ok (.iadd, 1) := by decide +kernel
theorem dL_roll_57 : decode cL_roll 57 = .ok (.iconst 1, 1) := by decide +kernel
theorem dL_roll_58 : decode cL_roll 58 = .ok (.isub, 1) := by decide +kernel
theorem dL_roll_59 : decode cL_roll 59 = .ok (.istore 9, 2) := by decide +kernel
theorem dL_roll_61 : decode cL_roll 61 = .ok (.iload 9, 2) := by decide +kernel
theorem dL_roll_63 : decode cL_roll 63 = .ok (.iload 6, 2) := by decide +kernel
theorem dL_roll_65 : decode cL_roll 65 = .ok (.if_icmp .le 78, 3) := by decide +kernel
theorem dL_roll_68 : decode cL_roll 68 = .ok (.iconst 0, 1) := by decide +kernel
theorem dL_roll_69 : decode cL_roll 69 = .ok (.istore 10, 2) := by decide +kernel
theorem dL_roll_71 : decode cL_roll 71 = .ok (.iload 10, 2) := by decide +kernel
theorem dL_roll_73 : decode cL_roll 73 = .ok (.aload_n 3, 1) := by decide +kernel
theorem dL_roll_74 : decode cL_roll 74 = .ok (.iconst 1, 1) := by decide +kernel
theorem dL_roll_75 : decode cL_roll 75 = .ok (.iaload, 1) := by decide +kernel
theorem dL_roll_76 : decode cL_roll 76 = .ok (.if_icmp .ge 61, 3) := by decide +kernel
theorem dL_roll_79 : decode cL_roll 79 = .ok (.iload 10, 2) := by decide +kernel
theorem dL_roll_81 : decode cL_roll 81 = .ok (.iload 5, 2) := by decide +kernel
theorem dL_roll_83 : decode cL_roll 83 = .ok (.if_icmp .eq 48, 3) := by decide +kernel
theorem dL_roll_86 : decode cL_roll 86 = .ok (.aload 8, 2) := by decide +kernel
theorem dL_roll_88 : decode cL_roll 88 = .ok (.iload 10, 2) := by decide +kernel
theorem dL_roll_90 : decode cL_roll 90 = .ok (.iaload, 1) := by decide +kernel
theorem dL_roll_91 : decode cL_roll 91 = .ok (.iload 9, 2) := by decide +kernel
theorem dL_roll_93 : decode cL_roll 93 = .ok (.if_icmp .ne 38, 3) := by decide +kernel
theorem dL_roll_96 : decode cL_roll 96 = .ok (.aload_n 1, 1) := by decide +kernel
theorem dL_roll_97 : decode cL_roll 97 = .ok (.iload 9, 2) := by decide +kernel
theorem dL_roll_99 : decode cL_roll 99 = .ok (.iaload, 1) := by decide +kernel
theorem dL_roll_100 : decode cL_roll 100 = .ok (.ifCond .ne 31, 3) := by decide +kernel
theorem dL_roll_103 : decode cL_roll 103 = .ok (.aload_n 2, 1) := by decide +kernel
theorem dL_roll_104 : decode cL_roll 104 = .ok (.bipush 6, 2) := by decide +kernel
theorem dL_roll_106 : decode cL_roll 106 = .ok (.iload 10, 2) := by decide +kernel
theorem dL_roll_108 : decode cL_roll 108 = .ok (.imul, 1) := by decide +kernel
theorem dL_roll_109 : decode cL_roll 109 = .ok (.iconst 3, 1) := by decide +kernel
theorem dL_roll_110 : decode cL_roll 110 = .ok (.iadd, 1) := by decide +kernel
theorem dL_roll_111 : decode cL_roll 111 = .ok (.dup2, 1) := by decide +kernel
theorem dL_roll_112 : decode cL_roll 112 = .ok (.iaload, 1) := by decide +kernel
theorem dL_roll_113 : decode cL_roll 113 = .ok (.iconst 1, 1) := by decide +kernel
theorem dL_roll_114 : decode cL_roll 114 = .ok (.iadd, 1) := by decide +kernel
theorem dL_roll_115 : decode cL_roll 115 = .ok (.iastore, 1) := by decide +kernel
theorem dL_roll_116 : decode cL_roll 116 = .ok (.iinc 7 1, 3) := by decide +kernel
theorem dL_roll_119 : decode cL_roll 119 = .ok (.aload_n 0, 1) := by decide +kernel
theorem dL_roll_120 : decode cL_roll 120 = .ok (.aload_n 2, 1) := by decide +kernel
theorem dL_roll_121 : decode cL_roll 121 = .ok (.aload_n 3, 1) := by decide +kernel
theorem dL_roll_122 : decode cL_roll 122 = .ok (.iload 10, 2) := by decide +kernel
theorem dL_roll_124 : decode cL_roll 124 = .ok (.iload 9, 2) := by decide +kernel
theorem dL_roll_126 : decode cL_roll 126 = .ok (.iconst 1, 1) := by decide +kernel
theorem dL_roll_127 : decode cL_roll 127 = .ok (.iadd, 1) := by decide +kernel
theorem dL_roll_128 : decode cL_roll 128 = .ok (.invokestatic 10, 3) := by decide +kernel
theorem dL_roll_131 : decode cL_roll 131 = .ok (.iinc 10 1, 3) := by decide +kernel
theorem dL_roll_134 : decode cL_roll 134 = .ok (.goto (-63), 3) := by decide +kernel
theorem dL_roll_137 : decode cL_roll 137 = .ok (.iinc 9 (-1), 3) := by decide +kernel
theorem dL_roll_140 : decode cL_roll 140 = .ok (.goto (-79), 3) := by decide +kernel
theorem dL_roll_143 : decode cL_roll 143 = .ok (.aload_n 2, 1) := by decide +kernel
theorem dL_roll_144 : decode cL_roll 144 = .ok (.bipush 6, 2) := by decide +kernel
theorem dL_roll_146 : decode cL_roll 146 = .ok (.iload 5, 2) := by decide +kernel
theorem dL_roll_148 : decode cL_roll 148 = .ok (.imul, 1) := by decide +kernel
theorem dL_roll_149 : decode cL_roll 149 = .ok (.iconst 4, 1) := by decide +kernel
theorem dL_roll_150 : decode cL_roll 150 = .ok (.iadd, 1) := by decide +kernel
theorem dL_roll_151 : decode cL_roll 151 = .ok (.dup2, 1) := by decide +kernel
theorem dL_roll_152 : decode cL_roll 152 = .ok (.iaload, 1) := by decide +kernel
theorem dL_roll_153 : decode cL_roll 153 = .ok (.iload 7, 2) := by decide +kernel
theorem dL_roll_155 : decode cL_roll 155 = .ok (.iadd, 1) := by decide +kernel
theorem dL_roll_156 : decode cL_roll 156 = .ok (.iastore, 1) := by decide +kernel
theorem dL_roll_157 : decode cL_roll 157 = .ok (.aload_n 3, 1) := by decide +kernel
theorem dL_roll_158 : decode cL_roll 158 = .ok (.iconst 3, 1) := by decide +kernel
theorem dL_roll_159 : decode cL_roll 159 = .ok (.dup2, 1) := by decide +kernel
theorem dL_roll_160 : decode cL_roll 160 = .ok (.iaload, 1) := by decide +kernel
theorem dL_roll_161 : decode cL_roll 161 = .ok (.iconst 1, 1) := by decide +kernel
theorem dL_roll_162 : decode cL_roll 162 = .ok (.iadd, 1) := by decide +kernel
theorem dL_roll_163 : decode cL_roll 163 = .ok (.iastore, 1) := by decide +kernel
theorem dL_roll_164 : decode cL_roll 164 = .ok (.aload_n 3, 1) := by decide +kernel
theorem dL_roll_165 : decode cL_roll 165 = .ok (.iconst 4, 1) := by decide +kernel
theorem dL_roll_166 : decode cL_roll 166 = .ok (.dup2, 1) := by decide +kernel
theorem dL_roll_167 : decode cL_roll 167 = .ok (.iaload, 1) := by decide +kernel
theorem dL_roll_168 : decode cL_roll 168 = .ok (.iload 7, 2) := by decide +kernel
theorem dL_roll_170 : decode cL_roll 170 = .ok (.iadd, 1) := by decide +kernel
theorem dL_roll_171 : decode cL_roll 171 = .ok (.iastore, 1) := by decide +kernel
theorem dL_roll_172 : decode cL_roll 172 = .ok (.aload_n 0, 1) := by decide +kernel
theorem dL_roll_173 : decode cL_roll 173 = .ok (.aload_n 2, 1) := by decide +kernel
theorem dL_roll_174 : decode cL_roll 174 = .ok (.aload_n 3, 1) := by decide +kernel
theorem dL_roll_175 : decode cL_roll 175 = .ok (.iload 5, 2) := by decide +kernel
theorem dL_roll_177 : decode cL_roll 177 = .ok (.iload 6, 2) := by decide +kernel
theorem dL_roll_179 : decode cL_roll 179 = .ok (.iload 4, 2) := by decide +kernel
theorem dL_roll_181 : decode cL_roll 181 = .ok (.iadd, 1) := by decide +kernel
theorem dL_roll_182 : decode cL_roll 182 = .ok (.invokestatic 10, 3) := by decide +kernel
theorem dL_roll_185 : decode cL_roll 185 = .ok (.iload 6, 2) := by decide +kernel
theorem dL_roll_187 : decode cL_roll 187 = .ok (.iload 4, 2) := by decide +kernel
theorem dL_roll_189 : decode cL_roll 189 = .ok (.iadd, 1) := by decide +kernel
theorem dL_roll_190 : decode cL_roll 190 = .ok (.aload_n 3, 1) := by decide +kernel
theorem dL_roll_191 : decode cL_roll 191 = .ok (.iconst 0, 1) := by decide +kernel
theorem dL_roll_192 : decode cL_roll 192 = .ok (.iaload, 1) := by decide +kernel
theorem dL_roll_193 : decode cL_roll 193 = .ok (.if_icmp .ge 27, 3) := by decide +kernel
theorem dL_roll_196 : decode cL_roll 196 = .ok (.aload_n 1, 1) := by decide +kernel
theorem dL_roll_197 : decode cL_roll 197 = .ok (.iload 6, 2) := by decide +kernel
theorem dL_roll_199 : decode cL_roll 199 = .ok (.iload 4, 2) := by decide +kernel
theorem dL_roll_201 : decode cL_roll 201 = .ok (.iadd, 1) := by decide +kernel
theorem dL_roll_202 : decode cL_roll 202 = .ok (.iaload, 1) := by decide +kernel
theorem dL_roll_203 : decode cL_roll 203 = .ok (.iconst 1, 1) := by decide +kernel
theorem dL_roll_204 : decode cL_roll 204 = .ok (.if_icmp .ne 16, 3) := by decide +kernel
theorem dL_roll_207 : decode cL_roll 207 = .ok (.aload_n 2, 1) := by decide +kernel
theorem dL_roll_208 : decode cL_roll 208 = .ok (.bipush 6, 2) := by decide +kernel
theorem dL_roll_210 : decode cL_roll 210 = .ok (.iload 5, 2) := by decide +kernel
theorem dL_roll_212 : decode cL_roll 212 = .ok (.imul, 1) := by decide +kernel
theorem dL_roll_213 : decode cL_roll 213 = .ok (.iconst 2, 1) := by decide +kernel
theorem dL_roll_214 : decode cL_roll 214 = .ok (.iadd, 1) := by decide +kernel
theorem dL_roll_215 : decode cL_roll 215 = .ok (.dup2, 1) := by decide +kernel
theorem dL_roll_216 : decode cL_roll 216 = .ok (.iaload, 1) := by decide +kernel
theorem dL_roll_217 : decode cL_roll 217 = .ok (.iconst 1, 1) := by decide +kernel
theorem dL_roll_218 : decode cL_roll 218 = .ok (.iadd, 1) := by decide +kernel
theorem dL_roll_219 : decode cL_roll 219 = .ok (.iastore, 1) := by decide +kernel
theorem dL_roll_220 : decode cL_roll 220 = .ok (.aload_n 2, 1) := by decide +kernel
theorem dL_roll_221 : decode cL_roll 221 = .ok (.aload_n 3, 1) := by decide +kernel
theorem dL_roll_222 : decode cL_roll 222 = .ok (.invokestatic 16, 3) := by decide +kernel
theorem dL_roll_225 : decode cL_roll 225 = .ok (.iload 7, 2) := by decide +kernel
theorem dL_roll_227 : decode cL_roll 227 = .ok (.ireturn, 1) := by decide +kernel
theorem dL_progress_0 : decode cL_progress 0 = .ok (.aload_n 0, 1) := by decide +kernel
theorem dL_progress_1 : decode cL_progress 1 = .ok (.bipush 6, 2) := by decide +kernel
theorem dL_progress_3 : decode cL_progress 3 = .ok (.iload_n 2, 1) := by decide +kernel
theorem dL_progress_4 : decode cL_progress 4 = .ok (.imul, 1) := by decide +kernel
theorem dL_progress_5 : decode cL_progress 5 = .ok (.iconst 1, 1) := by decide +kernel
theorem dL_progress_6 : decode cL_progress 6 = .ok (.iadd, 1) := by decide +kernel
theorem dL_progress_7 : decode cL_progress 7 = .ok (.iaload, 1) := by decide +kernel
theorem dL_progress_8 : decode cL_progress 8 = .ok (.aload_n 1, 1) := by decide +kernel
theorem dL_progress_9 : decode cL_progress 9 = .ok (.iconst 0, 1) := by decide +kernel
theorem dL_progress_10 : decode cL_progress 10 = .ok (.iaload, 1) := by decide +kernel
theorem dL_progress_11 : decode cL_progress 11 = .ok (.imul, 1) := by decide +kernel
theorem dL_progress_12 : decode cL_progress 12 = .ok (.aload_n 0, 1) := by decide +kernel
theorem dL_progress_13 : decode cL_progress 13 = .ok (.bipush 6, 2) := by decide +kernel
theorem dL_progress_15 : decode cL_progress 15 = .ok (.iload_n 2, 1) := by decide +kernel
theorem dL_progress_16 : decode cL_progress 16 = .ok (.imul, 1) := by decide +kernel
theorem dL_progress_17 : decode cL_progress 17 = .ok (.iaload, 1) := by decide +kernel
theorem dL_progress_18 : decode cL_progress 18 = .ok (.iadd, 1) := by decide +kernel
theorem dL_progress_19 : decode cL_progress 19 = .ok (.ireturn, 1) := by decide +kernel
theorem dL_tops_0 : decode cL_tops 0 = .ok (.iconst 0, 1) := by decide +kernel
theorem dL_tops_1 : decode cL_tops 1 = .ok (.istore_n 2, 1) := by decide +kernel
theorem dL_tops_2 : decode cL_tops 2 = .ok (.iconst 0, 1) := by decide +kernel
theorem dL_tops_3 : decode cL_tops 3 = .ok (.istore_n 3, 1) := by decide +kernel
theorem dL_tops_4 : decode cL_tops 4 = .ok (.iload_n 3, 1) := by decide +kernel
theorem dL_tops_5 : decode cL_tops 5 = .ok (.aload_n 1, 1) := by decide +kernel
theorem dL_tops_6 : decode cL_tops 6 = .ok (.iconst 1, 1) := by decide +kernel
theorem dL_tops_7 : decode cL_tops 7 = .ok (.iaload, 1) := by decide +kernel
theorem dL_tops_8 : decode cL_tops 8 = .ok (.if_icmp .ge 20, 3) := by decide +kernel
theorem dL_tops_11 : decode cL_tops 11 = .ok (.iload_n 2, 1) := by decide +kernel
theorem dL_tops_12 : decode cL_tops 12 = .ok (.aload_n 0, 1) := by decide +kernel
theorem dL_tops_13 : decode cL_tops 13 = .ok (.bipush 6, 2) := by decide +kernel
theorem dL_tops_15 : decode cL_tops 15 = .ok (.iload_n 3, 1) := by decide +kernel
theorem dL_tops_16 : decode cL_tops 16 = .ok (.imul, 1) := by decide +kernel
theorem dL_tops_17 : decode cL_tops 17 = .ok (.iconst 1, 1) := by decide +kernel
theorem dL_tops_18 : decode cL_tops 18 = .ok (.iadd, 1) := by decide +kernel
theorem dL_tops_19 : decode cL_tops 19 = .ok (.iaload, 1) := by decide +kernel
theorem dL_tops_20 : decode cL_tops 20 = .ok (.iadd, 1) := by decide +kernel
theorem dL_tops_21 : decode cL_tops 21 = .ok (.istore_n 2, 1) := by decide +kernel
theorem dL_tops_22 : decode cL_tops 22 = .ok (.iinc 3 1, 3) := by decide +kernel
theorem dL_tops_25 : decode cL_tops 25 = .ok (.goto (-21), 3) := by decide +kernel
theorem dL_tops_28 : decode cL_tops 28 = .ok (.iload_n 2, 1) := by decide +kernel
theorem dL_tops_29 : decode cL_tops 29 = .ok (.ireturn, 1) := by decide +kernel
theorem dL_copy_0 : decode cL_copy 0 = .ok (.iconst 0, 1) := by decide +kernel
theorem dL_copy_1 : decode cL_copy 1 = .ok (.istore_n 2, 1) := by decide +kernel
theorem dL_copy_2 : decode cL_copy 2 = .ok (.iload_n 2, 1) := by decide +kernel
theorem dL_copy_3 : decode cL_copy 3 = .ok (.aload_n 0, 1) := by decide +kernel
theorem dL_copy_4 : decode cL_copy 4 = .ok (.arraylength, 1) := by decide +kernel
theorem dL_copy_5 : decode cL_copy 5 = .ok (.if_icmp .ge 15, 3) := by decide +kernel
theorem dL_copy_8 : decode cL_copy 8 = .ok (.aload_n 1, 1) := by decide +kernel
theorem dL_copy_9 : decode cL_copy 9 = .ok (.iload_n 2, 1) := by decide +kernel
theorem dL_copy_10 : decode cL_copy 10 = .ok (.aload_n 0, 1) := by decide +kernel
theorem dL_copy_11 : decode cL_copy 11 = .ok (.iload_n 2, 1) := by decide +kernel
theorem dL_copy_12 : decode cL_copy 12 = .ok (.iaload, 1) := by decide +kernel
theorem dL_copy_13 : decode cL_copy 13 = .ok (.iastore, 1) := by decide +kernel
theorem dL_copy_14 : decode cL_copy 14 = .ok (.iinc 2 1, 3) := by decide +kernel
theorem dL_copy_17 : decode cL_copy 17 = .ok (.goto (-15), 3) := by decide +kernel
theorem dL_copy_20 : decode cL_copy 20 = .ok (.return_, 1) := by decide +kernel
theorem dL_sum_0 : decode cL_sum 0 = .ok (.iconst 0, 1) := by decide +kernel
theorem dL_sum_1 : decode cL_sum 1 = .ok (.istore_n 1, 1) := by decide +kernel
theorem dL_sum_2 : decode cL_sum 2 = .ok (.iconst 0, 1) := by decide +kernel
theorem dL_sum_3 : decode cL_sum 3 = .ok (.istore_n 2, 1) := by decide +kernel
theorem dL_sum_4 : decode cL_sum 4 = .ok (.iload_n 2, 1) := by decide +kernel
theorem dL_sum_5 : decode cL_sum 5 = .ok (.aload_n 0, 1) := by decide +kernel
theorem dL_sum_6 : decode cL_sum 6 = .ok (.arraylength, 1) := by decide +kernel
theorem dL_sum_7 : decode cL_sum 7 = .ok (.if_icmp .ge 23, 3) := by decide +kernel
theorem dL_sum_10 : decode cL_sum 10 = .ok (.iload_n 1, 1) := by decide +kernel
theorem dL_sum_11 : decode cL_sum 11 = .ok (.aload_n 0, 1) := by decide +kernel
theorem dL_sum_12 : decode cL_sum 12 = .ok (.iload_n 2, 1) := by decide +kernel
theorem dL_sum_13 : decode cL_sum 13 = .ok (.iaload, 1) := by decide +kernel
theorem dL_sum_14 : decode cL_sum 14 = .ok (.ifCond .le 7, 3) := by decide +kernel
theorem dL_sum_17 : decode cL_sum 17 = .ok (.iconst 1, 1) := by decide +kernel
theorem dL_sum_18 : decode cL_sum 18 = .ok (.goto 4, 3) := by decide +kernel
theorem dL_sum_21 : decode cL_sum 21 = .ok (.iconst 0, 1) := by decide +kernel
theorem dL_sum_22 : decode cL_sum 22 = .ok (.iadd, 1) := by decide +kernel
theorem dL_sum_23 : decode cL_sum 23 = .ok (.istore_n 1, 1) := by decide +kernel
theorem dL_sum_24 : decode cL_sum 24 = .ok (.iinc 2 1, 3) := by decide +kernel
theorem dL_sum_27 : decode cL_sum 27 = .ok (.goto (-23), 3) := by decide +kernel
theorem dL_sum_30 : decode cL_sum 30 = .ok (.iload_n 1, 1) := by decide +kernel
theorem dL_sum_31 : decode cL_sum 31 = .ok (.ireturn, 1) := by decide +kernel
theorem dL_ahead_0 : decode cL_ahead 0 = .ok (.iconst (-1), 1) := by decide +kernel
theorem dL_ahead_1 : decode cL_ahead 1 = .ok (.istore 5, 2) := by decide +kernel
theorem dL_ahead_3 : decode cL_ahead 3 = .ok (.iconst 0, 1) := by decide +kernel
theorem dL_ahead_4 : decode cL_ahead 4 = .ok (.istore 6, 2) := by decide +kernel
theorem dL_ahead_6 : decode cL_ahead 6 = .ok (.iconst 0, 1) := by decide +kernel
theorem dL_ahead_7 : decode cL_ahead 7 = .ok (.istore 7, 2) := by decide +kernel
theorem dL_ahead_9 : decode cL_ahead 9 = .ok (.iconst 1, 1) := by decide +kernel
theorem dL_ahead_10 : decode cL_ahead 10 = .ok (.istore 8, 2) := by decide +kernel
theorem dL_ahead_12 : decode cL_ahead 12 = .ok (.iload 8, 2) := by decide +kernel
theorem dL_ahead_14 : decode cL_ahead 14 = .ok (.bipush 7, 2) := by decide +kernel
theorem dL_ahead_16 : decode cL_ahead 16 = .ok (.if_icmp .ge 239, 3) := by decide +kernel
theorem dL_ahead_19 : decode cL_ahead 19 = .ok (.bipush 36, 2) := by decide +kernel
theorem dL_ahead_21 : decode cL_ahead 21 = .ok (.newarray .int, 2) := by decide +kernel
theorem dL_ahead_23 : decode cL_ahead 23 = .ok (.astore 9, 2) := by decide +kernel
theorem dL_ahead_25 : decode cL_ahead 25 = .ok (.bipush 7, 2) := by decide +kernel
theorem dL_ahead_27 : decode cL_ahead 27 = .ok (.newarray .int, 2) := by decide +kernel
theorem dL_ahead_29 : decode cL_ahead 29 = .ok (.astore 10, 2) := by decide +kernel
theorem dL_ahead_31 : decode cL_ahead 31 = .ok (.aload_n 3, 1) := by decide +kernel
theorem dL_ahead_32 : decode cL_ahead 32 = .ok (.aload 9, 2) := by decide +kernel
theorem dL_ahead_34 : decode cL_ahead 34 = .ok (.invokestatic 20, 3) := by decide +kernel
theorem dL_ahead_37 : decode cL_ahead 37 = .ok (.aload 4, 2) := by decide +kernel
theorem dL_ahead_39 : decode cL_ahead 39 = .ok (.aload 10, 2) := by decide +kernel
theorem dL_ahead_41 : decode cL_ahead 41 = .ok (.invokestatic 20, 3) := by decide +kernel
theorem dL_ahead_44 : decode cL_ahead 44 = .ok (.aload_n 1, 1) := by decide +kernel
theorem dL_ahead_45 : decode cL_ahead 45 = .ok (.aload_n 2, 1) := by decide +kernel
theorem dL_ahead_46 : decode cL_ahead 46 = .ok (.aload 9, 2) := by decide +kernel
theorem dL_ahead_48 : decode cL_ahead 48 = .ok (.aload 10, 2) := by decide +kernel
theorem dL_ahead_50 : decode cL_ahead 50 = .ok (.iload 8, 2) := by decide +kernel
theorem dL_ahead_52 : decode cL_ahead 52 = .ok (.invokestatic 23, 3) := by decide +kernel
theorem dL_ahead_55 : decode cL_ahead 55 = .ok (.istore 11, 2) := by decide +kernel
theorem dL_ahead_57 : decode cL_ahead 57 = .ok (.iconst 0, 1) := by decide +kernel
theorem dL_ahead_58 : decode cL_ahead 58 = .ok (.istore 12, 2) := by decide +kernel
theorem dL_ahead_60 : decode cL_ahead 60 = .ok (.iconst 0, 1) := by decide +kernel
theorem dL_ahead_61 : decode cL_ahead 61 = .ok (.istore 13, 2) := by decide +kernel
theorem dL_ahead_63 : decode cL_ahead 63 = .ok (.iload 13, 2) := by decide +kernel
theorem dL_ahead_65 : decode cL_ahead 65 = .ok (.aload 4, 2) := by decide +kernel
theorem dL_ahead_67 : decode cL_ahead 67 = .ok (.iconst 1, 1) := by decide +kernel
theorem dL_ahead_68 : decode cL_ahead 68 = .ok (.iaload, 1) := by decide +kernel
theorem dL_ahead_69 : decode cL_ahead 69 = .ok (.if_icmp .ge 51, 3) := by decide +kernel
theorem dL_ahead_72 : decode cL_ahead 72 = .ok (.aload 9, 2) := by decide +kernel
theorem dL_ahead_74 : decode cL_ahead 74 = .ok (.aload 10, 2) := by decide +kernel
theorem dL_ahead_76 : decode cL_ahead 76 = .ok (.iload 13, 2) := by decide +kernel
theorem dL_ahead_78 : decode cL_ahead 78 = .ok (.invokestatic 27, 3) := by decide +kernel
theorem dL_ahead_81 : decode cL_ahead 81 = .ok (.aload_n 3, 1) := by decide +kernel
theorem dL_ahead_82 : decode cL_ahead 82 = .ok (.aload 4, 2) := by decide +kernel
theorem dL_ahead_84 : decode cL_ahead 84 = .ok (.iload 13, 2) := by decide +kernel
theorem dL_ahead_86 : decode cL_ahead 86 = .ok (.invokestatic 27, 3) := by decide +kernel
theorem dL_ahead_89 : decode cL_ahead 89 = .ok (.isub, 1) := by decide +kernel
theorem dL_ahead_90 : decode cL_ahead 90 = .ok (.istore 14, 2) := by decide +kernel
theorem dL_ahead_92 : decode cL_ahead 92 = .ok (.iload 12, 2) := by decide +kernel
theorem dL_ahead_94 : decode cL_ahead 94 = .ok (.iload 13, 2) := by decide +kernel
theorem dL_ahead_96 : decode cL_ahead 96 = .ok (.aload 4, 2) := by decide +kernel
theorem dL_ahead_98 : decode cL_ahead 98 = .ok (.iconst 2, 1) := by decide +kernel
theorem dL_ahead_99 : decode cL_ahead 99 = .ok (.iaload, 1) := by decide +kernel
theorem dL_ahead_100 : decode cL_ahead 100 = .ok (.if_icmp .ne 8, 3) := by decide +kernel
theorem dL_ahead_103 : decode cL_ahead 103 = .ok (.iload 14, 2) := by decide +kernel
theorem dL_ahead_105 : decode cL_ahead 105 = .ok (.goto 6, 3) := by decide +kernel
theorem dL_ahead_108 : decode cL_ahead 108 = .ok (.iload 14, 2) := by decide +kernel
theorem dL_ahead_110 : decode cL_ahead 110 = .ok (.ineg, 1) := by decide +kernel
theorem dL_ahead_111 : decode cL_ahead 111 = .ok (.iadd, 1) := by decide +kernel
theorem dL_ahead_112 : decode cL_ahead 112 = .ok (.istore 12, 2) := by decide +kernel
theorem dL_ahead_114 : decode cL_ahead 114 = .ok (.iinc 13 1, 3) := by decide +kernel
theorem dL_ahead_117 : decode cL_ahead 117 = .ok (.goto (-54), 3) := by decide +kernel
theorem dL_ahead_120 : decode cL_ahead 120 = .ok (.iload 7, 2) := by decide +kernel
theorem dL_ahead_122 : decode cL_ahead 122 = .ok (.iload 11, 2) := by decide +kernel
theorem dL_ahead_124 : decode cL_ahead 124 = .ok (.ifCond .ne 10, 3) := by decide +kernel
theorem dL_ahead_127 : decode cL_ahead 127 = .ok (.iconst 1, 1) := by decide +kernel
theorem dL_ahead_128 : decode cL_ahead 128 = .ok (.iload 8, 2) := by decide +kernel
theorem dL_ahead_130 : decode cL_ahead 130 = .ok (.ishl, 1) := by decide +kernel
theorem dL_ahead_131 : decode cL_ahead 131 = .ok (.goto 4, 3) := by decide +kernel
theorem dL_ahead_134 : decode cL_ahead 134 = .ok (.iconst 0, 1) := by decide +kernel
theorem dL_ahead_135 : decode cL_ahead 135 = .ok (.iadd, 1) := by decide +kernel
theorem dL_ahead_136 : decode cL_ahead 136 = .ok (.istore 7, 2) := by decide +kernel
theorem dL_ahead_138 : decode cL_ahead 138 = .ok (.iload 5, 2) := by decide +kernel
theorem dL_ahead_140 : decode cL_ahead 140 = .ok (.ifCond .lt 10, 3) := by decide +kernel
theorem dL_ahead_143 : decode cL_ahead 143 = .ok (.iload 12, 2) := by decide +kernel
theorem dL_ahead_145 : decode cL_ahead 145 = .ok (.iload 6, 2) := by decide +kernel
theorem dL_ahead_147 : decode cL_ahead 147 = .ok (.if_icmp .le 11, 3) := by decide +kernel
theorem dL_ahead_150 : decode cL_ahead 150 = .ok (.iload 8, 2) := by decide +kernel
theorem dL_ahead_152 : decode cL_ahead 152 = .ok (.istore 5, 2) := by decide +kernel
theorem dL_ahead_154 : decode cL_ahead 154 = .ok (.iload 12, 2) := by decide +kernel
theorem dL_ahead_156 : decode cL_ahead 156 = .ok (.istore 6, 2) := by decide +kernel
theorem dL_ahead_158 : decode cL_ahead 158 = .ok (.aload_n 0, 1) := by decide +kernel
theorem dL_ahead_159 : decode cL_ahead 159 = .ok (.iload 8, 2) := by decide +kernel
theorem dL_ahead_161 : decode cL_ahead 161 = .ok (.iconst 0, 1) := by decide +kernel
theorem dL_ahead_162 : decode cL_ahead 162 = .ok (.invokevirtual 31, 3) := by decide +kernel
theorem dL_ahead_165 : decode cL_ahead 165 = .ok (.aload 9, 2) := by decide +kernel
theorem dL_ahead_167 : decode cL_ahead 167 = .ok (.bipush 6, 2) := by decide +kernel
theorem dL_ahead_169 : decode cL_ahead 169 = .ok (.aload 4, 2) := by decide +kernel
theorem dL_ahead_171 : decode cL_ahead 171 = .ok (.iconst 2, 1) := by decide +kernel
theorem dL_ahead_172 : decode cL_ahead 172 = .ok (.iaload, 1) := by decide +kernel
theorem dL_ahead_173 : decode cL_ahead 173 = .ok (.imul, 1) := by decide +kernel
theorem dL_ahead_174 : decode cL_ahead 174 = .ok (.iaload, 1) := by decide +kernel
theorem dL_ahead_175 : decode cL_ahead 175 = .ok (.if_icmp .ne 72, 3) := by decide +kernel
theorem dL_ahead_178 : decode cL_ahead 178 = .ok (.aload_n 0, 1) := by decide +kernel
theorem dL_ahead_179 : decode cL_ahead 179 = .ok (.iload 8, 2) := by decide +kernel
theorem dL_ahead_181 : decode cL_ahead 181 = .ok (.iconst 1, 1) := by decide +kernel
theorem dL_ahead_182 : decode cL_ahead 182 = .ok (.invokevirtual 31, 3) := by decide +kernel
theorem dL_ahead_185 : decode cL_ahead 185 = .ok (.iload 11, 2) := by decide +kernel
theorem dL_ahead_187 : decode cL_ahead 187 = .ok (.if_icmp .ne 60, 3) := by decide +kernel
theorem dL_ahead_190 : decode cL_ahead 190 = .ok (.aload_n 0, 1) := by decide +kernel
theorem dL_ahead_191 : decode cL_ahead 191 = .ok (.iload 8, 2) := by decide +kernel
theorem dL_ahead_193 : decode cL_ahead 193 = .ok (.iconst 2, 1) := by decide +kernel
theorem dL_ahead_194 : decode cL_ahead 194 = .ok (.invokevirtual 31, 3) := by decide +kernel
theorem dL_ahead_197 : decode cL_ahead 197 = .ok (.aload 9, 2) := by decide +kernel
theorem dL_ahead_199 : decode cL_ahead 199 = .ok (.aload 10, 2) := by decide +kernel
theorem dL_ahead_201 : decode cL_ahead 201 = .ok (.invokestatic 37, 3) := by decide +kernel
theorem dL_ahead_204 : decode cL_ahead 204 = .ok (.aload_n 3, 1) := by decide +kernel
theorem dL_ahead_205 : decode cL_ahead 205 = .ok (.aload 4, 2) := by decide +kernel
theorem dL_ahead_207 : decode cL_ahead 207 = .ok (.invokestatic 37, 3) := by decide +kernel
theorem dL_ahead_210 : decode cL_ahead 210 = .ok (.isub, 1) := by decide +kernel
theorem dL_ahead_211 : decode cL_ahead 211 = .ok (.if_icmp .ne 36, 3) := by decide +kernel
theorem dL_ahead_214 : decode cL_ahead 214 = .ok (.aload_n 0, 1) := by decide +kernel
theorem dL_ahead_215 : decode cL_ahead 215 = .ok (.iload 8, 2) := by decide +kernel
theorem dL_ahead_217 : decode cL_ahead 217 = .ok (.iconst 3, 1) := by decide +kernel
theorem dL_ahead_218 : decode cL_ahead 218 = .ok (.invokevirtual 31, 3) := by decide +kernel
theorem dL_ahead_221 : decode cL_ahead 221 = .ok (.aload 10, 2) := by decide +kernel
theorem dL_ahead_223 : decode cL_ahead 223 = .ok (.iconst 5, 1) := by decide +kernel
theorem dL_ahead_224 : decode cL_ahead 224 = .ok (.iaload, 1) := by decide +kernel
theorem dL_ahead_225 : decode cL_ahead 225 = .ok (.aload 4, 2) := by decide +kernel
theorem dL_ahead_227 : decode cL_ahead 227 = .ok (.iconst 5, 1) := by decide +kernel
theorem dL_ahead_228 : decode cL_ahead 228 = .ok (.iaload, 1) := by decide +kernel
theorem dL_ahead_229 : decode cL_ahead 229 = .ok (.isub, 1) := by decide +kernel
theorem dL_ahead_230 : decode cL_ahead 230 = .ok (.if_icmp .ne 17, 3) := by decide +kernel
theorem dL_ahead_233 : decode cL_ahead 233 = .ok (.aload_n 0, 1) := by decide +kernel
theorem dL_ahead_234 : decode cL_ahead 234 = .ok (.iload 8, 2) := by decide +kernel
theorem dL_ahead_236 : decode cL_ahead 236 = .ok (.iconst 4, 1) := by decide +kernel
theorem dL_ahead_237 : decode cL_ahead 237 = .ok (.invokevirtual 31, 3) := by decide +kernel
theorem dL_ahead_240 : decode cL_ahead 240 = .ok (.aload 10, 2) := by decide +kernel
theorem dL_ahead_242 : decode cL_ahead 242 = .ok (.iconst 2, 1) := by decide +kernel
theorem dL_ahead_243 : decode cL_ahead 243 = .ok (.iaload, 1) := by decide +kernel
theorem dL_ahead_244 : decode cL_ahead 244 = .ok (.if_icmp .eq 5, 3) := by decide +kernel
theorem dL_ahead_247 : decode cL_ahead 247 = .ok (.iconst 0, 1) := by decide +kernel
theorem dL_ahead_248 : decode cL_ahead 248 = .ok (.ireturn, 1) := by decide +kernel
theorem dL_ahead_249 : decode cL_ahead 249 = .ok (.iinc 8 1, 3) := by decide +kernel
theorem dL_ahead_252 : decode cL_ahead 252 = .ok (.goto (-240), 3) := by decide +kernel
theorem dL_ahead_255 : decode cL_ahead 255 = .ok (.aload_n 0, 1) := by decide +kernel
theorem dL_ahead_256 : decode cL_ahead 256 = .ok (.invokevirtual 41, 3) := by decide +kernel
theorem dL_ahead_259 : decode cL_ahead 259 = .ok (.iload 5, 2) := by decide +kernel
theorem dL_ahead_261 : decode cL_ahead 261 = .ok (.if_icmp .ne 16, 3) := by decide +kernel
theorem dL_ahead_264 : decode cL_ahead 264 = .ok (.aload_n 0, 1) := by decide +kernel
theorem dL_ahead_265 : decode cL_ahead 265 = .ok (.invokevirtual 45, 3) := by decide +kernel
theorem dL_ahead_268 : decode cL_ahead 268 = .ok (.iload 7, 2) := by decide +kernel
theorem dL_ahead_270 : decode cL_ahead 270 = .ok (.if_icmp .ne 7, 3) := by decide +kernel
theorem dL_ahead_273 : decode cL_ahead 273 = .ok (.iconst 1, 1) := by decide +kernel
theorem dL_ahead_274 : decode cL_ahead 274 = .ok (.goto 4, 3) := by decide +kernel
theorem dL_ahead_277 : decode cL_ahead 277 = .ok (.iconst 0, 1) := by decide +kernel
theorem dL_ahead_278 : decode cL_ahead 278 = .ok (.ireturn, 1) := by decide +kernel
theorem dL_fewest_0 : decode cL_fewest 0 = .ok (.bipush 61, 2) := by decide +kernel
theorem dL_fewest_2 : decode cL_fewest 2 = .ok (.newarray .int, 2) := by decide +kernel
theorem dL_fewest_4 : decode cL_fewest 4 = .ok (.astore_n 3, 1) := by decide +kernel
theorem dL_fewest_5 : decode cL_fewest 5 = .ok (.iconst 1, 1) := by decide +kernel
theorem dL_fewest_6 : decode cL_fewest 6 = .ok (.istore 4, 2) := by decide +kernel
theorem dL_fewest_8 : decode cL_fewest 8 = .ok (.iload 4, 2) := by decide +kernel
theorem dL_fewest_10 : decode cL_fewest 10 = .ok (.ifCond .eq 138, 3) := by decide +kernel
theorem dL_fewest_13 : decode cL_fewest 13 = .ok (.iconst 0, 1) := by decide +kernel
theorem dL_fewest_14 : decode cL_fewest 14 = .ok (.istore 4, 2) := by decide +kernel
theorem dL_fewest_16 : decode cL_fewest 16 = .ok (.iconst 0, 1) := by decide +kernel
theorem dL_fewest_17 : decode cL_fewest 17 = .ok (.istore 5, 2) := by decide +kernel
theorem dL_fewest_19 : decode cL_fewest 19 = .ok (.iload 5, 2) := by decide +kernel
theorem dL_fewest_21 : decode cL_fewest 21 = .ok (.aload_n 1, 1) := by decide +kernel
theorem dL_fewest_22 : decode cL_fewest 22 = .ok (.iconst 0, 1) := by decide +kernel
theorem dL_fewest_23 : decode cL_fewest 23 = .ok (.iaload, 1) := by decide +kernel
theorem dL_fewest_24 : decode cL_fewest 24 = .ok (.if_icmp .ge 121, 3) := by decide +kernel
theorem dL_fewest_27 : decode cL_fewest 27 = .ok (.iconst 1, 1) := by decide +kernel
theorem dL_fewest_28 : decode cL_fewest 28 = .ok (.istore 6, 2) := by decide +kernel
theorem dL_fewest_30 : decode cL_fewest 30 = .ok (.iload 6, 2) := by decide +kernel
theorem dL_fewest_32 : decode cL_fewest 32 = .ok (.bipush 7, 2) := by decide +kernel
theorem dL_fewest_34 : decode cL_fewest 34 = .ok (.if_icmp .ge 105, 3) := by decide +kernel
theorem dL_fewest_37 : decode cL_fewest 37 = .ok (.iload 5, 2) := by decide +kernel
theorem dL_fewest_39 : decode cL_fewest 39 = .ok (.iload 6, 2) := by decide +kernel
theorem dL_fewest_41 : decode cL_fewest 41 = .ok (.iadd, 1) := by decide +kernel
theorem dL_fewest_42 : decode cL_fewest 42 = .ok (.istore 7, 2) := by decide +kernel
theorem dL_fewest_44 : decode cL_fewest 44 = .ok (.iload 7, 2) := by decide +kernel
theorem dL_fewest_46 : decode cL_fewest 46 = .ok (.aload_n 1, 1) := by decide +kernel
theorem dL_fewest_47 : decode cL_fewest 47 = .ok (.iconst 0, 1) := by decide +kernel
theorem dL_fewest_48 : decode cL_fewest 48 = .ok (.iaload, 1) := by decide +kernel
theorem dL_fewest_49 : decode cL_fewest 49 = .ok (.if_icmp .lt 7, 3) := by decide +kernel
theorem dL_fewest_52 : decode cL_fewest 52 = .ok (.iconst 1, 1) := by decide +kernel
theorem dL_fewest_53 : decode cL_fewest 53 = .ok (.goto 21, 3) := by decide +kernel
theorem dL_fewest_56 : decode cL_fewest 56 = .ok (.aload_n 3, 1) := by decide +kernel
theorem dL_fewest_57 : decode cL_fewest 57 = .ok (.aload_n 0, 1) := by decide +kernel
theorem dL_fewest_58 : decode cL_fewest 58 = .ok (.iload 7, 2) := by decide +kernel
theorem dL_fewest_60 : decode cL_fewest 60 = .ok (.iaload, 1) := by decide +kernel
theorem dL_fewest_61 : decode cL_fewest 61 = .ok (.ifCond .lt 10, 3) := by decide +kernel
theorem dL_fewest_64 : decode cL_fewest 64 = .ok (.aload_n 0, 1) := by decide +kernel
theorem dL_fewest_65 : decode cL_fewest 65 = .ok (.iload 7, 2) := by decide +kernel
theorem dL_fewest_67 : decode cL_fewest 67 = .ok (.iaload, 1) := by decide +kernel
theorem dL_fewest_68 : decode cL_fewest 68 = .ok (.goto 5, 3) := by decide +kernel
theorem dL_fewest_71 : decode cL_fewest 71 = .ok (.iload 7, 2) := by decide +kernel
theorem dL_fewest_73 : decode cL_fewest 73 = .ok (.iaload, 1) := by decide +kernel
theorem dL_fewest_74 : decode cL_fewest 74 = .ok (.istore 8, 2) := by decide +kernel
theorem dL_fewest_76 : decode cL_fewest 76 = .ok (.iload 7, 2) := by decide +kernel
theorem dL_fewest_78 : decode cL_fewest 78 = .ok (.aload_n 1, 1) := by decide +kernel
theorem dL_fewest_79 : decode cL_fewest 79 = .ok (.iconst 0, 1) := by decide +kernel
theorem dL_fewest_80 : decode cL_fewest 80 = .ok (.iaload, 1) := by decide +kernel
theorem dL_fewest_81 : decode cL_fewest 81 = .ok (.if_icmp .lt 7, 3) := by decide +kernel
theorem dL_fewest_84 : decode cL_fewest 84 = .ok (.iconst 1, 1) := by decide +kernel
theorem dL_fewest_85 : decode cL_fewest 85 = .ok (.goto 16, 3) := by decide +kernel
theorem dL_fewest_88 : decode cL_fewest 88 = .ok (.iload 8, 2) := by decide +kernel
theorem dL_fewest_90 : decode cL_fewest 90 = .ok (.ifCond .le 10, 3) := by decide +kernel
theorem dL_fewest_93 : decode cL_fewest 93 = .ok (.iload 8, 2) := by decide +kernel
theorem dL_fewest_95 : decode cL_fewest 95 = .ok (.iconst 1, 1) := by decide +kernel
theorem dL_fewest_96 : decode cL_fewest 96 = .ok (.iadd, 1) := by decide +kernel
theorem dL_fewest_97 : decode cL_fewest 97 = .ok (.goto 4, 3) := by decide +kernel
theorem dL_fewest_100 : decode cL_fewest 100 = .ok (.iconst 0, 1) := by decide +kernel
theorem dL_fewest_101 : decode cL_fewest 101 = .ok (.istore 8, 2) := by decide +kernel
theorem dL_fewest_103 : decode cL_fewest 103 = .ok (.iload 8, 2) := by decide +kernel
theorem dL_fewest_105 : decode cL_fewest 105 = .ok (.ifCond .le 28, 3) := by decide +kernel
theorem dL_fewest_108 : decode cL_fewest 108 = .ok (.aload_n 3, 1) := by decide +kernel
theorem dL_fewest_109 : decode cL_fewest 109 = .ok (.iload 5, 2) := by decide +kernel
theorem dL_fewest_111 : decode cL_fewest 111 = .ok (.iaload, 1) := by decide +kernel
theorem dL_fewest_112 : decode cL_fewest 112 = .ok (.ifCond .eq 12, 3) := by decide +kernel
theorem dL_fewest_115 : decode cL_fewest 115 = .ok (.iload 8, 2) := by decide +kernel
theorem dL_fewest_117 : decode cL_fewest 117 = .ok (.aload_n 3, 1) := by decide +kernel
theorem dL_fewest_118 : decode cL_fewest 118 = .ok (.iload 5, 2) := by decide +kernel
theorem dL_fewest_120 : decode cL_fewest 120 = .ok (.iaload, 1) := by decide +kernel
theorem dL_fewest_121 : decode cL_fewest 121 = .ok (.if_icmp .ge 12, 3) := by decide +kernel
theorem dL_fewest_124 : decode cL_fewest 124 = .ok (.aload_n 3, 1) := by decide +kernel
theorem dL_fewest_125 : decode cL_fewest 125 = .ok (.iload 5, 2) := by decide +kernel
theorem dL_fewest_127 : decode cL_fewest 127 = .ok (.iload 8, 2) := by decide +kernel
theorem dL_fewest_129 : decode cL_fewest 129 = .ok (.iastore, 1) := by decide +kernel
theorem dL_fewest_130 : decode cL_fewest 130 = .ok (.iconst 1, 1) := by decide +kernel
theorem dL_fewest_131 : decode cL_fewest 131 = .ok (.istore 4, 2) := by decide +kernel
theorem dL_fewest_133 : decode cL_fewest 133 = .ok (.iinc 6 1, 3) := by decide +kernel
theorem dL_fewest_136 : decode cL_fewest 136 = .ok (.goto (-106), 3) := by decide +kernel
theorem dL_fewest_139 : decode cL_fewest 139 = .ok (.iinc 5 1, 3) := by decide +kernel
theorem dL_fewest_142 : decode cL_fewest 142 = .ok (.goto (-123), 3) := by decide +kernel
theorem dL_fewest_145 : decode cL_fewest 145 = .ok (.goto (-137), 3) := by decide +kernel
theorem dL_fewest_148 : decode cL_fewest 148 = .ok (.aload_n 3, 1) := by decide +kernel
theorem dL_fewest_149 : decode cL_fewest 149 = .ok (.iload_n 2, 1) := by decide +kernel
theorem dL_fewest_150 : decode cL_fewest 150 = .ok (.iaload, 1) := by decide +kernel
theorem dL_fewest_151 : decode cL_fewest 151 = .ok (.ifCond .ne 8, 3) := by decide +kernel
theorem dL_fewest_154 : decode cL_fewest 154 = .ok (.bipush (-6), 2) := by decide +kernel
theorem dL_fewest_156 : decode cL_fewest 156 = .ok (.goto 6, 3) := by decide +kernel
theorem dL_fewest_159 : decode cL_fewest 159 = .ok (.aload_n 3, 1) := by decide +kernel
theorem dL_fewest_160 : decode cL_fewest 160 = .ok (.iload_n 2, 1) := by decide +kernel
theorem dL_fewest_161 : decode cL_fewest 161 = .ok (.iaload, 1) := by decide +kernel
theorem dL_fewest_162 : decode cL_fewest 162 = .ok (.ireturn, 1) := by decide +kernel
theorem dL_game_0 : decode cL_game 0 = .ok (.iconst 0, 1) := by decide +kernel
theorem dL_game_1 : decode cL_game 1 = .ok (.istore 6, 2) := by decide +kernel
theorem dL_game_3 : decode cL_game 3 = .ok (.iload 6, 2) := by decide +kernel
theorem dL_game_5 : decode cL_game 5 = .ok (.aload 4, 2) := by decide +kernel
theorem dL_game_7 : decode cL_game 7 = .ok (.iconst 1, 1) := by decide +kernel
theorem dL_game_8 : decode cL_game 8 = .ok (.iaload, 1) := by decide +kernel
theorem dL_game_9 : decode cL_game 9 = .ok (.if_icmp .ge 178, 3) := by decide +kernel
theorem dL_game_12 : decode cL_game 12 = .ok (.iconst 0, 1) := by decide +kernel
theorem dL_game_13 : decode cL_game 13 = .ok (.istore 7, 2) := by decide +kernel
theorem dL_game_15 : decode cL_game 15 = .ok (.iconst 0, 1) := by decide +kernel
theorem dL_game_16 : decode cL_game 16 = .ok (.istore 8, 2) := by decide +kernel
theorem dL_game_18 : decode cL_game 18 = .ok (.iload 8, 2) := by decide +kernel
theorem dL_game_20 : decode cL_game 20 = .ok (.aload 4, 2) := by decide +kernel
theorem dL_game_22 : decode cL_game 22 = .ok (.iconst 1, 1) := by decide +kernel
theorem dL_game_23 : decode cL_game 23 = .ok (.iaload, 1) := by decide +kernel
theorem dL_game_24 : decode cL_game 24 = .ok (.if_icmp .ge 64, 3) := by decide +kernel
theorem dL_game_27 : decode cL_game 27 = .ok (.iload 7, 2) := by decide +kernel
theorem dL_game_29 : decode cL_game 29 = .ok (.aload_n 3, 1) := by decide +kernel
theorem dL_game_30 : decode cL_game 30 = .ok (.aload 4, 2) := by decide +kernel
theorem dL_game_32 : decode cL_game 32 = .ok (.iload 8, 2) := by decide +kernel
theorem dL_game_34 : decode cL_game 34 = .ok (.invokestatic 27, 3) := by decide +kernel
theorem dL_game_37 : decode cL_game 37 = .ok (.aload_n 3, 1) := by decide +kernel
theorem dL_game_38 : decode cL_game 38 = .ok (.aload 4, 2) := by decide +kernel
theorem dL_game_40 : decode cL_game 40 = .ok (.iload 6, 2) := by decide +kernel
theorem dL_game_42 : decode cL_game 42 = .ok (.invokestatic 27, 3) := by decide +kernel
theorem dL_game_45 : decode cL_game 45 = .ok (.if_icmp .gt 29, 3) := by decide +kernel
theorem dL_game_48 : decode cL_game 48 = .ok (.aload_n 3, 1) := by decide +kernel
theorem dL_game_49 : decode cL_game 49 = .ok (.aload 4, 2) := by decide +kernel
theorem dL_game_51 : decode cL_game 51 = .ok (.iload 8, 2) := by decide +kernel
theorem dL_game_53 : decode cL_game 53 = .ok (.invokestatic 27, 3) := by decide +kernel
theorem dL_game_56 : decode cL_game 56 = .ok (.aload_n 3, 1) := by decide +kernel
theorem dL_game_57 : decode cL_game 57 = .ok (.aload 4, 2) := by decide +kernel
theorem dL_game_59 : decode cL_game 59 = .ok (.iload 6, 2) := by decide +kernel
theorem dL_game_61 : decode cL_game 61 = .ok (.invokestatic 27, 3) := by decide +kernel
theorem dL_game_64 : decode cL_game 64 = .ok (.if_icmp .ne 14, 3) := by decide +kernel
theorem dL_game_67 : decode cL_game 67 = .ok (.iload 8, 2) := by decide +kernel
theorem dL_game_69 : decode cL_game 69 = .ok (.iload 6, 2) := by decide +kernel
theorem dL_game_71 : decode cL_game 71 = .ok (.if_icmp .ge 7, 3) := by decide +kernel
theorem dL_game_74 : decode cL_game 74 = .ok (.iconst 1, 1) := by decide +kernel
theorem dL_game_75 : decode cL_game 75 = .ok (.goto 4, 3) := by decide +kernel
theorem dL_game_78 : decode cL_game 78 = .ok (.iconst 0, 1) := by decide +kernel
theorem dL_game_79 : decode cL_game 79 = .ok (.iadd, 1) := by decide +kernel
theorem dL_game_80 : decode cL_game 80 = .ok (.istore 7, 2) := by decide +kernel
theorem dL_game_82 : decode cL_game 82 = .ok (.iinc 8 1, 3) := by decide +kernel
theorem dL_game_85 : decode cL_game 85 = .ok (.goto (-67), 3) := by decide +kernel
theorem dL_game_88 : decode cL_game 88 = .ok (.iconst 0, 1) := by decide +kernel
theorem dL_game_89 : decode cL_game 89 = .ok (.istore 8, 2) := by decide +kernel
theorem dL_game_91 : decode cL_game 91 = .ok (.iload 8, 2) := by decide +kernel
theorem dL_game_93 : decode cL_game 93 = .ok (.bipush 6, 2) := by decide +kernel
theorem dL_game_95 : decode cL_game 95 = .ok (.if_icmp .ge 32, 3) := by decide +kernel
theorem dL_game_98 : decode cL_game 98 = .ok (.aload_n 0, 1) := by decide +kernel
theorem dL_game_99 : decode cL_game 99 = .ok (.iload 6, 2) := by decide +kernel
theorem dL_game_101 : decode cL_game 101 = .ok (.iload 8, 2) := by decide +kernel
theorem dL_game_103 : decode cL_game 103 = .ok (.invokevirtual 48, 3) := by decide +kernel
theorem dL_game_106 : decode cL_game 106 = .ok (.aload_n 3, 1) := by decide +kernel
theorem dL_game_107 : decode cL_game 107 = .ok (.bipush 6, 2) := by decide +kernel
theorem dL_game_109 : decode cL_game 109 = .ok (.iload 6, 2) := by decide +kernel
theorem dL_game_111 : decode cL_game 111 = .ok (.imul, 1) := by decide +kernel
theorem dL_game_112 : decode cL_game 112 = .ok (.iload 8, 2) := by decide +kernel
theorem dL_game_114 : decode cL_game 114 = .ok (.iadd, 1) := by decide +kernel
theorem dL_game_115 : decode cL_game 115 = .ok (.iaload, 1) := by decide +kernel
theorem dL_game_116 : decode cL_game 116 = .ok (.if_icmp .eq 5, 3) := by decide +kernel
theorem dL_game_119 : decode cL_game 119 = .ok (.iconst 0, 1) := by decide +kernel
theorem dL_game_120 : decode cL_game 120 = .ok (.ireturn, 1) := by decide +kernel
theorem dL_game_121 : decode cL_game 121 = .ok (.iinc 8 1, 3) := by decide +kernel
theorem dL_game_124 : decode cL_game 124 = .ok (.goto (-33), 3) := by decide +kernel
theorem dL_game_127 : decode cL_game 127 = .ok (.aload_n 0, 1) := by decide +kernel
theorem dL_game_128 : decode cL_game 128 = .ok (.iload 6, 2) := by decide +kernel
theorem dL_game_130 : decode cL_game 130 = .ok (.bipush 6, 2) := by decide +kernel
theorem dL_game_132 : decode cL_game 132 = .ok (.invokevirtual 48, 3) := by decide +kernel
theorem dL_game_135 : decode cL_game 135 = .ok (.aload_n 3, 1) := by decide +kernel
theorem dL_game_136 : decode cL_game 136 = .ok (.aload 4, 2) := by decide +kernel
theorem dL_game_138 : decode cL_game 138 = .ok (.iload 6, 2) := by decide +kernel
theorem dL_game_140 : decode cL_game 140 = .ok (.invokestatic 27, 3) := by decide +kernel
theorem dL_game_143 : decode cL_game 143 = .ok (.if_icmp .ne 36, 3) := by decide +kernel
theorem dL_game_146 : decode cL_game 146 = .ok (.aload_n 0, 1) := by decide +kernel
theorem dL_game_147 : decode cL_game 147 = .ok (.iload 7, 2) := by decide +kernel
theorem dL_game_149 : decode cL_game 149 = .ok (.invokevirtual 51, 3) := by decide +kernel
theorem dL_game_152 : decode cL_game 152 = .ok (.iload 6, 2) := by decide +kernel
theorem dL_game_154 : decode cL_game 154 = .ok (.if_icmp .ne 25, 3) := by decide +kernel
theorem dL_game_157 : decode cL_game 157 = .ok (.aload_n 0, 1) := by decide +kernel
theorem dL_game_158 : decode cL_game 158 = .ok (.iload 6, 2) := by decide +kernel
theorem dL_game_160 : decode cL_game 160 = .ok (.invokevirtual 55, 3) := by decide +kernel
theorem dL_game_163 : decode cL_game 163 = .ok (.aload_n 1, 1) := by decide +kernel
theorem dL_game_164 : decode cL_game 164 = .ok (.aload 4, 2) := by decide +kernel
theorem dL_game_166 : decode cL_game 166 = .ok (.aload_n 3, 1) := by decide +kernel
theorem dL_game_167 : decode cL_game 167 = .ok (.bipush 6, 2) := by decide +kernel
theorem dL_game_169 : decode cL_game 169 = .ok (.iload 6, 2) := by decide +kernel
theorem dL_game_171 : decode cL_game 171 = .ok (.imul, 1) := by decide +kernel
theorem dL_game_172 : decode cL_game 172 = .ok (.iaload, 1) := by decide +kernel
theorem dL_game_173 : decode cL_game 173 = .ok (.invokestatic 58, 3) := by decide +kernel
theorem dL_game_176 : decode cL_game 176 = .ok (.if_icmp .eq 5, 3) := by decide +kernel
theorem dL_game_179 : decode cL_game 179 = .ok (.iconst 0, 1) := by decide +kernel
theorem dL_game_180 : decode cL_game 180 = .ok (.ireturn, 1) := by decide +kernel
theorem dL_game_181 : decode cL_game 181 = .ok (.iinc 6 1, 3) := by decide +kernel
theorem dL_game_184 : decode cL_game 184 = .ok (.goto (-181), 3) := by decide +kernel
theorem dL_game_187 : decode cL_game 187 = .ok (.iconst 0, 1) := by decide +kernel
theorem dL_game_188 : decode cL_game 188 = .ok (.istore 6, 2) := by decide +kernel
theorem dL_game_190 : decode cL_game 190 = .ok (.iload 6, 2) := by decide +kernel
theorem dL_game_192 : decode cL_game 192 = .ok (.aload 4, 2) := by decide +kernel
theorem dL_game_194 : decode cL_game 194 = .ok (.iconst 0, 1) := by decide +kernel
theorem dL_game_195 : decode cL_game 195 = .ok (.iaload, 1) := by decide +kernel
theorem dL_game_196 : decode cL_game 196 = .ok (.if_icmp .ge 158, 3) := by decide +kernel
theorem dL_game_199 : decode cL_game 199 = .ok (.iconst 0, 1) := by decide +kernel
theorem dL_game_200 : decode cL_game 200 = .ok (.istore 7, 2) := by decide +kernel
theorem dL_game_202 : decode cL_game 202 = .ok (.iconst 0, 1) := by decide +kernel
theorem dL_game_203 : decode cL_game 203 = .ok (.istore 8, 2) := by decide +kernel
theorem dL_game_205 : decode cL_game 205 = .ok (.iconst 0, 1) := by decide +kernel
theorem dL_game_206 : decode cL_game 206 = .ok (.istore 9, 2) := by decide +kernel
theorem dL_game_208 : decode cL_game 208 = .ok (.iload 9, 2) := by decide +kernel
theorem dL_game_210 : decode cL_game 210 = .ok (.aload 4, 2) := by decide +kernel
theorem dL_game_212 : decode cL_game 212 = .ok (.iconst 1, 1) := by decide +kernel
theorem dL_game_213 : decode cL_game 213 = .ok (.iaload, 1) := by decide +kernel
theorem dL_game_214 : decode cL_game 214 = .ok (.if_icmp .ge 34, 3) := by decide +kernel
theorem dL_game_217 : decode cL_game 217 = .ok (.iload 7, 2) := by decide +kernel
theorem dL_game_219 : decode cL_game 219 = .ok (.aload_n 3, 1) := by decide +kernel
theorem dL_game_220 : decode cL_game 220 = .ok (.bipush 6, 2) := by decide +kernel
theorem dL_game_222 : decode cL_game 222 = .ok (.iload 9, 2) := by decide +kernel
theorem dL_game_224 : decode cL_game 224 = .ok (.imul, 1) := by decide +kernel
theorem dL_game_225 : decode cL_game 225 = .ok (.iaload, 1) := by decide +kernel
theorem dL_game_226 : decode cL_game 226 = .ok (.iload 6, 2) := by decide +kernel
theorem dL_game_228 : decode cL_game 228 = .ok (.if_icmp .ne 10, 3) := by decide +kernel
theorem dL_game_231 : decode cL_game 231 = .ok (.iconst 1, 1) := by decide +kernel
theorem dL_game_232 : decode cL_game 232 = .ok (.iload 9, 2) := by decide +kernel
theorem dL_game_234 : decode cL_game 234 = .ok (.ishl, 1) := by decide +kernel
theorem dL_game_235 : decode cL_game 235 = .ok (.goto 4, 3) := by decide +kernel
theorem dL_game_238 : decode cL_game 238 = .ok (.iconst 0, 1) := by decide +kernel
theorem dL_game_239 : decode cL_game 239 = .ok (.iadd, 1) := by decide +kernel
theorem dL_game_240 : decode cL_game 240 = .ok (.istore 7, 2) := by decide +kernel
theorem dL_game_242 : decode cL_game 242 = .ok (.iinc 9 1, 3) := by decide +kernel
theorem dL_game_245 : decode cL_game 245 = .ok (.goto (-37), 3) := by decide +kernel
theorem dL_game_248 : decode cL_game 248 = .ok (.iconst 0, 1) := by decide +kernel
theorem dL_game_249 : decode cL_game 249 = .ok (.istore 9, 2) := by decide +kernel
theorem dL_game_251 : decode cL_game 251 = .ok (.iload 9, 2) := by decide +kernel
theorem dL_game_253 : decode cL_game 253 = .ok (.bipush 61, 2) := by decide +kernel
theorem dL_game_255 : decode cL_game 255 = .ok (.if_icmp .ge 28, 3) := by decide +kernel
theorem dL_game_258 : decode cL_game 258 = .ok (.iload 8, 2) := by decide +kernel
theorem dL_game_260 : decode cL_game 260 = .ok (.aload_n 1, 1) := by decide +kernel
theorem dL_game_261 : decode cL_game 261 = .ok (.iload 9, 2) := by decide +kernel
theorem dL_game_263 : decode cL_game 263 = .ok (.iaload, 1) := by decide +kernel
theorem dL_game_264 : decode cL_game 264 = .ok (.iload 6, 2) := by decide +kernel
theorem dL_game_266 : decode cL_game 266 = .ok (.if_icmp .ne 7, 3) := by decide +kernel
theorem dL_game_269 : decode cL_game 269 = .ok (.iconst 1, 1) := by decide +kernel
theorem dL_game_270 : decode cL_game 270 = .ok (.goto 4, 3) := by decide +kernel
theorem dL_game_273 : decode cL_game 273 = .ok (.iconst 0, 1) := by decide +kernel
theorem dL_game_274 : decode cL_game 274 = .ok (.iadd, 1) := by decide +kernel
theorem dL_game_275 : decode cL_game 275 = .ok (.istore 8, 2) := by decide +kernel
theorem dL_game_277 : decode cL_game 277 = .ok (.iinc 9 1, 3) := by decide +kernel
theorem dL_game_280 : decode cL_game 280 = .ok (.goto (-29), 3) := by decide +kernel
theorem dL_game_283 : decode cL_game 283 = .ok (.aload_n 0, 1) := by decide +kernel
theorem dL_game_284 : decode cL_game 284 = .ok (.iload 6, 2) := by decide +kernel
theorem dL_game_286 : decode cL_game 286 = .ok (.invokevirtual 61, 3) := by decide +kernel
theorem dL_game_289 : decode cL_game 289 = .ok (.iload 7, 2) := by decide +kernel
theorem dL_game_291 : decode cL_game 291 = .ok (.if_icmp .ne 55, 3) := by decide +kernel
theorem dL_game_294 : decode cL_game 294 = .ok (.aload_n 0, 1) := by decide +kernel
theorem dL_game_295 : decode cL_game 295 = .ok (.iload 6, 2) := by decide +kernel
theorem dL_game_297 : decode cL_game 297 = .ok (.iconst 0, 1) := by decide +kernel
theorem dL_game_298 : decode cL_game 298 = .ok (.invokevirtual 64, 3) := by decide +kernel
theorem dL_game_301 : decode cL_game 301 = .ok (.aload_n 2, 1) := by decide +kernel
theorem dL_game_302 : decode cL_game 302 = .ok (.iload 6, 2) := by decide +kernel
theorem dL_game_304 : decode cL_game 304 = .ok (.iaload, 1) := by decide +kernel
theorem dL_game_305 : decode cL_game 305 = .ok (.if_icmp .ne 41, 3) := by decide +kernel
theorem dL_game_308 : decode cL_game 308 = .ok (.aload_n 0, 1) := by decide +kernel
theorem dL_game_309 : decode cL_game 309 = .ok (.iload 6, 2) := by decide +kernel
theorem dL_game_311 : decode cL_game 311 = .ok (.iconst 1, 1) := by decide +kernel
theorem dL_game_312 : decode cL_game 312 = .ok (.invokevirtual 64, 3) := by decide +kernel
theorem dL_game_315 : decode cL_game 315 = .ok (.aload_n 1, 1) := by decide +kernel
theorem dL_game_316 : decode cL_game 316 = .ok (.iload 6, 2) := by decide +kernel
theorem dL_game_318 : decode cL_game 318 = .ok (.iaload, 1) := by decide +kernel
theorem dL_game_319 : decode cL_game 319 = .ok (.ifCond .ge 8, 3) := by decide +kernel
theorem dL_game_322 : decode cL_game 322 = .ok (.bipush (-6), 2) := by decide +kernel
theorem dL_game_324 : decode cL_game 324 = .ok (.goto 7, 3) := by decide +kernel
theorem dL_game_327 : decode cL_game 327 = .ok (.aload_n 1, 1) := by decide +kernel
theorem dL_game_328 : decode cL_game 328 = .ok (.iload 6, 2) := by decide +kernel
theorem dL_game_330 : decode cL_game 330 = .ok (.iaload, 1) := by decide +kernel
theorem dL_game_331 : decode cL_game 331 = .ok (.if_icmp .ne 15, 3) := by decide +kernel
theorem dL_game_334 : decode cL_game 334 = .ok (.aload_n 0, 1) := by decide +kernel
theorem dL_game_335 : decode cL_game 335 = .ok (.iload 6, 2) := by decide +kernel
theorem dL_game_337 : decode cL_game 337 = .ok (.iconst 2, 1) := by decide +kernel
theorem dL_game_338 : decode cL_game 338 = .ok (.invokevirtual 64, 3) := by decide +kernel
theorem dL_game_341 : decode cL_game 341 = .ok (.iload 8, 2) := by decide +kernel
theorem dL_game_343 : decode cL_game 343 = .ok (.if_icmp .eq 5, 3) := by decide +kernel
theorem dL_game_346 : decode cL_game 346 = .ok (.iconst 0, 1) := by decide +kernel
theorem dL_game_347 : decode cL_game 347 = .ok (.ireturn, 1) := by decide +kernel
theorem dL_game_348 : decode cL_game 348 = .ok (.iinc 6 1, 3) := by decide +kernel
theorem dL_game_351 : decode cL_game 351 = .ok (.goto (-161), 3) := by decide +kernel
theorem dL_game_354 : decode cL_game 354 = .ok (.aload_n 0, 1) := by decide +kernel
theorem dL_game_355 : decode cL_game 355 = .ok (.invokevirtual 67, 3) := by decide +kernel
theorem dL_game_358 : decode cL_game 358 = .ok (.aload 4, 2) := by decide +kernel
theorem dL_game_360 : decode cL_game 360 = .ok (.iconst 1, 1) := by decide +kernel
theorem dL_game_361 : decode cL_game 361 = .ok (.iaload, 1) := by decide +kernel
theorem dL_game_362 : decode cL_game 362 = .ok (.ifCond .ne 8, 3) := by decide +kernel
theorem dL_game_365 : decode cL_game 365 = .ok (.bipush (-6), 2) := by decide +kernel
theorem dL_game_367 : decode cL_game 367 = .ok (.goto 7, 3) := by decide +kernel
theorem dL_game_370 : decode cL_game 370 = .ok (.aload 4, 2) := by decide +kernel
theorem dL_game_372 : decode cL_game 372 = .ok (.iconst 2, 1) := by decide +kernel
theorem dL_game_373 : decode cL_game 373 = .ok (.iaload, 1) := by decide +kernel
theorem dL_game_374 : decode cL_game 374 = .ok (.if_icmp .ne 156, 3) := by decide +kernel
theorem dL_game_377 : decode cL_game 377 = .ok (.aload_n 0, 1) := by decide +kernel
theorem dL_game_378 : decode cL_game 378 = .ok (.aload 4, 2) := by decide +kernel
theorem dL_game_380 : decode cL_game 380 = .ok (.iconst 1, 1) := by decide +kernel
theorem dL_game_381 : decode cL_game 381 = .ok (.iaload, 1) := by decide +kernel
theorem dL_game_382 : decode cL_game 382 = .ok (.invokevirtual 51, 3) := by decide +kernel
theorem dL_game_385 : decode cL_game 385 = .ok (.bipush (-6), 2) := by decide +kernel
theorem dL_game_387 : decode cL_game 387 = .ok (.if_icmp .ne 143, 3) := by decide +kernel
theorem dL_game_390 : decode cL_game 390 = .ok (.aload_n 0, 1) := by decide +kernel
theorem dL_game_391 : decode cL_game 391 = .ok (.iconst 0, 1) := by decide +kernel
theorem dL_game_392 : decode cL_game 392 = .ok (.invokevirtual 70, 3) := by decide +kernel
theorem dL_game_395 : decode cL_game 395 = .ok (.aload 4, 2) := by decide +kernel
theorem dL_game_397 : decode cL_game 397 = .ok (.iconst 0, 1) := by decide +kernel
theorem dL_game_398 : decode cL_game 398 = .ok (.iaload, 1) := by decide +kernel
theorem dL_game_399 : decode cL_game 399 = .ok (.if_icmp .ne 131, 3) := by decide +kernel
theorem dL_game_402 : decode cL_game 402 = .ok (.aload_n 0, 1) := by decide +kernel
theorem dL_game_403 : decode cL_game 403 = .ok (.iconst 1, 1) := by decide +kernel
theorem dL_game_404 : decode cL_game 404 = .ok (.invokevirtual 70, 3) := by decide +kernel
theorem dL_game_407 : decode cL_game 407 = .ok (.aload 4, 2) := by decide +kernel
theorem dL_game_409 : decode cL_game 409 = .ok (.iconst 1, 1) := by decide +kernel
theorem dL_game_410 : decode cL_game 410 = .ok (.iaload, 1) := by decide +kernel
theorem dL_game_411 : decode cL_game 411 = .ok (.if_icmp .ne 119, 3) := by decide +kernel
theorem dL_game_414 : decode cL_game 414 = .ok (.aload_n 0, 1) := by decide +kernel
theorem dL_game_415 : decode cL_game 415 = .ok (.iconst 2, 1) := by decide +kernel
theorem dL_game_416 : decode cL_game 416 = .ok (.invokevirtual 70, 3) := by decide +kernel
theorem dL_game_419 : decode cL_game 419 = .ok (.iload 5, 2) := by decide +kernel
theorem dL_game_421 : decode cL_game 421 = .ok (.if_icmp .ne 109, 3) := by decide +kernel
theorem dL_game_424 : decode cL_game 424 = .ok (.aload_n 0, 1) := by decide +kernel
theorem dL_game_425 : decode cL_game 425 = .ok (.iconst 3, 1) := by decide +kernel
theorem dL_game_426 : decode cL_game 426 = .ok (.invokevirtual 70, 3) := by decide +kernel
theorem dL_game_429 : decode cL_game 429 = .ok (.aload_n 2, 1) := by decide +kernel
theorem dL_game_430 : decode cL_game 430 = .ok (.invokestatic 73, 3) := by decide +kernel
theorem dL_game_433 : decode cL_game 433 = .ok (.if_icmp .ne 97, 3) := by decide +kernel
theorem dL_game_436 : decode cL_game 436 = .ok (.aload_n 0, 1) := by decide +kernel
theorem dL_game_437 : decode cL_game 437 = .ok (.iconst 4, 1) := by decide +kernel
theorem dL_game_438 : decode cL_game 438 = .ok (.invokevirtual 70, 3) := by decide +kernel
theorem dL_game_441 : decode cL_game 441 = .ok (.aload 4, 2) := by decide +kernel
theorem dL_game_443 : decode cL_game 443 = .ok (.iconst 3, 1) := by decide +kernel
theorem dL_game_444 : decode cL_game 444 = .ok (.iaload, 1) := by decide +kernel
theorem dL_game_445 : decode cL_game 445 = .ok (.if_icmp .ne 85, 3) := by decide +kernel
theorem dL_game_448 : decode cL_game 448 = .ok (.aload_n 0, 1) := by decide +kernel
theorem dL_game_449 : decode cL_game 449 = .ok (.iconst 5, 1) := by decide +kernel
theorem dL_game_450 : decode cL_game 450 = .ok (.invokevirtual 70, 3) := by decide +kernel
theorem dL_game_453 : decode cL_game 453 = .ok (.aload 4, 2) := by decide +kernel
theorem dL_game_455 : decode cL_game 455 = .ok (.iconst 4, 1) := by decide +kernel
theorem dL_game_456 : decode cL_game 456 = .ok (.iaload, 1) := by decide +kernel
theorem dL_game_457 : decode cL_game 457 = .ok (.if_icmp .ne 73, 3) := by decide +kernel
theorem dL_game_460 : decode cL_game 460 = .ok (.aload_n 0, 1) := by decide +kernel
theorem dL_game_461 : decode cL_game 461 = .ok (.bipush 6, 2) := by decide +kernel
theorem dL_game_463 : decode cL_game 463 = .ok (.invokevirtual 70, 3) := by decide +kernel
theorem dL_game_466 : decode cL_game 466 = .ok (.aload 4, 2) := by decide +kernel
theorem dL_game_468 : decode cL_game 468 = .ok (.iconst 5, 1) := by decide +kernel
theorem dL_game_469 : decode cL_game 469 = .ok (.iaload, 1) := by decide +kernel
theorem dL_game_470 : decode cL_game 470 = .ok (.if_icmp .ne 60, 3) := by decide +kernel
theorem dL_game_473 : decode cL_game 473 = .ok (.aload_n 0, 1) := by decide +kernel
theorem dL_game_474 : decode cL_game 474 = .ok (.bipush 7, 2) := by decide +kernel
theorem dL_game_476 : decode cL_game 476 = .ok (.invokevirtual 70, 3) := by decide +kernel
theorem dL_game_479 : decode cL_game 479 = .ok (.aload_n 3, 1) := by decide +kernel
theorem dL_game_480 : decode cL_game 480 = .ok (.aload 4, 2) := by decide +kernel
theorem dL_game_482 : decode cL_game 482 = .ok (.invokestatic 37, 3) := by decide +kernel
theorem dL_game_485 : decode cL_game 485 = .ok (.if_icmp .ne 45, 3) := by decide +kernel
theorem dL_game_488 : decode cL_game 488 = .ok (.aload_n 0, 1) := by decide +kernel
theorem dL_game_489 : decode cL_game 489 = .ok (.bipush 8, 2) := by decide +kernel
theorem dL_game_491 : decode cL_game 491 = .ok (.invokevirtual 70, 3) := by decide +kernel
theorem dL_game_494 : decode cL_game 494 = .ok (.aload 4, 2) := by decide +kernel
theorem dL_game_496 : decode cL_game 496 = .ok (.bipush 6, 2) := by decide +kernel
theorem dL_game_498 : decode cL_game 498 = .ok (.iaload, 1) := by decide +kernel
theorem dL_game_499 : decode cL_game 499 = .ok (.if_icmp .ne 31, 3) := by decide +kernel
theorem dL_game_502 : decode cL_game 502 = .ok (.aload_n 0, 1) := by decide +kernel
theorem dL_game_503 : decode cL_game 503 = .ok (.aload 4, 2) := by decide +kernel
theorem dL_game_505 : decode cL_game 505 = .ok (.iconst 0, 1) := by decide +kernel
theorem dL_game_506 : decode cL_game 506 = .ok (.iaload, 1) := by decide +kernel
theorem dL_game_507 : decode cL_game 507 = .ok (.iconst 0, 1) := by decide +kernel
theorem dL_game_508 : decode cL_game 508 = .ok (.invokevirtual 64, 3) := by decide +kernel
theorem dL_game_511 : decode cL_game 511 = .ok (.ifCond .ne 19, 3) := by decide +kernel
theorem dL_game_514 : decode cL_game 514 = .ok (.aload_n 0, 1) := by decide +kernel
theorem dL_game_515 : decode cL_game 515 = .ok (.aload 4, 2) := by decide +kernel
theorem dL_game_517 : decode cL_game 517 = .ok (.iconst 0, 1) := by decide +kernel
theorem dL_game_518 : decode cL_game 518 = .ok (.iaload, 1) := by decide +kernel
theorem dL_game_519 : decode cL_game 519 = .ok (.invokevirtual 61, 3) := by decide +kernel
theorem dL_game_522 : decode cL_game 522 = .ok (.iconst (-1), 1) := by decide +kernel
theorem dL_game_523 : decode cL_game 523 = .ok (.if_icmp .ne 7, 3) := by decide +kernel
theorem dL_game_526 : decode cL_game 526 = .ok (.iconst 1, 1) := by decide +kernel
theorem dL_game_527 : decode cL_game 527 = .ok (.goto 4, 3) := by decide +kernel
theorem dL_game_530 : decode cL_game 530 = .ok (.iconst 0, 1) := by decide +kernel
theorem dL_game_531 : decode cL_game 531 = .ok (.ireturn, 1) := by decide +kernel
theorem dL_law_0 : decode cL_law 0 = .ok (.new 32, 3) := by decide +kernel
theorem dL_law_3 : decode cL_law 3 = .ok (.dup, 1) := by decide +kernel
theorem dL_law_4 : decode cL_law 4 = .ok (.invokespecial 77, 3) := by decide +kernel
theorem dL_law_7 : decode cL_law 7 = .ok (.astore_n 1, 1) := by decide +kernel
theorem dL_law_8 : decode cL_law 8 = .ok (.bipush 61, 2) := by decide +kernel
theorem dL_law_10 : decode cL_law 10 = .ok (.newarray .int, 2) := by decide +kernel
theorem dL_law_12 : decode cL_law 12 = .ok (.astore_n 2, 1) := by decide +kernel
theorem dL_law_13 : decode cL_law 13 = .ok (.bipush 61, 2) := by decide +kernel
theorem dL_law_15 : decode cL_law 15 = .ok (.newarray .int, 2) := by decide +kernel
theorem dL_law_17 : decode cL_law 17 = .ok (.astore_n 3, 1) := by decide +kernel
theorem dL_law_18 : decode cL_law 18 = .ok (.bipush 36, 2) := by decide +kernel
theorem dL_law_20 : decode cL_law 20 = .ok (.newarray .int, 2) := by decide +kernel
theorem dL_law_22 : decode cL_law 22 = .ok (.astore 4, 2) := by decide +kernel
theorem dL_law_24 : decode cL_law 24 = .ok (.bipush 7, 2) := by decide +kernel
theorem dL_law_26 : decode cL_law 26 = .ok (.newarray .int, 2) := by decide +kernel
theorem dL_law_28 : decode cL_law 28 = .ok (.astore 5, 2) := by decide +kernel
theorem dL_law_30 : decode cL_law 30 = .ok (.iconst 0, 1) := by decide +kernel
theorem dL_law_31 : decode cL_law 31 = .ok (.istore 6, 2) := by decide +kernel
theorem dL_law_33 : decode cL_law 33 = .ok (.aload 5, 2) := by decide +kernel
theorem dL_law_35 : decode cL_law 35 = .ok (.iconst 0, 1) := by decide +kernel
theorem dL_law_36 : decode cL_law 36 = .ok (.bipush 30, 2) := by decide +kernel
theorem dL_law_38 : decode cL_law 38 = .ok (.iastore, 1) := by decide +kernel
theorem dL_law_39 : decode cL_law 39 = .ok (.iconst 0, 1) := by decide +kernel
theorem dL_law_40 : decode cL_law 40 = .ok (.istore 7, 2) := by decide +kernel
theorem dL_law_42 : decode cL_law 42 = .ok (.iload 7, 2) := by decide +kernel
theorem dL_law_44 : decode cL_law 44 = .ok (.bipush 61, 2) := by decide +kernel
theorem dL_law_46 : decode cL_law 46 = .ok (.if_icmp .ge 14, 3) := by decide +kernel
theorem dL_law_49 : decode cL_law 49 = .ok (.aload_n 2, 1) := by decide +kernel
theorem dL_law_50 : decode cL_law 50 = .ok (.iload 7, 2) := by decide +kernel
theorem dL_law_52 : decode cL_law 52 = .ok (.iconst (-1), 1) := by decide +kernel
theorem dL_law_53 : decode cL_law 53 = .ok (.iastore, 1) := by decide +kernel
theorem dL_law_54 : decode cL_law 54 = .ok (.iinc 7 1, 3) := by decide +kernel
theorem dL_law_57 : decode cL_law 57 = .ok (.goto (-15), 3) := by decide +kernel
theorem dL_law_60 : decode cL_law 60 = .ok (.iconst 0, 1) := by decide +kernel
theorem dL_law_61 : decode cL_law 61 = .ok (.istore 7, 2) := by decide +kernel
theorem dL_law_63 : decode cL_law 63 = .ok (.iload 7, 2) := by decide +kernel
theorem dL_law_65 : decode cL_law 65 = .ok (.bipush 70, 2) := by decide +kernel
theorem dL_law_67 : decode cL_law 67 = .ok (.if_icmp .ge 917, 3) := by decide +kernel
theorem dL_law_70 : decode cL_law 70 = .ok (.aload_n 0, 1) := by decide +kernel
theorem dL_law_71 : decode cL_law 71 = .ok (.iload 7, 2) := by decide +kernel
theorem dL_law_73 : decode cL_law 73 = .ok (.invokestatic 78, 3) := by decide +kernel
theorem dL_law_76 : decode cL_law 76 = .ok (.istore 8, 2) := by decide +kernel
theorem dL_law_78 : decode cL_law 78 = .ok (.iload 8, 2) := by decide +kernel
theorem dL_law_80 : decode cL_law 80 = .ok (.bipush 20, 2) := by decide +kernel
theorem dL_law_82 : decode cL_law 82 = .ok (.invokestatic 82, 3) := by decide +kernel
theorem dL_law_85 : decode cL_law 85 = .ok (.istore 9, 2) := by decide +kernel
theorem dL_law_87 : decode cL_law 87 = .ok (.iload 8, 2) := by decide +kernel
theorem dL_law_89 : decode cL_law 89 = .ok (.iconst 5, 1) := by decide +kernel
theorem dL_law_90 : decode cL_law 90 = .ok (.ishr, 1) := by decide +kernel
theorem dL_law_91 : decode cL_law 91 = .ok (.aload 5, 2) := by decide +kernel
theorem dL_law_93 : decode cL_law 93 = .ok (.iconst 0, 1) := by decide +kernel
theorem dL_law_94 : decode cL_law 94 = .ok (.iaload, 1) := by decide +kernel
theorem dL_law_95 : decode cL_law 95 = .ok (.iconst 1, 1) := by decide +kernel
theorem dL_law_96 : decode cL_law 96 = .ok (.iadd, 1) := by decide +kernel
theorem dL_law_97 : decode cL_law 97 = .ok (.invokestatic 82, 3) := by decide +kernel
theorem dL_law_100 : decode cL_law 100 = .ok (.istore 10, 2) := by decide +kernel
theorem dL_law_102 : decode cL_law 102 = .ok (.iload 10, 2) := by decide +kernel
theorem dL_law_104 : decode cL_law 104 = .ok (.ifCond .le 16, 3) := by decide +kernel
theorem dL_law_107 : decode cL_law 107 = .ok (.iload 10, 2) := by decide +kernel
theorem dL_law_109 : decode cL_law 109 = .ok (.aload 5, 2) := by decide +kernel
theorem dL_law_111 : decode cL_law 111 = .ok (.iconst 0, 1) := by decide +kernel
theorem dL_law_112 : decode cL_law 112 = .ok (.iaload, 1) := by decide +kernel
theorem dL_law_113 : decode cL_law 113 = .ok (.if_icmp .ge 7, 3) := by decide +kernel
theorem dL_law_116 : decode cL_law 116 = .ok (.iconst 1, 1) := by decide +kernel
theorem dL_law_117 : decode cL_law 117 = .ok (.goto 4, 3) := by decide +kernel
theorem dL_law_120 : decode cL_law 120 = .ok (.iconst 0, 1) := by decide +kernel
theorem dL_law_121 : decode cL_law 121 = .ok (.istore 11, 2) := by decide +kernel
theorem dL_law_123 : decode cL_law 123 = .ok (.iconst 0, 1) := by decide +kernel
theorem dL_law_124 : decode cL_law 124 = .ok (.istore 12, 2) := by decide +kernel
theorem dL_law_126 : decode cL_law 126 = .ok (.iconst 0, 1) := by decide +kernel
theorem dL_law_127 : decode cL_law 127 = .ok (.istore 13, 2) := by decide +kernel
theorem dL_law_129 : decode cL_law 129 = .ok (.iconst 0, 1) := by decide +kernel
theorem dL_law_130 : decode cL_law 130 = .ok (.istore 14, 2) := by decide +kernel
theorem dL_law_132 : decode cL_law 132 = .ok (.iload 14, 2) := by decide +kernel
theorem dL_law_134 : decode cL_law 134 = .ok (.aload 5, 2) := by decide +kernel
theorem dL_law_136 : decode cL_law 136 = .ok (.iconst 1, 1) := by decide +kernel
theorem dL_law_137 : decode cL_law 137 = .ok (.iaload, 1) := by decide +kernel
theorem dL_law_138 : decode cL_law 138 = .ok (.if_icmp .ge 32, 3) := by decide +kernel
theorem dL_law_141 : decode cL_law 141 = .ok (.iload 12, 2) := by decide +kernel
theorem dL_law_143 : decode cL_law 143 = .ok (.aload 4, 2) := by decide +kernel
theorem dL_law_145 : decode cL_law 145 = .ok (.bipush 6, 2) := by decide +kernel
theorem dL_law_147 : decode cL_law 147 = .ok (.iload 14, 2) := by decide +kernel
theorem dL_law_149 : decode cL_law 149 = .ok (.imul, 1) := by decide +kernel
theorem dL_law_150 : decode cL_law 150 = .ok (.iaload, 1) := by decide +kernel
theorem dL_law_151 : decode cL_law 151 = .ok (.iload 10, 2) := by decide +kernel
theorem dL_law_153 : decode cL_law 153 = .ok (.if_icmp .ne 7, 3) := by decide +kernel
theorem dL_law_156 : decode cL_law 156 = .ok (.iconst 1, 1) := by decide +kernel
theorem dL_law_157 : decode cL_law 157 = .ok (.goto 4, 3) := by decide +kernel
theorem dL_law_160 : decode cL_law 160 = .ok (.iconst 0, 1) := by decide +kernel
theorem dL_law_161 : decode cL_law 161 = .ok (.iadd, 1) := by decide +kernel
theorem dL_law_162 : decode cL_law 162 = .ok (.istore 12, 2) := by decide +kernel
theorem dL_law_164 : decode cL_law 164 = .ok (.iinc 14 1, 3) := by decide +kernel
theorem dL_law_167 : decode cL_law 167 = .ok (.goto (-35), 3) := by decide +kernel
theorem dL_law_170 : decode cL_law 170 = .ok (.iconst 0, 1) := by decide +kernel
theorem dL_law_171 : decode cL_law 171 = .ok (.istore 14, 2) := by decide +kernel
theorem dL_law_173 : decode cL_law 173 = .ok (.iload 14, 2) := by decide +kernel
theorem dL_law_175 : decode cL_law 175 = .ok (.bipush 61, 2) := by decide +kernel
theorem dL_law_177 : decode cL_law 177 = .ok (.if_icmp .ge 28, 3) := by decide +kernel
theorem dL_law_180 : decode cL_law 180 = .ok (.iload 13, 2) := by decide +kernel
theorem dL_law_182 : decode cL_law 182 = .ok (.aload_n 2, 1) := by decide +kernel
theorem dL_law_183 : decode cL_law 183 = .ok (.iload 14, 2) := by decide +kernel
theorem dL_law_185 : decode cL_law 185 = .ok (.iaload, 1) := by decide +kernel
theorem dL_law_186 : decode cL_law 186 = .ok (.iload 10, 2) := by decide +kernel
theorem dL_law_188 : decode cL_law 188 = .ok (.if_icmp .ne 7, 3) := by decide +kernel
theorem dL_law_191 : decode cL_law 191 = .ok (.iconst 1, 1) := by decide +kernel
theorem dL_law_192 : decode cL_law 192 = .ok (.goto 4, 3) := by decide +kernel
theorem dL_law_195 : decode cL_law 195 = .ok (.iconst 0, 1) := by decide +kernel
theorem dL_law_196 : decode cL_law 196 = .ok (.iadd, 1) := by decide +kernel
theorem dL_law_197 : decode cL_law 197 = .ok (.istore 13, 2) := by decide +kernel
theorem dL_law_199 : decode cL_law 199 = .ok (.iinc 14 1, 3) := by decide +kernel
theorem dL_law_202 : decode cL_law 202 = .ok (.goto (-29), 3) := by decide +kernel
theorem dL_law_205 : decode cL_law 205 = .ok (.iconst 1, 1) := by decide +kernel
theorem dL_law_206 : decode cL_law 206 = .ok (.istore 14, 2) := by decide +kernel
theorem dL_law_208 : decode cL_law 208 = .ok (.iload 9, 2) := by decide +kernel
theorem dL_law_210 : decode cL_law 210 = .ok (.ifCond .ne 12, 3) := by decide +kernel
theorem dL_law_213 : decode cL_law 213 = .ok (.aload 5, 2) := by decide +kernel
theorem dL_law_215 : decode cL_law 215 = .ok (.iconst 1, 1) := by decide +kernel
theorem dL_law_216 : decode cL_law 216 = .ok (.iaload, 1) := by decide +kernel
theorem dL_law_217 : decode cL_law 217 = .ok (.bipush 6, 2) := by decide +kernel
theorem dL_law_219 : decode cL_law 219 = .ok (.if_icmp .lt 9, 3) := by decide +kernel
theorem dL_law_222 : decode cL_law 222 = .ok (.iload 7, 2) := by decide +kernel
theorem dL_law_224 : decode cL_law 224 = .ok (.iconst 2, 1) := by decide +kernel
theorem dL_law_225 : decode cL_law 225 = .ok (.if_icmp .ge 64, 3) := by decide +kernel
theorem dL_law_228 : decode cL_law 228 = .ok (.iconst 0, 1) := by decide +kernel
theorem dL_law_229 : decode cL_law 229 = .ok (.istore 15, 2) := by decide +kernel
theorem dL_law_231 : decode cL_law 231 = .ok (.iload 15, 2) := by decide +kernel
theorem dL_law_233 : decode cL_law 233 = .ok (.bipush 6, 2) := by decide +kernel
theorem dL_law_235 : decode cL_law 235 = .ok (.if_icmp .ge 23, 3) := by decide +kernel
theorem dL_law_238 : decode cL_law 238 = .ok (.aload 4, 2) := by decide +kernel
theorem dL_law_240 : decode cL_law 240 = .ok (.bipush 6, 2) := by decide +kernel
theorem dL_law_242 : decode cL_law 242 = .ok (.aload 5, 2) := by decide +kernel
theorem dL_law_244 : decode cL_law 244 = .ok (.iconst 1, 1) := by decide +kernel
theorem dL_law_245 : decode cL_law 245 = .ok (.iaload, 1) := by decide +kernel
theorem dL_law_246 : decode cL_law 246 = .ok (.imul, 1) := by decide +kernel
theorem dL_law_247 : decode cL_law 247 = .ok (.iload 15, 2) := by decide +kernel
theorem dL_law_249 : decode cL_law 249 = .ok (.iadd, 1) := by decide +kernel
theorem dL_law_250 : decode cL_law 250 = .ok (.iconst 0, 1) := by decide +kernel
theorem dL_law_251 : decode cL_law 251 = .ok (.iastore, 1) := by decide +kernel
theorem dL_law_252 : decode cL_law 252 = .ok (.iinc 15 1, 3) := by decide +kernel
theorem dL_law_255 : decode cL_law 255 = .ok (.goto (-24), 3) := by decide +kernel
theorem dL_law_258 : decode cL_law 258 = .ok (.aload 5, 2) := by decide +kernel
theorem dL_law_260 : decode cL_law 260 = .ok (.iconst 1, 1) := by decide +kernel
theorem dL_law_261 : decode cL_law 261 = .ok (.dup2, 1) := by decide +kernel
theorem dL_law_262 : decode cL_law 262 = .ok (.iaload, 1) := by decide +kernel
theorem dL_law_263 : decode cL_law 263 = .ok (.iconst 1, 1) := by decide +kernel
theorem dL_law_264 : decode cL_law 264 = .ok (.iadd, 1) := by decide +kernel
theorem dL_law_265 : decode cL_law 265 = .ok (.iastore, 1) := by decide +kernel
theorem dL_law_266 : decode cL_law 266 = .ok (.aload_n 1, 1) := by decide +kernel
theorem dL_law_267 : decode cL_law 267 = .ok (.invokevirtual 85, 3) := by decide +kernel
theorem dL_law_270 : decode cL_law 270 = .ok (.aload 5, 2) := by decide +kernel
theorem dL_law_272 : decode cL_law 272 = .ok (.iconst 1, 1) := by decide +kernel
theorem dL_law_273 : decode cL_law 273 = .ok (.iaload, 1) := by decide +kernel
theorem dL_law_274 : decode cL_law 274 = .ok (.iconst 1, 1) := by decide +kernel
theorem dL_law_275 : decode cL_law 275 = .ok (.isub, 1) := by decide +kernel
theorem dL_law_276 : decode cL_law 276 = .ok (.if_icmp .ne 7, 3) := by decide +kernel
theorem dL_law_279 : decode cL_law 279 = .ok (.iconst 1, 1) := by decide +kernel
theorem dL_law_280 : decode cL_law 280 = .ok (.goto 4, 3) := by decide +kernel
theorem dL_law_283 : decode cL_law 283 = .ok (.iconst 0, 1) := by decide +kernel
theorem dL_law_284 : decode cL_law 284 = .ok (.istore 14, 2) := by decide +kernel
theorem dL_law_286 : decode cL_law 286 = .ok (.goto 649, 3) := by decide +kernel
theorem dL_law_289 : decode cL_law 289 = .ok (.iload 9, 2) := by decide +kernel
theorem dL_law_291 : decode cL_law 291 = .ok (.iconst 1, 1) := by decide +kernel
theorem dL_law_292 : decode cL_law 292 = .ok (.if_icmp .ne 175, 3) := by decide +kernel
theorem dL_law_295 : decode cL_law 295 = .ok (.bipush 10, 2) := by decide +kernel
theorem dL_law_297 : decode cL_law 297 = .ok (.iload 8, 2) := by decide +kernel
theorem dL_law_299 : decode cL_law 299 = .ok (.bipush 12, 2) := by decide +kernel
theorem dL_law_301 : decode cL_law 301 = .ok (.ishr, 1) := by decide +kernel
theorem dL_law_302 : decode cL_law 302 = .ok (.iload 8, 2) := by decide +kernel
theorem dL_law_304 : decode cL_law 304 = .ok (.bipush 25, 2) := by decide +kernel
theorem dL_law_306 : decode cL_law 306 = .ok (.ishr, 1) := by decide +kernel
theorem dL_law_307 : decode cL_law 307 = .ok (.iconst 2, 1) := by decide +kernel
theorem dL_law_308 : decode cL_law 308 = .ok (.invokestatic 82, 3) := by decide +kernel
theorem dL_law_311 : decode cL_law 311 = .ok (.ifCond .ne 8, 3) := by decide +kernel
theorem dL_law_314 : decode cL_law 314 = .ok (.bipush 51, 2) := by decide +kernel
theorem dL_law_316 : decode cL_law 316 = .ok (.goto 5, 3) := by decide +kernel
theorem dL_law_319 : decode cL_law 319 = .ok (.bipush 12, 2) := by decide +kernel
theorem dL_law_321 : decode cL_law 321 = .ok (.invokestatic 82, 3) := by decide +kernel
theorem dL_law_324 : decode cL_law 324 = .ok (.iadd, 1) := by decide +kernel
theorem dL_law_325 : decode cL_law 325 = .ok (.istore 15, 2) := by decide +kernel
theorem dL_law_327 : decode cL_law 327 = .ok (.iconst 1, 1) := by decide +kernel
theorem dL_law_328 : decode cL_law 328 = .ok (.istore 16, 2) := by decide +kernel
theorem dL_law_330 : decode cL_law 330 = .ok (.iload 15, 2) := by decide +kernel
theorem dL_law_332 : decode cL_law 332 = .ok (.istore 17, 2) := by decide +kernel
theorem dL_law_334 : decode cL_law 334 = .ok (.iload 17, 2) := by decide +kernel
theorem dL_law_336 : decode cL_law 336 = .ok (.bipush 61, 2) := by decide +kernel
theorem dL_law_338 : decode cL_law 338 = .ok (.if_icmp .ge 35, 3) := by decide +kernel
theorem dL_law_341 : decode cL_law 341 = .ok (.iload 16, 2) := by decide +kernel
theorem dL_law_343 : decode cL_law 343 = .ok (.ifCond .eq 21, 3) := by decide +kernel
theorem dL_law_346 : decode cL_law 346 = .ok (.aload_n 3, 1) := by decide +kernel
theorem dL_law_347 : decode cL_law 347 = .ok (.iload 17, 2) := by decide +kernel
theorem dL_law_349 : decode cL_law 349 = .ok (.iaload, 1) := by decide +kernel
theorem dL_law_350 : decode cL_law 350 = .ok (.ifCond .ne 14, 3) := by decide +kernel
theorem dL_law_353 : decode cL_law 353 = .ok (.aload_n 2, 1) := by decide +kernel
theorem dL_law_354 : decode cL_law 354 = .ok (.iload 17, 2) := by decide +kernel
theorem dL_law_356 : decode cL_law 356 = .ok (.iaload, 1) := by decide +kernel
theorem dL_law_357 : decode cL_law 357 = .ok (.ifCond .ge 7, 3) := by decide +kernel
theorem dL_law_360 : decode cL_law 360 = .ok (.iconst 1, 1) := by decide +kernel
theorem dL_law_361 : decode cL_law 361 = .ok (.goto 4, 3) := by decide +kernel
theorem dL_law_364 : decode cL_law 364 = .ok (.iconst 0, 1) := by decide +kernel
theorem dL_law_365 : decode cL_law 365 = .ok (.istore 16, 2) := by decide +kernel
theorem dL_law_367 : decode cL_law 367 = .ok (.iinc 17 1, 3) := by decide +kernel
theorem dL_law_370 : decode cL_law 370 = .ok (.goto (-36), 3) := by decide +kernel
theorem dL_law_373 : decode cL_law 373 = .ok (.iconst 0, 1) := by decide +kernel
theorem dL_law_374 : decode cL_law 374 = .ok (.istore 17, 2) := by decide +kernel
theorem dL_law_376 : decode cL_law 376 = .ok (.iload 17, 2) := by decide +kernel
theorem dL_law_378 : decode cL_law 378 = .ok (.aload 5, 2) := by decide +kernel
theorem dL_law_380 : decode cL_law 380 = .ok (.iconst 1, 1) := by decide +kernel
theorem dL_law_381 : decode cL_law 381 = .ok (.iaload, 1) := by decide +kernel
theorem dL_law_382 : decode cL_law 382 = .ok (.if_icmp .ge 34, 3) := by decide +kernel
theorem dL_law_385 : decode cL_law 385 = .ok (.iload 16, 2) := by decide +kernel
theorem dL_law_387 : decode cL_law 387 = .ok (.ifCond .eq 20, 3) := by decide +kernel
theorem dL_law_390 : decode cL_law 390 = .ok (.aload 4, 2) := by decide +kernel
theorem dL_law_392 : decode cL_law 392 = .ok (.bipush 6, 2) := by decide +kernel
theorem dL_law_394 : decode cL_law 394 = .ok (.iload 17, 2) := by decide +kernel
theorem dL_law_396 : decode cL_law 396 = .ok (.imul, 1) := by decide +kernel
theorem dL_law_397 : decode cL_law 397 = .ok (.iaload, 1) := by decide +kernel
theorem dL_law_398 : decode cL_law 398 = .ok (.iload 15, 2) := by decide +kernel
theorem dL_law_400 : decode cL_law 400 = .ok (.if_icmp .ge 7, 3) := by decide +kernel
theorem dL_law_403 : decode cL_law 403 = .ok (.iconst 1, 1) := by decide +kernel
theorem dL_law_404 : decode cL_law 404 = .ok (.goto 4, 3) := by decide +kernel
theorem dL_law_407 : decode cL_law 407 = .ok (.iconst 0, 1) := by decide +kernel
theorem dL_law_408 : decode cL_law 408 = .ok (.istore 16, 2) := by decide +kernel
theorem dL_law_410 : decode cL_law 410 = .ok (.iinc 17 1, 3) := by decide +kernel
theorem dL_law_413 : decode cL_law 413 = .ok (.goto (-37), 3) := by decide +kernel
theorem dL_law_416 : decode cL_law 416 = .ok (.aload_n 1, 1) := by decide +kernel
theorem dL_law_417 : decode cL_law 417 = .ok (.iload 15, 2) := by decide +kernel
theorem dL_law_419 : decode cL_law 419 = .ok (.invokevirtual 88, 3) := by decide +kernel
theorem dL_law_422 : decode cL_law 422 = .ok (.iload 16, 2) := by decide +kernel
theorem dL_law_424 : decode cL_law 424 = .ok (.ifCond .eq 10, 3) := by decide +kernel
theorem dL_law_427 : decode cL_law 427 = .ok (.aload 5, 2) := by decide +kernel
theorem dL_law_429 : decode cL_law 429 = .ok (.iconst 0, 1) := by decide +kernel
theorem dL_law_430 : decode cL_law 430 = .ok (.iaload, 1) := by decide +kernel
theorem dL_law_431 : decode cL_law 431 = .ok (.goto 5, 3) := by decide +kernel
theorem dL_law_434 : decode cL_law 434 = .ok (.bipush (-3), 2) := by decide +kernel
theorem dL_law_436 : decode cL_law 436 = .ok (.if_icmp .ne 7, 3) := by decide +kernel
theorem dL_law_439 : decode cL_law 439 = .ok (.iconst 1, 1) := by decide +kernel
theorem dL_law_440 : decode cL_law 440 = .ok (.goto 4, 3) := by decide +kernel
theorem dL_law_443 : decode cL_law 443 = .ok (.iconst 0, 1) := by decide +kernel
theorem dL_law_444 : decode cL_law 444 = .ok (.istore 14, 2) := by decide +kernel
theorem dL_law_446 : decode cL_law 446 = .ok (.aload 5, 2) := by decide +kernel
theorem dL_law_448 : decode cL_law 448 = .ok (.iconst 0, 1) := by decide +kernel
theorem dL_law_449 : decode cL_law 449 = .ok (.iload 16, 2) := by decide +kernel
theorem dL_law_451 : decode cL_law 451 = .ok (.ifCond .eq 8, 3) := by decide +kernel
theorem dL_law_454 : decode cL_law 454 = .ok (.iload 15, 2) := by decide +kernel
theorem dL_law_456 : decode cL_law 456 = .ok (.goto 7, 3) := by decide +kernel
theorem dL_law_459 : decode cL_law 459 = .ok (.aload 5, 2) := by decide +kernel
theorem dL_law_461 : decode cL_law 461 = .ok (.iconst 0, 1) := by decide +kernel
theorem dL_law_462 : decode cL_law 462 = .ok (.iaload, 1) := by decide +kernel
theorem dL_law_463 : decode cL_law 463 = .ok (.iastore, 1) := by decide +kernel
theorem dL_law_464 : decode cL_law 464 = .ok (.goto 471, 3) := by decide +kernel
theorem dL_law_467 : decode cL_law 467 = .ok (.iload 9, 2) := by decide +kernel
theorem dL_law_469 : decode cL_law 469 = .ok (.iconst 2, 1) := by decide +kernel
theorem dL_law_470 : decode cL_law 470 = .ok (.if_icmp .eq 9, 3) := by decide +kernel
theorem dL_law_473 : decode cL_law 473 = .ok (.iload 9, 2) := by decide +kernel
theorem dL_law_475 : decode cL_law 475 = .ok (.iconst 3, 1) := by decide +kernel
theorem dL_law_476 : decode cL_law 476 = .ok (.if_icmp .ne 160, 3) := by decide +kernel
theorem dL_law_479 : decode cL_law 479 = .ok (.iload 8, 2) := by decide +kernel
theorem dL_law_481 : decode cL_law 481 = .ok (.bipush 12, 2) := by decide +kernel
theorem dL_law_483 : decode cL_law 483 = .ok (.ishr, 1) := by decide +kernel
theorem dL_law_484 : decode cL_law 484 = .ok (.iload 10, 2) := by decide +kernel
theorem dL_law_486 : decode cL_law 486 = .ok (.iconst 1, 1) := by decide +kernel
theorem dL_law_487 : decode cL_law 487 = .ok (.iadd, 1) := by decide +kernel
theorem dL_law_488 : decode cL_law 488 = .ok (.invokestatic 82, 3) := by decide +kernel
theorem dL_law_491 : decode cL_law 491 = .ok (.istore 15, 2) := by decide +kernel
theorem dL_law_493 : decode cL_law 493 = .ok (.iload 11, 2) := by decide +kernel
theorem dL_law_495 : decode cL_law 495 = .ok (.ifCond .eq 45, 3) := by decide +kernel
theorem dL_law_498 : decode cL_law 498 = .ok (.iload 15, 2) := by decide +kernel
theorem dL_law_500 : decode cL_law 500 = .ok (.iload 10, 2) := by decide +kernel
theorem dL_law_502 : decode cL_law 502 = .ok (.if_icmp .ge 38, 3) := by decide +kernel
theorem dL_law_505 : decode cL_law 505 = .ok (.aload_n 2, 1) := by decide +kernel
theorem dL_law_506 : decode cL_law 506 = .ok (.iload 10, 2) := by decide +kernel
theorem dL_law_508 : decode cL_law 508 = .ok (.iaload, 1) := by decide +kernel
theorem dL_law_509 : decode cL_law 509 = .ok (.ifCond .ge 31, 3) := by decide +kernel
theorem dL_law_512 : decode cL_law 512 = .ok (.iload 13, 2) := by decide +kernel
theorem dL_law_514 : decode cL_law 514 = .ok (.ifCond .ne 26, 3) := by decide +kernel
theorem dL_law_517 : decode cL_law 517 = .ok (.aload_n 2, 1) := by decide +kernel
theorem dL_law_518 : decode cL_law 518 = .ok (.iload 15, 2) := by decide +kernel
theorem dL_law_520 : decode cL_law 520 = .ok (.iaload, 1) := by decide +kernel
theorem dL_law_521 : decode cL_law 521 = .ok (.ifCond .ge 19, 3) := by decide +kernel
theorem dL_law_524 : decode cL_law 524 = .ok (.aload_n 3, 1) := by decide +kernel
theorem dL_law_525 : decode cL_law 525 = .ok (.iload 10, 2) := by decide +kernel
theorem dL_law_527 : decode cL_law 527 = .ok (.iaload, 1) := by decide +kernel
theorem dL_law_528 : decode cL_law 528 = .ok (.ifCond .ne 12, 3) := by decide +kernel
theorem dL_law_531 : decode cL_law 531 = .ok (.iload 12, 2) := by decide +kernel
theorem dL_law_533 : decode cL_law 533 = .ok (.ifCond .ne 7, 3) := by decide +kernel
theorem dL_law_536 : decode cL_law 536 = .ok (.iconst 1, 1) := by decide +kernel
theorem dL_law_537 : decode cL_law 537 = .ok (.goto 4, 3) := by decide +kernel
theorem dL_law_540 : decode cL_law 540 = .ok (.iconst 0, 1) := by decide +kernel
theorem dL_law_541 : decode cL_law 541 = .ok (.istore 16, 2) := by decide +kernel
theorem dL_law_543 : decode cL_law 543 = .ok (.iload 11, 2) := by decide +kernel
theorem dL_law_545 : decode cL_law 545 = .ok (.ifCond .ne 7, 3) := by decide +kernel
theorem dL_law_548 : decode cL_law 548 = .ok (.iconst (-1), 1) := by decide +kernel
theorem dL_law_549 : decode cL_law 549 = .ok (.goto 41, 3) := by decide +kernel
theorem dL_law_552 : decode cL_law 552 = .ok (.iload 15, 2) := by decide +kernel
theorem dL_law_554 : decode cL_law 554 = .ok (.iload 10, 2) := by decide +kernel
theorem dL_law_556 : decode cL_law 556 = .ok (.if_icmp .lt 8, 3) := by decide +kernel
theorem dL_law_559 : decode cL_law 559 = .ok (.bipush (-2), 2) := by decide +kernel
theorem dL_law_561 : decode cL_law 561 = .ok (.goto 29, 3) := by decide +kernel
theorem dL_law_564 : decode cL_law 564 = .ok (.iload 16, 2) := by decide +kernel
theorem dL_law_566 : decode cL_law 566 = .ok (.ifCond .ne 8, 3) := by decide +kernel
theorem dL_law_569 : decode cL_law 569 = .ok (.bipush (-3), 2) := by decide +kernel
theorem dL_law_571 : decode cL_law 571 = .ok (.goto 19, 3) := by decide +kernel
theorem dL_law_574 : decode cL_law 574 = .ok (.iload 6, 2) := by decide +kernel
theorem dL_law_576 : decode cL_law 576 = .ok (.bipush 6, 2) := by decide +kernel
theorem dL_law_578 : decode cL_law 578 = .ok (.if_icmp .ne 8, 3) := by decide +kernel
theorem dL_law_581 : decode cL_law 581 = .ok (.bipush (-4), 2) := by decide +kernel
theorem dL_law_583 : decode cL_law 583 = .ok (.goto 7, 3) := by decide +kernel
theorem dL_law_586 : decode cL_law 586 = .ok (.iload 6, 2) := by decide +kernel
theorem dL_law_588 : decode cL_law 588 = .ok (.iconst 1, 1) := by decide +kernel
theorem dL_law_589 : decode cL_law 589 = .ok (.iadd, 1) := by decide +kernel
theorem dL_law_590 : decode cL_law 590 = .ok (.istore 17, 2) := by decide +kernel
theorem dL_law_592 : decode cL_law 592 = .ok (.aload_n 1, 1) := by decide +kernel
theorem dL_law_593 : decode cL_law 593 = .ok (.iload 10, 2) := by decide +kernel
theorem dL_law_595 : decode cL_law 595 = .ok (.iload 15, 2) := by decide +kernel
theorem dL_law_597 : decode cL_law 597 = .ok (.invokevirtual 91, 3) := by decide +kernel
theorem dL_law_600 : decode cL_law 600 = .ok (.iload 17, 2) := by decide +kernel
theorem dL_law_602 : decode cL_law 602 = .ok (.if_icmp .ne 7, 3) := by decide +kernel
theorem dL_law_605 : decode cL_law 605 = .ok (.iconst 1, 1) := by decide +kernel
theorem dL_law_606 : decode cL_law 606 = .ok (.goto 4, 3) := by decide +kernel
theorem dL_law_609 : decode cL_law 609 = .ok (.iconst 0, 1) := by decide +kernel
theorem dL_law_610 : decode cL_law 610 = .ok (.istore 14, 2) := by decide +kernel
theorem dL_law_612 : decode cL_law 612 = .ok (.iload 16, 2) := by decide +kernel
theorem dL_law_614 : decode cL_law 614 = .ok (.ifCond .eq 19, 3) := by decide +kernel
theorem dL_law_617 : decode cL_law 617 = .ok (.iload 6, 2) := by decide +kernel
theorem dL_law_619 : decode cL_law 619 = .ok (.bipush 6, 2) := by decide +kernel
theorem dL_law_621 : decode cL_law 621 = .ok (.if_icmp .ge 12, 3) := by decide +kernel
theorem dL_law_624 : decode cL_law 624 = .ok (.aload_n 2, 1) := by decide +kernel
theorem dL_law_625 : decode cL_law 625 = .ok (.iload 10, 2) := by decide +kernel
theorem dL_law_627 : decode cL_law 627 = .ok (.iload 15, 2) := by decide +kernel
theorem dL_law_629 : decode cL_law 629 = .ok (.iastore, 1) := by decide +kernel
theorem dL_law_630 : decode cL_law 630 = .ok (.iinc 6 1, 3) := by decide +kernel
theorem dL_law_633 : decode cL_law 633 = .ok (.goto 302, 3) := by decide +kernel
theorem dL_law_636 : decode cL_law 636 = .ok (.iload 9, 2) := by decide +kernel
theorem dL_law_638 : decode cL_law 638 = .ok (.iconst 4, 1) := by decide +kernel
theorem dL_law_639 : decode cL_law 639 = .ok (.if_icmp .ne 51, 3) := by decide +kernel
theorem dL_law_642 : decode cL_law 642 = .ok (.aload_n 2, 1) := by decide +kernel
theorem dL_law_643 : decode cL_law 643 = .ok (.iload 10, 2) := by decide +kernel
theorem dL_law_645 : decode cL_law 645 = .ok (.iaload, 1) := by decide +kernel
theorem dL_law_646 : decode cL_law 646 = .ok (.ifCond .lt 44, 3) := by decide +kernel
theorem dL_law_649 : decode cL_law 649 = .ok (.aload_n 1, 1) := by decide +kernel
theorem dL_law_650 : decode cL_law 650 = .ok (.iload 10, 2) := by decide +kernel
theorem dL_law_652 : decode cL_law 652 = .ok (.invokevirtual 94, 3) := by decide +kernel
theorem dL_law_655 : decode cL_law 655 = .ok (.aload_n 2, 1) := by decide +kernel
theorem dL_law_656 : decode cL_law 656 = .ok (.iload 10, 2) := by decide +kernel
theorem dL_law_658 : decode cL_law 658 = .ok (.iaload, 1) := by decide +kernel
theorem dL_law_659 : decode cL_law 659 = .ok (.if_icmp .ne 17, 3) := by decide +kernel
theorem dL_law_662 : decode cL_law 662 = .ok (.aload_n 1, 1) := by decide +kernel
theorem dL_law_663 : decode cL_law 663 = .ok (.iload 10, 2) := by decide +kernel
theorem dL_law_665 : decode cL_law 665 = .ok (.invokevirtual 94, 3) := by decide +kernel
theorem dL_law_668 : decode cL_law 668 = .ok (.iconst (-1), 1) := by decide +kernel
theorem dL_law_669 : decode cL_law 669 = .ok (.if_icmp .ne 7, 3) := by decide +kernel
theorem dL_law_672 : decode cL_law 672 = .ok (.iconst 1, 1) := by decide +kernel
theorem dL_law_673 : decode cL_law 673 = .ok (.goto 4, 3) := by decide +kernel
theorem dL_law_676 : decode cL_law 676 = .ok (.iconst 0, 1) := by decide +kernel
theorem dL_law_677 : decode cL_law 677 = .ok (.istore 14, 2) := by decide +kernel
theorem dL_law_679 : decode cL_law 679 = .ok (.aload_n 2, 1) := by decide +kernel
theorem dL_law_680 : decode cL_law 680 = .ok (.iload 10, 2) := by decide +kernel
theorem dL_law_682 : decode cL_law 682 = .ok (.iconst (-1), 1) := by decide +kernel
theorem dL_law_683 : decode cL_law 683 = .ok (.iastore, 1) := by decide +kernel
theorem dL_law_684 : decode cL_law 684 = .ok (.iinc 6 (-1), 3) := by decide +kernel
theorem dL_law_687 : decode cL_law 687 = .ok (.goto 248, 3) := by decide +kernel
theorem dL_law_690 : decode cL_law 690 = .ok (.iload 9, 2) := by decide +kernel
theorem dL_law_692 : decode cL_law 692 = .ok (.iconst 4, 1) := by decide +kernel
theorem dL_law_693 : decode cL_law 693 = .ok (.if_icmp .eq 9, 3) := by decide +kernel
theorem dL_law_696 : decode cL_law 696 = .ok (.iload 9, 2) := by decide +kernel
theorem dL_law_698 : decode cL_law 698 = .ok (.iconst 5, 1) := by decide +kernel
theorem dL_law_699 : decode cL_law 699 = .ok (.if_icmp .ne 88, 3) := by decide +kernel
theorem dL_law_702 : decode cL_law 702 = .ok (.iload 11, 2) := by decide +kernel
theorem dL_law_704 : decode cL_law 704 = .ok (.ifCond .eq 21, 3) := by decide +kernel
theorem dL_law_707 : decode cL_law 707 = .ok (.aload_n 3, 1) := by decide +kernel
theorem dL_law_708 : decode cL_law 708 = .ok (.iload 10, 2) := by decide +kernel
theorem dL_law_710 : decode cL_law 710 = .ok (.iaload, 1) := by decide +kernel
theorem dL_law_711 : decode cL_law 711 = .ok (.ifCond .ne 14, 3) := by decide +kernel
theorem dL_law_714 : decode cL_law 714 = .ok (.aload_n 2, 1) := by decide +kernel
theorem dL_law_715 : decode cL_law 715 = .ok (.iload 10, 2) := by decide +kernel
theorem dL_law_717 : decode cL_law 717 = .ok (.iaload, 1) := by decide +kernel
theorem dL_law_718 : decode cL_law 718 = .ok (.ifCond .ge 7, 3) := by decide +kernel
theorem dL_law_721 : decode cL_law 721 = .ok (.iconst 1, 1) := by decide +kernel
theorem dL_law_722 : decode cL_law 722 = .ok (.goto 4, 3) := by decide +kernel
theorem dL_law_725 : decode cL_law 725 = .ok (.iconst 0, 1) := by decide +kernel
theorem dL_law_726 : decode cL_law 726 = .ok (.istore 15, 2) := by decide +kernel
theorem dL_law_728 : decode cL_law 728 = .ok (.aload_n 3, 1) := by decide +kernel
theorem dL_law_729 : decode cL_law 729 = .ok (.iload 10, 2) := by decide +kernel
theorem dL_law_731 : decode cL_law 731 = .ok (.iload 15, 2) := by decide +kernel
theorem dL_law_733 : decode cL_law 733 = .ok (.ifCond .eq 7, 3) := by decide +kernel
theorem dL_law_736 : decode cL_law 736 = .ok (.iconst 1, 1) := by decide +kernel
theorem dL_law_737 : decode cL_law 737 = .ok (.goto 7, 3) := by decide +kernel
theorem dL_law_740 : decode cL_law 740 = .ok (.aload_n 3, 1) := by decide +kernel
theorem dL_law_741 : decode cL_law 741 = .ok (.iload 10, 2) := by decide +kernel
theorem dL_law_743 : decode cL_law 743 = .ok (.iaload, 1) := by decide +kernel
theorem dL_law_744 : decode cL_law 744 = .ok (.iastore, 1) := by decide +kernel
theorem dL_law_745 : decode cL_law 745 = .ok (.aload_n 1, 1) := by decide +kernel
theorem dL_law_746 : decode cL_law 746 = .ok (.iload 10, 2) := by decide +kernel
theorem dL_law_748 : decode cL_law 748 = .ok (.invokevirtual 97, 3) := by decide +kernel
theorem dL_law_751 : decode cL_law 751 = .ok (.iload 11, 2) := by decide +kernel
theorem dL_law_753 : decode cL_law 753 = .ok (.ifCond .ne 7, 3) := by decide +kernel
theorem dL_law_756 : decode cL_law 756 = .ok (.iconst (-1), 1) := by decide +kernel
theorem dL_law_757 : decode cL_law 757 = .ok (.goto 17, 3) := by decide +kernel
theorem dL_law_760 : decode cL_law 760 = .ok (.iload 15, 2) := by decide +kernel
theorem dL_law_762 : decode cL_law 762 = .ok (.ifCond .eq 10, 3) := by decide +kernel
theorem dL_law_765 : decode cL_law 765 = .ok (.aload_n 3, 1) := by decide +kernel
theorem dL_law_766 : decode cL_law 766 = .ok (.invokestatic 73, 3) := by decide +kernel
theorem dL_law_769 : decode cL_law 769 = .ok (.goto 5, 3) := by decide +kernel
theorem dL_law_772 : decode cL_law 772 = .ok (.bipush (-3), 2) := by decide +kernel
theorem dL_law_774 : decode cL_law 774 = .ok (.if_icmp .ne 7, 3) := by decide +kernel
theorem dL_law_777 : decode cL_law 777 = .ok (.iconst 1, 1) := by decide +kernel
theorem dL_law_778 : decode cL_law 778 = .ok (.goto 4, 3) := by decide +kernel
theorem dL_law_781 : decode cL_law 781 = .ok (.iconst 0, 1) := by decide +kernel
theorem dL_law_782 : decode cL_law 782 = .ok (.istore 14, 2) := by decide +kernel
theorem dL_law_784 : decode cL_law 784 = .ok (.goto 151, 3) := by decide +kernel
theorem dL_law_787 : decode cL_law 787 = .ok (.iload 9, 2) := by decide +kernel
theorem dL_law_789 : decode cL_law 789 = .ok (.bipush 6, 2) := by decide +kernel
theorem dL_law_791 : decode cL_law 791 = .ok (.if_icmp .ne 53, 3) := by decide +kernel
theorem dL_law_794 : decode cL_law 794 = .ok (.iload 8, 2) := by decide +kernel
theorem dL_law_796 : decode cL_law 796 = .ok (.bipush 12, 2) := by decide +kernel
theorem dL_law_798 : decode cL_law 798 = .ok (.ishr, 1) := by decide +kernel
theorem dL_law_799 : decode cL_law 799 = .ok (.iconst 2, 1) := by decide +kernel
theorem dL_law_800 : decode cL_law 800 = .ok (.invokestatic 82, 3) := by decide +kernel
theorem dL_law_803 : decode cL_law 803 = .ok (.ifCond .ne 41, 3) := by decide +kernel
theorem dL_law_806 : decode cL_law 806 = .ok (.aload_n 1, 1) := by decide +kernel
theorem dL_law_807 : decode cL_law 807 = .ok (.iload 10, 2) := by decide +kernel
theorem dL_law_809 : decode cL_law 809 = .ok (.invokevirtual 100, 3) := by decide +kernel
theorem dL_law_812 : decode cL_law 812 = .ok (.aload_n 3, 1) := by decide +kernel
theorem dL_law_813 : decode cL_law 813 = .ok (.iload 10, 2) := by decide +kernel
theorem dL_law_815 : decode cL_law 815 = .ok (.iaload, 1) := by decide +kernel
theorem dL_law_816 : decode cL_law 816 = .ok (.iconst 1, 1) := by decide +kernel
theorem dL_law_817 : decode cL_law 817 = .ok (.if_icmp .ne 8, 3) := by decide +kernel
theorem dL_law_820 : decode cL_law 820 = .ok (.iload 12, 2) := by decide +kernel
theorem dL_law_822 : decode cL_law 822 = .ok (.goto 4, 3) := by decide +kernel
theorem dL_law_825 : decode cL_law 825 = .ok (.iconst (-1), 1) := by decide +kernel
theorem dL_law_826 : decode cL_law 826 = .ok (.if_icmp .ne 7, 3) := by decide +kernel
theorem dL_law_829 : decode cL_law 829 = .ok (.iconst 1, 1) := by decide +kernel
theorem dL_law_830 : decode cL_law 830 = .ok (.goto 4, 3) := by decide +kernel
theorem dL_law_833 : decode cL_law 833 = .ok (.iconst 0, 1) := by decide +kernel
theorem dL_law_834 : decode cL_law 834 = .ok (.istore 14, 2) := by decide +kernel
theorem dL_law_836 : decode cL_law 836 = .ok (.aload_n 3, 1) := by decide +kernel
theorem dL_law_837 : decode cL_law 837 = .ok (.iload 10, 2) := by decide +kernel
theorem dL_law_839 : decode cL_law 839 = .ok (.iconst 0, 1) := by decide +kernel
theorem dL_law_840 : decode cL_law 840 = .ok (.iastore, 1) := by decide +kernel
theorem dL_law_841 : decode cL_law 841 = .ok (.goto 94, 3) := by decide +kernel
theorem dL_law_844 : decode cL_law 844 = .ok (.iload 9, 2) := by decide +kernel
theorem dL_law_846 : decode cL_law 846 = .ok (.bipush 7, 2) := by decide +kernel
theorem dL_law_848 : decode cL_law 848 = .ok (.if_icmp .ne 31, 3) := by decide +kernel
theorem dL_law_851 : decode cL_law 851 = .ok (.aload 4, 2) := by decide +kernel
theorem dL_law_853 : decode cL_law 853 = .ok (.aload 5, 2) := by decide +kernel
theorem dL_law_855 : decode cL_law 855 = .ok (.invokestatic 16, 3) := by decide +kernel
theorem dL_law_858 : decode cL_law 858 = .ok (.aload_n 1, 1) := by decide +kernel
theorem dL_law_859 : decode cL_law 859 = .ok (.invokevirtual 103, 3) := by decide +kernel
theorem dL_law_862 : decode cL_law 862 = .ok (.aload 5, 2) := by decide +kernel
theorem dL_law_864 : decode cL_law 864 = .ok (.iconst 2, 1) := by decide +kernel
theorem dL_law_865 : decode cL_law 865 = .ok (.iaload, 1) := by decide +kernel
theorem dL_law_866 : decode cL_law 866 = .ok (.if_icmp .ne 7, 3) := by decide +kernel
theorem dL_law_869 : decode cL_law 869 = .ok (.iconst 1, 1) := by decide +kernel
theorem dL_law_870 : decode cL_law 870 = .ok (.goto 4, 3) := by decide +kernel
theorem dL_law_873 : decode cL_law 873 = .ok (.iconst 0, 1) := by decide +kernel
theorem dL_law_874 : decode cL_law 874 = .ok (.istore 14, 2) := by decide +kernel
theorem dL_law_876 : decode cL_law 876 = .ok (.goto 59, 3) := by decide +kernel
theorem dL_law_879 : decode cL_law 879 = .ok (.iconst 1, 1) := by decide +kernel
theorem dL_law_880 : decode cL_law 880 = .ok (.iload 8, 2) := by decide +kernel
theorem dL_law_882 : decode cL_law 882 = .ok (.bipush 12, 2) := by decide +kernel
theorem dL_law_884 : decode cL_law 884 = .ok (.ishr, 1) := by decide +kernel
theorem dL_law_885 : decode cL_law 885 = .ok (.bipush 6, 2) := by decide +kernel
theorem dL_law_887 : decode cL_law 887 = .ok (.invokestatic 82, 3) := by decide +kernel
theorem dL_law_890 : decode cL_law 890 = .ok (.iadd, 1) := by decide +kernel
theorem dL_law_891 : decode cL_law 891 = .ok (.istore 15, 2) := by decide +kernel
theorem dL_law_893 : decode cL_law 893 = .ok (.aload 5, 2) := by decide +kernel
theorem dL_law_895 : decode cL_law 895 = .ok (.iconst 2, 1) := by decide +kernel
theorem dL_law_896 : decode cL_law 896 = .ok (.iaload, 1) := by decide +kernel
theorem dL_law_897 : decode cL_law 897 = .ok (.istore 16, 2) := by decide +kernel
theorem dL_law_899 : decode cL_law 899 = .ok (.aload_n 2, 1) := by decide +kernel
theorem dL_law_900 : decode cL_law 900 = .ok (.aload_n 3, 1) := by decide +kernel
theorem dL_law_901 : decode cL_law 901 = .ok (.aload 4, 2) := by decide +kernel
theorem dL_law_903 : decode cL_law 903 = .ok (.aload 5, 2) := by decide +kernel
theorem dL_law_905 : decode cL_law 905 = .ok (.iload 15, 2) := by decide +kernel
theorem dL_law_907 : decode cL_law 907 = .ok (.invokestatic 23, 3) := by decide +kernel
theorem dL_law_910 : decode cL_law 910 = .ok (.pop, 1) := by decide +kernel
theorem dL_law_911 : decode cL_law 911 = .ok (.aload_n 1, 1) := by decide +kernel
theorem dL_law_912 : decode cL_law 912 = .ok (.iload 15, 2) := by decide +kernel
theorem dL_law_914 : decode cL_law 914 = .ok (.invokevirtual 106, 3) := by decide +kernel
theorem dL_law_917 : decode cL_law 917 = .ok (.aload 4, 2) := by decide +kernel
theorem dL_law_919 : decode cL_law 919 = .ok (.bipush 6, 2) := by decide +kernel
theorem dL_law_921 : decode cL_law 921 = .ok (.iload 16, 2) := by decide +kernel
theorem dL_law_923 : decode cL_law 923 = .ok (.imul, 1) := by decide +kernel
theorem dL_law_924 : decode cL_law 924 = .ok (.iaload, 1) := by decide +kernel
theorem dL_law_925 : decode cL_law 925 = .ok (.if_icmp .ne 7, 3) := by decide +kernel
theorem dL_law_928 : decode cL_law 928 = .ok (.iconst 1, 1) := by decide +kernel
theorem dL_law_929 : decode cL_law 929 = .ok (.goto 4, 3) := by decide +kernel
theorem dL_law_932 : decode cL_law 932 = .ok (.iconst 0, 1) := by decide +kernel
theorem dL_law_933 : decode cL_law 933 = .ok (.istore 14, 2) := by decide +kernel
theorem dL_law_935 : decode cL_law 935 = .ok (.iload 14, 2) := by decide +kernel
theorem dL_law_937 : decode cL_law 937 = .ok (.ifCond .eq 39, 3) := by decide +kernel
theorem dL_law_940 : decode cL_law 940 = .ok (.aload_n 1, 1) := by decide +kernel
theorem dL_law_941 : decode cL_law 941 = .ok (.aload_n 2, 1) := by decide +kernel
theorem dL_law_942 : decode cL_law 942 = .ok (.aload_n 3, 1) := by decide +kernel
theorem dL_law_943 : decode cL_law 943 = .ok (.aload 4, 2) := by decide +kernel
theorem dL_law_945 : decode cL_law 945 = .ok (.aload 5, 2) := by decide +kernel
theorem dL_law_947 : decode cL_law 947 = .ok (.iload 6, 2) := by decide +kernel
theorem dL_law_949 : decode cL_law 949 = .ok (.invokestatic 108, 3) := by decide +kernel
theorem dL_law_952 : decode cL_law 952 = .ok (.ifCond .eq 24, 3) := by decide +kernel
theorem dL_law_955 : decode cL_law 955 = .ok (.iload 7, 2) := by decide +kernel
theorem dL_law_957 : decode cL_law 957 = .ok (.iconst 2, 1) := by decide +kernel
theorem dL_law_958 : decode cL_law 958 = .ok (.irem, 1) := by decide +kernel
theorem dL_law_959 : decode cL_law 959 = .ok (.iconst 1, 1) := by decide +kernel
theorem dL_law_960 : decode cL_law 960 = .ok (.if_icmp .ne 18, 3) := by decide +kernel
theorem dL_law_963 : decode cL_law 963 = .ok (.aload_n 1, 1) := by decide +kernel
theorem dL_law_964 : decode cL_law 964 = .ok (.aload_n 2, 1) := by decide +kernel
theorem dL_law_965 : decode cL_law 965 = .ok (.aload_n 3, 1) := by decide +kernel
theorem dL_law_966 : decode cL_law 966 = .ok (.aload 4, 2) := by decide +kernel
theorem dL_law_968 : decode cL_law 968 = .ok (.aload 5, 2) := by decide +kernel
theorem dL_law_970 : decode cL_law 970 = .ok (.invokestatic 112, 3) := by decide +kernel
theorem dL_law_973 : decode cL_law 973 = .ok (.ifCond .ne 5, 3) := by decide +kernel
theorem dL_law_976 : decode cL_law 976 = .ok (.iconst 0, 1) := by decide +kernel
theorem dL_law_977 : decode cL_law 977 = .ok (.ireturn, 1) := by decide +kernel
theorem dL_law_978 : decode cL_law 978 = .ok (.iinc 7 1, 3) := by decide +kernel
theorem dL_law_981 : decode cL_law 981 = .ok (.goto (-918), 3) := by decide +kernel
theorem dL_law_984 : decode cL_law 984 = .ok (.iconst 1, 1) := by decide +kernel
theorem dL_law_985 : decode cL_law 985 = .ok (.ireturn, 1) := by decide +kernel
abbrev vwCl : List vw_C := [(RX0, TX0, 13), (RX1, TX1, 2), (RX2, TX2, 2), (RX3, TX3, 7)]
end
section
/-! THE MACHINE THROUGH ONE LIST OF CELLS. All cells that the law's run makes stand, in the order of their making, from the address B on: the cell of the number i at B + i. A memory is a list of contents; a reference in it is a number. Arrays name their class by a number: 0 int, 1 boolean, 2 char, 3 objects of class RX0. A float stands for the script's reference. -/
abbrev xI : Type := MethodName × ByteArray × Nat × Option FieldType × Nat × Nat × Nat × Nat
abbrev xG : Type := Launch × va_G × (Nat → ClassId) × Nat × Nat × Nat × (Nat → Int32)
abbrev xM : Type := List va_E
def x_rm (k : xI) : Room := { frames := k.2.2.2.2.1, cells := k.2.2.2.2.2.2.1, slots := k.2.2.2.2.2.2.2, locals := k.2.2.2.2.2.1 }
def x_tbl : List Cond := lw_tbl.filter goodWord
def x_ws (k : xI) : List Cond := .code k.1 k.2.1 k.2.2.1 k.2.2.2.1 :: x_tbl
theorem x_w {w : Cond} (i : Nat) (h : lw_tbl[i]? = some w) (hg : goodWord w = true) : w ∈ x_tbl := List.mem_filter.mpr ⟨List.mem_of_getElem? h, hg⟩
theorem x_in {ws : List Cond} (ps : List Nat) (hp : ws = ps.filterMap (fun i => lw_tbl[i]?)) (h : ws.all goodWord = true) : ∀ w ∈ ws, w ∈ x_tbl := by
  intro w hw
  have h1 := List.all_eq_true.mp h w hw
  rw [hp] at hw
  obtain ⟨i, -, hi⟩ := List.mem_filterMap.mp hw
  exact x_w i hi h1
theorem x_good {k : xI} (h : Cond.code k.1 k.2.1 k.2.2.1 k.2.2.2.1 ∈ x_tbl) : GoodIn x_tbl (x_ws k) := by
  intro w hw
  have hm : w ∈ x_tbl := by
    rcases List.mem_cons.mp hw with rfl | hw
    · exact h
    · exact hw
  exact ⟨hm, good_of_word (List.mem_filter.mp hm).2⟩
def x_v (G : xG) : Value → Value
  | .ref i => .ref (G.2.2.2.1 + i)
  | .float _ => .ref G.2.2.2.2.1
  | v => v
theorem x_cat (G : xG) (v : Value) : (x_v G v).category = v.category := by cases v <;> rfl
def x_a (G : xG) : vp_A → vp_A
  | (n, .inr (.inr (.inr (.inr f)))) => (n, .inr (.inr (.inr (.inr (fun j => (f j).map (fun i => G.2.2.2.1 + i))))))
  | a => a
def x_c (G : xG) : va_E → va_E
  | .inl (t, a) => .inl (G.2.2.1 t, x_a G a)
  | .inr (c, fs) => .inr (c, fs.map (x_v G))
def xRep (G : xG) (mem : xM) (H : Heap) : Prop := H.size = G.2.2.2.1 + mem.length ∧ ∀ (i : Nat) (c : va_E), mem[i]? = some c → va_at G.2.1 vwCl (G.2.2.2.1 + i, x_c G c) H
def xFr (G : xG) (s : State) (H : Heap) (locs : List Loc) : Prop := G.2.2.2.1 ≤ s.heap.size ∧ (∀ q : Nat, q < G.2.2.2.1 → H[q]? = s.heap[q]?) ∧ ∀ q ∈ locs, G.2.2.2.1 ≤ q.base
abbrev x_tys (G : xG) : List (ClassId × FieldType) := [(G.2.2.1 0, .int), (G.2.2.1 1, .boolean), (G.2.2.1 2, .char), (G.2.2.1 3, .object RX0)]
def x_nestW : Cond → Bool
  | .methodLinkNest _ _ _ _ => true
  | .fieldLinkNest _ _ _ _ _ _ => true
  | _ => false
def x_nests : List Cond := lw_tbl.filter x_nestW
theorem x_wn {w : Cond} (i : Nat) (h : lw_tbl[i]? = some w) (hg : x_nestW w = true) : w ∈ x_nests := List.mem_filter.mpr ⟨List.mem_of_getElem? h, hg⟩
theorem x_nest_warm {w : Cond} (hw : w ∈ x_nests) {s U : State} (hW : s.WarmedH U.vm) (h : va_Nw w s) : va_Nw w U := by
  have hg := (List.mem_filter.mp hw).2
  cases w <;> first | (simp [x_nestW] at hg; done) | exact h.warmM hW | exact h.warmF hW
theorem x_nest_same {w : Cond} (hw : w ∈ x_nests) {s U : State} (hW : s.vm = U.vm) (h : va_Nw w s) : va_Nw w U := by
  have hg := (List.mem_filter.mp hw).2
  cases w <;> first | (simp [x_nestW] at hg; done) | exact h.same rfl hW
def xEn (G : xG) (U : State) : Prop := va_K G.2.1 vwCl (x_tys G) U ∧ va_AO RX0 U ∧ va_X G.2.2.2.2.1 G.2.2.2.2.2.1 G.2.2.2.2.2.2 U U.heap ∧ G.2.2.2.2.1 < G.2.2.2.1 ∧ ∀ w ∈ x_nests, va_Nw w U
theorem xRep.set {G : xG} {mem : xM} {H H1 : Heap} {i : Nat} {c0 c1 : va_E} (h : xRep G mem H) (hi : mem[i]? = some c0) (z : H1.size = H.size) (he : va_at G.2.1 vwCl (G.2.2.2.1 + i, x_c G c1) H1) (oq : ∀ q : Nat, q ≠ G.2.2.2.1 + i → H1[q]? = H[q]?) : xRep G (mem.set i c1) H1 := by
  refine ⟨by rw [z, List.length_set]; exact h.1, fun j c hj => ?_⟩
  have hl := (List.getElem?_eq_some_iff.mp hi).1
  by_cases hji : j = i
  · subst hji
    rw [List.getElem?_set_self hl] at hj
    cases hj
    exact he
  · rw [List.getElem?_set_ne (Ne.symm hji)] at hj
    exact (h.2 j c hj).kept (oq (G.2.2.2.1 + j) (by omega))
theorem xRep.push {G : xG} {mem : xM} {H H1 : Heap} {c1 : va_E} (h : xRep G mem H) (z : H1.size = H.size + 1) (he : va_at G.2.1 vwCl (G.2.2.2.1 + mem.length, x_c G c1) H1) (oq : ∀ q : Nat, q < H.size → H1[q]? = H[q]?) : xRep G (mem ++ [c1]) H1 := by
  refine ⟨by rw [z, List.length_append, h.1]; simp only [List.length_cons, List.length_nil]; omega, fun j c hj => ?_⟩
  by_cases hl : j < mem.length
  · rw [List.getElem?_append_left hl] at hj
    exact (h.2 j c hj).kept (oq (G.2.2.2.1 + j) (by rw [h.1]; omega))
  · rw [List.getElem?_append_right (by omega)] at hj
    have hz : j - mem.length < 1 := (List.getElem?_eq_some_iff.mp hj).1
    have e : j = mem.length := by omega
    subst e
    rw [Nat.sub_self] at hj
    cases hj
    exact he
theorem xFr.put {G : xG} {s : State} {H H1 : Heap} {locs : List Loc} {i j : Nat} (h : xFr G s H locs) (oq : ∀ q : Nat, q ≠ G.2.2.2.1 + i → H1[q]? = H[q]?) : xFr G s H1 (locs ++ [⟨G.2.2.2.1 + i, j⟩]) := by
  refine ⟨h.1, fun q hq => ?_, fun q hq => ?_⟩
  · rw [oq q (by omega)]
    exact h.2.1 q hq
  · rcases List.mem_append.mp hq with hq | hq
    · exact h.2.2 q hq
    · rw [List.mem_singleton.mp hq]
      show G.2.2.2.1 ≤ G.2.2.2.1 + i
      omega
theorem xFr.kept {G : xG} {s : State} {H H1 : Heap} {locs : List Loc} (h : xFr G s H locs) (hz : G.2.2.2.1 ≤ H.size) (oq : ∀ q : Nat, q < H.size → H1[q]? = H[q]?) : xFr G s H1 locs :=
  ⟨h.1, fun q hq => by rw [oq q (by omega)]; exact h.2.1 q hq, h.2.2⟩
theorem xRep.one {G : xG} {mem : xM} {H : Heap} {i : Nat} {c : va_E} (h : xRep G mem H) (hi : mem[i]? = some c) : va_P G.2.1 vwCl [(G.2.2.2.1 + i, x_c G c)] H := by
  intro k q hk
  match k, hk with
  | 0, hk => cases hk; exact h.2 i c hi
  | k + 1, hk => simp at hk
/-! locals: a function -/
def x_get : List (Nat × Value) → Nat → Option Value
  | [], _ => none
  | q :: l, i => bif Nat.beq q.1 i then some q.2 else x_get l i
def x_L (l : List (Nat × Value)) : Nat → Option Value := fun i => x_get l i
def x_up (loc : Nat → Option Value) (i : Nat) (v : Value) : Nat → Option Value := fun j => bif Nat.beq i j then some v else loc j
def x_dn (loc : Nat → Option Value) (i : Nat) : Nat → Option Value := fun j => bif Nat.beq i j then none else loc j
def x_c1 : Option Value → Bool
  | some v => Nat.beq v.category 1
  | none => true
def x_p (loc : Nat → Option Value) : Nat → Bool
  | 0 => true
  | j + 1 => x_c1 (loc j)
def x_ls (G : xG) (ls : Array Slot) (nL : Nat) (loc : Nat → Option Value) : Prop := ls.size = nL ∧ lv_wf ls ∧ ∀ (i : Nat) (v : Value), loc i = some v → ls[i]? = some (.val (x_v G v))
theorem x_beq {a b : Nat} : Nat.beq a b = true ↔ a = b := ⟨Nat.eq_of_beq_eq_true, fun h => by subst h; exact Nat.beq_refl a⟩
theorem x_get_mem : ∀ (l : List (Nat × Value)) (i : Nat) (v : Value), x_get l i = some v → (i, v) ∈ l
  | [], i, v, h => by cases h
  | q :: l, i, v, h => by
    unfold x_get at h
    cases hb : Nat.beq q.1 i with
    | true =>
      rw [hb] at h
      cases h
      have e := x_beq.mp hb
      rw [← e]
      exact List.mem_cons_self
    | false =>
      rw [hb] at h
      exact List.mem_cons_of_mem _ (x_get_mem l i v h)
def x_has (loc : Nat → Option Value) : List (Nat × Value) → Prop
  | [] => True
  | q :: l => loc q.1 = some q.2 ∧ x_has loc l
theorem x_has_mem {loc : Nat → Option Value} : ∀ (l : List (Nat × Value)), x_has loc l → ∀ q ∈ l, loc q.1 = some q.2
  | [], _, q, h => by cases h
  | a :: l, h, q, hq => by
    rcases List.mem_cons.mp hq with rfl | hq
    · exact h.1
    · exact x_has_mem l h.2 q hq
theorem x_ls_sub {G : xG} {ls : Array Slot} {nL : Nat} {loc : Nat → Option Value} (h : x_ls G ls nL loc) (l : List (Nat × Value)) (hl : x_has loc l) : x_ls G ls nL (x_L l) :=
  ⟨h.1, h.2.1, fun i v hv => h.2.2 i v (x_has_mem l hl (i, v) (x_get_mem l i v hv))⟩
def x_list (G : xG) (loc : Nat → Option Value) (nL : Nat) : List (Nat × Value) := (List.range nL).filterMap (fun j => (loc j).map (fun v => (j, x_v G v)))
theorem x_ls_list {G : xG} {ls : Array Slot} {nL : Nat} {loc : Nat → Option Value} (h : x_ls G ls nL loc) : lv_has ls nL (x_list G loc nL) := by
  refine ⟨h.1, h.2.1, fun q hq => ?_⟩
  obtain ⟨j, -, hj⟩ := List.mem_filterMap.mp hq
  cases hv : loc j with
  | none => rw [hv] at hj; cases hj
  | some v =>
    rw [hv] at hj
    cases hj
    exact h.2.2 j v hv
theorem x_list_mem {G : xG} {ls : Array Slot} {nL : Nat} {loc : Nat → Option Value} (h : x_ls G ls nL loc) {i : Nat} {v : Value} (hv : loc i = some v) : (i, x_v G v) ∈ x_list G loc nL := by
  have hi : i < nL := by rw [← h.1]; exact lv_lt (h.2.2 i v hv)
  exact List.mem_filterMap.mpr ⟨i, List.mem_range.mpr hi, by rw [hv]; rfl⟩
theorem x_c1_ok {v : Value} (h : x_c1 (some v) = true) : v.category = 1 := x_beq.mp h
theorem x_ls_up {G : xG} {ls ls' : Array Slot} {nL i : Nat} {loc : Nat → Option Value} {w : Value} (h : x_ls G ls nL loc) (hp : x_p loc i = true)
    (h' : lv_has ls' nL ((i, x_v G w) :: (x_list G loc nL).filter (fun q => !(q.1 == i) && !(q.1 + 1 == i && q.2.category == 2)))) : x_ls G ls' nL (x_up loc i w) := by
  refine ⟨h'.1, h'.2.1, fun j v hv => ?_⟩
  unfold x_up at hv
  cases hb : Nat.beq i j with
  | true =>
    rw [hb] at hv
    cases hv
    have e := x_beq.mp hb
    subst e
    exact h'.2.2 _ List.mem_cons_self
  | false =>
    rw [hb] at hv
    have hv : loc j = some v := hv
    have hne : ¬ j = i := fun e => by rw [e, x_beq.mpr rfl] at hb; cases hb
    refine h'.2.2 (j, x_v G v) (List.mem_cons_of_mem _ (List.mem_filter.mpr ⟨x_list_mem h hv, ?_⟩))
    have h1 : (j == i) = false := by simpa using hne
    by_cases h2 : j + 1 = i
    · subst h2
      have h3 : v.category = 1 := x_c1_ok (by rw [← hv]; exact hp)
      have h4 : ((x_v G v).category == 2) = false := by rw [x_cat, h3]; rfl
      simp [h1, h4]
    · have h3 : (j + 1 == i) = false := by simpa using h2
      simp [h1, h3]
theorem x_ls_up2 {G : xG} {ls ls' : Array Slot} {nL i : Nat} {loc : Nat → Option Value} {w : Value} (h : x_ls G ls nL loc) (hp : x_p loc i = true)
    (h' : lv_has ls' nL ((i, x_v G w) :: (x_list G loc nL).filter (fun q => !(q.1 == i) && (!(q.1 == i + 1) && !(q.1 + 1 == i && q.2.category == 2))))) : x_ls G ls' nL (x_up (x_dn loc (i + 1)) i w) := by
  refine ⟨h'.1, h'.2.1, fun j v hv => ?_⟩
  unfold x_up x_dn at hv
  cases hb : Nat.beq i j with
  | true =>
    rw [hb] at hv
    cases hv
    have e := x_beq.mp hb
    subst e
    exact h'.2.2 _ List.mem_cons_self
  | false =>
    rw [hb] at hv
    cases hb2 : Nat.beq (i + 1) j with
    | true => rw [hb2] at hv; cases hv
    | false =>
      rw [hb2] at hv
      have hv : loc j = some v := hv
      have hne : ¬ j = i := fun e => by rw [e, x_beq.mpr rfl] at hb; cases hb
      have hne2 : ¬ j = i + 1 := fun e => by rw [e, x_beq.mpr rfl] at hb2; cases hb2
      refine h'.2.2 (j, x_v G v) (List.mem_cons_of_mem _ (List.mem_filter.mpr ⟨x_list_mem h hv, ?_⟩))
      have h1 : (j == i) = false := by simpa using hne
      have h5 : (j == i + 1) = false := by simpa using hne2
      by_cases h2 : j + 1 = i
      · subst h2
        have h3 : v.category = 1 := x_c1_ok (by rw [← hv]; exact hp)
        have h4 : ((x_v G v).category == 2) = false := by rw [x_cat, h3]; rfl
        simp [h1, h4, h5]
      · have h3 : (j + 1 == i) = false := by simpa using h2
        simp [h1, h3, h5]
/-! a run -/
def xRet (G : xG) (k : xI) (R : Option Value → xM → Prop) (p : Program) (e : Env) (s : State) (m : MethodId) (args : Array Value) (below : List Frame) (meth : Method) (c : Code) (Q : State → Prop) : Prop :=
  (∀ (x : Int32) (mem : xM) (H : Heap) (locs : List Loc) (ls : Array Slot) (pc : Nat), decode k.2.1 pc = .ok (.ireturn, 1) → (∃ ty : FieldType, k.2.2.2.1 = some ty ∧ narrow ty (.int x) = .int x) → R (some (.int x)) mem → xRep G mem H → xFr G s H locs → W p G.1 e (x_rm k) s m args below meth c H locs k.2.2.2.2.2.2.1 k.2.2.2.2.2.2.2 Q (F0 m pc ls [.int x])) ∧
  (∀ (mem : xM) (H : Heap) (locs : List Loc) (ls : Array Slot) (pc : Nat), decode k.2.1 pc = .ok (.return_, 1) → k.2.2.2.1 = none → R none mem → xRep G mem H → xFr G s H locs → W p G.1 e (x_rm k) s m args below meth c H locs k.2.2.2.2.2.2.1 k.2.2.2.2.2.2.2 Q (F0 m pc ls [])) ∧
  (∀ (x : Int64) (mem : xM) (H : Heap) (locs : List Loc) (ls : Array Slot) (pc : Nat), decode k.2.1 pc = .ok (.lreturn, 1) → k.2.2.2.1 = some .long → R (some (.long x)) mem → xRep G mem H → xFr G s H locs → W p G.1 e (x_rm k) s m args below meth c H locs k.2.2.2.2.2.2.1 k.2.2.2.2.2.2.2 Q (F0 m pc ls [.long x]))
def xFix (G : xG) (k : xI) (R : Option Value → xM → Prop) (p : Program) (e : Env) (s : State) (m : MethodId) (args : Array Value) (below : List Frame) (meth : Method) (c : Code) (Q : State → Prop) : Prop :=
  p.tables.exec = Jvm.exec ∧ c.code = k.2.1 ∧ c.maxLocals = k.2.2.1 ∧ s.vm.findClass k.1.cls = some m.cls ∧ (∀ w ∈ x_tbl, w.before args s = true) ∧ meth.name = k.1.name ∧ xEn G s ∧ xRet G k R p e s m args below meth c Q
def E (G : xG) (k : xI) (R : Option Value → xM → Prop) (ce sl : Nat) (mem : xM) (pc : Nat) (loc : Nat → Option Value) (st : List Value) : Prop :=
  ∀ (p : Program) (e : Env) (s : State) (m : MethodId) (args : Array Value) (below : List Frame) (meth : Method) (c : Code) (Q : State → Prop), xFix G k R p e s m args below meth c Q →
    ∀ (H : Heap) (locs : List Loc) (ls : Array Slot), xRep G mem H → xFr G s H locs → x_ls G ls k.2.2.1 loc → W p G.1 e (x_rm k) s m args below meth c H locs ce sl Q (F0 m pc ls (st.map (x_v G)))
section X
variable {G : xG} {k : xI} {R : Option Value → xM → Prop} {ce sl : Nat} {mem : xM} {pc : Nat} {loc : Nat → Option Value} {st : List Value}
theorem E_loc (l : List (Nat × Value)) (hl : x_has loc l) (kk : E G k R ce sl mem pc (x_L l) st) : E G k R ce sl mem pc loc st :=
  fun p e s m args below meth c Q hF H locs ls hR hS hL => kk p e s m args below meth c Q hF H locs ls hR hS (x_ls_sub hL l hl)
theorem E_widen {ce' sl' : Nat} (h1 : ce ≤ ce') (h2 : sl ≤ sl') (kk : E G k R ce' sl' mem pc loc st) : E G k R ce sl mem pc loc st :=
  fun p e s m args below meth c Q hF H locs ls hR hS hL => W.widen h1 h2 (kk p e s m args below meth c Q hF H locs ls hR hS hL)
theorem i_lt {x y : Int32} : x < y ↔ x.toInt < y.toInt := Int32.lt_iff_toInt_lt
theorem i_le {x y : Int32} : x ≤ y ↔ x.toInt ≤ y.toInt := Int32.le_iff_toInt_le
theorem i_eq {x y : Int32} : x = y ↔ x.toInt = y.toInt := Int32.toInt_inj.symm
theorem E_topi {x : Int32} (kk : ∀ y : Int32, y = x → E G k R ce sl mem pc loc (.int y :: st)) : E G k R ce sl mem pc loc (.int x :: st) := kk x rfl

theorem E_iconst {n : Int} {v : Int32} (hd : decode k.2.1 pc = .ok (.iconst n, 1)) (hv : Int32.ofInt n = v) (kk : E G k R ce sl mem (pc + 1) loc (.int v :: st)) : E G k R ce sl mem pc loc (st) := by
  intro p e s m args below meth c Q hF H locs ls hR hS hL
  obtain ⟨hx, hb, -⟩ := id hF
  exact lv_iconst hx hb hd hv (kk p e s m args below meth c Q hF H locs ls hR hS hL)
theorem E_bipush {n : Int} {v : Int32} (hd : decode k.2.1 pc = .ok (.bipush n, 2)) (hv : (Int8.ofInt n).toInt32 = v) (kk : E G k R ce sl mem (pc + 2) loc (.int v :: st)) : E G k R ce sl mem pc loc (st) := by
  intro p e s m args below meth c Q hF H locs ls hR hS hL
  obtain ⟨hx, hb, -⟩ := id hF
  exact lv_bipush hx hb hd hv (kk p e s m args below meth c Q hF H locs ls hR hS hL)
theorem E_sipush {n : Int} {v : Int32} (hd : decode k.2.1 pc = .ok (.sipush n, 3)) (hv : (Int16.ofInt n).toInt32 = v) (kk : E G k R ce sl mem (pc + 3) loc (.int v :: st)) : E G k R ce sl mem pc loc (st) := by
  intro p e s m args below meth c Q hF H locs ls hR hS hL
  obtain ⟨hx, hb, -⟩ := id hF
  exact lv_sipush hx hb hd hv (kk p e s m args below meth c Q hF H locs ls hR hS hL)
theorem E_lconst {n : Fin 2} {v : Int64} (hd : decode k.2.1 pc = .ok (.lconst n, 1)) (hv : Int64.ofNat (n : Nat) = v) (kk : E G k R ce sl mem (pc + 1) loc (.long v :: st)) : E G k R ce sl mem pc loc (st) := by
  intro p e s m args below meth c Q hF H locs ls hR hS hL
  obtain ⟨hx, hb, -⟩ := id hF
  exact lv_lconst hx hb hd hv (kk p e s m args below meth c Q hF H locs ls hR hS hL)
theorem E_iload_n {j : Fin 4} {x : Int32} (hd : decode k.2.1 pc = .ok (.iload_n j, 1)) (hv : loc (j : Nat) = some (.int x)) (kk : E G k R ce sl mem (pc + 1) loc (.int x :: st)) : E G k R ce sl mem pc loc (st) := by
  intro p e s m args below meth c Q hF H locs ls hR hS hL
  obtain ⟨hx, hb, -⟩ := id hF
  exact lv_iload_n hx hb hd rfl (hL.2.2 _ _ hv) (kk p e s m args below meth c Q hF H locs ls hR hS hL)
theorem E_iload {i : Nat} {x : Int32} (hd : decode k.2.1 pc = .ok (.iload i, 2)) (hv : loc i = some (.int x)) (kk : E G k R ce sl mem (pc + 2) loc (.int x :: st)) : E G k R ce sl mem pc loc (st) := by
  intro p e s m args below meth c Q hF H locs ls hR hS hL
  obtain ⟨hx, hb, -⟩ := id hF
  exact lv_iload hx hb hd (hL.2.2 _ _ hv) (kk p e s m args below meth c Q hF H locs ls hR hS hL)
theorem E_lload_n {j : Fin 4} {x : Int64} (hd : decode k.2.1 pc = .ok (.lload_n j, 1)) (hv : loc (j : Nat) = some (.long x)) (kk : E G k R ce sl mem (pc + 1) loc (.long x :: st)) : E G k R ce sl mem pc loc (st) := by
  intro p e s m args below meth c Q hF H locs ls hR hS hL
  obtain ⟨hx, hb, -⟩ := id hF
  exact lv_lload_n hx hb hd rfl (hL.2.2 _ _ hv) (kk p e s m args below meth c Q hF H locs ls hR hS hL)
theorem E_lload {i : Nat} {x : Int64} (hd : decode k.2.1 pc = .ok (.lload i, 2)) (hv : loc i = some (.long x)) (kk : E G k R ce sl mem (pc + 2) loc (.long x :: st)) : E G k R ce sl mem pc loc (st) := by
  intro p e s m args below meth c Q hF H locs ls hR hS hL
  obtain ⟨hx, hb, -⟩ := id hF
  exact lv_lload hx hb hd (hL.2.2 _ _ hv) (kk p e s m args below meth c Q hF H locs ls hR hS hL)
theorem E_aload_n {j : Fin 4} {r : Nat} (hd : decode k.2.1 pc = .ok (.aload_n j, 1)) (hv : loc (j : Nat) = some (.ref r)) (kk : E G k R ce sl mem (pc + 1) loc (.ref r :: st)) : E G k R ce sl mem pc loc (st) := by
  intro p e s m args below meth c Q hF H locs ls hR hS hL
  obtain ⟨hx, hb, -⟩ := id hF
  exact lv_aload_n hx hb hd rfl (hL.2.2 _ _ hv) (kk p e s m args below meth c Q hF H locs ls hR hS hL)
theorem E_aload {i : Nat} {r : Nat} (hd : decode k.2.1 pc = .ok (.aload i, 2)) (hv : loc i = some (.ref r)) (kk : E G k R ce sl mem (pc + 2) loc (.ref r :: st)) : E G k R ce sl mem pc loc (st) := by
  intro p e s m args below meth c Q hF H locs ls hR hS hL
  obtain ⟨hx, hb, -⟩ := id hF
  exact lv_aload hx hb hd (hL.2.2 _ _ hv) (kk p e s m args below meth c Q hF H locs ls hR hS hL)
theorem E_sload_n {j : Fin 4} {r : UInt32} (hd : decode k.2.1 pc = .ok (.aload_n j, 1)) (hv : loc (j : Nat) = some (.float r)) (kk : E G k R ce sl mem (pc + 1) loc (.float r :: st)) : E G k R ce sl mem pc loc (st) := by
  intro p e s m args below meth c Q hF H locs ls hR hS hL
  obtain ⟨hx, hb, -⟩ := id hF
  exact lv_aload_n hx hb hd rfl (hL.2.2 _ _ hv) (kk p e s m args below meth c Q hF H locs ls hR hS hL)
theorem E_sload {i : Nat} {r : UInt32} (hd : decode k.2.1 pc = .ok (.aload i, 2)) (hv : loc i = some (.float r)) (kk : E G k R ce sl mem (pc + 2) loc (.float r :: st)) : E G k R ce sl mem pc loc (st) := by
  intro p e s m args below meth c Q hF H locs ls hR hS hL
  obtain ⟨hx, hb, -⟩ := id hF
  exact lv_aload hx hb hd (hL.2.2 _ _ hv) (kk p e s m args below meth c Q hF H locs ls hR hS hL)
theorem E_iadd {x y : Int32} (hd : decode k.2.1 pc = .ok (.iadd, 1)) (kk : E G k R ce sl mem (pc + 1) loc (.int (x + y) :: st)) : E G k R ce sl mem pc loc (.int y :: .int x :: st) := by
  intro p e s m args below meth c Q hF H locs ls hR hS hL
  obtain ⟨hx, hb, -⟩ := id hF
  exact lv_iadd hx hb hd (kk p e s m args below meth c Q hF H locs ls hR hS hL)
theorem E_isub {x y : Int32} (hd : decode k.2.1 pc = .ok (.isub, 1)) (kk : E G k R ce sl mem (pc + 1) loc (.int (x - y) :: st)) : E G k R ce sl mem pc loc (.int y :: .int x :: st) := by
  intro p e s m args below meth c Q hF H locs ls hR hS hL
  obtain ⟨hx, hb, -⟩ := id hF
  exact lv_isub hx hb hd (kk p e s m args below meth c Q hF H locs ls hR hS hL)
theorem E_imul {x y : Int32} (hd : decode k.2.1 pc = .ok (.imul, 1)) (kk : E G k R ce sl mem (pc + 1) loc (.int (x * y) :: st)) : E G k R ce sl mem pc loc (.int y :: .int x :: st) := by
  intro p e s m args below meth c Q hF H locs ls hR hS hL
  obtain ⟨hx, hb, -⟩ := id hF
  exact lv_imul hx hb hd (kk p e s m args below meth c Q hF H locs ls hR hS hL)
theorem E_iand {x y : Int32} (hd : decode k.2.1 pc = .ok (.iand, 1)) (kk : E G k R ce sl mem (pc + 1) loc (.int (x &&& y) :: st)) : E G k R ce sl mem pc loc (.int y :: .int x :: st) := by
  intro p e s m args below meth c Q hF H locs ls hR hS hL
  obtain ⟨hx, hb, -⟩ := id hF
  exact lv_iand hx hb hd (kk p e s m args below meth c Q hF H locs ls hR hS hL)
theorem E_ior {x y : Int32} (hd : decode k.2.1 pc = .ok (.ior, 1)) (kk : E G k R ce sl mem (pc + 1) loc (.int (x ||| y) :: st)) : E G k R ce sl mem pc loc (.int y :: .int x :: st) := by
  intro p e s m args below meth c Q hF H locs ls hR hS hL
  obtain ⟨hx, hb, -⟩ := id hF
  exact lv_ior hx hb hd (kk p e s m args below meth c Q hF H locs ls hR hS hL)
theorem E_ixor {x y : Int32} (hd : decode k.2.1 pc = .ok (.ixor, 1)) (kk : E G k R ce sl mem (pc + 1) loc (.int (x ^^^ y) :: st)) : E G k R ce sl mem pc loc (.int y :: .int x :: st) := by
  intro p e s m args below meth c Q hF H locs ls hR hS hL
  obtain ⟨hx, hb, -⟩ := id hF
  exact lv_ixor hx hb hd (kk p e s m args below meth c Q hF H locs ls hR hS hL)
theorem E_ineg {x : Int32} (hd : decode k.2.1 pc = .ok (.ineg, 1)) (kk : E G k R ce sl mem (pc + 1) loc (.int (-x) :: st)) : E G k R ce sl mem pc loc (.int x :: st) := by
  intro p e s m args below meth c Q hF H locs ls hR hS hL
  obtain ⟨hx, hb, -⟩ := id hF
  exact lv_ineg hx hb hd (kk p e s m args below meth c Q hF H locs ls hR hS hL)
theorem E_ishl {x y : Int32} (hd : decode k.2.1 pc = .ok (.ishl, 1)) (kk : E G k R ce sl mem (pc + 1) loc (.int (x <<< (y &&& 31)) :: st)) : E G k R ce sl mem pc loc (.int y :: .int x :: st) := by
  intro p e s m args below meth c Q hF H locs ls hR hS hL
  obtain ⟨hx, hb, -⟩ := id hF
  exact lv_ishl hx hb hd (kk p e s m args below meth c Q hF H locs ls hR hS hL)
theorem E_ishr {x y : Int32} (hd : decode k.2.1 pc = .ok (.ishr, 1)) (kk : E G k R ce sl mem (pc + 1) loc (.int (x >>> (y &&& 31)) :: st)) : E G k R ce sl mem pc loc (.int y :: .int x :: st) := by
  intro p e s m args below meth c Q hF H locs ls hR hS hL
  obtain ⟨hx, hb, -⟩ := id hF
  exact lv_ishr hx hb hd (kk p e s m args below meth c Q hF H locs ls hR hS hL)
theorem E_ladd {x y : Int64} (hd : decode k.2.1 pc = .ok (.ladd, 1)) (kk : E G k R ce sl mem (pc + 1) loc (.long (x + y) :: st)) : E G k R ce sl mem pc loc (.long y :: .long x :: st) := by
  intro p e s m args below meth c Q hF H locs ls hR hS hL
  obtain ⟨hx, hb, -⟩ := id hF
  exact lv_ladd hx hb hd (kk p e s m args below meth c Q hF H locs ls hR hS hL)
theorem E_lsub {x y : Int64} (hd : decode k.2.1 pc = .ok (.lsub, 1)) (kk : E G k R ce sl mem (pc + 1) loc (.long (x - y) :: st)) : E G k R ce sl mem pc loc (.long y :: .long x :: st) := by
  intro p e s m args below meth c Q hF H locs ls hR hS hL
  obtain ⟨hx, hb, -⟩ := id hF
  exact lv_lsub hx hb hd (kk p e s m args below meth c Q hF H locs ls hR hS hL)
theorem E_land {x y : Int64} (hd : decode k.2.1 pc = .ok (.land, 1)) (kk : E G k R ce sl mem (pc + 1) loc (.long (x &&& y) :: st)) : E G k R ce sl mem pc loc (.long y :: .long x :: st) := by
  intro p e s m args below meth c Q hF H locs ls hR hS hL
  obtain ⟨hx, hb, -⟩ := id hF
  exact lv_land hx hb hd (kk p e s m args below meth c Q hF H locs ls hR hS hL)
theorem E_lor {x y : Int64} (hd : decode k.2.1 pc = .ok (.lor, 1)) (kk : E G k R ce sl mem (pc + 1) loc (.long (x ||| y) :: st)) : E G k R ce sl mem pc loc (.long y :: .long x :: st) := by
  intro p e s m args below meth c Q hF H locs ls hR hS hL
  obtain ⟨hx, hb, -⟩ := id hF
  exact lv_lor hx hb hd (kk p e s m args below meth c Q hF H locs ls hR hS hL)
theorem E_irem {x y : Int32} (hd : decode k.2.1 pc = .ok (.irem, 1)) (hne : ¬ y = 0) (kk : E G k R ce sl mem (pc + 1) loc (.int (x - x / y * y) :: st)) : E G k R ce sl mem pc loc (.int y :: .int x :: st) := by
  intro p e s m args below meth c Q hF H locs ls hR hS hL
  obtain ⟨hx, hb, -⟩ := id hF
  exact lv_irem hx hb hd hne (kk p e s m args below meth c Q hF H locs ls hR hS hL)
theorem E_iushr {x y v : Int32} (hd : decode k.2.1 pc = .ok (.iushr, 1)) (hv : (x.toUInt32 >>> (y.toUInt32 &&& Int32.toUInt32 31)).toInt32 = v) (kk : E G k R ce sl mem (pc + 1) loc (.int v :: st)) : E G k R ce sl mem pc loc (.int y :: .int x :: st) := by
  intro p e s m args below meth c Q hF H locs ls hR hS hL
  obtain ⟨hx, hb, -⟩ := id hF
  exact lv_iushr hx hb hd hv (kk p e s m args below meth c Q hF H locs ls hR hS hL)
theorem E_lushr {x v : Int64} {y : Int32} (hd : decode k.2.1 pc = .ok (.lushr, 1)) (hv : (x.toUInt64 >>> (y.toInt64.toUInt64 &&& Int64.toUInt64 63)).toInt64 = v) (kk : E G k R ce sl mem (pc + 1) loc (.long v :: st)) : E G k R ce sl mem pc loc (.int y :: .long x :: st) := by
  intro p e s m args below meth c Q hF H locs ls hR hS hL
  obtain ⟨hx, hb, -⟩ := id hF
  exact lv_lushr hx hb hd hv (kk p e s m args below meth c Q hF H locs ls hR hS hL)
theorem E_lshl {x v : Int64} {y : Int32} (hd : decode k.2.1 pc = .ok (.lshl, 1)) (hv : x <<< (y.toInt64 &&& 63) = v) (kk : E G k R ce sl mem (pc + 1) loc (.long v :: st)) : E G k R ce sl mem pc loc (.int y :: .long x :: st) := by
  intro p e s m args below meth c Q hF H locs ls hR hS hL
  obtain ⟨hx, hb, -⟩ := id hF
  exact lv_lshl hx hb hd hv (kk p e s m args below meth c Q hF H locs ls hR hS hL)
theorem E_lcmp {x y : Int64} (hd : decode k.2.1 pc = .ok (.lcmp, 1)) (kk : E G k R ce sl mem (pc + 1) loc (.int (lg_cmp x y) :: st)) : E G k R ce sl mem pc loc (.long y :: .long x :: st) := by
  intro p e s m args below meth c Q hF H locs ls hR hS hL
  obtain ⟨hx, hb, -⟩ := id hF
  exact W.lcmp hx hb hd (kk p e s m args below meth c Q hF H locs ls hR hS hL)
theorem E_i2c {x v : Int32} (hd : decode k.2.1 pc = .ok (.i2c, 1)) (hv : (x.toUInt32 % 65536).toInt32 = v) (kk : E G k R ce sl mem (pc + 1) loc (.int v :: st)) : E G k R ce sl mem pc loc (.int x :: st) := by
  intro p e s m args below meth c Q hF H locs ls hR hS hL
  obtain ⟨hx, hb, -⟩ := id hF
  exact lv_i2c hx hb hd hv (kk p e s m args below meth c Q hF H locs ls hR hS hL)
theorem E_dup {va : Value} (hd : decode k.2.1 pc = .ok (.dup, 1)) (hva : va.category = 1) (kk : E G k R ce sl mem (pc + 1) loc (va :: va :: st)) : E G k R ce sl mem pc loc (va :: st) := by
  intro p e s m args below meth c Q hF H locs ls hR hS hL
  obtain ⟨hx, hb, -⟩ := id hF
  exact lv_dup hx hb hd (by rw [x_cat]; exact hva) (kk p e s m args below meth c Q hF H locs ls hR hS hL)
theorem E_pop {va : Value} (hd : decode k.2.1 pc = .ok (.pop, 1)) (hva : va.category = 1) (kk : E G k R ce sl mem (pc + 1) loc (st)) : E G k R ce sl mem pc loc (va :: st) := by
  intro p e s m args below meth c Q hF H locs ls hR hS hL
  obtain ⟨hx, hb, -⟩ := id hF
  exact lv_pop hx hb hd (by rw [x_cat]; exact hva) (kk p e s m args below meth c Q hF H locs ls hR hS hL)
theorem E_dup2 {va vb : Value} (hd : decode k.2.1 pc = .ok (.dup2, 1)) (hva : va.category = 1) (hvb : vb.category = 1) (kk : E G k R ce sl mem (pc + 1) loc (va :: vb :: va :: vb :: st)) : E G k R ce sl mem pc loc (va :: vb :: st) := by
  intro p e s m args below meth c Q hF H locs ls hR hS hL
  obtain ⟨hx, hb, -⟩ := id hF
  exact lv_dup2_11 hx hb hd (by rw [x_cat]; exact hva) (by rw [x_cat]; exact hvb) (kk p e s m args below meth c Q hF H locs ls hR hS hL)
theorem E_ldcw {own : String} {index : Nat} {v : Int32} (hd : decode k.2.1 pc = .ok (.ldc_w index, 3)) (hown : k.1.cls = own) (hc : Cond.constant own index v ∈ x_tbl) (kk : E G k R ce sl mem (pc + 3) loc (.int v :: st)) : E G k R ce sl mem pc loc st := by
  intro p e s m args below meth c Q hF H locs ls hR hS hL
  obtain ⟨hx, hb, hml, hw, hts, -⟩ := id hF
  exact lv_ldcw hx hb (by rw [← hown]; exact hw) (hts _ hc) hd (kk p e s m args below meth c Q hF H locs ls hR hS hL)
theorem E_goto {off : Int} {tgt : Nat} (hd : decode k.2.1 pc = .ok (.goto off, 3)) (ht : (pc : Int) + off = (tgt : Int)) (kk : E G k R ce sl mem tgt loc st) : E G k R ce sl mem pc loc st := by
  intro p e s m args below meth c Q hF H locs ls hR hS hL
  obtain ⟨hx, hb, -⟩ := id hF
  exact lv_goto hx hb hd ht (kk p e s m args below meth c Q hF H locs ls hR hS hL)
theorem E_if_eq {x : Int32} {off : Int} {tgt : Nat} (hd : decode k.2.1 pc = .ok (.ifCond .eq off, 3)) (ht : (pc : Int) + off = (tgt : Int)) (kt : x.toInt = 0 → E G k R ce sl mem tgt loc st) (kf : ¬ x.toInt = 0 → E G k R ce sl mem (pc + 3) loc st) : E G k R ce sl mem pc loc (.int x :: st) := by
  intro p e s m args below meth c Q hF H locs ls hR hS hL
  obtain ⟨hx, hb, -⟩ := id hF
  exact lv_if_eq hx hb hd ht (fun h => kt (congrArg Int32.toInt h) p e s m args below meth c Q hF H locs ls hR hS hL) (fun h => kf (fun e => h (Int32.toInt_inj.mp e)) p e s m args below meth c Q hF H locs ls hR hS hL)
theorem E_icmp_eq {x y : Int32} {off : Int} {tgt : Nat} (n : Int) (hn : y.toInt = n) (hd : decode k.2.1 pc = .ok (.if_icmp .eq off, 3)) (ht : (pc : Int) + off = (tgt : Int)) (kt : x.toInt = n → E G k R ce sl mem tgt loc st) (kf : ¬ x.toInt = n → E G k R ce sl mem (pc + 3) loc st) : E G k R ce sl mem pc loc (.int y :: .int x :: st) := by
  subst hn
  intro p e s m args below meth c Q hF H locs ls hR hS hL
  obtain ⟨hx, hb, -⟩ := id hF
  exact lv_icmp_eq hx hb hd ht (fun h => kt (congrArg Int32.toInt h) p e s m args below meth c Q hF H locs ls hR hS hL) (fun h => kf (fun e => h (Int32.toInt_inj.mp e)) p e s m args below meth c Q hF H locs ls hR hS hL)
theorem E_if_ne {x : Int32} {off : Int} {tgt : Nat} (hd : decode k.2.1 pc = .ok (.ifCond .ne off, 3)) (ht : (pc : Int) + off = (tgt : Int)) (kt : ¬ x.toInt = 0 → E G k R ce sl mem tgt loc st) (kf : x.toInt = 0 → E G k R ce sl mem (pc + 3) loc st) : E G k R ce sl mem pc loc (.int x :: st) := by
  intro p e s m args below meth c Q hF H locs ls hR hS hL
  obtain ⟨hx, hb, -⟩ := id hF
  exact lv_if_ne hx hb hd ht (fun h => kt (fun e => h (Int32.toInt_inj.mp e)) p e s m args below meth c Q hF H locs ls hR hS hL) (fun h => kf (congrArg Int32.toInt h) p e s m args below meth c Q hF H locs ls hR hS hL)
theorem E_icmp_ne {x y : Int32} {off : Int} {tgt : Nat} (n : Int) (hn : y.toInt = n) (hd : decode k.2.1 pc = .ok (.if_icmp .ne off, 3)) (ht : (pc : Int) + off = (tgt : Int)) (kt : ¬ x.toInt = n → E G k R ce sl mem tgt loc st) (kf : x.toInt = n → E G k R ce sl mem (pc + 3) loc st) : E G k R ce sl mem pc loc (.int y :: .int x :: st) := by
  subst hn
  intro p e s m args below meth c Q hF H locs ls hR hS hL
  obtain ⟨hx, hb, -⟩ := id hF
  exact lv_icmp_ne hx hb hd ht (fun h => kt (fun e => h (Int32.toInt_inj.mp e)) p e s m args below meth c Q hF H locs ls hR hS hL) (fun h => kf (congrArg Int32.toInt h) p e s m args below meth c Q hF H locs ls hR hS hL)
theorem E_if_lt {x : Int32} {off : Int} {tgt : Nat} (hd : decode k.2.1 pc = .ok (.ifCond .lt off, 3)) (ht : (pc : Int) + off = (tgt : Int)) (kt : x.toInt < 0 → E G k R ce sl mem tgt loc st) (kf : ¬ x.toInt < 0 → E G k R ce sl mem (pc + 3) loc st) : E G k R ce sl mem pc loc (.int x :: st) := by
  intro p e s m args below meth c Q hF H locs ls hR hS hL
  obtain ⟨hx, hb, -⟩ := id hF
  exact lv_if_lt hx hb hd ht (fun h => kt (i_lt.mp h) p e s m args below meth c Q hF H locs ls hR hS hL) (fun h => kf (fun e => h (i_lt.mpr e)) p e s m args below meth c Q hF H locs ls hR hS hL)
theorem E_icmp_lt {x y : Int32} {off : Int} {tgt : Nat} (n : Int) (hn : y.toInt = n) (hd : decode k.2.1 pc = .ok (.if_icmp .lt off, 3)) (ht : (pc : Int) + off = (tgt : Int)) (kt : x.toInt < n → E G k R ce sl mem tgt loc st) (kf : ¬ x.toInt < n → E G k R ce sl mem (pc + 3) loc st) : E G k R ce sl mem pc loc (.int y :: .int x :: st) := by
  subst hn
  intro p e s m args below meth c Q hF H locs ls hR hS hL
  obtain ⟨hx, hb, -⟩ := id hF
  exact lv_icmp_lt hx hb hd ht (fun h => kt (i_lt.mp h) p e s m args below meth c Q hF H locs ls hR hS hL) (fun h => kf (fun e => h (i_lt.mpr e)) p e s m args below meth c Q hF H locs ls hR hS hL)
theorem E_if_ge {x : Int32} {off : Int} {tgt : Nat} (hd : decode k.2.1 pc = .ok (.ifCond .ge off, 3)) (ht : (pc : Int) + off = (tgt : Int)) (kt : 0 ≤ x.toInt → E G k R ce sl mem tgt loc st) (kf : ¬ 0 ≤ x.toInt → E G k R ce sl mem (pc + 3) loc st) : E G k R ce sl mem pc loc (.int x :: st) := by
  intro p e s m args below meth c Q hF H locs ls hR hS hL
  obtain ⟨hx, hb, -⟩ := id hF
  exact lv_if_ge hx hb hd ht (fun h => kt (i_le.mp h) p e s m args below meth c Q hF H locs ls hR hS hL) (fun h => kf (fun e => h (i_le.mpr e)) p e s m args below meth c Q hF H locs ls hR hS hL)
theorem E_icmp_ge {x y : Int32} {off : Int} {tgt : Nat} (n : Int) (hn : y.toInt = n) (hd : decode k.2.1 pc = .ok (.if_icmp .ge off, 3)) (ht : (pc : Int) + off = (tgt : Int)) (kt : n ≤ x.toInt → E G k R ce sl mem tgt loc st) (kf : ¬ n ≤ x.toInt → E G k R ce sl mem (pc + 3) loc st) : E G k R ce sl mem pc loc (.int y :: .int x :: st) := by
  subst hn
  intro p e s m args below meth c Q hF H locs ls hR hS hL
  obtain ⟨hx, hb, -⟩ := id hF
  exact lv_icmp_ge hx hb hd ht (fun h => kt (i_le.mp h) p e s m args below meth c Q hF H locs ls hR hS hL) (fun h => kf (fun e => h (i_le.mpr e)) p e s m args below meth c Q hF H locs ls hR hS hL)
theorem E_if_gt {x : Int32} {off : Int} {tgt : Nat} (hd : decode k.2.1 pc = .ok (.ifCond .gt off, 3)) (ht : (pc : Int) + off = (tgt : Int)) (kt : 0 < x.toInt → E G k R ce sl mem tgt loc st) (kf : ¬ 0 < x.toInt → E G k R ce sl mem (pc + 3) loc st) : E G k R ce sl mem pc loc (.int x :: st) := by
  intro p e s m args below meth c Q hF H locs ls hR hS hL
  obtain ⟨hx, hb, -⟩ := id hF
  exact lv_if_gt hx hb hd ht (fun h => kt (i_lt.mp h) p e s m args below meth c Q hF H locs ls hR hS hL) (fun h => kf (fun e => h (i_lt.mpr e)) p e s m args below meth c Q hF H locs ls hR hS hL)
theorem E_icmp_gt {x y : Int32} {off : Int} {tgt : Nat} (n : Int) (hn : y.toInt = n) (hd : decode k.2.1 pc = .ok (.if_icmp .gt off, 3)) (ht : (pc : Int) + off = (tgt : Int)) (kt : n < x.toInt → E G k R ce sl mem tgt loc st) (kf : ¬ n < x.toInt → E G k R ce sl mem (pc + 3) loc st) : E G k R ce sl mem pc loc (.int y :: .int x :: st) := by
  subst hn
  intro p e s m args below meth c Q hF H locs ls hR hS hL
  obtain ⟨hx, hb, -⟩ := id hF
  exact lv_icmp_gt hx hb hd ht (fun h => kt (i_lt.mp h) p e s m args below meth c Q hF H locs ls hR hS hL) (fun h => kf (fun e => h (i_lt.mpr e)) p e s m args below meth c Q hF H locs ls hR hS hL)
theorem E_if_le {x : Int32} {off : Int} {tgt : Nat} (hd : decode k.2.1 pc = .ok (.ifCond .le off, 3)) (ht : (pc : Int) + off = (tgt : Int)) (kt : x.toInt ≤ 0 → E G k R ce sl mem tgt loc st) (kf : ¬ x.toInt ≤ 0 → E G k R ce sl mem (pc + 3) loc st) : E G k R ce sl mem pc loc (.int x :: st) := by
  intro p e s m args below meth c Q hF H locs ls hR hS hL
  obtain ⟨hx, hb, -⟩ := id hF
  exact lv_if_le hx hb hd ht (fun h => kt (i_le.mp h) p e s m args below meth c Q hF H locs ls hR hS hL) (fun h => kf (fun e => h (i_le.mpr e)) p e s m args below meth c Q hF H locs ls hR hS hL)
theorem E_icmp_le {x y : Int32} {off : Int} {tgt : Nat} (n : Int) (hn : y.toInt = n) (hd : decode k.2.1 pc = .ok (.if_icmp .le off, 3)) (ht : (pc : Int) + off = (tgt : Int)) (kt : x.toInt ≤ n → E G k R ce sl mem tgt loc st) (kf : ¬ x.toInt ≤ n → E G k R ce sl mem (pc + 3) loc st) : E G k R ce sl mem pc loc (.int y :: .int x :: st) := by
  subst hn
  intro p e s m args below meth c Q hF H locs ls hR hS hL
  obtain ⟨hx, hb, -⟩ := id hF
  exact lv_icmp_le hx hb hd ht (fun h => kt (i_le.mp h) p e s m args below meth c Q hF H locs ls hR hS hL) (fun h => kf (fun e => h (i_le.mpr e)) p e s m args below meth c Q hF H locs ls hR hS hL)
theorem E_ifnonnull {r : Nat} {off : Int} {tgt : Nat} (hd : decode k.2.1 pc = .ok (.ifnonnull off, 3)) (ht : (pc : Int) + off = (tgt : Int)) (kk : E G k R ce sl mem tgt loc st) : E G k R ce sl mem pc loc (.ref r :: st) := by
  intro p e s m args below meth c Q hF H locs ls hR hS hL
  obtain ⟨hx, hb, -⟩ := id hF
  exact lv_ifnonnull hx hb hd ht (kk p e s m args below meth c Q hF H locs ls hR hS hL)
theorem E_ifnull {r : Nat} {off : Int} (hd : decode k.2.1 pc = .ok (.ifnull off, 3)) (kk : E G k R ce sl mem (pc + 3) loc st) : E G k R ce sl mem pc loc (.ref r :: st) := by
  intro p e s m args below meth c Q hF H locs ls hR hS hL
  obtain ⟨hx, hb, -⟩ := id hF
  exact lv_ifnull hx hb hd (kk p e s m args below meth c Q hF H locs ls hR hS hL)
theorem E_tableOut {dflt lo hi : Int} {offs : Array Int} {len : Nat} {x : Int32} {tgt : Nat} (hd : decode k.2.1 pc = .ok (.tableswitch dflt lo hi offs, len)) (h : x.toInt < lo ∨ hi < x.toInt) (ht : (pc : Int) + dflt = (tgt : Int)) (kk : E G k R ce sl mem tgt loc st) : E G k R ce sl mem pc loc (.int x :: st) := by
  intro p e s m args below meth c Q hF H locs ls hR hS hL
  obtain ⟨hx, hb, -⟩ := id hF
  exact lv_tableOut hx hb hd h ht (kk p e s m args below meth c Q hF H locs ls hR hS hL)
theorem E_tableIn {dflt lo hi : Int} {offs : Array Int} {len : Nat} {x : Int32} {off : Int} {tgt : Nat} (hd : decode k.2.1 pc = .ok (.tableswitch dflt lo hi offs, len)) (h1 : ¬ x.toInt < lo) (h2 : ¬ hi < x.toInt) (ho : offs[(x.toInt - lo).toNat]? = some off) (ht : (pc : Int) + off = (tgt : Int)) (kk : E G k R ce sl mem tgt loc st) : E G k R ce sl mem pc loc (.int x :: st) := by
  intro p e s m args below meth c Q hF H locs ls hR hS hL
  obtain ⟨hx, hb, -⟩ := id hF
  exact lv_tableIn hx hb hd h1 h2 ho ht (kk p e s m args below meth c Q hF H locs ls hR hS hL)
theorem E_lookup {dflt : Int} {ps : Array (Int × Int)} {len : Nat} {x : Int32} {off : Int} {tgt : Nat} (hd : decode k.2.1 pc = .ok (.lookupswitch dflt ps, len)) (hp : (ps.toList.zip (ps.toList.drop 1)).all (fun (a, next) => a.1 < next.1) = true) (ho : Op.lookupswitch.offset ps.toList dflt x.toInt = off) (ht : (pc : Int) + off = (tgt : Int)) (kk : E G k R ce sl mem tgt loc st) : E G k R ce sl mem pc loc (.int x :: st) := by
  intro p e s m args below meth c Q hF H locs ls hR hS hL
  obtain ⟨hx, hb, -⟩ := id hF
  exact lv_lookup hx hb hd hp ho ht (kk p e s m args below meth c Q hF H locs ls hR hS hL)
theorem E_istore_n {j : Fin 4} {x : Int32} (hd : decode k.2.1 pc = .ok (.istore_n j, 1)) (hi : (j : Nat) < k.2.2.1) (hp : x_p loc (j : Nat) = true) (kk : E G k R ce sl mem (pc + 1) (x_up loc (j : Nat) (.int x)) st) : E G k R ce sl mem pc loc (.int x :: st) := by
  intro p e s m args below meth c Q hF H locs ls hR hS hL
  obtain ⟨hx, hb, -⟩ := id hF
  exact lv_istore_n hx hb hd rfl (x_ls_list hL) hi rfl (fun ls1 h1 => kk p e s m args below meth c Q hF H locs ls1 hR hS (x_ls_up hL hp h1))
theorem E_istore {i : Nat} {x : Int32} (hd : decode k.2.1 pc = .ok (.istore i, 2)) (hi : i < k.2.2.1) (hp : x_p loc i = true) (kk : E G k R ce sl mem (pc + 2) (x_up loc i (.int x)) st) : E G k R ce sl mem pc loc (.int x :: st) := by
  intro p e s m args below meth c Q hF H locs ls hR hS hL
  obtain ⟨hx, hb, -⟩ := id hF
  exact lv_istore hx hb hd (x_ls_list hL) hi rfl (fun ls1 h1 => kk p e s m args below meth c Q hF H locs ls1 hR hS (x_ls_up hL hp h1))
theorem E_astore_n {j : Fin 4} {x : Nat} (hd : decode k.2.1 pc = .ok (.astore_n j, 1)) (hi : (j : Nat) < k.2.2.1) (hp : x_p loc (j : Nat) = true) (kk : E G k R ce sl mem (pc + 1) (x_up loc (j : Nat) (.ref x)) st) : E G k R ce sl mem pc loc (.ref x :: st) := by
  intro p e s m args below meth c Q hF H locs ls hR hS hL
  obtain ⟨hx, hb, -⟩ := id hF
  exact lv_astore_n hx hb hd rfl (x_ls_list hL) hi rfl (fun ls1 h1 => kk p e s m args below meth c Q hF H locs ls1 hR hS (x_ls_up hL hp h1))
theorem E_astore {i : Nat} {x : Nat} (hd : decode k.2.1 pc = .ok (.astore i, 2)) (hi : i < k.2.2.1) (hp : x_p loc i = true) (kk : E G k R ce sl mem (pc + 2) (x_up loc i (.ref x)) st) : E G k R ce sl mem pc loc (.ref x :: st) := by
  intro p e s m args below meth c Q hF H locs ls hR hS hL
  obtain ⟨hx, hb, -⟩ := id hF
  exact lv_astore hx hb hd (x_ls_list hL) hi rfl (fun ls1 h1 => kk p e s m args below meth c Q hF H locs ls1 hR hS (x_ls_up hL hp h1))
theorem E_lstore_n {j : Fin 4} {x : Int64} (hd : decode k.2.1 pc = .ok (.lstore_n j, 1)) (hi : (j : Nat) + 1 < k.2.2.1) (hp : x_p loc (j : Nat) = true) (kk : E G k R ce sl mem (pc + 1) (x_up (x_dn loc ((j : Nat) + 1)) (j : Nat) (.long x)) st) : E G k R ce sl mem pc loc (.long x :: st) := by
  intro p e s m args below meth c Q hF H locs ls hR hS hL
  obtain ⟨hx, hb, -⟩ := id hF
  exact lv_lstore_n hx hb hd rfl (x_ls_list hL) hi rfl (fun ls1 h1 => kk p e s m args below meth c Q hF H locs ls1 hR hS (x_ls_up2 hL hp h1))
theorem E_lstore {i : Nat} {x : Int64} (hd : decode k.2.1 pc = .ok (.lstore i, 2)) (hi : i + 1 < k.2.2.1) (hp : x_p loc i = true) (kk : E G k R ce sl mem (pc + 2) (x_up (x_dn loc (i + 1)) i (.long x)) st) : E G k R ce sl mem pc loc (.long x :: st) := by
  intro p e s m args below meth c Q hF H locs ls hR hS hL
  obtain ⟨hx, hb, -⟩ := id hF
  exact lv_lstore hx hb hd (x_ls_list hL) hi rfl (fun ls1 h1 => kk p e s m args below meth c Q hF H locs ls1 hR hS (x_ls_up2 hL hp h1))
theorem E_iinc {i : Nat} {n : Int} {x d : Int32} (hd : decode k.2.1 pc = .ok (.iinc i n, 3)) (hv : loc i = some (.int x)) (hn : Int32.ofInt n = d) (hi : i < k.2.2.1) (hp : x_p loc i = true) (kk : E G k R ce sl mem (pc + 3) (x_up loc i (.int (x + d))) st) : E G k R ce sl mem pc loc st := by
  intro p e s m args below meth c Q hF H locs ls hR hS hL
  obtain ⟨hx, hb, -⟩ := id hF
  subst hn
  obtain ⟨j, hj⟩ := List.getElem?_of_mem (x_list_mem hL hv)
  exact lv_iinc hx hb hd (x_ls_list hL) (k := j) hj rfl hi rfl (fun ls1 h1 => kk p e s m args below meth c Q hF H locs ls1 hR hS (x_ls_up hL hp h1))
theorem E_getf {r ci kf index N : Nat} {own C : String} {T : u_T} {fs : List Value} {v : Value} (hd : decode k.2.1 pc = .ok (.getfield index, 3)) (hin : ∀ w ∈ u_ws C T N, w ∈ x_tbl) (hown : k.1.cls = own) (hc : vwCl[ci]? = some (C, T, N)) (hk : kf < N) (howner : (T kf).1 = C) (hlink : Cond.fieldLink own index C (T kf).2.1 (T kf).2.2.1 ∈ x_tbl) (hm : mem[r]? = some (.inr (ci, fs))) (hv : fs[kf]? = some v) (kk : E G k R ce sl mem (pc + 3) loc (v :: st)) : E G k R ce sl mem pc loc (.ref r :: st) := by
  intro p e s m args below meth c Q hF H locs ls hR hS hL
  obtain ⟨hx, hb, hml, hw, hts, hnm, hE, -⟩ := id hF
  exact va_get (ci := ci) (C := C) (T := T) (N := N) (ref := C) (own := own) (Ts := x_tbl) hx hb hts hin (by rw [← hown]; exact hw) hE.1 (hR.one hm) 0 (fs := fs.map (x_v G)) rfl hc kf hk (hts _ hlink) (fun z hz => by rw [howner] at hz; exact hz) (v := x_v G v) (by rw [List.getElem?_map, hv]; rfl) hd (kk p e s m args below meth c Q hF H locs ls hR hS hL)
theorem E_getfN {r ci kf index N : Nat} {own C host : String} {T : u_T} {fs : List Value} {v : Value} (hd : decode k.2.1 pc = .ok (.getfield index, 3)) (hin : ∀ w ∈ u_ws C T N, w ∈ x_tbl) (hown : k.1.cls = own) (hc : vwCl[ci]? = some (C, T, N)) (hk : kf < N) (howner : (T kf).1 = C) (hlink : Cond.fieldLinkNest own index C (T kf).2.1 (T kf).2.2.1 host ∈ x_nests) (hm : mem[r]? = some (.inr (ci, fs))) (hv : fs[kf]? = some v) (kk : E G k R ce sl mem (pc + 3) loc (v :: st)) : E G k R ce sl mem pc loc (.ref r :: st) := by
  intro p e s m args below meth c Q hF H locs ls hR hS hL
  obtain ⟨hx, hb, hml, hw, hts, hnm, hE, -⟩ := id hF
  exact va_getN (ci := ci) (C := C) (T := T) (N := N) (ref := C) (own := own) (host := host) (Ts := x_tbl) hx hb hts hin (by rw [← hown]; exact hw) hE.1 (hR.one hm) 0 (fs := fs.map (x_v G)) rfl hc kf hk (va_Nw.use rfl (hE.2.2.2.2 _ hlink)) (fun z hz => by rw [howner] at hz; exact hz) (v := x_v G v) (by rw [List.getElem?_map, hv]; rfl) hd (kk p e s m args below meth c Q hF H locs ls hR hS hL)
theorem x_fieldAt {G : xG} {s : State} {args : Array Value} {H : Heap} {mem : xM} {r ci kf N : Nat} {C : String} {T : u_T} {fs : List Value} (hts : ∀ w ∈ x_tbl, w.before args s = true) (hK : va_K G.2.1 vwCl (x_tys G) s) (hR : xRep G mem H) (hin : ∀ w ∈ u_ws C T N, w ∈ x_tbl) (hc : vwCl[ci]? = some (C, T, N)) (hk : kf < N) (hm : mem[r]? = some (.inr (ci, fs))) : ∃ cell : Cell, H[G.2.2.2.1 + r]? = some cell ∧ cell.cls = G.2.1.1 ci ∧ cell.vm = .none ∧ ∀ j, j < N → cell.slots[G.2.1.2 ci j]? = some (vp_V (fs.map (x_v G)) j) := by
  obtain ⟨q, h1, h2⟩ := hR.2 r _ hm
  have e : q = (C, T, N) := Option.some.inj (h1.symm.trans hc)
  subst e
  exact h2
theorem E_putf {r ci kf index N : Nat} {own C : String} {T : u_T} {fs : List Value} {v : Value} {ty0 : Nat → FieldType} (hd : decode k.2.1 pc = .ok (.putfield index, 3)) (hin : ∀ w ∈ u_ws C T N, w ∈ x_tbl) (hty : ∀ k, k < N → parseFieldDescriptor (T k).2.2.1 = some (ty0 k)) (hnm : ∀ a, a < N → ∀ b, b < N → a ≠ b → (T a).2.1 ≠ (T b).2.1) (hown : k.1.cls = own) (hc : vwCl[ci]? = some (C, T, N)) (hk : kf < N) (howner : (T kf).1 = C) (hlink : Cond.fieldLink own index C (T kf).2.1 (T kf).2.2.1 ∈ x_tbl) (hfin : (T kf).2.2.2 = false) (hm : mem[r]? = some (.inr (ci, fs))) (hn : narrow (ty0 kf) (x_v G v) = x_v G v) (hfit : fits (ty0 kf) (x_v G v) = true) (hl : kf < fs.length) (kk : E G k R ce sl (mem.set r (.inr (ci, fs.set kf v))) (pc + 3) loc st) : E G k R ce sl mem pc loc (v :: .ref r :: st) := by
  intro p e s m args below meth c Q hF H locs ls hR hS hL
  obtain ⟨hx, hb, hml, hw, hts, hme, hE, -⟩ := id hF
  have hK := hE.1
  have hw' : s.vm.findClass own = some m.cls := by rw [← hown]; exact hw
  have hap := va_apart (own := own) hts hin ty0 hty hnm hK hc
  obtain ⟨cell, q1, q2, q3, q4⟩ := x_fieldAt hts hK hR hin hc hk hm
  obtain ⟨hSl, hfc, kC, hkC, hkind⟩ := hK.1 ci _ hc
  obtain ⟨cf, kfc, fi, f, hi, hsl⟩ := hSl kf hk
  have hlay := hts _ (hin _ (u_in_lay hk))
  unfold u_lay at hlay
  rw [if_neg (by rw [hfin]; decide)] at hlay
  have hst := (u_facts hfc hkC (u_lays hts hin hk) hi).1
  have h6 := u_store hfc hkC hkind hlay hi (hty kf hk) hn hfit
  refine W.putK hx hb (f := f) ⟨hw', hts _ hlink, ⟨_, _, _, by rw [← howner]; exact hi⟩, hst⟩ (by rw [q2]; exact h6) q1 q3 (by rw [hsl]; exact k2_hasslot (q4 kf hk)) rfl rfl hd fun H' e1 e2 e3 => ?_
  rw [hsl] at e1 ⊢
  refine kk p e s m args below meth c Q hF H' _ ls (hR.set hm e2 ⟨_, hc, ?_⟩ e3) (hS.put e3) hL
  refine t_OB.to (V := updV (vp_V (fs.map (x_v G))) kf (x_v G v)) ⟨_, e1, q2, q3, t_set q4 hap hk (x_v G v)⟩ (fun j _ => ?_)
  rw [vp_updV_set (by rw [List.length_map]; exact hl), List.map_set]
theorem E_putF {r ci kf index N : Nat} {own C : String} {T : u_T} {fs : List Value} {v : Value} {ty0 : Nat → FieldType} (hd : decode k.2.1 pc = .ok (.putfield index, 3)) (hin : ∀ w ∈ u_ws C T N, w ∈ x_tbl) (hty : ∀ k, k < N → parseFieldDescriptor (T k).2.2.1 = some (ty0 k)) (hnm : ∀ a, a < N → ∀ b, b < N → a ≠ b → (T a).2.1 ≠ (T b).2.1) (hown : k.1.cls = own) (hinit : k.1.name = "<init>") (hc : vwCl[ci]? = some (C, T, N)) (hk : kf < N) (howner : (T kf).1 = own) (hCo : C = own) (hlink : Cond.fieldLink own index C (T kf).2.1 (T kf).2.2.1 ∈ x_tbl) (hfin : (T kf).2.2.2 = true) (hm : mem[r]? = some (.inr (ci, fs))) (hn : narrow (ty0 kf) (x_v G v) = x_v G v) (hfit : fits (ty0 kf) (x_v G v) = true) (hl : kf < fs.length) (kk : E G k R ce sl (mem.set r (.inr (ci, fs.set kf v))) (pc + 3) loc st) : E G k R ce sl mem pc loc (v :: .ref r :: st) := by
  intro p e s m args below meth c Q hF H locs ls hR hS hL
  obtain ⟨hx, hb, hml, hw, hts, hme, hE, -⟩ := id hF
  have hK := hE.1
  have hw' : s.vm.findClass own = some m.cls := by rw [← hown]; exact hw
  have hap := va_apart (own := own) hts hin ty0 hty hnm hK hc
  obtain ⟨cell, q1, q2, q3, q4⟩ := x_fieldAt hts hK hR hin hc hk hm
  obtain ⟨hSl, hfc, kC, hkC, hkind⟩ := hK.1 ci _ hc
  obtain ⟨cf, kfc, fi, f, hi, hsl⟩ := hSl kf hk
  have hlay := hts _ (hin _ (u_in_lay hk))
  unfold u_lay at hlay
  rw [if_pos hfin] at hlay
  have hst := (u_facts hfc hkC (u_lays hts hin hk) hi).1
  have hcf : m.cls = cf := by
    obtain ⟨_, _, c', _, _, _, -, -, hf', -, -, -, hown2, -⟩ := Cond.laysFinal_spec hlay
    have e1 : c' = cf := by have := hi.symm.trans hf'; simp at this; exact this.1.symm
    rw [howner] at hown2
    rw [← e1]; exact Option.some.inj (hw'.symm.trans hown2)
  have h6 := u_fits hfc hkC hkind (Or.inr hlay) hi (hty kf hk) hn hfit
  refine W.putFinK hx hb hw' (hts _ hlink) (by rw [hCo, ← howner]; exact hi) hst hcf (by rw [hme]; exact hinit) (by rw [q2]; exact h6) q1 q3 (by rw [hsl]; exact k2_hasslot (q4 kf hk)) rfl rfl hd fun H' e1 e2 e3 => ?_
  rw [hsl] at e1 ⊢
  refine kk p e s m args below meth c Q hF H' _ ls (hR.set hm e2 ⟨_, hc, ?_⟩ e3) (hS.put e3) hL
  refine t_OB.to (V := updV (vp_V (fs.map (x_v G))) kf (x_v G v)) ⟨_, e1, q2, q3, t_set q4 hap hk (x_v G v)⟩ (fun j _ => ?_)
  rw [vp_updV_set (by rw [List.length_map]; exact hl), List.map_set]
theorem E_iald {r n : Nat} {f : Nat → Int32} {i : Int32} (hd : decode k.2.1 pc = .ok (.iaload, 1)) (hm : mem[r]? = some (.inl (0, n, .inl f))) (hi : vp_in i n) (kk : E G k R ce sl mem (pc + 1) loc (.int (f i.toNatClampNeg) :: st)) : E G k R ce sl mem pc loc (.int i :: .ref r :: st) := by
  intro p e s m args below meth c Q hF H locs ls hR hS hL
  obtain ⟨hx, hb, hml, hw, hts, hnm, hE, -⟩ := id hF
  exact va_iald (tys := x_tys G) hx hb hE.1 (hR.one hm) 0 0 rfl rfl hi hd (kk p e s m args below meth c Q hF H locs ls hR hS hL)
theorem E_zald {r n : Nat} {f : Nat → Int32} {i : Int32} (hd : decode k.2.1 pc = .ok (.baload, 1)) (hm : mem[r]? = some (.inl (1, n, .inl f))) (hi : vp_in i n) (kk : E G k R ce sl mem (pc + 1) loc (.int (f i.toNatClampNeg) :: st)) : E G k R ce sl mem pc loc (.int i :: .ref r :: st) := by
  intro p e s m args below meth c Q hF H locs ls hR hS hL
  obtain ⟨hx, hb, hml, hw, hts, hnm, hE, -⟩ := id hF
  exact va_zald (tys := x_tys G) hx hb hE.1 (hR.one hm) 0 1 rfl rfl hi hd (kk p e s m args below meth c Q hF H locs ls hR hS hL)
theorem E_cald {r n : Nat} {f : Nat → Int32} {i : Int32} (hd : decode k.2.1 pc = .ok (.caload, 1)) (hm : mem[r]? = some (.inl (2, n, .inl f))) (hi : vp_in i n) (kk : E G k R ce sl mem (pc + 1) loc (.int (f i.toNatClampNeg) :: st)) : E G k R ce sl mem pc loc (.int i :: .ref r :: st) := by
  intro p e s m args below meth c Q hF H locs ls hR hS hL
  obtain ⟨hx, hb, hml, hw, hts, hnm, hE, -⟩ := id hF
  exact va_cald (tys := x_tys G) hx hb hE.1 (hR.one hm) 0 2 rfl rfl hi hd (kk p e s m args below meth c Q hF H locs ls hR hS hL)
theorem E_aald {r n : Nat} {f : Nat → Option Nat} {i : Int32} {a : Nat} (hd : decode k.2.1 pc = .ok (.aaload, 1)) (hm : mem[r]? = some (.inl (3, n, .inr (.inr (.inr (.inr f)))))) (hi : vp_in i n) (hv : f i.toNatClampNeg = some a) (kk : E G k R ce sl mem (pc + 1) loc (.ref a :: st)) : E G k R ce sl mem pc loc (.int i :: .ref r :: st) := by
  intro p e s m args below meth c Q hF H locs ls hR hS hL
  obtain ⟨hx, hb, hml, hw, hts, hnm, hE, -⟩ := id hF
  refine va_aldq (tys := x_tys G) hx hb hE.1 (hR.one hm) 0 3 rfl rfl hi hd ?_
  rw [hv]
  exact kk p e s m args below meth c Q hF H locs ls hR hS hL
theorem E_alen {r n t : Nat} {y : (Nat → Int32) ⊕ (Nat → Int64) ⊕ (Nat → UInt32) ⊕ (Nat → UInt64) ⊕ (Nat → Option Nat)} {ty : FieldType} {v : Int32} (hd : decode k.2.1 pc = .ok (.arraylength, 1)) (hm : mem[r]? = some (.inl (t, n, y))) (ht : (x_tys G)[t]? = some (G.2.2.1 t, ty)) (hv : Int32.ofNat n = v) (kk : E G k R ce sl mem (pc + 1) loc (.int v :: st)) : E G k R ce sl mem pc loc (.ref r :: st) := by
  intro p e s m args below meth c Q hF H locs ls hR hS hL
  obtain ⟨hx, hb, hml, hw, hts, hnm, hE, -⟩ := id hF
  refine va_alen (tys := x_tys G) hx hb hE.1 (hR.one hm) 0 t rfl ht (v := v) ?_ hd (kk p e s m args below meth c Q hF H locs ls hR hS hL)
  rw [← hv]
  obtain f | f | f | f | f := y <;> rfl
theorem E_sld {i : Int32} {z : UInt32} (hd : decode k.2.1 pc = .ok (.iaload, 1)) (hi : vp_in i G.2.2.2.2.2.1) (kk : E G k R ce sl mem (pc + 1) loc (.int (G.2.2.2.2.2.2 i.toNatClampNeg) :: st)) : E G k R ce sl mem pc loc (.int i :: .float z :: st) := by
  intro p e s m args below meth c Q hF H locs ls hR hS hL
  obtain ⟨hx, hb, hml, hw, hts, hnm, hE, -⟩ := id hF
  have hbB := hE.2.2.2.1
  exact va_sld (A := fun q => G.2.2.2.1 ≤ q) (H0 := H) hx hb (hE.2.2.1.kept (hS.2.1 _ hbB)) (by rw [hR.1]; omega) (by omega) ⟨Nat.le_refl _, fun _ _ _ => rfl, hS.2.2⟩ hi hd (kk p e s m args below meth c Q hF H locs ls hR hS hL)
theorem E_slen {z : UInt32} {v : Int32} (hd : decode k.2.1 pc = .ok (.arraylength, 1)) (hv : Int32.ofNat G.2.2.2.2.2.1 = v) (kk : E G k R ce sl mem (pc + 1) loc (.int v :: st)) : E G k R ce sl mem pc loc (.float z :: st) := by
  intro p e s m args below meth c Q hF H locs ls hR hS hL
  obtain ⟨hx, hb, hml, hw, hts, hnm, hE, -⟩ := id hF
  have hbB := hE.2.2.2.1
  subst hv
  exact va_slen (A := fun q => G.2.2.2.1 ≤ q) (H0 := H) hx hb (hE.2.2.1.kept (hS.2.1 _ hbB)) (by rw [hR.1]; omega) (by omega) ⟨Nat.le_refl _, fun _ _ _ => rfl, hS.2.2⟩ hd (kk p e s m args below meth c Q hF H locs ls hR hS hL)
theorem E_iast {r n : Nat} {f : Nat → Int32} {i x : Int32} (hd : decode k.2.1 pc = .ok (.iastore, 1)) (hm : mem[r]? = some (.inl (0, n, .inl f))) (hi : vp_in i n) (kk : E G k R ce sl (mem.set r (.inl (0, n, .inl (upd f i.toNatClampNeg x)))) (pc + 1) loc st) : E G k R ce sl mem pc loc (.int x :: .int i :: .ref r :: st) := by
  intro p e s m args below meth c Q hF H locs ls hR hS hL
  obtain ⟨hx, hb, hml, hw, hts, hnm, hE, -⟩ := id hF
  refine W.iast hx hb (hR.one hm 0 _ rfl) ((hE.1.2 0 _ rfl).1 n (fun j => .int (f j))) (fun q => by cases q) (by show ¬ (i < 0 ∨ (arrV _ _ _).slots.size ≤ _); rw [arrV_size]; exact hi) rfl rfl hd fun H1 e z oq => ?_
  refine kk p _ s m args below meth c Q hF H1 _ ls (hR.set hm z ?_ oq) (hS.put oq) hL
  show H1[G.2.2.2.1 + r]? = some (vp_cell _ _)
  rw [e]
  show some ((vp_cell (G.2.2.1 0) (n, .inl f)).setSlot _ _) = some (vp_cell (G.2.2.1 0) (n, .inl (upd f i.toNatClampNeg x)))
  rw [vp_cell_i, vp_cell_i, arrV_store]
  congr 2
  funext q
  by_cases hq : q = i.toNatClampNeg
  · subst hq
    simp [updV, upd]
  · simp [updV, upd, hq]
theorem E_zast {r n : Nat} {f : Nat → Int32} {i x : Int32} (hd : decode k.2.1 pc = .ok (.bastore, 1)) (hm : mem[r]? = some (.inl (1, n, .inl f))) (hi : vp_in i n) (hn : narrow .boolean (.int x) = .int x) (kk : E G k R ce sl (mem.set r (.inl (1, n, .inl (upd f i.toNatClampNeg x)))) (pc + 1) loc st) : E G k R ce sl mem pc loc (.int x :: .int i :: .ref r :: st) := by
  intro p e s m args below meth c Q hF H locs ls hR hS hL
  obtain ⟨hx, hb, hml, hw, hts, hnm, hE, -⟩ := id hF
  refine W.zast hx hb (hR.one hm 0 _ rfl) ((hE.1.2 1 _ rfl).1 n (fun j => .int (f j))) (fun q => by cases q) (by show ¬ (i < 0 ∨ (arrV _ _ _).slots.size ≤ _); rw [arrV_size]; exact hi) rfl rfl hd fun H1 e z oq => ?_
  refine kk p _ s m args below meth c Q hF H1 _ ls (hR.set hm z ?_ oq) (hS.put oq) hL
  show H1[G.2.2.2.1 + r]? = some (vp_cell _ _)
  rw [e, hn]
  show some ((vp_cell (G.2.2.1 1) (n, .inl f)).setSlot _ _) = some (vp_cell (G.2.2.1 1) (n, .inl (upd f i.toNatClampNeg x)))
  rw [vp_cell_i, vp_cell_i, arrV_store]
  congr 2
  funext q
  by_cases hq : q = i.toNatClampNeg
  · subst hq
    simp [updV, upd]
  · simp [updV, upd, hq]
theorem E_cast {r n : Nat} {f : Nat → Int32} {i x : Int32} (hd : decode k.2.1 pc = .ok (.castore, 1)) (hm : mem[r]? = some (.inl (2, n, .inl f))) (hi : vp_in i n) (hn : narrow .char (.int x) = .int x) (kk : E G k R ce sl (mem.set r (.inl (2, n, .inl (upd f i.toNatClampNeg x)))) (pc + 1) loc st) : E G k R ce sl mem pc loc (.int x :: .int i :: .ref r :: st) := by
  intro p e s m args below meth c Q hF H locs ls hR hS hL
  obtain ⟨hx, hb, hml, hw, hts, hnm, hE, -⟩ := id hF
  refine W.cast hx hb (hR.one hm 0 _ rfl) ((hE.1.2 2 _ rfl).1 n (fun j => .int (f j))) (fun q => by cases q) (by show ¬ (i < 0 ∨ (arrV _ _ _).slots.size ≤ _); rw [arrV_size]; exact hi) rfl rfl hd fun H1 e z oq => ?_
  refine kk p _ s m args below meth c Q hF H1 _ ls (hR.set hm z ?_ oq) (hS.put oq) hL
  show H1[G.2.2.2.1 + r]? = some (vp_cell _ _)
  rw [e, hn]
  show some ((vp_cell (G.2.2.1 2) (n, .inl f)).setSlot _ _) = some (vp_cell (G.2.2.1 2) (n, .inl (upd f i.toNatClampNeg x)))
  rw [vp_cell_i, vp_cell_i, arrV_store]
  congr 2
  funext q
  by_cases hq : q = i.toNatClampNeg
  · subst hq
    simp [updV, upd]
  · simp [updV, upd, hq]
theorem E_newi {n : Int32} {N : Nat} (hd : decode k.2.1 pc = .ok (.newarray .int, 2)) (harr : Cond.arrayClass .int ∈ x_tbl) (hn : ¬ n < 0) (hN : n.toNatClampNeg = N) (hbytes : N * componentBytes .int ≤ 536870912) (hc : ce + 1 ≤ k.2.2.2.2.2.2.1) (hs : sl + N ≤ k.2.2.2.2.2.2.2) (kk : E G k R (ce + 1) (sl + N) (mem ++ [.inl (0, N, .inl (fun _ => 0))]) (pc + 2) loc (.ref mem.length :: st)) : E G k R ce sl mem pc loc (.int n :: st) := by
  intro p e s m args below meth c Q hF H locs ls hR hS hL
  obtain ⟨hx, hb, hml, hw, hts, hnm, hE, -⟩ := id hF
  refine va_newaK (atype := .int) (R := x_rm k) hx hb (hts _ harr) (g := F0 m pc ls ((Value.int n :: st).map (x_v G))) rfl hd rfl hn hN hbytes hc hs hR.1 fun H1 cA e1 z1 o1 hAr hNm => ?_
  have hcA : cA = G.2.2.1 0 := Option.some.inj (hNm.symm.trans ((hE.1.2 0 _ rfl).2))
  subst hcA
  refine kk p e s m args below meth c Q hF H1 locs ls (hR.push (by rw [z1, hR.1]) ?_ (fun q hq => o1 q (by rw [← hR.1]; exact hq))) (hS.kept (by rw [hR.1]; omega) (fun q hq => o1 q (by rw [← hR.1]; exact hq))) hL
  show H1[G.2.2.2.1 + mem.length]? = some (vp_cell _ _)
  rw [e1]
  rfl
theorem E_newz {n : Int32} {N : Nat} (hd : decode k.2.1 pc = .ok (.newarray .boolean, 2)) (harr : Cond.arrayClass .boolean ∈ x_tbl) (hn : ¬ n < 0) (hN : n.toNatClampNeg = N) (hbytes : N * componentBytes .boolean ≤ 536870912) (hc : ce + 1 ≤ k.2.2.2.2.2.2.1) (hs : sl + N ≤ k.2.2.2.2.2.2.2) (kk : E G k R (ce + 1) (sl + N) (mem ++ [.inl (1, N, .inl (fun _ => 0))]) (pc + 2) loc (.ref mem.length :: st)) : E G k R ce sl mem pc loc (.int n :: st) := by
  intro p e s m args below meth c Q hF H locs ls hR hS hL
  obtain ⟨hx, hb, hml, hw, hts, hnm, hE, -⟩ := id hF
  refine va_newaK (atype := .boolean) (R := x_rm k) hx hb (hts _ harr) (g := F0 m pc ls ((Value.int n :: st).map (x_v G))) rfl hd rfl hn hN hbytes hc hs hR.1 fun H1 cA e1 z1 o1 hAr hNm => ?_
  have hcA : cA = G.2.2.1 1 := Option.some.inj (hNm.symm.trans ((hE.1.2 1 _ rfl).2))
  subst hcA
  refine kk p e s m args below meth c Q hF H1 locs ls (hR.push (by rw [z1, hR.1]) ?_ (fun q hq => o1 q (by rw [← hR.1]; exact hq))) (hS.kept (by rw [hR.1]; omega) (fun q hq => o1 q (by rw [← hR.1]; exact hq))) hL
  show H1[G.2.2.2.1 + mem.length]? = some (vp_cell _ _)
  rw [e1]
  rfl
theorem E_newc {n : Int32} {N : Nat} (hd : decode k.2.1 pc = .ok (.newarray .char, 2)) (harr : Cond.arrayClass .char ∈ x_tbl) (hn : ¬ n < 0) (hN : n.toNatClampNeg = N) (hbytes : N * componentBytes .char ≤ 536870912) (hc : ce + 1 ≤ k.2.2.2.2.2.2.1) (hs : sl + N ≤ k.2.2.2.2.2.2.2) (kk : E G k R (ce + 1) (sl + N) (mem ++ [.inl (2, N, .inl (fun _ => 0))]) (pc + 2) loc (.ref mem.length :: st)) : E G k R ce sl mem pc loc (.int n :: st) := by
  intro p e s m args below meth c Q hF H locs ls hR hS hL
  obtain ⟨hx, hb, hml, hw, hts, hnm, hE, -⟩ := id hF
  refine va_newaK (atype := .char) (R := x_rm k) hx hb (hts _ harr) (g := F0 m pc ls ((Value.int n :: st).map (x_v G))) rfl hd rfl hn hN hbytes hc hs hR.1 fun H1 cA e1 z1 o1 hAr hNm => ?_
  have hcA : cA = G.2.2.1 2 := Option.some.inj (hNm.symm.trans ((hE.1.2 2 _ rfl).2))
  subst hcA
  refine kk p e s m args below meth c Q hF H1 locs ls (hR.push (by rw [z1, hR.1]) ?_ (fun q hq => o1 q (by rw [← hR.1]; exact hq))) (hS.kept (by rw [hR.1]; omega) (fun q hq => o1 q (by rw [← hR.1]; exact hq))) hL
  show H1[G.2.2.2.1 + mem.length]? = some (vp_cell _ _)
  rw [e1]
  rfl
theorem E_new {ci index N : Nat} {own C : String} {T : u_T} {ty0 : Nat → FieldType} {fs : List Value} (hd : decode k.2.1 pc = .ok (.new index, 3)) (hin : ∀ w ∈ u_ws C T N, w ∈ x_tbl) (hty : ∀ k, k < N → parseFieldDescriptor (T k).2.2.1 = some (ty0 k)) (hown : k.1.cls = own) (hcl : Cond.classLink own index C ∈ x_tbl) (hinst : Cond.instantiable C N ∈ x_tbl) (hini : Cond.initialized C ∈ x_tbl) (hc : vwCl[ci]? = some (C, T, N)) (hfs : ∀ j, j < N → defaultValue (ty0 j) = vp_V (fs.map (x_v G)) j) (hcc : ce + 1 ≤ k.2.2.2.2.2.2.1) (hs : sl + N ≤ k.2.2.2.2.2.2.2) (kk : E G k R (ce + 1) (sl + N) (mem ++ [.inr (ci, fs)]) (pc + 3) loc (.ref mem.length :: st)) : E G k R ce sl mem pc loc st := by
  intro p e s m args below meth c Q hF H locs ls hR hS hL
  obtain ⟨hx, hb, hml, hw, hts, hnm, hE, -⟩ := id hF
  have hKn := hE.1.1 ci _ hc
  refine W.newcK (R := x_rm k) hx hb (by rw [← hown]; exact hw) (hts _ hcl) (hts _ hinst) (hts _ hini) (g := F0 m pc ls (st.map (x_v G))) rfl hd hcc hs hKn.2.1 hR.1 fun H1 kC hkC e1 z1 o1 => ?_
  refine kk p e s m args below meth c Q hF H1 locs ls (hR.push (by rw [z1, hR.1]) ⟨_, hc, (u_born ty0 hts hin hKn hkC e1 hty).to hfs⟩ (fun q hq => o1 q (by rw [← hR.1]; exact hq))) (hS.kept (by rw [hR.1]; omega) (fun q hq => o1 q (by rw [← hR.1]; exact hq))) hL
theorem E_anew {index : Nat} {own : String} {n : Int32} {N : Nat} (hd : decode k.2.1 pc = .ok (.anewarray index, 3)) (hown : k.1.cls = own) (hcl : Cond.classLink own index RX0 ∈ x_tbl) (hn : ¬ n < 0) (hN : n.toNatClampNeg = N) (hbytes : N * 4 ≤ 536870912) (hcc : ce + 1 ≤ k.2.2.2.2.2.2.1) (hs : sl + N ≤ k.2.2.2.2.2.2.2) (kk : E G k R (ce + 1) (sl + N) (mem ++ [.inl (3, N, .inr (.inr (.inr (.inr (fun _ => none)))))]) (pc + 3) loc (.ref mem.length :: st)) : E G k R ce sl mem pc loc (.int n :: st) := by
  intro p e s m args below meth c Q hF H locs ls hR hS hL
  obtain ⟨hx, hb, hml, hw, hts, hnm, hE, -⟩ := id hF
  subst hN
  refine W.anew (R := x_rm k) hx hb (by rw [← hown]; exact hw) (hts _ hcl) (va_AO.use hE.2.1) (g := F0 m pc ls ((Value.int n :: st).map (x_v G))) rfl hd rfl hn hbytes hcc hs fun cA kA comp f1 f2 f3 f4 => ?_
  obtain ⟨kA', comp', g1, g2, g3, g4⟩ := (hE.1.2 3 _ rfl).2
  have hcA : cA = G.2.2.1 3 := Option.some.inj (f1.symm.trans g4)
  subst hcA
  rw [hR.1]
  generalize hH1 : H.push ({ cls := G.2.2.1 3, slots := Array.replicate n.toNatClampNeg .null, vm := .none } : Cell) = H1
  have z1 : H1.size = H.size + 1 := by rw [← hH1, Array.size_push]
  have e1 : H1[H.size]? = some (arrV (G.2.2.1 3) n.toNatClampNeg (fun _ => .null)) := by rw [← hH1, Array.getElem?_push_size, ← arrV_new]
  have o1 : ∀ q : Nat, q < H.size → H1[q]? = H[q]? := fun q hq => by rw [← hH1, Array.getElem?_push, if_neg (Nat.ne_of_lt hq)]
  refine kk p e s m args below meth c Q hF H1 locs ls (hR.push z1 ?_ o1) (hS.kept (by rw [hR.1]; omega) o1) hL
  show H1[G.2.2.2.1 + mem.length]? = some (vp_cell _ _)
  rw [← hR.1, e1]
  rfl
theorem E_aast {r n a : Nat} {f : Nat → Option Nat} {vs : List Value} {i : Int32} (hd : decode k.2.1 pc = .ok (.aastore, 1)) (hm : mem[r]? = some (.inl (3, n, .inr (.inr (.inr (.inr f)))))) (ha : mem[a]? = some (.inr (0, vs))) (hi : vp_in i n) (kk : E G k R ce sl (mem.set r (.inl (3, n, .inr (.inr (.inr (.inr (va_up f i.toNatClampNeg (some a)))))))) (pc + 1) loc st) : E G k R ce sl mem pc loc (.ref a :: .int i :: .ref r :: st) := by
  intro p e s m args below meth c Q hF H locs ls hR hS hL
  obtain ⟨hx, hb, hml, hw, hts, hnm, hE, -⟩ := id hF
  have hlt : i.toNatClampNeg < n := Nat.not_le.mp fun q => hi (Or.inr q)
  have h0 : ¬ i < 0 := fun q => hi (Or.inl q)
  obtain ⟨r', hr', cellV, g1, g2, g3, -⟩ := hR.2 a _ ha
  have hcls := (hE.1.1 0 (RX0, TX0, 13) rfl).2
  obtain ⟨kA, comp, k1, k2, k3, -⟩ := (hE.1.2 3 _ rfl).2
  have hcomp : comp = G.2.1.1 0 := Option.some.inj (k3.symm.trans hcls.1)
  subst hcomp
  obtain ⟨kC, hkC, -⟩ := hcls.2
  refine W.aast hx hb (hR.one hm 0 _ rfl) (fun q h => by cases h) (fun h => by cases h) k1 k2 rfl hkC ⟨h0, by show _ < (arrV _ _ _).slots.size; rw [arrV_size]; exact hlt⟩ g1 (fun q h => by rw [g3] at h; cases h) (by rw [g2]; exact hkC) (by rw [g2]; exact va_assign hcls) rfl rfl hd fun H1 e z oq => ?_
  refine kk p _ s m args below meth c Q hF H1 _ ls (hR.set hm z ?_ oq) (hS.put oq) hL
  show H1[G.2.2.2.1 + r]? = some (vp_cell _ _)
  rw [e]
  show some ((vp_cell (G.2.2.1 3) (n, .inr (.inr (.inr (.inr (fun j => (f j).map (fun i => G.2.2.2.1 + i))))))).setSlot _ _) = some (vp_cell (G.2.2.1 3) (n, .inr (.inr (.inr (.inr (fun j => (va_up f i.toNatClampNeg (some a) j).map (fun i => G.2.2.2.1 + i)))))))
  rw [vp_cell_q, vp_cell_q, arrV_store]
  congr 2
  funext q
  by_cases hq : q = i.toNatClampNeg
  · subst hq
    simp [updV, va_up, va_rf, x_v]
  · simp [updV, va_up, hq]
theorem E_copy {index r0 r n0 n1 t : Nat} {own : String} {ty : FieldType} {f g : Nat → Int32} {sp dp n : Int32} (hd : decode k.2.1 pc = .ok (.invokestatic index, 3)) (hown : k.1.cls = own) (hlink : Cond.methodLink own index arraycopyName ∈ x_tbl) (hnat : Cond.native arraycopyName ∈ x_tbl) (hstat : Cond.static arraycopyName ∈ x_tbl) (hini : Cond.initialized "java/lang/System" ∈ x_tbl) (ht : (x_tys G)[t]? = some (G.2.2.1 t, ty)) (hprim : refKind ty = false) (hm0 : mem[r0]? = some (.inl (t, n0, .inl f))) (hm1 : mem[r]? = some (.inl (t, n1, .inl g))) (h1 : ¬ sp < 0) (h2 : ¬ dp < 0) (h3 : ¬ n < 0) (h4 : sp.toNatClampNeg + n.toNatClampNeg ≤ n0) (h5 : dp.toNatClampNeg + n.toNatClampNeg ≤ n1) (hfit : ∀ i, i < n.toNatClampNeg → fits ty (.int (f (sp.toNatClampNeg + i))) = true) (hframes : 1 ≤ k.2.2.2.2.1) (hlocals : (st.map fun v => v.category).sum + 18 ≤ k.2.2.2.2.2.1) (kk : E G k R ce sl (mem.set r (.inl (t, n1, .inl (va_cpy f g sp.toNatClampNeg dp.toNatClampNeg n.toNatClampNeg)))) (pc + 3) loc st) : E G k R ce sl mem pc loc (.int n :: .int dp :: .ref r :: .int sp :: .ref r0 :: st) := by
  intro p e s m args below meth c Q hF H locs ls hR hS hL
  obtain ⟨hx, hb, hml, hw, hts, hnm, hE, -⟩ := id hF
  have nn : ∀ z : Int32, ¬ z < 0 → z.toInt = (z.toNatClampNeg : Int) := by
    intro z hz
    have hz0 : (0 : Int) ≤ z.toInt := by
      have := Int32.not_lt.mp hz
      simpa using Int32.le_iff_toInt_le.mp this
    show z.toInt = ((z.toInt.toNat : Nat) : Int)
    omega
  intro T hT X
  have hc0 : H[G.2.2.2.1 + r0]? = some (vp_cell (G.2.2.1 t) (n0, .inl f)) := hR.2 r0 _ hm0
  have hc1 : H[G.2.2.2.1 + r]? = some (vp_cell (G.2.2.1 t) (n1, .inl g)) := hR.2 r _ hm1
  obtain ⟨-, k0, hk0, cm0, hkk0⟩ := (hE.1.2 t _ ht).1 n0 (fun j => .int (f j))
  obtain ⟨-, k1, hk1, cm1, hkk1⟩ := (hE.1.2 t _ ht).1 n1 (fun j => .int (g j))
  have hsum : ((st.map (x_v G)).map fun v => v.category).sum = (st.map fun v => v.category).sum := by
    rw [List.map_map]
    congr 1
    exact List.map_congr_left (fun v _ => x_cat G v)
  obtain ⟨vm', X', step⟩ := X.arraycopy hx (by rw [← hown]; exact hw) (hts _ hlink) (hts _ hnat) (hts _ hstat) (hts _ hini) (src := G.2.2.2.1 + r0) (dst := G.2.2.2.1 + r) (cs := vp_cell (G.2.2.1 t) (n0, .inl f)) (cd := vp_cell (G.2.2.1 t) (n1, .inl g)) (srcPos := sp) (destPos := dp) (n := n) (by rw [hT]; exact hc0) (by rw [hT]; exact hc1)
    (fun _ h => by cases h) (fun _ h => by cases h) (fun h => by cases h) (fun h => by cases h) hk0 hk1 hkk0 hkk1 (by simp [hprim]) h1 h2 h3
    (by rw [nn sp h1, nn n h3]; show ¬ _ > ((arrV (G.2.2.1 t) n0 (fun j => .int (f j))).slots.size : Int); rw [arrV_size]; omega)
    (by rw [nn dp h2, nn n h3]; show ¬ _ > ((arrV (G.2.2.1 t) n1 (fun j => .int (g j))).slots.size : Int); rw [arrV_size]; omega)
    (fun vm₁ _ i hi => by
      have e : (vp_cell (G.2.2.1 t) (n0, .inl f)).slots.getD (sp.toNatClampNeg + i) .null = .int (f (sp.toNatClampNeg + i)) := by
        show (arrV (G.2.2.1 t) n0 (fun j => .int (f j))).slots.getD _ _ = _
        rw [Array.getD_eq_getD_getElem?, arrV_read _ _ (by omega)]
        rfl
      refine ⟨?_, ?_⟩
      · rw [e]
        exact hfit i hi
      · rw [e]
        exact trivial)
    (g := F0 m pc ls (.int n :: .int dp :: .ref (G.2.2.2.1 + r) :: .int sp :: .ref (G.2.2.2.1 + r0) :: st.map (x_v G))) rfl (by rw [hml]; exact hL.1) (rest := st.map (x_v G)) rfl (by rw [hb]; exact hd) hframes (by rw [hsum]; show 2 * 0 + _ + (7 + 11) ≤ k.2.2.2.2.2.1; omega)
  have e1 : copied (vp_cell (G.2.2.1 t) (n0, .inl f)) (vp_cell (G.2.2.1 t) (n1, .inl g)) sp dp n = vp_cell (G.2.2.1 t) (n1, .inl (va_cpy f g sp.toNatClampNeg dp.toNatClampNeg n.toNatClampNeg)) := va_copied (fun z => .int z) (G.2.2.1 t) (G.2.2.1 t) f g h4
  rw [e1] at X' step
  have hl : G.2.2.2.1 + r < H.size := (Array.getElem?_eq_some_iff.mp hc1).1
  have hheap : ((T.setVm vm').setCell (G.2.2.2.1 + r) (vp_cell (G.2.2.1 t) (n1, .inl (va_cpy f g sp.toNatClampNeg dp.toNatClampNeg n.toNatClampNeg)))).heap = H.setIfInBounds (G.2.2.2.1 + r) (vp_cell (G.2.2.1 t) (n1, .inl (va_cpy f g sp.toNatClampNeg dp.toNatClampNeg n.toNatClampNeg))) := by rw [← hT]; rfl
  have oq : ∀ q : Nat, q ≠ G.2.2.2.1 + r → (H.setIfInBounds (G.2.2.2.1 + r) (vp_cell (G.2.2.1 t) (n1, .inl (va_cpy f g sp.toNatClampNeg dp.toNatClampNeg n.toNatClampNeg))))[q]? = H[q]? := fun q hq => by simp [Array.getElem?_setIfInBounds, Ne.symm hq]
  obtain ⟨t', a1, b1⟩ := kk p e s m args below meth c Q hF _ _ ls (hR.set hm1 (by simp) (show (H.setIfInBounds (G.2.2.2.1 + r) _)[G.2.2.2.1 + r]? = some _ by simp [Array.getElem?_setIfInBounds, hl]; rfl) oq) ⟨hS.1, fun q hq => by rw [oq q (by omega)]; exact hS.2.1 q hq, fun q hq => by
      rcases List.mem_append.mp hq with h | h
      · exact hS.2.2 q h
      · obtain ⟨z, -, hz⟩ := List.mem_map.mp h
        rw [← hz]
        show G.2.2.2.1 ≤ G.2.2.2.1 + r
        omega⟩ hL _ hheap X'
  exact ⟨t', step t' a1, b1⟩
theorem E_mem {mem' : xM} (e : mem = mem') (kk : E G k R ce sl mem' pc loc st) : E G k R ce sl mem pc loc st := by
  rw [e]
  exact kk
theorem E_ext {r t n : Nat} {f f' : Nat → Int32} (hm : mem[r]? = some (.inl (t, n, .inl f))) (hf : ∀ j, j < n → f j = f' j) (kk : E G k R ce sl (mem.set r (.inl (t, n, .inl f'))) pc loc st) : E G k R ce sl mem pc loc st := by
  intro p e s m args below meth c Q hF H locs ls hR hS hL
  refine kk p e s m args below meth c Q hF H locs ls (hR.set hm rfl ?_ (fun _ _ => rfl)) hS hL
  have h1 : H[G.2.2.2.1 + r]? = some (vp_cell (G.2.2.1 t) (n, .inl f)) := hR.2 r _ hm
  show H[G.2.2.2.1 + r]? = some (vp_cell (G.2.2.1 t) (n, .inl f'))
  rw [h1, vp_cell_i, vp_cell_i]
  have e2 : arrV (G.2.2.1 t) n (fun j => Value.int (f j)) = arrV (G.2.2.1 t) n (fun j => Value.int (f' j)) := by
    unfold arrV
    congr 2
    funext j
    show Value.int (f j.val) = Value.int (f' j.val)
    rw [hf j.val j.isLt]
  rw [e2]
theorem E_copyA {index r0 r N t : Nat} {own : String} {ty : FieldType} {f g : Nat → Int32} {n : Int32} (hd : decode k.2.1 pc = .ok (.invokestatic index, 3)) (hown : k.1.cls = own) (hlink : Cond.methodLink own index arraycopyName ∈ x_tbl) (hnat : Cond.native arraycopyName ∈ x_tbl) (hstat : Cond.static arraycopyName ∈ x_tbl) (hini : Cond.initialized "java/lang/System" ∈ x_tbl) (ht : (x_tys G)[t]? = some (G.2.2.1 t, ty)) (hprim : refKind ty = false) (hm0 : mem[r0]? = some (.inl (t, N, .inl f))) (hm1 : mem[r]? = some (.inl (t, N, .inl g))) (h3 : ¬ n < 0) (hN : n.toNatClampNeg = N) (hfit : ∀ i, i < N → fits ty (.int (f i)) = true) (hframes : 1 ≤ k.2.2.2.2.1) (hlocals : (st.map fun v => v.category).sum + 18 ≤ k.2.2.2.2.2.1) (kk : E G k R ce sl (mem.set r (.inl (t, N, .inl f))) (pc + 3) loc st) : E G k R ce sl mem pc loc (.int n :: .int 0 :: .ref r :: .int 0 :: .ref r0 :: st) := by
  have z0 : (0 : Int32).toNatClampNeg = 0 := by decide
  subst hN
  refine E_copy hd hown hlink hnat hstat hini ht hprim hm0 hm1 (by decide) (by decide) h3 (by rw [z0]; omega) (by rw [z0]; omega) (fun i hi => by rw [z0, Nat.zero_add]; exact hfit i hi) hframes hlocals ?_
  have hl := (List.getElem?_eq_some_iff.mp hm1).1
  refine E_ext (r := r) (t := t) (n := n.toNatClampNeg) (f' := f) (by rw [List.getElem?_set_self hl]) (fun j hj => ?_) ?_
  · rw [z0, va_cpy, if_pos (by omega)]
    congr 1
    omega
  · rw [List.set_set]
    exact kk
theorem E_objInit {idx r : Nat} {own : String} (hd : decode k.2.1 pc = .ok (.invokespecial idx, 3)) (hown : k.1.cls = own) (hlink : Cond.methodLink own idx objectInit ∈ x_tbl) (hinst : Cond.instanceMethod objectInit ∈ x_tbl) (hcode : Cond.code objectInit ⟨#[0xb1]⟩ 1 none ∈ x_tbl) (hframes : 1 ≤ k.2.2.2.2.1) (hlocals : (st.map fun v => v.category).sum + 12 ≤ k.2.2.2.2.2.1) (kk : E G k R ce sl mem (pc + 3) loc st) : E G k R ce sl mem pc loc (.ref r :: st) := by
  intro p e s m args below meth c Q hF H locs ls hR hS hL
  obtain ⟨hx, hb, hml, hw, hts, hnm, hE, -⟩ := id hF
  have hsum : ((st.map (x_v G)).map fun v => v.category).sum = (st.map fun v => v.category).sum := by
    rw [List.map_map]
    congr 1
    exact List.map_congr_left (fun v _ => x_cat G v)
  exact W.objInit (R := x_rm k) hx hb (by rw [← hown]; exact hw) (hts _ hlink) (hts _ hinst) (hts _ hcode) (g := F0 m pc ls ((Value.ref r :: st).map (x_v G))) rfl (by rw [hml]; exact hL.1) rfl hd hframes (by rw [hsum]; show 2 * 0 + _ + 12 ≤ k.2.2.2.2.2.1; omega) (kk p e s m args below meth c Q hF H locs ls hR hS hL)
theorem E_iret {x : Int32} {ty : FieldType} (hd : decode k.2.1 pc = .ok (.ireturn, 1)) (hty : k.2.2.2.1 = some ty) (hn : narrow ty (.int x) = .int x) (hce : ce ≤ k.2.2.2.2.2.2.1) (hsl : sl ≤ k.2.2.2.2.2.2.2) (h : R (some (.int x)) mem) : E G k R ce sl mem pc loc [.int x] := by
  intro p e s m args below meth c Q hF H locs ls hR hS hL
  exact W.widen hce hsl (hF.2.2.2.2.2.2.2.1 x mem H locs ls pc hd ⟨ty, hty, hn⟩ h hR hS)
theorem E_vret (hd : decode k.2.1 pc = .ok (.return_, 1)) (hty : k.2.2.2.1 = none) (hce : ce ≤ k.2.2.2.2.2.2.1) (hsl : sl ≤ k.2.2.2.2.2.2.2) (h : R none mem) : E G k R ce sl mem pc loc [] := by
  intro p e s m args below meth c Q hF H locs ls hR hS hL
  exact W.widen hce hsl (hF.2.2.2.2.2.2.2.2.1 mem H locs ls pc hd hty h hR hS)
theorem E_lret {x : Int64} (hd : decode k.2.1 pc = .ok (.lreturn, 1)) (hty : k.2.2.2.1 = some .long) (hce : ce ≤ k.2.2.2.2.2.2.1) (hsl : sl ≤ k.2.2.2.2.2.2.2) (h : R (some (.long x)) mem) : E G k R ce sl mem pc loc [.long x] := by
  intro p e s m args below meth c Q hF H locs ls hR hS hL
  exact W.widen hce hsl (hF.2.2.2.2.2.2.2.2.2 x mem H locs ls pc hd hty h hR hS)
/-! contracts and calls -/
def x_Q (G : xG) (R : Option Value → xM → Prop) : Array Value → State → Outcome → State → Prop := fun _ st o t => (∃ (v : Option Value) (mem : xM), o = .returned (v.map (x_v G)) ∧ R v mem ∧ xRep G mem t.heap) ∧ ∀ q : Nat, q < G.2.2.2.1 → t.heap[q]? = st.heap[q]?
def x_P (G : xG) (mem : xM) : State → Prop := fun U => xRep G mem U.heap ∧ xEn G U ∧ G.2.2.2.1 ≤ U.heap.size
def Ct (G : xG) (k : xI) (args : List Value) (mem : xM) (R : Option Value → xM → Prop) : Prop := Met G.1 k.1 (x_ws k) (x_rm k) (va_Pc (args.map (x_v G)) (x_P G mem)) (x_Q G R) k.2.2.2.2.2.2.1 k.2.2.2.2.2.2.2 (fun q => G.2.2.2.1 ≤ q)
theorem xEn.moved {u U : State} (hvm : u.vm.Alike U.vm) (hn : ∀ w ∈ x_nests, va_Nw w u → va_Nw w U) (hb : U.heap[G.2.2.2.2.1]? = u.heap[G.2.2.2.2.1]?) (h : xEn G u) : xEn G U := ⟨va_K.moved hvm h.1, va_AO.moved hvm h.2.1, (h.2.2.1.moved hvm).kept hb, h.2.2.2.1, fun w hw => hn w hw (h.2.2.2.2 w hw)⟩
theorem x_args (vs : List Value) : ∀ (i j : Nat) (v : Value), x_get (lv_args i vs) j = some v → (j, x_v G v) ∈ lv_args i (vs.map (x_v G)) := by
  induction vs with
  | nil => intro i j v h; cases h
  | cons a l ih =>
    intro i j v h
    rcases List.mem_cons.mp (x_get_mem _ _ _ h) with e | hm
    · cases e
      exact List.mem_cons_self
    · unfold lv_args x_get at h
      cases hb : Nat.beq i j with
      | true =>
        rw [show Nat.beq (i, a).1 j = true from hb] at h
        cases h
        rw [← x_beq.mp hb]
        exact List.mem_cons_self
      | false =>
        rw [show Nat.beq (i, a).1 j = false from hb] at h
        show (j, x_v G v) ∈ (i, x_v G a) :: lv_args (if (x_v G a).category = 2 then i + 2 else i + 1) (l.map (x_v G))
        rw [x_cat]
        exact List.mem_cons_of_mem _ (ih _ _ _ h)
theorem x_sl (vs : List Value) : (lg_sl (vs.map (x_v G))).length = (lg_sl vs).length := by
  induction vs with
  | nil => rfl
  | cons a l ih =>
    show ((if (x_v G a).category = 2 then [Slot.val (x_v G a), .second] else [.val (x_v G a)]) ++ lg_sl (l.map (x_v G))).length = ((if a.category = 2 then [Slot.val a, .second] else [.val a]) ++ lg_sl l).length
    rw [x_cat, List.length_append, List.length_append, ih]
    by_cases h : a.category = 2 <;> simp [h]
theorem Ct_of {args : List Value} (hp : plainName k.1.cls = true) (hn : (lg_sl args).length ≤ k.2.2.1) (kk : E G k R 0 0 mem 0 (x_L (lv_args 0 args)) []) : Ct G k args mem R := by
  refine Met.ofW (cc := k.2.1) (maxL := k.2.2.1) (ret := k.2.2.2.1) hp rfl ?_
  intro p e s m as below meth c s₁ B hml hv
  obtain ⟨rfl, hR, hE, hB⟩ := hv
  have hts := atoms_spec (ws := x_ws k) B.pre
  have hlocks := B.notSynchronized
  have hl := lv_entry (args.map (x_v G)) (n := k.2.2.1) (by rw [x_sl]; exact hn)
  rw [lg_entry_eq]
  generalize (lg_sl (args.map (x_v G)) ++ List.replicate (k.2.2.1 - (lg_sl (args.map (x_v G))).length) Slot.unset).toArray = ls at hl ⊢
  refine kk p e s m _ below meth c _ ⟨B.exec, B.bytes, hml, findClass_of_methodNamed B.named, fun w h => hts w (List.mem_cons_of_mem _ h), (name_of_methodNamed B.named B.method).1, hE, ?_, ?_, ?_⟩ s.heap [] ls hR ⟨hB, fun _ _ => rfl, fun q h => by cases h⟩ ⟨hl.1, hl.2.1, fun i v h => hl.2.2 (i, x_v G v) (x_args args 0 i v h)⟩
  · intro x mem1 H locs ls1 pc1 hd hty hRx hR1 hS1
    obtain ⟨ty, h1, h2⟩ := hty
    exact W.zret (v := x) B.exec B.bytes (B.returns.trans h1) h2 (fun t ht _ => ⟨⟨some (.int x), mem1, rfl, hRx, by rw [ht]; exact hR1⟩, fun q hq => by rw [ht]; exact hS1.2.1 q hq⟩) hS1.2.2 hd
  · intro mem1 H locs ls1 pc1 hd hty hRx hR1 hS1
    exact W.vret B.exec B.bytes (B.returns.trans hty) (fun t ht _ => ⟨⟨none, mem1, rfl, hRx, by rw [ht]; exact hR1⟩, fun q hq => by rw [ht]; exact hS1.2.1 q hq⟩) hS1.2.2 hd
  · intro x mem1 H locs ls1 pc1 hd hty hRx hR1 hS1
    exact W.lret (v := x) B.exec B.bytes (B.returns.trans hty) (fun t ht _ => ⟨⟨some (.long x), mem1, rfl, hRx, by rw [ht]; exact hR1⟩, fun q hq => by rw [ht]; exact hS1.2.1 q hq⟩) hS1.2.2 hd
theorem Ct.mono {args : List Value} {R' : Option Value → xM → Prop} (h : Ct G k args mem R) (hi : ∀ v m', R v m' → R' v m') : Ct G k args mem R' := by
  unfold Ct Met at h ⊢
  refine MetFree.mono h (fun _ _ q => q) (fun _ _ _ _ _ _ => trivial) ?_
  intro a st o t _ q
  obtain ⟨⟨⟨v, m', e1, e2, e3⟩, hf⟩, hL⟩ := q
  exact ⟨⟨⟨v, m', e1, hi v m' e2, e3⟩, hf⟩, hL⟩
def xOk (k : xI) (n : Nat) : Prop := plainName k.1.cls = true ∧ (k.1.cls ≠ "java/lang/invoke/MethodHandle" ∧ k.1.cls ≠ "java/lang/invoke/VarHandle" ∧ (parseMethodDescriptor k.1.desc).map (fun d => d.parameters.length) = some n) ∧ Cond.code k.1 k.2.1 k.2.2.1 k.2.2.2.1 ∈ x_tbl ∧ Cond.initialized k.1.cls ∈ x_tbl
theorem x_blind {args : List Value} : FrameBlind (va_Pc (args.map (x_v G)) (x_P G mem)) := by
  intro a U g mk q
  obtain ⟨q0, q1, q2, q3⟩ := q
  exact ⟨q0, q1, xEn.moved (u := U) (U := U.calling g mk a) (Vm.Alike.refl U.vm) (fun w hw h => x_nest_same (s := U) (U := U.calling g mk a) hw rfl h) rfl q2, q3⟩
theorem x_pre {args : List Value} {p : Program} {e : Env} {s : State} {m : MethodId} {as : Array Value} {below : List Frame} {meth : Method} {c : Code} {Q : State → Prop} {H : Heap} {locs : List Loc} (hF : xFix G k R p e s m as below meth c Q) (hR : xRep G mem H) (hS : xFr G s H locs) : ∀ U : State, U.heap = H → s.WarmedH U.vm → va_Pc (args.map (x_v G)) (x_P G mem) (args.map (x_v G)).toArray U := by
  intro U hU hW
  have hE := hF.2.2.2.2.2.2.1
  refine ⟨rfl, by rw [hU]; exact hR, xEn.moved hW.alike (fun w hw h => x_nest_warm hw hW h) ?_ hE, by rw [hU, hR.1]; omega⟩
  rw [hU]
  exact hS.2.1 _ hE.2.2.2.1
theorem x_cont {R' : Option Value → xM → Prop} {p : Program} {e : Env} {s : State} {m : MethodId} {as a : Array Value} {below : List Frame} {meth : Method} {c : Code} {Q : State → Prop} {H : Heap} {locs : List Loc} {ls : Array Slot} {st0 : List Value} {mc ms : Nat} (hF : xFix G k R p e s m as below meth c Q) (hR : xRep G mem H) (hS : xFr G s H locs) (hL : x_ls G ls k.2.2.1 loc)
    (hr : va_Run p G.1 e (x_rm k) s m as below meth c H locs ce sl mc ms (F0 m pc ls st0) (st.map (x_v G)) (x_Q G R' a) (fun q => G.2.2.2.1 ≤ q)) (kk : ∀ (v : Option Value) (mem' : xM), R' v mem' → E G k R (ce + mc) (sl + ms) mem' (pc + 3) loc (v.toList ++ st)) : W p G.1 e (x_rm k) s m as below meth c H locs ce sl Q (F0 m pc ls st0) := by
  intro T hT X
  obtain ⟨v, st₀, t, T', L, h0, X', hLl, e1, e2, ⟨⟨v', mem', hv, hRv, hR'⟩, hfr⟩, st1⟩ := hr T hT X
  cases hv
  have hst : (v'.map (x_v G)).toList ++ st.map (x_v G) = (v'.toList ++ st).map (x_v G) := by cases v' <;> rfl
  have hfr' : ∀ q : Nat, q < G.2.2.2.1 → T'.heap[q]? = s.heap[q]? := fun q hq => by rw [e1, hfr q hq, h0]; exact hS.2.1 q hq
  obtain ⟨t2, a1, b1⟩ := kk v' mem' hRv p e s m as below meth c Q hF T'.heap (locs ++ L) ls (by rw [e1]; exact hR') ⟨hS.1, hfr', fun q hq => by
    rcases List.mem_append.mp hq with h | h
    · exact hS.2.2 q h
    · exact hLl q h⟩ hL T' rfl X'
  rw [← hst] at a1
  exact ⟨t2, st1 t2 a1, b1⟩
theorem x_sum (h : (st.map fun v => v.category).sum ≤ 8) : ((st.map (x_v G)).map fun v => v.category).sum ≤ 8 := by
  rw [List.map_map]
  have e : List.map ((fun v => v.category) ∘ x_v G) st = st.map fun v => v.category := List.map_congr_left (fun v _ => x_cat G v)
  rw [e]
  exact h
theorem x_callB {k' : xI} {n idx : Nat} {own : String} {p : Program} {e : Env} {s : State} {m : MethodId} {as : Array Value} {below : List Frame} {meth : Method} {c : Code} {Q : State → Prop} (hF : xFix G k R p e s m as below meth c Q) (hok : xOk k' n) (hlink : Cond.methodLink own idx k'.1 ∈ x_tbl) (hroom : k'.2.2.2.2.1 + 1 ≤ k.2.2.2.2.1 ∧ 8 + (k'.2.2.1 + 11) + k'.2.2.2.2.2.1 ≤ k.2.2.2.2.2.1) : CallB (x_rm k) s as own idx k'.1 k'.2.1 k'.2.2.1 k'.2.2.2.1 (x_ws k') (x_rm k') k'.2.2.2.2.2.2.1 k'.2.2.2.2.2.2.2 n := by
  obtain ⟨hx, hb, hml, hw, hts, hnm, hE, -⟩ := hF
  obtain ⟨h1, h2, h3, h4⟩ := hok
  exact callB_of n hts (x_good h3) rfl rfl rfl (hts _ h4) (hts _ hlink) h2 hroom
theorem E_callV {k' : xI} {R' : Option Value → xM → Prop} {n idx r ci N : Nat} {own C : String} {T : u_T} {fs As : List Value} (hd : decode k.2.1 pc = .ok (.invokevirtual idx, 3)) (hown : k.1.cls = own) (hok : xOk k' n) (hinst : Cond.instanceMethod k'.1 ∈ x_tbl) (hsel : Cond.selects C k'.1 k'.1 ∈ x_tbl) (hlink : Cond.methodLink own idx k'.1 ∈ x_tbl) (hroom : k'.2.2.2.2.1 + 1 ≤ k.2.2.2.2.1 ∧ 8 + (k'.2.2.1 + 11) + k'.2.2.2.2.2.1 ≤ k.2.2.2.2.2.1) (hcs : ce + k'.2.2.2.2.2.2.1 ≤ k.2.2.2.2.2.2.1 ∧ sl + k'.2.2.2.2.2.2.2 ≤ k.2.2.2.2.2.2.2) (hrest : (st.map fun v => v.category).sum ≤ 8) (hm : mem[r]? = some (.inr (ci, fs))) (hc : vwCl[ci]? = some (C, T, N)) (hn : As.length = n) (hC : Ct G k' (.ref r :: As) mem R') (kk : ∀ (v : Option Value) (mem' : xM), R' v mem' → E G k R (ce + k'.2.2.2.2.2.2.1) (sl + k'.2.2.2.2.2.2.2) mem' (pc + 3) loc (v.toList ++ st)) : E G k R ce sl mem pc loc (As.reverse ++ .ref r :: st) := by
  intro p e s m args below meth c Q hF H locs ls hR hS hL
  obtain ⟨hx, hb, hml, hw, hts, hnm, hE, -⟩ := id hF
  have hcb := x_callB hF hok hlink hroom
  have hr := va_runV (l := G.1) (e := e) (below := below) (meth := meth) (R := x_rm k) (H := H) (locs := locs) (cells := ce) (slots := sl) (As := As.map (x_v G)) (rest := st.map (x_v G)) (g := F0 m pc ls ((As.reverse ++ .ref r :: st).map (x_v G))) ⟨hx, hb, hml, by rw [← hown]; exact hw, hts⟩ hC ⟨hcb, hts _ hinst, hts _ hsel⟩ ⟨x_blind, va_recv hE.1 (hR.one hm) (ci := ci) (q0 := 0) (q := (C, T, N)) hc rfl, x_pre hF hR hS⟩ rfl (by rw [List.length_map]; exact hn) hL.1 (by simp [List.map_append, List.map_reverse, x_v]) (lv_room (x_sum hrest)) hd hcs
  exact x_cont hF hR hS hL hr kk
theorem E_callS {k' : xI} {R' : Option Value → xM → Prop} {n idx : Nat} {own : String} {As : List Value} (hd : decode k.2.1 pc = .ok (.invokestatic idx, 3)) (hown : k.1.cls = own) (hok : xOk k' n) (hstat : Cond.static k'.1 ∈ x_tbl) (hlink : Cond.methodLink own idx k'.1 ∈ x_tbl) (hroom : k'.2.2.2.2.1 + 1 ≤ k.2.2.2.2.1 ∧ 8 + (k'.2.2.1 + 11) + k'.2.2.2.2.2.1 ≤ k.2.2.2.2.2.1) (hcs : ce + k'.2.2.2.2.2.2.1 ≤ k.2.2.2.2.2.2.1 ∧ sl + k'.2.2.2.2.2.2.2 ≤ k.2.2.2.2.2.2.2) (hrest : (st.map fun v => v.category).sum ≤ 8) (hn : As.length = n) (hC : Ct G k' As mem R') (kk : ∀ (v : Option Value) (mem' : xM), R' v mem' → E G k R (ce + k'.2.2.2.2.2.2.1) (sl + k'.2.2.2.2.2.2.2) mem' (pc + 3) loc (v.toList ++ st)) : E G k R ce sl mem pc loc (As.reverse ++ st) := by
  intro p e s m args below meth c Q hF H locs ls hR hS hL
  obtain ⟨hx, hb, hml, hw, hts, hnm, hE, -⟩ := id hF
  have hcb := x_callB hF hok hlink hroom
  have hr := va_runS (l := G.1) (e := e) (below := below) (meth := meth) (R := x_rm k) (H := H) (locs := locs) (cells := ce) (slots := sl) (As := As.map (x_v G)) (rest := st.map (x_v G)) (g := F0 m pc ls ((As.reverse ++ st).map (x_v G))) ⟨hx, hb, hml, by rw [← hown]; exact hw, hts⟩ hC ⟨hcb, hts _ hstat⟩ ⟨x_blind, x_pre hF hR hS⟩ rfl (by rw [List.length_map]; exact hn) hL.1 (by simp [List.map_append, List.map_reverse]) (lv_room (x_sum hrest)) hd hcs
  exact x_cont hF hR hS hL hr kk
theorem E_callI {k' : xI} {R' : Option Value → xM → Prop} {n idx r : Nat} {own : String} {As : List Value} (hd : decode k.2.1 pc = .ok (.invokespecial idx, 3)) (hown : k.1.cls = own) (hok : xOk k' n) (hret : k'.2.2.2.1 = none) (hname : k'.1.name = "<init>") (hinst : Cond.instanceMethod k'.1 ∈ x_tbl) (hlink : Cond.methodLink own idx k'.1 ∈ x_tbl) (hroom : k'.2.2.2.2.1 + 1 ≤ k.2.2.2.2.1 ∧ 8 + (k'.2.2.1 + 11) + k'.2.2.2.2.2.1 ≤ k.2.2.2.2.2.1) (hcs : ce + k'.2.2.2.2.2.2.1 ≤ k.2.2.2.2.2.2.1 ∧ sl + k'.2.2.2.2.2.2.2 ≤ k.2.2.2.2.2.2.2) (hrest : (st.map fun v => v.category).sum ≤ 8) (hn : As.length = n) (hC : Ct G k' (.ref r :: As) mem R') (kk : ∀ (v : Option Value) (mem' : xM), R' v mem' → E G k R (ce + k'.2.2.2.2.2.2.1) (sl + k'.2.2.2.2.2.2.2) mem' (pc + 3) loc (v.toList ++ st)) : E G k R ce sl mem pc loc (As.reverse ++ .ref r :: st) := by
  intro p e s m args below meth c Q hF H locs ls hR hS hL
  obtain ⟨hx, hb, hml, hw, hts, hnm, hE, -⟩ := id hF
  have hcb := x_callB hF hok hlink hroom
  rw [hret] at hcb
  have hr := va_runI (l := G.1) (e := e) (below := below) (meth := meth) (R := x_rm k) (H := H) (locs := locs) (cells := ce) (slots := sl) (As := As.map (x_v G)) (rest := st.map (x_v G)) (g := F0 m pc ls ((As.reverse ++ .ref r :: st).map (x_v G))) ⟨hx, hb, hml, by rw [← hown]; exact hw, hts⟩ hC ⟨hcb, hname, hts _ hinst⟩ ⟨x_blind, x_pre (args := .ref r :: As) hF hR hS⟩ rfl (by rw [List.length_map]; exact hn) hL.1 (by simp [List.map_append, List.map_reverse, x_v]) (lv_room (x_sum hrest)) hd hcs
  exact x_cont hF hR hS hL hr kk
theorem x_callN {k' : xI} {n idx : Nat} {own host : String} {p : Program} {e : Env} {s : State} {m : MethodId} {as : Array Value} {below : List Frame} {meth : Method} {c : Code} {Q : State → Prop} (hF : xFix G k R p e s m as below meth c Q) (hok : xOk k' n) (hlink : Cond.methodLinkNest own idx k'.1 host ∈ x_nests) (hroom : k'.2.2.2.2.1 + 1 ≤ k.2.2.2.2.1 ∧ 8 + (k'.2.2.1 + 11) + k'.2.2.2.2.2.1 ≤ k.2.2.2.2.2.1) : va_CN (x_rm k) s as own idx k'.1 host k'.2.1 k'.2.2.1 k'.2.2.2.1 (x_ws k') (x_rm k') k'.2.2.2.2.2.2.1 k'.2.2.2.2.2.2.2 n := by
  obtain ⟨hx, hb, hml, hw, hts, hnm, hE, -⟩ := hF
  obtain ⟨h1, h2, h3, h4⟩ := hok
  refine ⟨⟨rfl, rfl, hroom.1, hroom.2, pay_in hts (x_good h3), List.mem_cons_self⟩, hts _ h3, hts _ h4, ⟨h2.1, h2.2.1⟩, fun sig h => ?_, va_Nw.use rfl (hE.2.2.2.2 _ hlink)⟩
  have h5 := h2.2.2
  rw [h] at h5
  exact (Option.some.inj h5).symm
theorem E_callSN {k' : xI} {R' : Option Value → xM → Prop} {n idx : Nat} {own host : String} {As : List Value} (hd : decode k.2.1 pc = .ok (.invokestatic idx, 3)) (hown : k.1.cls = own) (hok : xOk k' n) (hstat : Cond.static k'.1 ∈ x_tbl) (hlink : Cond.methodLinkNest own idx k'.1 host ∈ x_nests) (hroom : k'.2.2.2.2.1 + 1 ≤ k.2.2.2.2.1 ∧ 8 + (k'.2.2.1 + 11) + k'.2.2.2.2.2.1 ≤ k.2.2.2.2.2.1) (hcs : ce + k'.2.2.2.2.2.2.1 ≤ k.2.2.2.2.2.2.1 ∧ sl + k'.2.2.2.2.2.2.2 ≤ k.2.2.2.2.2.2.2) (hrest : (st.map fun v => v.category).sum ≤ 8) (hn : As.length = n) (hC : Ct G k' As mem R') (kk : ∀ (v : Option Value) (mem' : xM), R' v mem' → E G k R (ce + k'.2.2.2.2.2.2.1) (sl + k'.2.2.2.2.2.2.2) mem' (pc + 3) loc (v.toList ++ st)) : E G k R ce sl mem pc loc (As.reverse ++ st) := by
  intro p e s m args below meth c Q hF H locs ls hR hS hL
  obtain ⟨hx, hb, hml, hw, hts, hnm, hE, -⟩ := id hF
  have hcb := x_callN hF hok hlink hroom
  have hr := va_runSN (l := G.1) (e := e) (below := below) (meth := meth) (R := x_rm k) (H := H) (locs := locs) (cells := ce) (slots := sl) (As := As.map (x_v G)) (rest := st.map (x_v G)) (g := F0 m pc ls ((As.reverse ++ st).map (x_v G))) ⟨hx, hb, hml, by rw [← hown]; exact hw, hts⟩ hC ⟨hcb, hts _ hstat, trivial⟩ ⟨x_blind, x_pre hF hR hS⟩ rfl (by rw [List.length_map]; exact hn) hL.1 (by simp [List.map_append, List.map_reverse]) (lv_room (x_sum hrest)) hd hcs
  exact x_cont hF hR hS hL hr kk
theorem E_callIN {k' : xI} {R' : Option Value → xM → Prop} {n idx r : Nat} {own host : String} {As : List Value} (hd : decode k.2.1 pc = .ok (.invokespecial idx, 3)) (hown : k.1.cls = own) (hok : xOk k' n) (hret : k'.2.2.2.1 = none) (hname : k'.1.name = "<init>") (hinst : Cond.instanceMethod k'.1 ∈ x_tbl) (hlink : Cond.methodLinkNest own idx k'.1 host ∈ x_nests) (hroom : k'.2.2.2.2.1 + 1 ≤ k.2.2.2.2.1 ∧ 8 + (k'.2.2.1 + 11) + k'.2.2.2.2.2.1 ≤ k.2.2.2.2.2.1) (hcs : ce + k'.2.2.2.2.2.2.1 ≤ k.2.2.2.2.2.2.1 ∧ sl + k'.2.2.2.2.2.2.2 ≤ k.2.2.2.2.2.2.2) (hrest : (st.map fun v => v.category).sum ≤ 8) (hn : As.length = n) (hC : Ct G k' (.ref r :: As) mem R') (kk : ∀ (v : Option Value) (mem' : xM), R' v mem' → E G k R (ce + k'.2.2.2.2.2.2.1) (sl + k'.2.2.2.2.2.2.2) mem' (pc + 3) loc (v.toList ++ st)) : E G k R ce sl mem pc loc (As.reverse ++ .ref r :: st) := by
  intro p e s m args below meth c Q hF H locs ls hR hS hL
  obtain ⟨hx, hb, hml, hw, hts, hnm, hE, -⟩ := id hF
  have hcb := x_callN hF hok hlink hroom
  rw [hret] at hcb
  have hr := va_runIN (l := G.1) (e := e) (below := below) (meth := meth) (R := x_rm k) (H := H) (locs := locs) (cells := ce) (slots := sl) (As := As.map (x_v G)) (rest := st.map (x_v G)) (g := F0 m pc ls ((As.reverse ++ .ref r :: st).map (x_v G))) ⟨hx, hb, hml, by rw [← hown]; exact hw, hts⟩ hC ⟨hcb, hname, hts _ hinst⟩ ⟨x_blind, x_pre (args := .ref r :: As) hF hR hS⟩ rfl (by rw [List.length_map]; exact hn) hL.1 (by simp [List.map_append, List.map_reverse, x_v]) (lv_room (x_sum hrest)) hd hcs
  exact x_cont hF hR hS hL hr kk
/-- a contract whose answer and memory are given -/
abbrev x_R (v : Option Value) (mem2 : xM) : Option Value → xM → Prop := fun v' m => v' = v ∧ m = mem2
def Dt (G : xG) (k : xI) (args : List Value) (mem : xM) (v : Option Value) (mem2 : xM) : Prop := Ct G k args mem (x_R v mem2)
theorem x_i {a b : Int32} (h : a = b) : some (Value.int a) = some (Value.int b) := congrArg (fun z => some (Value.int z)) h
theorem x_l {a b : Int64} (h : a = b) : some (Value.long a) = some (Value.long b) := congrArg (fun z => some (Value.long z)) h
theorem x_leaf {v v' : Option Value} {m : xM} (h : v = v') : x_R v' m v m := ⟨h, rfl⟩
def x_k0 (k : xI) : Prop := k.2.2.2.2.2.2.1 = 0 ∧ k.2.2.2.2.2.2.2 = 0
def xRm (k k' : xI) : Prop := k'.2.2.2.2.1 + 1 ≤ k.2.2.2.2.1 ∧ 8 + (k'.2.2.1 + 11) + k'.2.2.2.2.2.1 ≤ k.2.2.2.2.2.1
/-- the answer is given, of the memory something is said -/
def Pt (G : xG) (k : xI) (args : List Value) (mem : xM) (v : Option Value) (P : xM → Prop) : Prop := Ct G k args mem (fun v' m => v' = v ∧ P m)
theorem Dt.pt {args : List Value} {v : Option Value} {mem2 : xM} {P : xM → Prop} (h : Dt G k args mem v mem2) (hP : P mem2) : Pt G k args mem v P := Ct.mono h (fun _ _ q => ⟨q.1, by rw [q.2]; exact hP⟩)
theorem Pt.imp {args : List Value} {v : Option Value} {P P' : xM → Prop} (h : Pt G k args mem v P) (hP : ∀ m, P m → P' m) : Pt G k args mem v P' := Ct.mono h (fun _ m q => ⟨q.1, hP m q.2⟩)
theorem E_V0iP {k' : xI} {idx : Nat} {own : String} {P : xM → Prop} {r : Nat} {ci N : Nat} {C : String} {T : u_T} {fs : List Value} {x : Int32} (hd : decode k.2.1 pc = .ok (.invokevirtual idx, 3)) (hown : k.1.cls = own) (hok : xOk k' 0) (hinst : Cond.instanceMethod k'.1 ∈ x_tbl) (hsel : Cond.selects C k'.1 k'.1 ∈ x_tbl) (hlink : Cond.methodLink own idx k'.1 ∈ x_tbl) (hroom : xRm k k') (h0 : x_k0 k') (hcs : ce ≤ k.2.2.2.2.2.2.1 ∧ sl ≤ k.2.2.2.2.2.2.2) (hrest : (st.map fun v => v.category).sum ≤ 8) (hm : mem[r]? = some (.inr (ci, fs))) (hc : vwCl[ci]? = some (C, T, N)) (hC : Pt G k' [.ref r] mem (some (.int x)) P) (kk : ∀ m2 : xM, P m2 → E G k R ce sl m2 (pc + 3) loc (.int x :: st)) : E G k R ce sl mem pc loc (.ref r :: st) := E_callV (As := []) hd hown hok hinst hsel hlink hroom ⟨by rw [h0.1]; exact hcs.1, by rw [h0.2]; exact hcs.2⟩ hrest hm hc rfl hC (fun v mem' hv => by obtain ⟨rfl, hv2⟩ := hv; rw [h0.1, h0.2]; exact kk _ hv2)
theorem E_V0vP {k' : xI} {idx : Nat} {own : String} {P : xM → Prop} {r : Nat} {ci N : Nat} {C : String} {T : u_T} {fs : List Value} (hd : decode k.2.1 pc = .ok (.invokevirtual idx, 3)) (hown : k.1.cls = own) (hok : xOk k' 0) (hinst : Cond.instanceMethod k'.1 ∈ x_tbl) (hsel : Cond.selects C k'.1 k'.1 ∈ x_tbl) (hlink : Cond.methodLink own idx k'.1 ∈ x_tbl) (hroom : xRm k k') (h0 : x_k0 k') (hcs : ce ≤ k.2.2.2.2.2.2.1 ∧ sl ≤ k.2.2.2.2.2.2.2) (hrest : (st.map fun v => v.category).sum ≤ 8) (hm : mem[r]? = some (.inr (ci, fs))) (hc : vwCl[ci]? = some (C, T, N)) (hC : Pt G k' [.ref r] mem (none) P) (kk : ∀ m2 : xM, P m2 → E G k R ce sl m2 (pc + 3) loc (st)) : E G k R ce sl mem pc loc (.ref r :: st) := E_callV (As := []) hd hown hok hinst hsel hlink hroom ⟨by rw [h0.1]; exact hcs.1, by rw [h0.2]; exact hcs.2⟩ hrest hm hc rfl hC (fun v mem' hv => by obtain ⟨rfl, hv2⟩ := hv; rw [h0.1, h0.2]; exact kk _ hv2)
theorem E_V1iP {k' : xI} {idx : Nat} {own : String} {P : xM → Prop} {r : Nat} {ci N : Nat} {C : String} {T : u_T} {fs : List Value} {a1 : Value} {x : Int32} (hd : decode k.2.1 pc = .ok (.invokevirtual idx, 3)) (hown : k.1.cls = own) (hok : xOk k' 1) (hinst : Cond.instanceMethod k'.1 ∈ x_tbl) (hsel : Cond.selects C k'.1 k'.1 ∈ x_tbl) (hlink : Cond.methodLink own idx k'.1 ∈ x_tbl) (hroom : xRm k k') (h0 : x_k0 k') (hcs : ce ≤ k.2.2.2.2.2.2.1 ∧ sl ≤ k.2.2.2.2.2.2.2) (hrest : (st.map fun v => v.category).sum ≤ 8) (hm : mem[r]? = some (.inr (ci, fs))) (hc : vwCl[ci]? = some (C, T, N)) (hC : Pt G k' [.ref r, a1] mem (some (.int x)) P) (kk : ∀ m2 : xM, P m2 → E G k R ce sl m2 (pc + 3) loc (.int x :: st)) : E G k R ce sl mem pc loc (a1 :: .ref r :: st) := E_callV (As := [a1]) hd hown hok hinst hsel hlink hroom ⟨by rw [h0.1]; exact hcs.1, by rw [h0.2]; exact hcs.2⟩ hrest hm hc rfl hC (fun v mem' hv => by obtain ⟨rfl, hv2⟩ := hv; rw [h0.1, h0.2]; exact kk _ hv2)
theorem E_V1vP {k' : xI} {idx : Nat} {own : String} {P : xM → Prop} {r : Nat} {ci N : Nat} {C : String} {T : u_T} {fs : List Value} {a1 : Value} (hd : decode k.2.1 pc = .ok (.invokevirtual idx, 3)) (hown : k.1.cls = own) (hok : xOk k' 1) (hinst : Cond.instanceMethod k'.1 ∈ x_tbl) (hsel : Cond.selects C k'.1 k'.1 ∈ x_tbl) (hlink : Cond.methodLink own idx k'.1 ∈ x_tbl) (hroom : xRm k k') (h0 : x_k0 k') (hcs : ce ≤ k.2.2.2.2.2.2.1 ∧ sl ≤ k.2.2.2.2.2.2.2) (hrest : (st.map fun v => v.category).sum ≤ 8) (hm : mem[r]? = some (.inr (ci, fs))) (hc : vwCl[ci]? = some (C, T, N)) (hC : Pt G k' [.ref r, a1] mem (none) P) (kk : ∀ m2 : xM, P m2 → E G k R ce sl m2 (pc + 3) loc (st)) : E G k R ce sl mem pc loc (a1 :: .ref r :: st) := E_callV (As := [a1]) hd hown hok hinst hsel hlink hroom ⟨by rw [h0.1]; exact hcs.1, by rw [h0.2]; exact hcs.2⟩ hrest hm hc rfl hC (fun v mem' hv => by obtain ⟨rfl, hv2⟩ := hv; rw [h0.1, h0.2]; exact kk _ hv2)
theorem E_V2iP {k' : xI} {idx : Nat} {own : String} {P : xM → Prop} {r : Nat} {ci N : Nat} {C : String} {T : u_T} {fs : List Value} {a1 a2 : Value} {x : Int32} (hd : decode k.2.1 pc = .ok (.invokevirtual idx, 3)) (hown : k.1.cls = own) (hok : xOk k' 2) (hinst : Cond.instanceMethod k'.1 ∈ x_tbl) (hsel : Cond.selects C k'.1 k'.1 ∈ x_tbl) (hlink : Cond.methodLink own idx k'.1 ∈ x_tbl) (hroom : xRm k k') (h0 : x_k0 k') (hcs : ce ≤ k.2.2.2.2.2.2.1 ∧ sl ≤ k.2.2.2.2.2.2.2) (hrest : (st.map fun v => v.category).sum ≤ 8) (hm : mem[r]? = some (.inr (ci, fs))) (hc : vwCl[ci]? = some (C, T, N)) (hC : Pt G k' [.ref r, a1, a2] mem (some (.int x)) P) (kk : ∀ m2 : xM, P m2 → E G k R ce sl m2 (pc + 3) loc (.int x :: st)) : E G k R ce sl mem pc loc (a2 :: a1 :: .ref r :: st) := E_callV (As := [a1, a2]) hd hown hok hinst hsel hlink hroom ⟨by rw [h0.1]; exact hcs.1, by rw [h0.2]; exact hcs.2⟩ hrest hm hc rfl hC (fun v mem' hv => by obtain ⟨rfl, hv2⟩ := hv; rw [h0.1, h0.2]; exact kk _ hv2)
theorem E_V2vP {k' : xI} {idx : Nat} {own : String} {P : xM → Prop} {r : Nat} {ci N : Nat} {C : String} {T : u_T} {fs : List Value} {a1 a2 : Value} (hd : decode k.2.1 pc = .ok (.invokevirtual idx, 3)) (hown : k.1.cls = own) (hok : xOk k' 2) (hinst : Cond.instanceMethod k'.1 ∈ x_tbl) (hsel : Cond.selects C k'.1 k'.1 ∈ x_tbl) (hlink : Cond.methodLink own idx k'.1 ∈ x_tbl) (hroom : xRm k k') (h0 : x_k0 k') (hcs : ce ≤ k.2.2.2.2.2.2.1 ∧ sl ≤ k.2.2.2.2.2.2.2) (hrest : (st.map fun v => v.category).sum ≤ 8) (hm : mem[r]? = some (.inr (ci, fs))) (hc : vwCl[ci]? = some (C, T, N)) (hC : Pt G k' [.ref r, a1, a2] mem (none) P) (kk : ∀ m2 : xM, P m2 → E G k R ce sl m2 (pc + 3) loc (st)) : E G k R ce sl mem pc loc (a2 :: a1 :: .ref r :: st) := E_callV (As := [a1, a2]) hd hown hok hinst hsel hlink hroom ⟨by rw [h0.1]; exact hcs.1, by rw [h0.2]; exact hcs.2⟩ hrest hm hc rfl hC (fun v mem' hv => by obtain ⟨rfl, hv2⟩ := hv; rw [h0.1, h0.2]; exact kk _ hv2)
theorem E_V0i {k' : xI} {idx : Nat} {own : String} {mem2 : xM} {r : Nat} {ci N : Nat} {C : String} {T : u_T} {fs : List Value} {x : Int32} (hd : decode k.2.1 pc = .ok (.invokevirtual idx, 3)) (hown : k.1.cls = own) (hok : xOk k' 0) (hinst : Cond.instanceMethod k'.1 ∈ x_tbl) (hsel : Cond.selects C k'.1 k'.1 ∈ x_tbl) (hlink : Cond.methodLink own idx k'.1 ∈ x_tbl) (hroom : xRm k k') (h0 : x_k0 k') (hcs : ce ≤ k.2.2.2.2.2.2.1 ∧ sl ≤ k.2.2.2.2.2.2.2) (hrest : (st.map fun v => v.category).sum ≤ 8) (hm : mem[r]? = some (.inr (ci, fs))) (hc : vwCl[ci]? = some (C, T, N)) (hC : Dt G k' [.ref r] mem (some (.int x)) mem2) (kk : E G k R ce sl mem2 (pc + 3) loc (.int x :: st)) : E G k R ce sl mem pc loc (.ref r :: st) := E_callV (As := []) hd hown hok hinst hsel hlink hroom ⟨by rw [h0.1]; exact hcs.1, by rw [h0.2]; exact hcs.2⟩ hrest hm hc rfl hC (fun v mem' hv => by obtain ⟨rfl, rfl⟩ := hv; rw [h0.1, h0.2]; exact kk)
theorem E_V0l {k' : xI} {idx : Nat} {own : String} {mem2 : xM} {r : Nat} {ci N : Nat} {C : String} {T : u_T} {fs : List Value} {x : Int64} (hd : decode k.2.1 pc = .ok (.invokevirtual idx, 3)) (hown : k.1.cls = own) (hok : xOk k' 0) (hinst : Cond.instanceMethod k'.1 ∈ x_tbl) (hsel : Cond.selects C k'.1 k'.1 ∈ x_tbl) (hlink : Cond.methodLink own idx k'.1 ∈ x_tbl) (hroom : xRm k k') (h0 : x_k0 k') (hcs : ce ≤ k.2.2.2.2.2.2.1 ∧ sl ≤ k.2.2.2.2.2.2.2) (hrest : (st.map fun v => v.category).sum ≤ 8) (hm : mem[r]? = some (.inr (ci, fs))) (hc : vwCl[ci]? = some (C, T, N)) (hC : Dt G k' [.ref r] mem (some (.long x)) mem2) (kk : E G k R ce sl mem2 (pc + 3) loc (.long x :: st)) : E G k R ce sl mem pc loc (.ref r :: st) := E_callV (As := []) hd hown hok hinst hsel hlink hroom ⟨by rw [h0.1]; exact hcs.1, by rw [h0.2]; exact hcs.2⟩ hrest hm hc rfl hC (fun v mem' hv => by obtain ⟨rfl, rfl⟩ := hv; rw [h0.1, h0.2]; exact kk)
theorem E_V0v {k' : xI} {idx : Nat} {own : String} {mem2 : xM} {r : Nat} {ci N : Nat} {C : String} {T : u_T} {fs : List Value} (hd : decode k.2.1 pc = .ok (.invokevirtual idx, 3)) (hown : k.1.cls = own) (hok : xOk k' 0) (hinst : Cond.instanceMethod k'.1 ∈ x_tbl) (hsel : Cond.selects C k'.1 k'.1 ∈ x_tbl) (hlink : Cond.methodLink own idx k'.1 ∈ x_tbl) (hroom : xRm k k') (h0 : x_k0 k') (hcs : ce ≤ k.2.2.2.2.2.2.1 ∧ sl ≤ k.2.2.2.2.2.2.2) (hrest : (st.map fun v => v.category).sum ≤ 8) (hm : mem[r]? = some (.inr (ci, fs))) (hc : vwCl[ci]? = some (C, T, N)) (hC : Dt G k' [.ref r] mem (none) mem2) (kk : E G k R ce sl mem2 (pc + 3) loc (st)) : E G k R ce sl mem pc loc (.ref r :: st) := E_callV (As := []) hd hown hok hinst hsel hlink hroom ⟨by rw [h0.1]; exact hcs.1, by rw [h0.2]; exact hcs.2⟩ hrest hm hc rfl hC (fun v mem' hv => by obtain ⟨rfl, rfl⟩ := hv; rw [h0.1, h0.2]; exact kk)
theorem E_V1i {k' : xI} {idx : Nat} {own : String} {mem2 : xM} {r : Nat} {ci N : Nat} {C : String} {T : u_T} {fs : List Value} {a1 : Value} {x : Int32} (hd : decode k.2.1 pc = .ok (.invokevirtual idx, 3)) (hown : k.1.cls = own) (hok : xOk k' 1) (hinst : Cond.instanceMethod k'.1 ∈ x_tbl) (hsel : Cond.selects C k'.1 k'.1 ∈ x_tbl) (hlink : Cond.methodLink own idx k'.1 ∈ x_tbl) (hroom : xRm k k') (h0 : x_k0 k') (hcs : ce ≤ k.2.2.2.2.2.2.1 ∧ sl ≤ k.2.2.2.2.2.2.2) (hrest : (st.map fun v => v.category).sum ≤ 8) (hm : mem[r]? = some (.inr (ci, fs))) (hc : vwCl[ci]? = some (C, T, N)) (hC : Dt G k' [.ref r, a1] mem (some (.int x)) mem2) (kk : E G k R ce sl mem2 (pc + 3) loc (.int x :: st)) : E G k R ce sl mem pc loc (a1 :: .ref r :: st) := E_callV (As := [a1]) hd hown hok hinst hsel hlink hroom ⟨by rw [h0.1]; exact hcs.1, by rw [h0.2]; exact hcs.2⟩ hrest hm hc rfl hC (fun v mem' hv => by obtain ⟨rfl, rfl⟩ := hv; rw [h0.1, h0.2]; exact kk)
theorem E_V1l {k' : xI} {idx : Nat} {own : String} {mem2 : xM} {r : Nat} {ci N : Nat} {C : String} {T : u_T} {fs : List Value} {a1 : Value} {x : Int64} (hd : decode k.2.1 pc = .ok (.invokevirtual idx, 3)) (hown : k.1.cls = own) (hok : xOk k' 1) (hinst : Cond.instanceMethod k'.1 ∈ x_tbl) (hsel : Cond.selects C k'.1 k'.1 ∈ x_tbl) (hlink : Cond.methodLink own idx k'.1 ∈ x_tbl) (hroom : xRm k k') (h0 : x_k0 k') (hcs : ce ≤ k.2.2.2.2.2.2.1 ∧ sl ≤ k.2.2.2.2.2.2.2) (hrest : (st.map fun v => v.category).sum ≤ 8) (hm : mem[r]? = some (.inr (ci, fs))) (hc : vwCl[ci]? = some (C, T, N)) (hC : Dt G k' [.ref r, a1] mem (some (.long x)) mem2) (kk : E G k R ce sl mem2 (pc + 3) loc (.long x :: st)) : E G k R ce sl mem pc loc (a1 :: .ref r :: st) := E_callV (As := [a1]) hd hown hok hinst hsel hlink hroom ⟨by rw [h0.1]; exact hcs.1, by rw [h0.2]; exact hcs.2⟩ hrest hm hc rfl hC (fun v mem' hv => by obtain ⟨rfl, rfl⟩ := hv; rw [h0.1, h0.2]; exact kk)
theorem E_V1v {k' : xI} {idx : Nat} {own : String} {mem2 : xM} {r : Nat} {ci N : Nat} {C : String} {T : u_T} {fs : List Value} {a1 : Value} (hd : decode k.2.1 pc = .ok (.invokevirtual idx, 3)) (hown : k.1.cls = own) (hok : xOk k' 1) (hinst : Cond.instanceMethod k'.1 ∈ x_tbl) (hsel : Cond.selects C k'.1 k'.1 ∈ x_tbl) (hlink : Cond.methodLink own idx k'.1 ∈ x_tbl) (hroom : xRm k k') (h0 : x_k0 k') (hcs : ce ≤ k.2.2.2.2.2.2.1 ∧ sl ≤ k.2.2.2.2.2.2.2) (hrest : (st.map fun v => v.category).sum ≤ 8) (hm : mem[r]? = some (.inr (ci, fs))) (hc : vwCl[ci]? = some (C, T, N)) (hC : Dt G k' [.ref r, a1] mem (none) mem2) (kk : E G k R ce sl mem2 (pc + 3) loc (st)) : E G k R ce sl mem pc loc (a1 :: .ref r :: st) := E_callV (As := [a1]) hd hown hok hinst hsel hlink hroom ⟨by rw [h0.1]; exact hcs.1, by rw [h0.2]; exact hcs.2⟩ hrest hm hc rfl hC (fun v mem' hv => by obtain ⟨rfl, rfl⟩ := hv; rw [h0.1, h0.2]; exact kk)
theorem E_V2i {k' : xI} {idx : Nat} {own : String} {mem2 : xM} {r : Nat} {ci N : Nat} {C : String} {T : u_T} {fs : List Value} {a1 a2 : Value} {x : Int32} (hd : decode k.2.1 pc = .ok (.invokevirtual idx, 3)) (hown : k.1.cls = own) (hok : xOk k' 2) (hinst : Cond.instanceMethod k'.1 ∈ x_tbl) (hsel : Cond.selects C k'.1 k'.1 ∈ x_tbl) (hlink : Cond.methodLink own idx k'.1 ∈ x_tbl) (hroom : xRm k k') (h0 : x_k0 k') (hcs : ce ≤ k.2.2.2.2.2.2.1 ∧ sl ≤ k.2.2.2.2.2.2.2) (hrest : (st.map fun v => v.category).sum ≤ 8) (hm : mem[r]? = some (.inr (ci, fs))) (hc : vwCl[ci]? = some (C, T, N)) (hC : Dt G k' [.ref r, a1, a2] mem (some (.int x)) mem2) (kk : E G k R ce sl mem2 (pc + 3) loc (.int x :: st)) : E G k R ce sl mem pc loc (a2 :: a1 :: .ref r :: st) := E_callV (As := [a1, a2]) hd hown hok hinst hsel hlink hroom ⟨by rw [h0.1]; exact hcs.1, by rw [h0.2]; exact hcs.2⟩ hrest hm hc rfl hC (fun v mem' hv => by obtain ⟨rfl, rfl⟩ := hv; rw [h0.1, h0.2]; exact kk)
theorem E_V2l {k' : xI} {idx : Nat} {own : String} {mem2 : xM} {r : Nat} {ci N : Nat} {C : String} {T : u_T} {fs : List Value} {a1 a2 : Value} {x : Int64} (hd : decode k.2.1 pc = .ok (.invokevirtual idx, 3)) (hown : k.1.cls = own) (hok : xOk k' 2) (hinst : Cond.instanceMethod k'.1 ∈ x_tbl) (hsel : Cond.selects C k'.1 k'.1 ∈ x_tbl) (hlink : Cond.methodLink own idx k'.1 ∈ x_tbl) (hroom : xRm k k') (h0 : x_k0 k') (hcs : ce ≤ k.2.2.2.2.2.2.1 ∧ sl ≤ k.2.2.2.2.2.2.2) (hrest : (st.map fun v => v.category).sum ≤ 8) (hm : mem[r]? = some (.inr (ci, fs))) (hc : vwCl[ci]? = some (C, T, N)) (hC : Dt G k' [.ref r, a1, a2] mem (some (.long x)) mem2) (kk : E G k R ce sl mem2 (pc + 3) loc (.long x :: st)) : E G k R ce sl mem pc loc (a2 :: a1 :: .ref r :: st) := E_callV (As := [a1, a2]) hd hown hok hinst hsel hlink hroom ⟨by rw [h0.1]; exact hcs.1, by rw [h0.2]; exact hcs.2⟩ hrest hm hc rfl hC (fun v mem' hv => by obtain ⟨rfl, rfl⟩ := hv; rw [h0.1, h0.2]; exact kk)
theorem E_V2v {k' : xI} {idx : Nat} {own : String} {mem2 : xM} {r : Nat} {ci N : Nat} {C : String} {T : u_T} {fs : List Value} {a1 a2 : Value} (hd : decode k.2.1 pc = .ok (.invokevirtual idx, 3)) (hown : k.1.cls = own) (hok : xOk k' 2) (hinst : Cond.instanceMethod k'.1 ∈ x_tbl) (hsel : Cond.selects C k'.1 k'.1 ∈ x_tbl) (hlink : Cond.methodLink own idx k'.1 ∈ x_tbl) (hroom : xRm k k') (h0 : x_k0 k') (hcs : ce ≤ k.2.2.2.2.2.2.1 ∧ sl ≤ k.2.2.2.2.2.2.2) (hrest : (st.map fun v => v.category).sum ≤ 8) (hm : mem[r]? = some (.inr (ci, fs))) (hc : vwCl[ci]? = some (C, T, N)) (hC : Dt G k' [.ref r, a1, a2] mem (none) mem2) (kk : E G k R ce sl mem2 (pc + 3) loc (st)) : E G k R ce sl mem pc loc (a2 :: a1 :: .ref r :: st) := E_callV (As := [a1, a2]) hd hown hok hinst hsel hlink hroom ⟨by rw [h0.1]; exact hcs.1, by rw [h0.2]; exact hcs.2⟩ hrest hm hc rfl hC (fun v mem' hv => by obtain ⟨rfl, rfl⟩ := hv; rw [h0.1, h0.2]; exact kk)
theorem E_V3i {k' : xI} {idx : Nat} {own : String} {mem2 : xM} {r : Nat} {ci N : Nat} {C : String} {T : u_T} {fs : List Value} {a1 a2 a3 : Value} {x : Int32} (hd : decode k.2.1 pc = .ok (.invokevirtual idx, 3)) (hown : k.1.cls = own) (hok : xOk k' 3) (hinst : Cond.instanceMethod k'.1 ∈ x_tbl) (hsel : Cond.selects C k'.1 k'.1 ∈ x_tbl) (hlink : Cond.methodLink own idx k'.1 ∈ x_tbl) (hroom : xRm k k') (h0 : x_k0 k') (hcs : ce ≤ k.2.2.2.2.2.2.1 ∧ sl ≤ k.2.2.2.2.2.2.2) (hrest : (st.map fun v => v.category).sum ≤ 8) (hm : mem[r]? = some (.inr (ci, fs))) (hc : vwCl[ci]? = some (C, T, N)) (hC : Dt G k' [.ref r, a1, a2, a3] mem (some (.int x)) mem2) (kk : E G k R ce sl mem2 (pc + 3) loc (.int x :: st)) : E G k R ce sl mem pc loc (a3 :: a2 :: a1 :: .ref r :: st) := E_callV (As := [a1, a2, a3]) hd hown hok hinst hsel hlink hroom ⟨by rw [h0.1]; exact hcs.1, by rw [h0.2]; exact hcs.2⟩ hrest hm hc rfl hC (fun v mem' hv => by obtain ⟨rfl, rfl⟩ := hv; rw [h0.1, h0.2]; exact kk)
theorem E_V3l {k' : xI} {idx : Nat} {own : String} {mem2 : xM} {r : Nat} {ci N : Nat} {C : String} {T : u_T} {fs : List Value} {a1 a2 a3 : Value} {x : Int64} (hd : decode k.2.1 pc = .ok (.invokevirtual idx, 3)) (hown : k.1.cls = own) (hok : xOk k' 3) (hinst : Cond.instanceMethod k'.1 ∈ x_tbl) (hsel : Cond.selects C k'.1 k'.1 ∈ x_tbl) (hlink : Cond.methodLink own idx k'.1 ∈ x_tbl) (hroom : xRm k k') (h0 : x_k0 k') (hcs : ce ≤ k.2.2.2.2.2.2.1 ∧ sl ≤ k.2.2.2.2.2.2.2) (hrest : (st.map fun v => v.category).sum ≤ 8) (hm : mem[r]? = some (.inr (ci, fs))) (hc : vwCl[ci]? = some (C, T, N)) (hC : Dt G k' [.ref r, a1, a2, a3] mem (some (.long x)) mem2) (kk : E G k R ce sl mem2 (pc + 3) loc (.long x :: st)) : E G k R ce sl mem pc loc (a3 :: a2 :: a1 :: .ref r :: st) := E_callV (As := [a1, a2, a3]) hd hown hok hinst hsel hlink hroom ⟨by rw [h0.1]; exact hcs.1, by rw [h0.2]; exact hcs.2⟩ hrest hm hc rfl hC (fun v mem' hv => by obtain ⟨rfl, rfl⟩ := hv; rw [h0.1, h0.2]; exact kk)
theorem E_V3v {k' : xI} {idx : Nat} {own : String} {mem2 : xM} {r : Nat} {ci N : Nat} {C : String} {T : u_T} {fs : List Value} {a1 a2 a3 : Value} (hd : decode k.2.1 pc = .ok (.invokevirtual idx, 3)) (hown : k.1.cls = own) (hok : xOk k' 3) (hinst : Cond.instanceMethod k'.1 ∈ x_tbl) (hsel : Cond.selects C k'.1 k'.1 ∈ x_tbl) (hlink : Cond.methodLink own idx k'.1 ∈ x_tbl) (hroom : xRm k k') (h0 : x_k0 k') (hcs : ce ≤ k.2.2.2.2.2.2.1 ∧ sl ≤ k.2.2.2.2.2.2.2) (hrest : (st.map fun v => v.category).sum ≤ 8) (hm : mem[r]? = some (.inr (ci, fs))) (hc : vwCl[ci]? = some (C, T, N)) (hC : Dt G k' [.ref r, a1, a2, a3] mem (none) mem2) (kk : E G k R ce sl mem2 (pc + 3) loc (st)) : E G k R ce sl mem pc loc (a3 :: a2 :: a1 :: .ref r :: st) := E_callV (As := [a1, a2, a3]) hd hown hok hinst hsel hlink hroom ⟨by rw [h0.1]; exact hcs.1, by rw [h0.2]; exact hcs.2⟩ hrest hm hc rfl hC (fun v mem' hv => by obtain ⟨rfl, rfl⟩ := hv; rw [h0.1, h0.2]; exact kk)
theorem E_V4i {k' : xI} {idx : Nat} {own : String} {mem2 : xM} {r : Nat} {ci N : Nat} {C : String} {T : u_T} {fs : List Value} {a1 a2 a3 a4 : Value} {x : Int32} (hd : decode k.2.1 pc = .ok (.invokevirtual idx, 3)) (hown : k.1.cls = own) (hok : xOk k' 4) (hinst : Cond.instanceMethod k'.1 ∈ x_tbl) (hsel : Cond.selects C k'.1 k'.1 ∈ x_tbl) (hlink : Cond.methodLink own idx k'.1 ∈ x_tbl) (hroom : xRm k k') (h0 : x_k0 k') (hcs : ce ≤ k.2.2.2.2.2.2.1 ∧ sl ≤ k.2.2.2.2.2.2.2) (hrest : (st.map fun v => v.category).sum ≤ 8) (hm : mem[r]? = some (.inr (ci, fs))) (hc : vwCl[ci]? = some (C, T, N)) (hC : Dt G k' [.ref r, a1, a2, a3, a4] mem (some (.int x)) mem2) (kk : E G k R ce sl mem2 (pc + 3) loc (.int x :: st)) : E G k R ce sl mem pc loc (a4 :: a3 :: a2 :: a1 :: .ref r :: st) := E_callV (As := [a1, a2, a3, a4]) hd hown hok hinst hsel hlink hroom ⟨by rw [h0.1]; exact hcs.1, by rw [h0.2]; exact hcs.2⟩ hrest hm hc rfl hC (fun v mem' hv => by obtain ⟨rfl, rfl⟩ := hv; rw [h0.1, h0.2]; exact kk)
theorem E_V4l {k' : xI} {idx : Nat} {own : String} {mem2 : xM} {r : Nat} {ci N : Nat} {C : String} {T : u_T} {fs : List Value} {a1 a2 a3 a4 : Value} {x : Int64} (hd : decode k.2.1 pc = .ok (.invokevirtual idx, 3)) (hown : k.1.cls = own) (hok : xOk k' 4) (hinst : Cond.instanceMethod k'.1 ∈ x_tbl) (hsel : Cond.selects C k'.1 k'.1 ∈ x_tbl) (hlink : Cond.methodLink own idx k'.1 ∈ x_tbl) (hroom : xRm k k') (h0 : x_k0 k') (hcs : ce ≤ k.2.2.2.2.2.2.1 ∧ sl ≤ k.2.2.2.2.2.2.2) (hrest : (st.map fun v => v.category).sum ≤ 8) (hm : mem[r]? = some (.inr (ci, fs))) (hc : vwCl[ci]? = some (C, T, N)) (hC : Dt G k' [.ref r, a1, a2, a3, a4] mem (some (.long x)) mem2) (kk : E G k R ce sl mem2 (pc + 3) loc (.long x :: st)) : E G k R ce sl mem pc loc (a4 :: a3 :: a2 :: a1 :: .ref r :: st) := E_callV (As := [a1, a2, a3, a4]) hd hown hok hinst hsel hlink hroom ⟨by rw [h0.1]; exact hcs.1, by rw [h0.2]; exact hcs.2⟩ hrest hm hc rfl hC (fun v mem' hv => by obtain ⟨rfl, rfl⟩ := hv; rw [h0.1, h0.2]; exact kk)
theorem E_V4v {k' : xI} {idx : Nat} {own : String} {mem2 : xM} {r : Nat} {ci N : Nat} {C : String} {T : u_T} {fs : List Value} {a1 a2 a3 a4 : Value} (hd : decode k.2.1 pc = .ok (.invokevirtual idx, 3)) (hown : k.1.cls = own) (hok : xOk k' 4) (hinst : Cond.instanceMethod k'.1 ∈ x_tbl) (hsel : Cond.selects C k'.1 k'.1 ∈ x_tbl) (hlink : Cond.methodLink own idx k'.1 ∈ x_tbl) (hroom : xRm k k') (h0 : x_k0 k') (hcs : ce ≤ k.2.2.2.2.2.2.1 ∧ sl ≤ k.2.2.2.2.2.2.2) (hrest : (st.map fun v => v.category).sum ≤ 8) (hm : mem[r]? = some (.inr (ci, fs))) (hc : vwCl[ci]? = some (C, T, N)) (hC : Dt G k' [.ref r, a1, a2, a3, a4] mem (none) mem2) (kk : E G k R ce sl mem2 (pc + 3) loc (st)) : E G k R ce sl mem pc loc (a4 :: a3 :: a2 :: a1 :: .ref r :: st) := E_callV (As := [a1, a2, a3, a4]) hd hown hok hinst hsel hlink hroom ⟨by rw [h0.1]; exact hcs.1, by rw [h0.2]; exact hcs.2⟩ hrest hm hc rfl hC (fun v mem' hv => by obtain ⟨rfl, rfl⟩ := hv; rw [h0.1, h0.2]; exact kk)
theorem E_V5i {k' : xI} {idx : Nat} {own : String} {mem2 : xM} {r : Nat} {ci N : Nat} {C : String} {T : u_T} {fs : List Value} {a1 a2 a3 a4 a5 : Value} {x : Int32} (hd : decode k.2.1 pc = .ok (.invokevirtual idx, 3)) (hown : k.1.cls = own) (hok : xOk k' 5) (hinst : Cond.instanceMethod k'.1 ∈ x_tbl) (hsel : Cond.selects C k'.1 k'.1 ∈ x_tbl) (hlink : Cond.methodLink own idx k'.1 ∈ x_tbl) (hroom : xRm k k') (h0 : x_k0 k') (hcs : ce ≤ k.2.2.2.2.2.2.1 ∧ sl ≤ k.2.2.2.2.2.2.2) (hrest : (st.map fun v => v.category).sum ≤ 8) (hm : mem[r]? = some (.inr (ci, fs))) (hc : vwCl[ci]? = some (C, T, N)) (hC : Dt G k' [.ref r, a1, a2, a3, a4, a5] mem (some (.int x)) mem2) (kk : E G k R ce sl mem2 (pc + 3) loc (.int x :: st)) : E G k R ce sl mem pc loc (a5 :: a4 :: a3 :: a2 :: a1 :: .ref r :: st) := E_callV (As := [a1, a2, a3, a4, a5]) hd hown hok hinst hsel hlink hroom ⟨by rw [h0.1]; exact hcs.1, by rw [h0.2]; exact hcs.2⟩ hrest hm hc rfl hC (fun v mem' hv => by obtain ⟨rfl, rfl⟩ := hv; rw [h0.1, h0.2]; exact kk)
theorem E_V5l {k' : xI} {idx : Nat} {own : String} {mem2 : xM} {r : Nat} {ci N : Nat} {C : String} {T : u_T} {fs : List Value} {a1 a2 a3 a4 a5 : Value} {x : Int64} (hd : decode k.2.1 pc = .ok (.invokevirtual idx, 3)) (hown : k.1.cls = own) (hok : xOk k' 5) (hinst : Cond.instanceMethod k'.1 ∈ x_tbl) (hsel : Cond.selects C k'.1 k'.1 ∈ x_tbl) (hlink : Cond.methodLink own idx k'.1 ∈ x_tbl) (hroom : xRm k k') (h0 : x_k0 k') (hcs : ce ≤ k.2.2.2.2.2.2.1 ∧ sl ≤ k.2.2.2.2.2.2.2) (hrest : (st.map fun v => v.category).sum ≤ 8) (hm : mem[r]? = some (.inr (ci, fs))) (hc : vwCl[ci]? = some (C, T, N)) (hC : Dt G k' [.ref r, a1, a2, a3, a4, a5] mem (some (.long x)) mem2) (kk : E G k R ce sl mem2 (pc + 3) loc (.long x :: st)) : E G k R ce sl mem pc loc (a5 :: a4 :: a3 :: a2 :: a1 :: .ref r :: st) := E_callV (As := [a1, a2, a3, a4, a5]) hd hown hok hinst hsel hlink hroom ⟨by rw [h0.1]; exact hcs.1, by rw [h0.2]; exact hcs.2⟩ hrest hm hc rfl hC (fun v mem' hv => by obtain ⟨rfl, rfl⟩ := hv; rw [h0.1, h0.2]; exact kk)
theorem E_V5v {k' : xI} {idx : Nat} {own : String} {mem2 : xM} {r : Nat} {ci N : Nat} {C : String} {T : u_T} {fs : List Value} {a1 a2 a3 a4 a5 : Value} (hd : decode k.2.1 pc = .ok (.invokevirtual idx, 3)) (hown : k.1.cls = own) (hok : xOk k' 5) (hinst : Cond.instanceMethod k'.1 ∈ x_tbl) (hsel : Cond.selects C k'.1 k'.1 ∈ x_tbl) (hlink : Cond.methodLink own idx k'.1 ∈ x_tbl) (hroom : xRm k k') (h0 : x_k0 k') (hcs : ce ≤ k.2.2.2.2.2.2.1 ∧ sl ≤ k.2.2.2.2.2.2.2) (hrest : (st.map fun v => v.category).sum ≤ 8) (hm : mem[r]? = some (.inr (ci, fs))) (hc : vwCl[ci]? = some (C, T, N)) (hC : Dt G k' [.ref r, a1, a2, a3, a4, a5] mem (none) mem2) (kk : E G k R ce sl mem2 (pc + 3) loc (st)) : E G k R ce sl mem pc loc (a5 :: a4 :: a3 :: a2 :: a1 :: .ref r :: st) := E_callV (As := [a1, a2, a3, a4, a5]) hd hown hok hinst hsel hlink hroom ⟨by rw [h0.1]; exact hcs.1, by rw [h0.2]; exact hcs.2⟩ hrest hm hc rfl hC (fun v mem' hv => by obtain ⟨rfl, rfl⟩ := hv; rw [h0.1, h0.2]; exact kk)
theorem E_S0i {k' : xI} {idx : Nat} {own : String} {mem2 : xM} {x : Int32} (hd : decode k.2.1 pc = .ok (.invokestatic idx, 3)) (hown : k.1.cls = own) (hok : xOk k' 0) (hstat : Cond.static k'.1 ∈ x_tbl) (hlink : Cond.methodLink own idx k'.1 ∈ x_tbl) (hroom : xRm k k') (h0 : x_k0 k') (hcs : ce ≤ k.2.2.2.2.2.2.1 ∧ sl ≤ k.2.2.2.2.2.2.2) (hrest : (st.map fun v => v.category).sum ≤ 8) (hC : Dt G k' [] mem (some (.int x)) mem2) (kk : E G k R ce sl mem2 (pc + 3) loc (.int x :: st)) : E G k R ce sl mem pc loc (st) := E_callS (As := []) hd hown hok hstat hlink hroom ⟨by rw [h0.1]; exact hcs.1, by rw [h0.2]; exact hcs.2⟩ hrest rfl hC (fun v mem' hv => by obtain ⟨rfl, rfl⟩ := hv; rw [h0.1, h0.2]; exact kk)
theorem E_S0l {k' : xI} {idx : Nat} {own : String} {mem2 : xM} {x : Int64} (hd : decode k.2.1 pc = .ok (.invokestatic idx, 3)) (hown : k.1.cls = own) (hok : xOk k' 0) (hstat : Cond.static k'.1 ∈ x_tbl) (hlink : Cond.methodLink own idx k'.1 ∈ x_tbl) (hroom : xRm k k') (h0 : x_k0 k') (hcs : ce ≤ k.2.2.2.2.2.2.1 ∧ sl ≤ k.2.2.2.2.2.2.2) (hrest : (st.map fun v => v.category).sum ≤ 8) (hC : Dt G k' [] mem (some (.long x)) mem2) (kk : E G k R ce sl mem2 (pc + 3) loc (.long x :: st)) : E G k R ce sl mem pc loc (st) := E_callS (As := []) hd hown hok hstat hlink hroom ⟨by rw [h0.1]; exact hcs.1, by rw [h0.2]; exact hcs.2⟩ hrest rfl hC (fun v mem' hv => by obtain ⟨rfl, rfl⟩ := hv; rw [h0.1, h0.2]; exact kk)
theorem E_S0v {k' : xI} {idx : Nat} {own : String} {mem2 : xM} (hd : decode k.2.1 pc = .ok (.invokestatic idx, 3)) (hown : k.1.cls = own) (hok : xOk k' 0) (hstat : Cond.static k'.1 ∈ x_tbl) (hlink : Cond.methodLink own idx k'.1 ∈ x_tbl) (hroom : xRm k k') (h0 : x_k0 k') (hcs : ce ≤ k.2.2.2.2.2.2.1 ∧ sl ≤ k.2.2.2.2.2.2.2) (hrest : (st.map fun v => v.category).sum ≤ 8) (hC : Dt G k' [] mem (none) mem2) (kk : E G k R ce sl mem2 (pc + 3) loc (st)) : E G k R ce sl mem pc loc (st) := E_callS (As := []) hd hown hok hstat hlink hroom ⟨by rw [h0.1]; exact hcs.1, by rw [h0.2]; exact hcs.2⟩ hrest rfl hC (fun v mem' hv => by obtain ⟨rfl, rfl⟩ := hv; rw [h0.1, h0.2]; exact kk)
theorem E_S1i {k' : xI} {idx : Nat} {own : String} {mem2 : xM} {a1 : Value} {x : Int32} (hd : decode k.2.1 pc = .ok (.invokestatic idx, 3)) (hown : k.1.cls = own) (hok : xOk k' 1) (hstat : Cond.static k'.1 ∈ x_tbl) (hlink : Cond.methodLink own idx k'.1 ∈ x_tbl) (hroom : xRm k k') (h0 : x_k0 k') (hcs : ce ≤ k.2.2.2.2.2.2.1 ∧ sl ≤ k.2.2.2.2.2.2.2) (hrest : (st.map fun v => v.category).sum ≤ 8) (hC : Dt G k' [a1] mem (some (.int x)) mem2) (kk : E G k R ce sl mem2 (pc + 3) loc (.int x :: st)) : E G k R ce sl mem pc loc (a1 :: st) := E_callS (As := [a1]) hd hown hok hstat hlink hroom ⟨by rw [h0.1]; exact hcs.1, by rw [h0.2]; exact hcs.2⟩ hrest rfl hC (fun v mem' hv => by obtain ⟨rfl, rfl⟩ := hv; rw [h0.1, h0.2]; exact kk)
theorem E_S1l {k' : xI} {idx : Nat} {own : String} {mem2 : xM} {a1 : Value} {x : Int64} (hd : decode k.2.1 pc = .ok (.invokestatic idx, 3)) (hown : k.1.cls = own) (hok : xOk k' 1) (hstat : Cond.static k'.1 ∈ x_tbl) (hlink : Cond.methodLink own idx k'.1 ∈ x_tbl) (hroom : xRm k k') (h0 : x_k0 k') (hcs : ce ≤ k.2.2.2.2.2.2.1 ∧ sl ≤ k.2.2.2.2.2.2.2) (hrest : (st.map fun v => v.category).sum ≤ 8) (hC : Dt G k' [a1] mem (some (.long x)) mem2) (kk : E G k R ce sl mem2 (pc + 3) loc (.long x :: st)) : E G k R ce sl mem pc loc (a1 :: st) := E_callS (As := [a1]) hd hown hok hstat hlink hroom ⟨by rw [h0.1]; exact hcs.1, by rw [h0.2]; exact hcs.2⟩ hrest rfl hC (fun v mem' hv => by obtain ⟨rfl, rfl⟩ := hv; rw [h0.1, h0.2]; exact kk)
theorem E_S1v {k' : xI} {idx : Nat} {own : String} {mem2 : xM} {a1 : Value} (hd : decode k.2.1 pc = .ok (.invokestatic idx, 3)) (hown : k.1.cls = own) (hok : xOk k' 1) (hstat : Cond.static k'.1 ∈ x_tbl) (hlink : Cond.methodLink own idx k'.1 ∈ x_tbl) (hroom : xRm k k') (h0 : x_k0 k') (hcs : ce ≤ k.2.2.2.2.2.2.1 ∧ sl ≤ k.2.2.2.2.2.2.2) (hrest : (st.map fun v => v.category).sum ≤ 8) (hC : Dt G k' [a1] mem (none) mem2) (kk : E G k R ce sl mem2 (pc + 3) loc (st)) : E G k R ce sl mem pc loc (a1 :: st) := E_callS (As := [a1]) hd hown hok hstat hlink hroom ⟨by rw [h0.1]; exact hcs.1, by rw [h0.2]; exact hcs.2⟩ hrest rfl hC (fun v mem' hv => by obtain ⟨rfl, rfl⟩ := hv; rw [h0.1, h0.2]; exact kk)
theorem E_S2i {k' : xI} {idx : Nat} {own : String} {mem2 : xM} {a1 a2 : Value} {x : Int32} (hd : decode k.2.1 pc = .ok (.invokestatic idx, 3)) (hown : k.1.cls = own) (hok : xOk k' 2) (hstat : Cond.static k'.1 ∈ x_tbl) (hlink : Cond.methodLink own idx k'.1 ∈ x_tbl) (hroom : xRm k k') (h0 : x_k0 k') (hcs : ce ≤ k.2.2.2.2.2.2.1 ∧ sl ≤ k.2.2.2.2.2.2.2) (hrest : (st.map fun v => v.category).sum ≤ 8) (hC : Dt G k' [a1, a2] mem (some (.int x)) mem2) (kk : E G k R ce sl mem2 (pc + 3) loc (.int x :: st)) : E G k R ce sl mem pc loc (a2 :: a1 :: st) := E_callS (As := [a1, a2]) hd hown hok hstat hlink hroom ⟨by rw [h0.1]; exact hcs.1, by rw [h0.2]; exact hcs.2⟩ hrest rfl hC (fun v mem' hv => by obtain ⟨rfl, rfl⟩ := hv; rw [h0.1, h0.2]; exact kk)
theorem E_S2l {k' : xI} {idx : Nat} {own : String} {mem2 : xM} {a1 a2 : Value} {x : Int64} (hd : decode k.2.1 pc = .ok (.invokestatic idx, 3)) (hown : k.1.cls = own) (hok : xOk k' 2) (hstat : Cond.static k'.1 ∈ x_tbl) (hlink : Cond.methodLink own idx k'.1 ∈ x_tbl) (hroom : xRm k k') (h0 : x_k0 k') (hcs : ce ≤ k.2.2.2.2.2.2.1 ∧ sl ≤ k.2.2.2.2.2.2.2) (hrest : (st.map fun v => v.category).sum ≤ 8) (hC : Dt G k' [a1, a2] mem (some (.long x)) mem2) (kk : E G k R ce sl mem2 (pc + 3) loc (.long x :: st)) : E G k R ce sl mem pc loc (a2 :: a1 :: st) := E_callS (As := [a1, a2]) hd hown hok hstat hlink hroom ⟨by rw [h0.1]; exact hcs.1, by rw [h0.2]; exact hcs.2⟩ hrest rfl hC (fun v mem' hv => by obtain ⟨rfl, rfl⟩ := hv; rw [h0.1, h0.2]; exact kk)
theorem E_S2v {k' : xI} {idx : Nat} {own : String} {mem2 : xM} {a1 a2 : Value} (hd : decode k.2.1 pc = .ok (.invokestatic idx, 3)) (hown : k.1.cls = own) (hok : xOk k' 2) (hstat : Cond.static k'.1 ∈ x_tbl) (hlink : Cond.methodLink own idx k'.1 ∈ x_tbl) (hroom : xRm k k') (h0 : x_k0 k') (hcs : ce ≤ k.2.2.2.2.2.2.1 ∧ sl ≤ k.2.2.2.2.2.2.2) (hrest : (st.map fun v => v.category).sum ≤ 8) (hC : Dt G k' [a1, a2] mem (none) mem2) (kk : E G k R ce sl mem2 (pc + 3) loc (st)) : E G k R ce sl mem pc loc (a2 :: a1 :: st) := E_callS (As := [a1, a2]) hd hown hok hstat hlink hroom ⟨by rw [h0.1]; exact hcs.1, by rw [h0.2]; exact hcs.2⟩ hrest rfl hC (fun v mem' hv => by obtain ⟨rfl, rfl⟩ := hv; rw [h0.1, h0.2]; exact kk)
theorem E_S3i {k' : xI} {idx : Nat} {own : String} {mem2 : xM} {a1 a2 a3 : Value} {x : Int32} (hd : decode k.2.1 pc = .ok (.invokestatic idx, 3)) (hown : k.1.cls = own) (hok : xOk k' 3) (hstat : Cond.static k'.1 ∈ x_tbl) (hlink : Cond.methodLink own idx k'.1 ∈ x_tbl) (hroom : xRm k k') (h0 : x_k0 k') (hcs : ce ≤ k.2.2.2.2.2.2.1 ∧ sl ≤ k.2.2.2.2.2.2.2) (hrest : (st.map fun v => v.category).sum ≤ 8) (hC : Dt G k' [a1, a2, a3] mem (some (.int x)) mem2) (kk : E G k R ce sl mem2 (pc + 3) loc (.int x :: st)) : E G k R ce sl mem pc loc (a3 :: a2 :: a1 :: st) := E_callS (As := [a1, a2, a3]) hd hown hok hstat hlink hroom ⟨by rw [h0.1]; exact hcs.1, by rw [h0.2]; exact hcs.2⟩ hrest rfl hC (fun v mem' hv => by obtain ⟨rfl, rfl⟩ := hv; rw [h0.1, h0.2]; exact kk)
theorem E_S3l {k' : xI} {idx : Nat} {own : String} {mem2 : xM} {a1 a2 a3 : Value} {x : Int64} (hd : decode k.2.1 pc = .ok (.invokestatic idx, 3)) (hown : k.1.cls = own) (hok : xOk k' 3) (hstat : Cond.static k'.1 ∈ x_tbl) (hlink : Cond.methodLink own idx k'.1 ∈ x_tbl) (hroom : xRm k k') (h0 : x_k0 k') (hcs : ce ≤ k.2.2.2.2.2.2.1 ∧ sl ≤ k.2.2.2.2.2.2.2) (hrest : (st.map fun v => v.category).sum ≤ 8) (hC : Dt G k' [a1, a2, a3] mem (some (.long x)) mem2) (kk : E G k R ce sl mem2 (pc + 3) loc (.long x :: st)) : E G k R ce sl mem pc loc (a3 :: a2 :: a1 :: st) := E_callS (As := [a1, a2, a3]) hd hown hok hstat hlink hroom ⟨by rw [h0.1]; exact hcs.1, by rw [h0.2]; exact hcs.2⟩ hrest rfl hC (fun v mem' hv => by obtain ⟨rfl, rfl⟩ := hv; rw [h0.1, h0.2]; exact kk)
theorem E_S3v {k' : xI} {idx : Nat} {own : String} {mem2 : xM} {a1 a2 a3 : Value} (hd : decode k.2.1 pc = .ok (.invokestatic idx, 3)) (hown : k.1.cls = own) (hok : xOk k' 3) (hstat : Cond.static k'.1 ∈ x_tbl) (hlink : Cond.methodLink own idx k'.1 ∈ x_tbl) (hroom : xRm k k') (h0 : x_k0 k') (hcs : ce ≤ k.2.2.2.2.2.2.1 ∧ sl ≤ k.2.2.2.2.2.2.2) (hrest : (st.map fun v => v.category).sum ≤ 8) (hC : Dt G k' [a1, a2, a3] mem (none) mem2) (kk : E G k R ce sl mem2 (pc + 3) loc (st)) : E G k R ce sl mem pc loc (a3 :: a2 :: a1 :: st) := E_callS (As := [a1, a2, a3]) hd hown hok hstat hlink hroom ⟨by rw [h0.1]; exact hcs.1, by rw [h0.2]; exact hcs.2⟩ hrest rfl hC (fun v mem' hv => by obtain ⟨rfl, rfl⟩ := hv; rw [h0.1, h0.2]; exact kk)
theorem E_S4i {k' : xI} {idx : Nat} {own : String} {mem2 : xM} {a1 a2 a3 a4 : Value} {x : Int32} (hd : decode k.2.1 pc = .ok (.invokestatic idx, 3)) (hown : k.1.cls = own) (hok : xOk k' 4) (hstat : Cond.static k'.1 ∈ x_tbl) (hlink : Cond.methodLink own idx k'.1 ∈ x_tbl) (hroom : xRm k k') (h0 : x_k0 k') (hcs : ce ≤ k.2.2.2.2.2.2.1 ∧ sl ≤ k.2.2.2.2.2.2.2) (hrest : (st.map fun v => v.category).sum ≤ 8) (hC : Dt G k' [a1, a2, a3, a4] mem (some (.int x)) mem2) (kk : E G k R ce sl mem2 (pc + 3) loc (.int x :: st)) : E G k R ce sl mem pc loc (a4 :: a3 :: a2 :: a1 :: st) := E_callS (As := [a1, a2, a3, a4]) hd hown hok hstat hlink hroom ⟨by rw [h0.1]; exact hcs.1, by rw [h0.2]; exact hcs.2⟩ hrest rfl hC (fun v mem' hv => by obtain ⟨rfl, rfl⟩ := hv; rw [h0.1, h0.2]; exact kk)
theorem E_S4l {k' : xI} {idx : Nat} {own : String} {mem2 : xM} {a1 a2 a3 a4 : Value} {x : Int64} (hd : decode k.2.1 pc = .ok (.invokestatic idx, 3)) (hown : k.1.cls = own) (hok : xOk k' 4) (hstat : Cond.static k'.1 ∈ x_tbl) (hlink : Cond.methodLink own idx k'.1 ∈ x_tbl) (hroom : xRm k k') (h0 : x_k0 k') (hcs : ce ≤ k.2.2.2.2.2.2.1 ∧ sl ≤ k.2.2.2.2.2.2.2) (hrest : (st.map fun v => v.category).sum ≤ 8) (hC : Dt G k' [a1, a2, a3, a4] mem (some (.long x)) mem2) (kk : E G k R ce sl mem2 (pc + 3) loc (.long x :: st)) : E G k R ce sl mem pc loc (a4 :: a3 :: a2 :: a1 :: st) := E_callS (As := [a1, a2, a3, a4]) hd hown hok hstat hlink hroom ⟨by rw [h0.1]; exact hcs.1, by rw [h0.2]; exact hcs.2⟩ hrest rfl hC (fun v mem' hv => by obtain ⟨rfl, rfl⟩ := hv; rw [h0.1, h0.2]; exact kk)
theorem E_S4v {k' : xI} {idx : Nat} {own : String} {mem2 : xM} {a1 a2 a3 a4 : Value} (hd : decode k.2.1 pc = .ok (.invokestatic idx, 3)) (hown : k.1.cls = own) (hok : xOk k' 4) (hstat : Cond.static k'.1 ∈ x_tbl) (hlink : Cond.methodLink own idx k'.1 ∈ x_tbl) (hroom : xRm k k') (h0 : x_k0 k') (hcs : ce ≤ k.2.2.2.2.2.2.1 ∧ sl ≤ k.2.2.2.2.2.2.2) (hrest : (st.map fun v => v.category).sum ≤ 8) (hC : Dt G k' [a1, a2, a3, a4] mem (none) mem2) (kk : E G k R ce sl mem2 (pc + 3) loc (st)) : E G k R ce sl mem pc loc (a4 :: a3 :: a2 :: a1 :: st) := E_callS (As := [a1, a2, a3, a4]) hd hown hok hstat hlink hroom ⟨by rw [h0.1]; exact hcs.1, by rw [h0.2]; exact hcs.2⟩ hrest rfl hC (fun v mem' hv => by obtain ⟨rfl, rfl⟩ := hv; rw [h0.1, h0.2]; exact kk)
theorem E_S5i {k' : xI} {idx : Nat} {own : String} {mem2 : xM} {a1 a2 a3 a4 a5 : Value} {x : Int32} (hd : decode k.2.1 pc = .ok (.invokestatic idx, 3)) (hown : k.1.cls = own) (hok : xOk k' 5) (hstat : Cond.static k'.1 ∈ x_tbl) (hlink : Cond.methodLink own idx k'.1 ∈ x_tbl) (hroom : xRm k k') (h0 : x_k0 k') (hcs : ce ≤ k.2.2.2.2.2.2.1 ∧ sl ≤ k.2.2.2.2.2.2.2) (hrest : (st.map fun v => v.category).sum ≤ 8) (hC : Dt G k' [a1, a2, a3, a4, a5] mem (some (.int x)) mem2) (kk : E G k R ce sl mem2 (pc + 3) loc (.int x :: st)) : E G k R ce sl mem pc loc (a5 :: a4 :: a3 :: a2 :: a1 :: st) := E_callS (As := [a1, a2, a3, a4, a5]) hd hown hok hstat hlink hroom ⟨by rw [h0.1]; exact hcs.1, by rw [h0.2]; exact hcs.2⟩ hrest rfl hC (fun v mem' hv => by obtain ⟨rfl, rfl⟩ := hv; rw [h0.1, h0.2]; exact kk)
theorem E_S5l {k' : xI} {idx : Nat} {own : String} {mem2 : xM} {a1 a2 a3 a4 a5 : Value} {x : Int64} (hd : decode k.2.1 pc = .ok (.invokestatic idx, 3)) (hown : k.1.cls = own) (hok : xOk k' 5) (hstat : Cond.static k'.1 ∈ x_tbl) (hlink : Cond.methodLink own idx k'.1 ∈ x_tbl) (hroom : xRm k k') (h0 : x_k0 k') (hcs : ce ≤ k.2.2.2.2.2.2.1 ∧ sl ≤ k.2.2.2.2.2.2.2) (hrest : (st.map fun v => v.category).sum ≤ 8) (hC : Dt G k' [a1, a2, a3, a4, a5] mem (some (.long x)) mem2) (kk : E G k R ce sl mem2 (pc + 3) loc (.long x :: st)) : E G k R ce sl mem pc loc (a5 :: a4 :: a3 :: a2 :: a1 :: st) := E_callS (As := [a1, a2, a3, a4, a5]) hd hown hok hstat hlink hroom ⟨by rw [h0.1]; exact hcs.1, by rw [h0.2]; exact hcs.2⟩ hrest rfl hC (fun v mem' hv => by obtain ⟨rfl, rfl⟩ := hv; rw [h0.1, h0.2]; exact kk)
theorem E_S5v {k' : xI} {idx : Nat} {own : String} {mem2 : xM} {a1 a2 a3 a4 a5 : Value} (hd : decode k.2.1 pc = .ok (.invokestatic idx, 3)) (hown : k.1.cls = own) (hok : xOk k' 5) (hstat : Cond.static k'.1 ∈ x_tbl) (hlink : Cond.methodLink own idx k'.1 ∈ x_tbl) (hroom : xRm k k') (h0 : x_k0 k') (hcs : ce ≤ k.2.2.2.2.2.2.1 ∧ sl ≤ k.2.2.2.2.2.2.2) (hrest : (st.map fun v => v.category).sum ≤ 8) (hC : Dt G k' [a1, a2, a3, a4, a5] mem (none) mem2) (kk : E G k R ce sl mem2 (pc + 3) loc (st)) : E G k R ce sl mem pc loc (a5 :: a4 :: a3 :: a2 :: a1 :: st) := E_callS (As := [a1, a2, a3, a4, a5]) hd hown hok hstat hlink hroom ⟨by rw [h0.1]; exact hcs.1, by rw [h0.2]; exact hcs.2⟩ hrest rfl hC (fun v mem' hv => by obtain ⟨rfl, rfl⟩ := hv; rw [h0.1, h0.2]; exact kk)
theorem E_I0v {k' : xI} {idx : Nat} {own : String} {mem2 : xM} {r : Nat} (hd : decode k.2.1 pc = .ok (.invokespecial idx, 3)) (hown : k.1.cls = own) (hok : xOk k' 0) (hret : k'.2.2.2.1 = none) (hname : k'.1.name = "<init>") (hinst : Cond.instanceMethod k'.1 ∈ x_tbl) (hlink : Cond.methodLink own idx k'.1 ∈ x_tbl) (hroom : xRm k k') (hcs : ce + k'.2.2.2.2.2.2.1 ≤ k.2.2.2.2.2.2.1 ∧ sl + k'.2.2.2.2.2.2.2 ≤ k.2.2.2.2.2.2.2) (hrest : (st.map fun v => v.category).sum ≤ 8) (hC : Dt G k' [.ref r] mem (none) mem2) (kk : E G k R (ce + k'.2.2.2.2.2.2.1) (sl + k'.2.2.2.2.2.2.2) mem2 (pc + 3) loc (st)) : E G k R ce sl mem pc loc (.ref r :: st) := E_callI (As := []) hd hown hok hret hname hinst hlink hroom hcs hrest rfl hC (fun v mem' hv => by obtain ⟨rfl, rfl⟩ := hv; exact kk)
theorem E_SN0i {k' : xI} {idx : Nat} {own host : String} {mem2 : xM} {x : Int32} (hd : decode k.2.1 pc = .ok (.invokestatic idx, 3)) (hown : k.1.cls = own) (hok : xOk k' 0) (hstat : Cond.static k'.1 ∈ x_tbl) (hlink : Cond.methodLinkNest own idx k'.1 host ∈ x_nests) (hroom : xRm k k') (h0 : x_k0 k') (hcs : ce ≤ k.2.2.2.2.2.2.1 ∧ sl ≤ k.2.2.2.2.2.2.2) (hrest : (st.map fun v => v.category).sum ≤ 8) (hC : Dt G k' [] mem (some (.int x)) mem2) (kk : E G k R ce sl mem2 (pc + 3) loc (.int x :: st)) : E G k R ce sl mem pc loc (st) := E_callSN (As := []) hd hown hok hstat hlink hroom ⟨by rw [h0.1]; exact hcs.1, by rw [h0.2]; exact hcs.2⟩ hrest rfl hC (fun v mem' hv => by obtain ⟨rfl, rfl⟩ := hv; rw [h0.1, h0.2]; exact kk)
theorem E_SN1i {k' : xI} {idx : Nat} {own host : String} {mem2 : xM} {a1 : Value} {x : Int32} (hd : decode k.2.1 pc = .ok (.invokestatic idx, 3)) (hown : k.1.cls = own) (hok : xOk k' 1) (hstat : Cond.static k'.1 ∈ x_tbl) (hlink : Cond.methodLinkNest own idx k'.1 host ∈ x_nests) (hroom : xRm k k') (h0 : x_k0 k') (hcs : ce ≤ k.2.2.2.2.2.2.1 ∧ sl ≤ k.2.2.2.2.2.2.2) (hrest : (st.map fun v => v.category).sum ≤ 8) (hC : Dt G k' [a1] mem (some (.int x)) mem2) (kk : E G k R ce sl mem2 (pc + 3) loc (.int x :: st)) : E G k R ce sl mem pc loc (a1 :: st) := E_callSN (As := [a1]) hd hown hok hstat hlink hroom ⟨by rw [h0.1]; exact hcs.1, by rw [h0.2]; exact hcs.2⟩ hrest rfl hC (fun v mem' hv => by obtain ⟨rfl, rfl⟩ := hv; rw [h0.1, h0.2]; exact kk)
theorem E_SN2i {k' : xI} {idx : Nat} {own host : String} {mem2 : xM} {a1 a2 : Value} {x : Int32} (hd : decode k.2.1 pc = .ok (.invokestatic idx, 3)) (hown : k.1.cls = own) (hok : xOk k' 2) (hstat : Cond.static k'.1 ∈ x_tbl) (hlink : Cond.methodLinkNest own idx k'.1 host ∈ x_nests) (hroom : xRm k k') (h0 : x_k0 k') (hcs : ce ≤ k.2.2.2.2.2.2.1 ∧ sl ≤ k.2.2.2.2.2.2.2) (hrest : (st.map fun v => v.category).sum ≤ 8) (hC : Dt G k' [a1, a2] mem (some (.int x)) mem2) (kk : E G k R ce sl mem2 (pc + 3) loc (.int x :: st)) : E G k R ce sl mem pc loc (a2 :: a1 :: st) := E_callSN (As := [a1, a2]) hd hown hok hstat hlink hroom ⟨by rw [h0.1]; exact hcs.1, by rw [h0.2]; exact hcs.2⟩ hrest rfl hC (fun v mem' hv => by obtain ⟨rfl, rfl⟩ := hv; rw [h0.1, h0.2]; exact kk)
theorem E_SN3i {k' : xI} {idx : Nat} {own host : String} {mem2 : xM} {a1 a2 a3 : Value} {x : Int32} (hd : decode k.2.1 pc = .ok (.invokestatic idx, 3)) (hown : k.1.cls = own) (hok : xOk k' 3) (hstat : Cond.static k'.1 ∈ x_tbl) (hlink : Cond.methodLinkNest own idx k'.1 host ∈ x_nests) (hroom : xRm k k') (h0 : x_k0 k') (hcs : ce ≤ k.2.2.2.2.2.2.1 ∧ sl ≤ k.2.2.2.2.2.2.2) (hrest : (st.map fun v => v.category).sum ≤ 8) (hC : Dt G k' [a1, a2, a3] mem (some (.int x)) mem2) (kk : E G k R ce sl mem2 (pc + 3) loc (.int x :: st)) : E G k R ce sl mem pc loc (a3 :: a2 :: a1 :: st) := E_callSN (As := [a1, a2, a3]) hd hown hok hstat hlink hroom ⟨by rw [h0.1]; exact hcs.1, by rw [h0.2]; exact hcs.2⟩ hrest rfl hC (fun v mem' hv => by obtain ⟨rfl, rfl⟩ := hv; rw [h0.1, h0.2]; exact kk)
theorem E_SN4i {k' : xI} {idx : Nat} {own host : String} {mem2 : xM} {a1 a2 a3 a4 : Value} {x : Int32} (hd : decode k.2.1 pc = .ok (.invokestatic idx, 3)) (hown : k.1.cls = own) (hok : xOk k' 4) (hstat : Cond.static k'.1 ∈ x_tbl) (hlink : Cond.methodLinkNest own idx k'.1 host ∈ x_nests) (hroom : xRm k k') (h0 : x_k0 k') (hcs : ce ≤ k.2.2.2.2.2.2.1 ∧ sl ≤ k.2.2.2.2.2.2.2) (hrest : (st.map fun v => v.category).sum ≤ 8) (hC : Dt G k' [a1, a2, a3, a4] mem (some (.int x)) mem2) (kk : E G k R ce sl mem2 (pc + 3) loc (.int x :: st)) : E G k R ce sl mem pc loc (a4 :: a3 :: a2 :: a1 :: st) := E_callSN (As := [a1, a2, a3, a4]) hd hown hok hstat hlink hroom ⟨by rw [h0.1]; exact hcs.1, by rw [h0.2]; exact hcs.2⟩ hrest rfl hC (fun v mem' hv => by obtain ⟨rfl, rfl⟩ := hv; rw [h0.1, h0.2]; exact kk)
theorem E_SN5i {k' : xI} {idx : Nat} {own host : String} {mem2 : xM} {a1 a2 a3 a4 a5 : Value} {x : Int32} (hd : decode k.2.1 pc = .ok (.invokestatic idx, 3)) (hown : k.1.cls = own) (hok : xOk k' 5) (hstat : Cond.static k'.1 ∈ x_tbl) (hlink : Cond.methodLinkNest own idx k'.1 host ∈ x_nests) (hroom : xRm k k') (h0 : x_k0 k') (hcs : ce ≤ k.2.2.2.2.2.2.1 ∧ sl ≤ k.2.2.2.2.2.2.2) (hrest : (st.map fun v => v.category).sum ≤ 8) (hC : Dt G k' [a1, a2, a3, a4, a5] mem (some (.int x)) mem2) (kk : E G k R ce sl mem2 (pc + 3) loc (.int x :: st)) : E G k R ce sl mem pc loc (a5 :: a4 :: a3 :: a2 :: a1 :: st) := E_callSN (As := [a1, a2, a3, a4, a5]) hd hown hok hstat hlink hroom ⟨by rw [h0.1]; exact hcs.1, by rw [h0.2]; exact hcs.2⟩ hrest rfl hC (fun v mem' hv => by obtain ⟨rfl, rfl⟩ := hv; rw [h0.1, h0.2]; exact kk)
theorem E_IN0v {k' : xI} {idx : Nat} {own host : String} {mem2 : xM} {r : Nat} (hd : decode k.2.1 pc = .ok (.invokespecial idx, 3)) (hown : k.1.cls = own) (hok : xOk k' 0) (hret : k'.2.2.2.1 = none) (hname : k'.1.name = "<init>") (hinst : Cond.instanceMethod k'.1 ∈ x_tbl) (hlink : Cond.methodLinkNest own idx k'.1 host ∈ x_nests) (hroom : xRm k k') (hcs : ce + k'.2.2.2.2.2.2.1 ≤ k.2.2.2.2.2.2.1 ∧ sl + k'.2.2.2.2.2.2.2 ≤ k.2.2.2.2.2.2.2) (hrest : (st.map fun v => v.category).sum ≤ 8) (hC : Dt G k' [.ref r] mem (none) mem2) (kk : E G k R (ce + k'.2.2.2.2.2.2.1) (sl + k'.2.2.2.2.2.2.2) mem2 (pc + 3) loc (st)) : E G k R ce sl mem pc loc (.ref r :: st) := E_callIN (As := []) hd hown hok hret hname hinst hlink hroom hcs hrest rfl hC (fun v mem' hv => by obtain ⟨rfl, rfl⟩ := hv; exact kk)
end X
end
section
/-! written by links.py out of the tables and the decode rows: numbers, facts, rows of fields and calls -/
theorem xin_X0 : ∀ w ∈ wsX00, w ∈ x_tbl := x_in [48, 50, 52, 54, 56, 58, 60, 62, 64, 66, 68, 70, 72] (by decide +kernel) (by decide +kernel)
theorem xin_X1 : ∀ w ∈ wsX10, w ∈ x_tbl := x_in [88, 90] (by decide +kernel) (by decide +kernel)
theorem xin_X2 : ∀ w ∈ wsX20, w ∈ x_tbl := x_in [101, 103] (by decide +kernel) (by decide +kernel)
theorem xin_X3 : ∀ w ∈ wsX30, w ∈ x_tbl := x_in [114, 116, 118, 120, 122, 124, 126] (by decide +kernel) (by decide +kernel)
def kX3_init : xI := (yX3_init, cX3_init, 1, none, 3, 58, 85, 1590)
def kX0_init : xI := (yX0_init, cX0_init, 2, none, 1, 16, 8, 156)
def kX1_init : xI := (yX1_init, cX1_init, 2, none, 2, 37, 46, 850)
def kX2_init : xI := (yX2_init, cX2_init, 1, none, 1, 16, 1, 60)
def kX3_setTop : xI := (yX3_setTop, cX3_setTop, 2, (some .int), 4, 82, 0, 0)
def kX0_copyFrom : xI := (yX0_copyFrom, cX0_copyFrom, 2, none, 1, 18, 0, 0)
def kX0_changeTop : xI := (yX0_changeTop, cX0_changeTop, 3, (some .int), 1, 23, 0, 0)
def kX0_isUpperEnd : xI := (yX0_isUpperEnd, cX0_isUpperEnd, 2, (some .boolean), 0, 0, 0, 0)
def kX0_climbersOn : xI := (yX0_climbersOn, cX0_climbersOn, 4, (some .int), 0, 0, 0, 0)
def kX3_recordUnlessError : xI := (yX3_recordUnlessError, cX3_recordUnlessError, 2, (some .int), 3, 61, 0, 0)
def kX1_keep : xI := (yX1_keep, cX1_keep, 3, none, 2, 39, 0, 0)
def kX1_makeOldestLast : xI := (yX1_makeOldestLast, cX1_makeOldestLast, 3, none, 0, 0, 0, 0)
def kX3_lay : xI := (yX3_lay, cX3_lay, 3, (some .int), 4, 82, 0, 0)
def kX0_layCarpet : xI := (yX0_layCarpet, cX0_layCarpet, 3, (some .int), 2, 43, 0, 0)
def kX0_isBelowTop : xI := (yX0_isBelowTop, cX0_isBelowTop, 2, (some .boolean), 0, 0, 0, 0)
def kX0_lowerEndsAt : xI := (yX0_lowerEndsAt, cX0_lowerEndsAt, 4, (some .int), 0, 0, 0, 0)
def kX0_countCarpets : xI := (yX0_countCarpets, cX0_countCarpets, 3, (some .int), 1, 21, 0, 0)
def kX3_take : xI := (yX3_take, cX3_take, 2, (some .int), 4, 82, 0, 0)
def kX0_takeCarpet : xI := (yX0_takeCarpet, cX0_takeCarpet, 3, (some .int), 1, 21, 0, 0)
def kX3_put : xI := (yX3_put, cX3_put, 2, (some .int), 4, 82, 0, 0)
def kX0_putLanding : xI := (yX0_putLanding, cX0_putLanding, 2, (some .int), 2, 43, 0, 0)
def kX0_countLandings : xI := (yX0_countLandings, cX0_countLandings, 3, (some .int), 1, 21, 0, 0)
def kX0_isLanding : xI := (yX0_isLanding, cX0_isLanding, 2, (some .boolean), 0, 0, 0, 0)
def kX3_remove : xI := (yX3_remove, cX3_remove, 2, (some .int), 4, 82, 0, 0)
def kX0_removeLanding : xI := (yX0_removeLanding, cX0_removeLanding, 2, (some .int), 1, 23, 0, 0)
def kJ6_bitCount_0f7a4 : xI := (yJ6_bitCount_0f7a4, cJ6_bitCount_0f7a4, 1, (some .int), 0, 0, 0, 0)
def kX3_join : xI := (yX3_join, cX3_join, 1, (some .int), 4, 82, 0, 0)
def kX0_addClimber : xI := (yX0_addClimber, cX0_addClimber, 1, (some .int), 0, 0, 0, 0)
def kX3_roll : xI := (yX3_roll, cX3_roll, 2, (some .int), 4, 90, 0, 0)
def kX0_makeRoll : xI := (yX0_makeRoll, cX0_makeRoll, 4, (some .int), 3, 67, 0, 0)
def kX3_isRoll : xI := (yX3_isRoll, cX3_isRoll, 1, (some .boolean), 0, 0, 0, 0)
def kX0_hasMover : xI := (yX0_hasMover, cX0_hasMover, 1, (some .boolean), 1, 21, 0, 0)
def kX0_isClimber : xI := (yX0_isClimber, cX0_isClimber, 2, (some .boolean), 0, 0, 0, 0)
def kX0_liftThosePassed : xI := (yX0_liftThosePassed, cX0_liftThosePassed, 3, none, 2, 45, 0, 0)
def kX0_isPassed : xI := (yX0_isPassed, cX0_isPassed, 5, (some .boolean), 1, 21, 0, 0)
def kX0_comeTo : xI := (yX0_comeTo, cX0_comeTo, 3, none, 1, 21, 0, 0)
def kX0_goToNextMover : xI := (yX0_goToNextMover, cX0_goToNextMover, 3, none, 2, 42, 0, 0)
def kX0_behind : xI := (yX0_behind, cX0_behind, 2, (some .int), 1, 21, 0, 0)
def kX3_pass : xI := (yX3_pass, cX3_pass, 1, (some .int), 4, 84, 0, 0)
def kX0_makePass : xI := (yX0_makePass, cX0_makePass, 1, (some .int), 3, 64, 0, 0)
def kL_cell : xI := (yL_cell, cL_cell, 2, (some .int), 0, 0, 0, 0)
def kL_low : xI := (yL_low, cL_low, 2, (some .int), 0, 0, 0, 0)
def kL_next : xI := (yL_next, cL_next, 3, none, 0, 0, 0, 0)
def kL_roll : xI := (yL_roll, cL_roll, 11, (some .int), 1, 24, 1, 6)
def kL_come : xI := (yL_come, cL_come, 5, none, 0, 0, 0, 0)
def kL_sum : xI := (yL_sum, cL_sum, 3, (some .int), 0, 0, 0, 0)
def kL_ahead : xI := (yL_ahead, cL_ahead, 15, (some .boolean), 7, 159, 18, 294)
def kL_copy : xI := (yL_copy, cL_copy, 3, none, 0, 0, 0, 0)
def kL_progress : xI := (yL_progress, cL_progress, 3, (some .int), 0, 0, 0, 0)
def kX3_ifRolled : xI := (yX3_ifRolled, cX3_ifRolled, 4, (some .int), 5, 111, 0, 0)
def kX3_rollInTrial : xI := (yX3_rollInTrial, cX3_rollInTrial, 2, (some .int), 4, 90, 0, 0)
def kX0_liftsOfAll : xI := (yX0_liftsOfAll, cX0_liftsOfAll, 1, (some .int), 1, 25, 0, 0)
def kX0_sumOf : xI := (yX0_sumOf, cX0_sumOf, 6, (some .int), 0, 0, 0, 0)
def kX0_topsOfAll : xI := (yX0_topsOfAll, cX0_topsOfAll, 1, (some .int), 1, 25, 0, 0)
def kX0_slipsOfAll : xI := (yX0_slipsOfAll, cX0_slipsOfAll, 1, (some .int), 1, 25, 0, 0)
def kL_tops : xI := (yL_tops, cL_tops, 4, (some .int), 0, 0, 0, 0)
def kX3_bestRoll : xI := (yX3_bestRoll, cX3_bestRoll, 5, (some .int), 6, 135, 0, 0)
def kX3_gainOfRoll : xI := (yX3_gainOfRoll, cX3_gainOfRoll, 5, (some .int), 5, 111, 0, 0)
def kX0_progressOf : xI := (yX0_progressOf, cX0_progressOf, 2, (some .int), 1, 21, 0, 0)
def kX3_quietRolls : xI := (yX3_quietRolls, cX3_quietRolls, 3, (some .int), 3, 67, 0, 0)
def kX0_wouldLift : xI := (yX0_wouldLift, cX0_wouldLift, 3, (some .boolean), 2, 45, 0, 0)
def kL_game : xI := (yL_game, cL_game, 10, (some .boolean), 5, 115, 6, 366)
def kX3_climber : xI := (yX3_climber, cX3_climber, 3, (some .int), 3, 64, 0, 0)
def kX0_partOfClimber : xI := (yX0_partOfClimber, cX0_partOfClimber, 3, (some .int), 2, 42, 0, 0)
def kX3_rank : xI := (yX3_rank, cX3_rank, 2, (some .int), 4, 89, 0, 0)
def kX0_climberAtPlace : xI := (yX0_climberAtPlace, cX0_climberAtPlace, 3, (some .int), 3, 67, 0, 0)
def kX0_climbersAheadOf : xI := (yX0_climbersAheadOf, cX0_climbersAheadOf, 6, (some .int), 2, 42, 0, 0)
def kX3_rollsToTop : xI := (yX3_rollsToTop, cX3_rollsToTop, 2, (some .int), 4, 94, 0, 0)
def kX0_fewestRollsOf : xI := (yX0_fewestRollsOf, cX0_fewestRollsOf, 5, (some .int), 3, 70, 0, 0)
def kX0_reachedWithOneMore : xI := (yX0_reachedWithOneMore, cX0_reachedWithOneMore, 6, (some .long), 2, 45, 0, 0)
def kX0_reachedFrom : xI := (yX0_reachedFrom, cX0_reachedFrom, 5, (some .long), 1, 21, 0, 0)
def kL_fewest : xI := (yL_fewest, cL_fewest, 9, (some .int), 0, 0, 1, 61)
def kX3_on : xI := (yX3_on, cX3_on, 2, (some .int), 1, 23, 0, 0)
def kX3_step : xI := (yX3_step, cX3_step, 3, (some .int), 2, 45, 0, 0)
def kX0_partOfStep : xI := (yX0_partOfStep, cX0_partOfStep, 3, (some .int), 1, 23, 0, 0)
def kX3_turn : xI := (yX3_turn, cX3_turn, 1, (some .int), 2, 41, 0, 0)
def kX3_total : xI := (yX3_total, cX3_total, 2, (some .int), 3, 66, 0, 0)
def kX0_totalOf : xI := (yX0_totalOf, cX0_totalOf, 2, (some .int), 2, 45, 0, 0)
def kL_law : xI := (yL_law, cL_law, 18, (some .boolean), 10, 386, 600000, 7302249)
theorem wcX3_init : Cond.code yX3_init cX3_init 1 none ∈ x_tbl := x_w 23 (by decide +kernel) (by decide +kernel)
theorem wn_RX3 : Cond.initialized RX3 ∈ x_tbl := x_w 13 (by decide +kernel) (by decide +kernel)
theorem okX3_init : xOk kX3_init 0 := ⟨by decide +kernel, by decide +kernel, wcX3_init, wn_RX3⟩
theorem wiX3_init : Cond.instanceMethod yX3_init ∈ x_tbl := x_w 22 (by decide +kernel) (by decide +kernel)
theorem wcX0_init : Cond.code yX0_init cX0_init 2 none ∈ x_tbl := x_w 31 (by decide +kernel) (by decide +kernel)
theorem wn_RX0 : Cond.initialized RX0 ∈ x_tbl := x_w 14 (by decide +kernel) (by decide +kernel)
theorem okX0_init : xOk kX0_init 0 := ⟨by decide +kernel, by decide +kernel, wcX0_init, wn_RX0⟩
theorem wiX0_init : Cond.instanceMethod yX0_init ∈ x_tbl := x_w 30 (by decide +kernel) (by decide +kernel)
theorem wcX1_init : Cond.code yX1_init cX1_init 2 none ∈ x_tbl := x_w 81 (by decide +kernel) (by decide +kernel)
theorem wn_RX1 : Cond.initialized RX1 ∈ x_tbl := x_w 15 (by decide +kernel) (by decide +kernel)
theorem okX1_init : xOk kX1_init 0 := ⟨by decide +kernel, by decide +kernel, wcX1_init, wn_RX1⟩
theorem wiX1_init : Cond.instanceMethod yX1_init ∈ x_tbl := x_w 80 (by decide +kernel) (by decide +kernel)
theorem wcX2_init : Cond.code yX2_init cX2_init 1 none ∈ x_tbl := x_w 97 (by decide +kernel) (by decide +kernel)
theorem wn_RX2 : Cond.initialized RX2 ∈ x_tbl := x_w 16 (by decide +kernel) (by decide +kernel)
theorem okX2_init : xOk kX2_init 0 := ⟨by decide +kernel, by decide +kernel, wcX2_init, wn_RX2⟩
theorem wiX2_init : Cond.instanceMethod yX2_init ∈ x_tbl := x_w 96 (by decide +kernel) (by decide +kernel)
theorem wcX3_setTop : Cond.code yX3_setTop cX3_setTop 2 (some .int) ∈ x_tbl := x_w 132 (by decide +kernel) (by decide +kernel)
theorem okX3_setTop : xOk kX3_setTop 1 := ⟨by decide +kernel, by decide +kernel, wcX3_setTop, wn_RX3⟩
theorem wiX3_setTop : Cond.instanceMethod yX3_setTop ∈ x_tbl := x_w 130 (by decide +kernel) (by decide +kernel)
theorem wzX3_setTop : Cond.selects RX3 yX3_setTop yX3_setTop ∈ x_tbl := x_w 131 (by decide +kernel) (by decide +kernel)
theorem wcX0_copyFrom : Cond.code yX0_copyFrom cX0_copyFrom 2 none ∈ x_tbl := x_w 136 (by decide +kernel) (by decide +kernel)
theorem okX0_copyFrom : xOk kX0_copyFrom 1 := ⟨by decide +kernel, by decide +kernel, wcX0_copyFrom, wn_RX0⟩
theorem wiX0_copyFrom : Cond.instanceMethod yX0_copyFrom ∈ x_tbl := x_w 134 (by decide +kernel) (by decide +kernel)
theorem wzX0_copyFrom : Cond.selects RX0 yX0_copyFrom yX0_copyFrom ∈ x_tbl := x_w 135 (by decide +kernel) (by decide +kernel)
theorem wcX0_changeTop : Cond.code yX0_changeTop cX0_changeTop 3 (some .int) ∈ x_tbl := x_w 143 (by decide +kernel) (by decide +kernel)
theorem okX0_changeTop : xOk kX0_changeTop 1 := ⟨by decide +kernel, by decide +kernel, wcX0_changeTop, wn_RX0⟩
theorem wiX0_changeTop : Cond.instanceMethod yX0_changeTop ∈ x_tbl := x_w 141 (by decide +kernel) (by decide +kernel)
theorem wzX0_changeTop : Cond.selects RX0 yX0_changeTop yX0_changeTop ∈ x_tbl := x_w 142 (by decide +kernel) (by decide +kernel)
theorem wcX0_isUpperEnd : Cond.code yX0_isUpperEnd cX0_isUpperEnd 2 (some .boolean) ∈ x_tbl := x_w 147 (by decide +kernel) (by decide +kernel)
theorem okX0_isUpperEnd : xOk kX0_isUpperEnd 1 := ⟨by decide +kernel, by decide +kernel, wcX0_isUpperEnd, wn_RX0⟩
theorem wiX0_isUpperEnd : Cond.instanceMethod yX0_isUpperEnd ∈ x_tbl := x_w 145 (by decide +kernel) (by decide +kernel)
theorem wzX0_isUpperEnd : Cond.selects RX0 yX0_isUpperEnd yX0_isUpperEnd ∈ x_tbl := x_w 146 (by decide +kernel) (by decide +kernel)
theorem wcX0_climbersOn : Cond.code yX0_climbersOn cX0_climbersOn 4 (some .int) ∈ x_tbl := x_w 151 (by decide +kernel) (by decide +kernel)
theorem okX0_climbersOn : xOk kX0_climbersOn 1 := ⟨by decide +kernel, by decide +kernel, wcX0_climbersOn, wn_RX0⟩
theorem wiX0_climbersOn : Cond.instanceMethod yX0_climbersOn ∈ x_tbl := x_w 149 (by decide +kernel) (by decide +kernel)
theorem wzX0_climbersOn : Cond.selects RX0 yX0_climbersOn yX0_climbersOn ∈ x_tbl := x_w 150 (by decide +kernel) (by decide +kernel)
theorem wcX3_recordUnlessError : Cond.code yX3_recordUnlessError cX3_recordUnlessError 2 (some .int) ∈ x_tbl := x_w 155 (by decide +kernel) (by decide +kernel)
theorem okX3_recordUnlessError : xOk kX3_recordUnlessError 1 := ⟨by decide +kernel, by decide +kernel, wcX3_recordUnlessError, wn_RX3⟩
theorem wiX3_recordUnlessError : Cond.instanceMethod yX3_recordUnlessError ∈ x_tbl := x_w 154 (by decide +kernel) (by decide +kernel)
theorem wzX3_recordUnlessError : Cond.selects RX3 yX3_recordUnlessError yX3_recordUnlessError ∈ x_tbl := x_w 0 (by decide +kernel) (by decide +kernel)
theorem wcX1_keep : Cond.code yX1_keep cX1_keep 3 none ∈ x_tbl := x_w 159 (by decide +kernel) (by decide +kernel)
theorem okX1_keep : xOk kX1_keep 1 := ⟨by decide +kernel, by decide +kernel, wcX1_keep, wn_RX1⟩
theorem wiX1_keep : Cond.instanceMethod yX1_keep ∈ x_tbl := x_w 157 (by decide +kernel) (by decide +kernel)
theorem wzX1_keep : Cond.selects RX1 yX1_keep yX1_keep ∈ x_tbl := x_w 158 (by decide +kernel) (by decide +kernel)
theorem wcX1_makeOldestLast : Cond.code yX1_makeOldestLast cX1_makeOldestLast 3 none ∈ x_tbl := x_w 163 (by decide +kernel) (by decide +kernel)
theorem okX1_makeOldestLast : xOk kX1_makeOldestLast 0 := ⟨by decide +kernel, by decide +kernel, wcX1_makeOldestLast, wn_RX1⟩
theorem wiX1_makeOldestLast : Cond.instanceMethod yX1_makeOldestLast ∈ x_tbl := x_w 162 (by decide +kernel) (by decide +kernel)
theorem wzX1_makeOldestLast : Cond.selects RX1 yX1_makeOldestLast yX1_makeOldestLast ∈ x_tbl := x_w 1 (by decide +kernel) (by decide +kernel)
theorem wcX3_lay : Cond.code yX3_lay cX3_lay 3 (some .int) ∈ x_tbl := x_w 168 (by decide +kernel) (by decide +kernel)
theorem okX3_lay : xOk kX3_lay 2 := ⟨by decide +kernel, by decide +kernel, wcX3_lay, wn_RX3⟩
theorem wiX3_lay : Cond.instanceMethod yX3_lay ∈ x_tbl := x_w 166 (by decide +kernel) (by decide +kernel)
theorem wzX3_lay : Cond.selects RX3 yX3_lay yX3_lay ∈ x_tbl := x_w 167 (by decide +kernel) (by decide +kernel)
theorem wcX0_layCarpet : Cond.code yX0_layCarpet cX0_layCarpet 3 (some .int) ∈ x_tbl := x_w 172 (by decide +kernel) (by decide +kernel)
theorem okX0_layCarpet : xOk kX0_layCarpet 2 := ⟨by decide +kernel, by decide +kernel, wcX0_layCarpet, wn_RX0⟩
theorem wiX0_layCarpet : Cond.instanceMethod yX0_layCarpet ∈ x_tbl := x_w 170 (by decide +kernel) (by decide +kernel)
theorem wzX0_layCarpet : Cond.selects RX0 yX0_layCarpet yX0_layCarpet ∈ x_tbl := x_w 171 (by decide +kernel) (by decide +kernel)
theorem wcX0_isBelowTop : Cond.code yX0_isBelowTop cX0_isBelowTop 2 (some .boolean) ∈ x_tbl := x_w 176 (by decide +kernel) (by decide +kernel)
theorem okX0_isBelowTop : xOk kX0_isBelowTop 1 := ⟨by decide +kernel, by decide +kernel, wcX0_isBelowTop, wn_RX0⟩
theorem wiX0_isBelowTop : Cond.instanceMethod yX0_isBelowTop ∈ x_tbl := x_w 174 (by decide +kernel) (by decide +kernel)
theorem wzX0_isBelowTop : Cond.selects RX0 yX0_isBelowTop yX0_isBelowTop ∈ x_tbl := x_w 175 (by decide +kernel) (by decide +kernel)
theorem wcX0_lowerEndsAt : Cond.code yX0_lowerEndsAt cX0_lowerEndsAt 4 (some .int) ∈ x_tbl := x_w 180 (by decide +kernel) (by decide +kernel)
theorem okX0_lowerEndsAt : xOk kX0_lowerEndsAt 1 := ⟨by decide +kernel, by decide +kernel, wcX0_lowerEndsAt, wn_RX0⟩
theorem wiX0_lowerEndsAt : Cond.instanceMethod yX0_lowerEndsAt ∈ x_tbl := x_w 178 (by decide +kernel) (by decide +kernel)
theorem wzX0_lowerEndsAt : Cond.selects RX0 yX0_lowerEndsAt yX0_lowerEndsAt ∈ x_tbl := x_w 179 (by decide +kernel) (by decide +kernel)
theorem wcX0_countCarpets : Cond.code yX0_countCarpets cX0_countCarpets 3 (some .int) ∈ x_tbl := x_w 184 (by decide +kernel) (by decide +kernel)
theorem okX0_countCarpets : xOk kX0_countCarpets 0 := ⟨by decide +kernel, by decide +kernel, wcX0_countCarpets, wn_RX0⟩
theorem wiX0_countCarpets : Cond.instanceMethod yX0_countCarpets ∈ x_tbl := x_w 182 (by decide +kernel) (by decide +kernel)
theorem wzX0_countCarpets : Cond.selects RX0 yX0_countCarpets yX0_countCarpets ∈ x_tbl := x_w 183 (by decide +kernel) (by decide +kernel)
theorem wcX3_take : Cond.code yX3_take cX3_take 2 (some .int) ∈ x_tbl := x_w 188 (by decide +kernel) (by decide +kernel)
theorem okX3_take : xOk kX3_take 1 := ⟨by decide +kernel, by decide +kernel, wcX3_take, wn_RX3⟩
theorem wiX3_take : Cond.instanceMethod yX3_take ∈ x_tbl := x_w 186 (by decide +kernel) (by decide +kernel)
theorem wzX3_take : Cond.selects RX3 yX3_take yX3_take ∈ x_tbl := x_w 187 (by decide +kernel) (by decide +kernel)
theorem wcX0_takeCarpet : Cond.code yX0_takeCarpet cX0_takeCarpet 3 (some .int) ∈ x_tbl := x_w 192 (by decide +kernel) (by decide +kernel)
theorem okX0_takeCarpet : xOk kX0_takeCarpet 1 := ⟨by decide +kernel, by decide +kernel, wcX0_takeCarpet, wn_RX0⟩
theorem wiX0_takeCarpet : Cond.instanceMethod yX0_takeCarpet ∈ x_tbl := x_w 190 (by decide +kernel) (by decide +kernel)
theorem wzX0_takeCarpet : Cond.selects RX0 yX0_takeCarpet yX0_takeCarpet ∈ x_tbl := x_w 191 (by decide +kernel) (by decide +kernel)
theorem wcX3_put : Cond.code yX3_put cX3_put 2 (some .int) ∈ x_tbl := x_w 196 (by decide +kernel) (by decide +kernel)
theorem okX3_put : xOk kX3_put 1 := ⟨by decide +kernel, by decide +kernel, wcX3_put, wn_RX3⟩
theorem wiX3_put : Cond.instanceMethod yX3_put ∈ x_tbl := x_w 194 (by decide +kernel) (by decide +kernel)
theorem wzX3_put : Cond.selects RX3 yX3_put yX3_put ∈ x_tbl := x_w 195 (by decide +kernel) (by decide +kernel)
theorem wcX0_putLanding : Cond.code yX0_putLanding cX0_putLanding 2 (some .int) ∈ x_tbl := x_w 200 (by decide +kernel) (by decide +kernel)
theorem okX0_putLanding : xOk kX0_putLanding 1 := ⟨by decide +kernel, by decide +kernel, wcX0_putLanding, wn_RX0⟩
theorem wiX0_putLanding : Cond.instanceMethod yX0_putLanding ∈ x_tbl := x_w 198 (by decide +kernel) (by decide +kernel)
theorem wzX0_putLanding : Cond.selects RX0 yX0_putLanding yX0_putLanding ∈ x_tbl := x_w 199 (by decide +kernel) (by decide +kernel)
theorem wcX0_countLandings : Cond.code yX0_countLandings cX0_countLandings 3 (some .int) ∈ x_tbl := x_w 204 (by decide +kernel) (by decide +kernel)
theorem okX0_countLandings : xOk kX0_countLandings 0 := ⟨by decide +kernel, by decide +kernel, wcX0_countLandings, wn_RX0⟩
theorem wiX0_countLandings : Cond.instanceMethod yX0_countLandings ∈ x_tbl := x_w 202 (by decide +kernel) (by decide +kernel)
theorem wzX0_countLandings : Cond.selects RX0 yX0_countLandings yX0_countLandings ∈ x_tbl := x_w 203 (by decide +kernel) (by decide +kernel)
theorem wcX0_isLanding : Cond.code yX0_isLanding cX0_isLanding 2 (some .boolean) ∈ x_tbl := x_w 208 (by decide +kernel) (by decide +kernel)
theorem okX0_isLanding : xOk kX0_isLanding 1 := ⟨by decide +kernel, by decide +kernel, wcX0_isLanding, wn_RX0⟩
theorem wiX0_isLanding : Cond.instanceMethod yX0_isLanding ∈ x_tbl := x_w 206 (by decide +kernel) (by decide +kernel)
theorem wzX0_isLanding : Cond.selects RX0 yX0_isLanding yX0_isLanding ∈ x_tbl := x_w 207 (by decide +kernel) (by decide +kernel)
theorem wcX3_remove : Cond.code yX3_remove cX3_remove 2 (some .int) ∈ x_tbl := x_w 212 (by decide +kernel) (by decide +kernel)
theorem okX3_remove : xOk kX3_remove 1 := ⟨by decide +kernel, by decide +kernel, wcX3_remove, wn_RX3⟩
theorem wiX3_remove : Cond.instanceMethod yX3_remove ∈ x_tbl := x_w 210 (by decide +kernel) (by decide +kernel)
theorem wzX3_remove : Cond.selects RX3 yX3_remove yX3_remove ∈ x_tbl := x_w 211 (by decide +kernel) (by decide +kernel)
theorem wcX0_removeLanding : Cond.code yX0_removeLanding cX0_removeLanding 2 (some .int) ∈ x_tbl := x_w 216 (by decide +kernel) (by decide +kernel)
theorem okX0_removeLanding : xOk kX0_removeLanding 1 := ⟨by decide +kernel, by decide +kernel, wcX0_removeLanding, wn_RX0⟩
theorem wiX0_removeLanding : Cond.instanceMethod yX0_removeLanding ∈ x_tbl := x_w 214 (by decide +kernel) (by decide +kernel)
theorem wzX0_removeLanding : Cond.selects RX0 yX0_removeLanding yX0_removeLanding ∈ x_tbl := x_w 215 (by decide +kernel) (by decide +kernel)
theorem wcJ6_bitCount_0f7a4 : Cond.code yJ6_bitCount_0f7a4 cJ6_bitCount_0f7a4 1 (some .int) ∈ x_tbl := x_w 219 (by decide +kernel) (by decide +kernel)
theorem wn_RJ6 : Cond.initialized RJ6 ∈ x_tbl := x_w 18 (by decide +kernel) (by decide +kernel)
theorem okJ6_bitCount_0f7a4 : xOk kJ6_bitCount_0f7a4 1 := ⟨by decide +kernel, by decide +kernel, wcJ6_bitCount_0f7a4, wn_RJ6⟩
theorem wsJ6_bitCount_0f7a4 : Cond.static yJ6_bitCount_0f7a4 ∈ x_tbl := x_w 218 (by decide +kernel) (by decide +kernel)
theorem wcX3_join : Cond.code yX3_join cX3_join 1 (some .int) ∈ x_tbl := x_w 226 (by decide +kernel) (by decide +kernel)
theorem okX3_join : xOk kX3_join 0 := ⟨by decide +kernel, by decide +kernel, wcX3_join, wn_RX3⟩
theorem wiX3_join : Cond.instanceMethod yX3_join ∈ x_tbl := x_w 224 (by decide +kernel) (by decide +kernel)
theorem wzX3_join : Cond.selects RX3 yX3_join yX3_join ∈ x_tbl := x_w 225 (by decide +kernel) (by decide +kernel)
theorem wcX0_addClimber : Cond.code yX0_addClimber cX0_addClimber 1 (some .int) ∈ x_tbl := x_w 230 (by decide +kernel) (by decide +kernel)
theorem okX0_addClimber : xOk kX0_addClimber 0 := ⟨by decide +kernel, by decide +kernel, wcX0_addClimber, wn_RX0⟩
theorem wiX0_addClimber : Cond.instanceMethod yX0_addClimber ∈ x_tbl := x_w 228 (by decide +kernel) (by decide +kernel)
theorem wzX0_addClimber : Cond.selects RX0 yX0_addClimber yX0_addClimber ∈ x_tbl := x_w 229 (by decide +kernel) (by decide +kernel)
theorem wcX3_roll : Cond.code yX3_roll cX3_roll 2 (some .int) ∈ x_tbl := x_w 234 (by decide +kernel) (by decide +kernel)
theorem okX3_roll : xOk kX3_roll 1 := ⟨by decide +kernel, by decide +kernel, wcX3_roll, wn_RX3⟩
theorem wiX3_roll : Cond.instanceMethod yX3_roll ∈ x_tbl := x_w 232 (by decide +kernel) (by decide +kernel)
theorem wzX3_roll : Cond.selects RX3 yX3_roll yX3_roll ∈ x_tbl := x_w 233 (by decide +kernel) (by decide +kernel)
theorem wcX0_makeRoll : Cond.code yX0_makeRoll cX0_makeRoll 4 (some .int) ∈ x_tbl := x_w 238 (by decide +kernel) (by decide +kernel)
theorem okX0_makeRoll : xOk kX0_makeRoll 1 := ⟨by decide +kernel, by decide +kernel, wcX0_makeRoll, wn_RX0⟩
theorem wiX0_makeRoll : Cond.instanceMethod yX0_makeRoll ∈ x_tbl := x_w 236 (by decide +kernel) (by decide +kernel)
theorem wzX0_makeRoll : Cond.selects RX0 yX0_makeRoll yX0_makeRoll ∈ x_tbl := x_w 237 (by decide +kernel) (by decide +kernel)
theorem wcX3_isRoll : Cond.code yX3_isRoll cX3_isRoll 1 (some .boolean) ∈ x_tbl := x_w 241 (by decide +kernel) (by decide +kernel)
theorem okX3_isRoll : xOk kX3_isRoll 1 := ⟨by decide +kernel, by decide +kernel, wcX3_isRoll, wn_RX3⟩
theorem wsX3_isRoll : Cond.static yX3_isRoll ∈ x_tbl := x_w 240 (by decide +kernel) (by decide +kernel)
theorem wcX0_hasMover : Cond.code yX0_hasMover cX0_hasMover 1 (some .boolean) ∈ x_tbl := x_w 245 (by decide +kernel) (by decide +kernel)
theorem okX0_hasMover : xOk kX0_hasMover 0 := ⟨by decide +kernel, by decide +kernel, wcX0_hasMover, wn_RX0⟩
theorem wiX0_hasMover : Cond.instanceMethod yX0_hasMover ∈ x_tbl := x_w 243 (by decide +kernel) (by decide +kernel)
theorem wzX0_hasMover : Cond.selects RX0 yX0_hasMover yX0_hasMover ∈ x_tbl := x_w 244 (by decide +kernel) (by decide +kernel)
theorem wcX0_isClimber : Cond.code yX0_isClimber cX0_isClimber 2 (some .boolean) ∈ x_tbl := x_w 249 (by decide +kernel) (by decide +kernel)
theorem okX0_isClimber : xOk kX0_isClimber 1 := ⟨by decide +kernel, by decide +kernel, wcX0_isClimber, wn_RX0⟩
theorem wiX0_isClimber : Cond.instanceMethod yX0_isClimber ∈ x_tbl := x_w 247 (by decide +kernel) (by decide +kernel)
theorem wzX0_isClimber : Cond.selects RX0 yX0_isClimber yX0_isClimber ∈ x_tbl := x_w 248 (by decide +kernel) (by decide +kernel)
theorem wcX0_liftThosePassed : Cond.code yX0_liftThosePassed cX0_liftThosePassed 3 none ∈ x_tbl := x_w 253 (by decide +kernel) (by decide +kernel)
theorem okX0_liftThosePassed : xOk kX0_liftThosePassed 1 := ⟨by decide +kernel, by decide +kernel, wcX0_liftThosePassed, wn_RX0⟩
theorem wiX0_liftThosePassed : Cond.instanceMethod yX0_liftThosePassed ∈ x_tbl := x_w 252 (by decide +kernel) (by decide +kernel)
theorem wzX0_liftThosePassed : Cond.selects RX0 yX0_liftThosePassed yX0_liftThosePassed ∈ x_tbl := x_w 2 (by decide +kernel) (by decide +kernel)
theorem wcX0_isPassed : Cond.code yX0_isPassed cX0_isPassed 5 (some .boolean) ∈ x_tbl := x_w 257 (by decide +kernel) (by decide +kernel)
theorem okX0_isPassed : xOk kX0_isPassed 2 := ⟨by decide +kernel, by decide +kernel, wcX0_isPassed, wn_RX0⟩
theorem wiX0_isPassed : Cond.instanceMethod yX0_isPassed ∈ x_tbl := x_w 256 (by decide +kernel) (by decide +kernel)
theorem wzX0_isPassed : Cond.selects RX0 yX0_isPassed yX0_isPassed ∈ x_tbl := x_w 3 (by decide +kernel) (by decide +kernel)
theorem wcX0_comeTo : Cond.code yX0_comeTo cX0_comeTo 3 none ∈ x_tbl := x_w 261 (by decide +kernel) (by decide +kernel)
theorem okX0_comeTo : xOk kX0_comeTo 2 := ⟨by decide +kernel, by decide +kernel, wcX0_comeTo, wn_RX0⟩
theorem wiX0_comeTo : Cond.instanceMethod yX0_comeTo ∈ x_tbl := x_w 260 (by decide +kernel) (by decide +kernel)
theorem wzX0_comeTo : Cond.selects RX0 yX0_comeTo yX0_comeTo ∈ x_tbl := x_w 4 (by decide +kernel) (by decide +kernel)
theorem wcX0_goToNextMover : Cond.code yX0_goToNextMover cX0_goToNextMover 3 none ∈ x_tbl := x_w 265 (by decide +kernel) (by decide +kernel)
theorem okX0_goToNextMover : xOk kX0_goToNextMover 0 := ⟨by decide +kernel, by decide +kernel, wcX0_goToNextMover, wn_RX0⟩
theorem wiX0_goToNextMover : Cond.instanceMethod yX0_goToNextMover ∈ x_tbl := x_w 264 (by decide +kernel) (by decide +kernel)
theorem wzX0_goToNextMover : Cond.selects RX0 yX0_goToNextMover yX0_goToNextMover ∈ x_tbl := x_w 5 (by decide +kernel) (by decide +kernel)
theorem wcX0_behind : Cond.code yX0_behind cX0_behind 2 (some .int) ∈ x_tbl := x_w 269 (by decide +kernel) (by decide +kernel)
theorem okX0_behind : xOk kX0_behind 1 := ⟨by decide +kernel, by decide +kernel, wcX0_behind, wn_RX0⟩
theorem wiX0_behind : Cond.instanceMethod yX0_behind ∈ x_tbl := x_w 268 (by decide +kernel) (by decide +kernel)
theorem wzX0_behind : Cond.selects RX0 yX0_behind yX0_behind ∈ x_tbl := x_w 6 (by decide +kernel) (by decide +kernel)
theorem wcX3_pass : Cond.code yX3_pass cX3_pass 1 (some .int) ∈ x_tbl := x_w 273 (by decide +kernel) (by decide +kernel)
theorem okX3_pass : xOk kX3_pass 0 := ⟨by decide +kernel, by decide +kernel, wcX3_pass, wn_RX3⟩
theorem wiX3_pass : Cond.instanceMethod yX3_pass ∈ x_tbl := x_w 271 (by decide +kernel) (by decide +kernel)
theorem wzX3_pass : Cond.selects RX3 yX3_pass yX3_pass ∈ x_tbl := x_w 272 (by decide +kernel) (by decide +kernel)
theorem wcX0_makePass : Cond.code yX0_makePass cX0_makePass 1 (some .int) ∈ x_tbl := x_w 277 (by decide +kernel) (by decide +kernel)
theorem okX0_makePass : xOk kX0_makePass 0 := ⟨by decide +kernel, by decide +kernel, wcX0_makePass, wn_RX0⟩
theorem wiX0_makePass : Cond.instanceMethod yX0_makePass ∈ x_tbl := x_w 275 (by decide +kernel) (by decide +kernel)
theorem wzX0_makePass : Cond.selects RX0 yX0_makePass yX0_makePass ∈ x_tbl := x_w 276 (by decide +kernel) (by decide +kernel)
theorem wcL_cell : Cond.code yL_cell cL_cell 2 (some .int) ∈ x_tbl := x_w 280 (by decide +kernel) (by decide +kernel)
theorem wn_RL : Cond.initialized RL ∈ x_tbl := x_w 12 (by decide +kernel) (by decide +kernel)
theorem okL_cell : xOk kL_cell 2 := ⟨by decide +kernel, by decide +kernel, wcL_cell, wn_RL⟩
theorem wsL_cell : Cond.static yL_cell ∈ x_tbl := x_w 279 (by decide +kernel) (by decide +kernel)
theorem wcL_low : Cond.code yL_low cL_low 2 (some .int) ∈ x_tbl := x_w 285 (by decide +kernel) (by decide +kernel)
theorem okL_low : xOk kL_low 2 := ⟨by decide +kernel, by decide +kernel, wcL_low, wn_RL⟩
theorem wsL_low : Cond.static yL_low ∈ x_tbl := x_w 284 (by decide +kernel) (by decide +kernel)
theorem wcL_next : Cond.code yL_next cL_next 3 none ∈ x_tbl := x_w 289 (by decide +kernel) (by decide +kernel)
theorem okL_next : xOk kL_next 2 := ⟨by decide +kernel, by decide +kernel, wcL_next, wn_RL⟩
theorem wsL_next : Cond.static yL_next ∈ x_tbl := x_w 288 (by decide +kernel) (by decide +kernel)
theorem wcL_roll : Cond.code yL_roll cL_roll 11 (some .int) ∈ x_tbl := x_w 292 (by decide +kernel) (by decide +kernel)
theorem okL_roll : xOk kL_roll 5 := ⟨by decide +kernel, by decide +kernel, wcL_roll, wn_RL⟩
theorem wsL_roll : Cond.static yL_roll ∈ x_tbl := x_w 291 (by decide +kernel) (by decide +kernel)
theorem wcL_come : Cond.code yL_come cL_come 5 none ∈ x_tbl := x_w 295 (by decide +kernel) (by decide +kernel)
theorem okL_come : xOk kL_come 5 := ⟨by decide +kernel, by decide +kernel, wcL_come, wn_RL⟩
theorem wsL_come : Cond.static yL_come ∈ x_tbl := x_w 294 (by decide +kernel) (by decide +kernel)
theorem wcL_sum : Cond.code yL_sum cL_sum 3 (some .int) ∈ x_tbl := x_w 298 (by decide +kernel) (by decide +kernel)
theorem okL_sum : xOk kL_sum 1 := ⟨by decide +kernel, by decide +kernel, wcL_sum, wn_RL⟩
theorem wsL_sum : Cond.static yL_sum ∈ x_tbl := x_w 297 (by decide +kernel) (by decide +kernel)
theorem wcL_ahead : Cond.code yL_ahead cL_ahead 15 (some .boolean) ∈ x_tbl := x_w 301 (by decide +kernel) (by decide +kernel)
theorem okL_ahead : xOk kL_ahead 5 := ⟨by decide +kernel, by decide +kernel, wcL_ahead, wn_RL⟩
theorem wsL_ahead : Cond.static yL_ahead ∈ x_tbl := x_w 300 (by decide +kernel) (by decide +kernel)
theorem wcL_copy : Cond.code yL_copy cL_copy 3 none ∈ x_tbl := x_w 304 (by decide +kernel) (by decide +kernel)
theorem okL_copy : xOk kL_copy 2 := ⟨by decide +kernel, by decide +kernel, wcL_copy, wn_RL⟩
theorem wsL_copy : Cond.static yL_copy ∈ x_tbl := x_w 303 (by decide +kernel) (by decide +kernel)
theorem wcL_progress : Cond.code yL_progress cL_progress 3 (some .int) ∈ x_tbl := x_w 307 (by decide +kernel) (by decide +kernel)
theorem okL_progress : xOk kL_progress 3 := ⟨by decide +kernel, by decide +kernel, wcL_progress, wn_RL⟩
theorem wsL_progress : Cond.static yL_progress ∈ x_tbl := x_w 306 (by decide +kernel) (by decide +kernel)
theorem wcX3_ifRolled : Cond.code yX3_ifRolled cX3_ifRolled 4 (some .int) ∈ x_tbl := x_w 311 (by decide +kernel) (by decide +kernel)
theorem okX3_ifRolled : xOk kX3_ifRolled 2 := ⟨by decide +kernel, by decide +kernel, wcX3_ifRolled, wn_RX3⟩
theorem wiX3_ifRolled : Cond.instanceMethod yX3_ifRolled ∈ x_tbl := x_w 309 (by decide +kernel) (by decide +kernel)
theorem wzX3_ifRolled : Cond.selects RX3 yX3_ifRolled yX3_ifRolled ∈ x_tbl := x_w 310 (by decide +kernel) (by decide +kernel)
theorem wcX3_rollInTrial : Cond.code yX3_rollInTrial cX3_rollInTrial 2 (some .int) ∈ x_tbl := x_w 317 (by decide +kernel) (by decide +kernel)
theorem okX3_rollInTrial : xOk kX3_rollInTrial 1 := ⟨by decide +kernel, by decide +kernel, wcX3_rollInTrial, wn_RX3⟩
theorem wiX3_rollInTrial : Cond.instanceMethod yX3_rollInTrial ∈ x_tbl := x_w 316 (by decide +kernel) (by decide +kernel)
theorem wzX3_rollInTrial : Cond.selects RX3 yX3_rollInTrial yX3_rollInTrial ∈ x_tbl := x_w 7 (by decide +kernel) (by decide +kernel)
theorem wcX0_liftsOfAll : Cond.code yX0_liftsOfAll cX0_liftsOfAll 1 (some .int) ∈ x_tbl := x_w 321 (by decide +kernel) (by decide +kernel)
theorem okX0_liftsOfAll : xOk kX0_liftsOfAll 0 := ⟨by decide +kernel, by decide +kernel, wcX0_liftsOfAll, wn_RX0⟩
theorem wiX0_liftsOfAll : Cond.instanceMethod yX0_liftsOfAll ∈ x_tbl := x_w 319 (by decide +kernel) (by decide +kernel)
theorem wzX0_liftsOfAll : Cond.selects RX0 yX0_liftsOfAll yX0_liftsOfAll ∈ x_tbl := x_w 320 (by decide +kernel) (by decide +kernel)
theorem wcX0_sumOf : Cond.code yX0_sumOf cX0_sumOf 6 (some .int) ∈ x_tbl := x_w 324 (by decide +kernel) (by decide +kernel)
theorem okX0_sumOf : xOk kX0_sumOf 1 := ⟨by decide +kernel, by decide +kernel, wcX0_sumOf, wn_RX0⟩
theorem wsX0_sumOf : Cond.static yX0_sumOf ∈ x_tbl := x_w 323 (by decide +kernel) (by decide +kernel)
theorem wcX0_topsOfAll : Cond.code yX0_topsOfAll cX0_topsOfAll 1 (some .int) ∈ x_tbl := x_w 328 (by decide +kernel) (by decide +kernel)
theorem okX0_topsOfAll : xOk kX0_topsOfAll 0 := ⟨by decide +kernel, by decide +kernel, wcX0_topsOfAll, wn_RX0⟩
theorem wiX0_topsOfAll : Cond.instanceMethod yX0_topsOfAll ∈ x_tbl := x_w 326 (by decide +kernel) (by decide +kernel)
theorem wzX0_topsOfAll : Cond.selects RX0 yX0_topsOfAll yX0_topsOfAll ∈ x_tbl := x_w 327 (by decide +kernel) (by decide +kernel)
theorem wcX0_slipsOfAll : Cond.code yX0_slipsOfAll cX0_slipsOfAll 1 (some .int) ∈ x_tbl := x_w 332 (by decide +kernel) (by decide +kernel)
theorem okX0_slipsOfAll : xOk kX0_slipsOfAll 0 := ⟨by decide +kernel, by decide +kernel, wcX0_slipsOfAll, wn_RX0⟩
theorem wiX0_slipsOfAll : Cond.instanceMethod yX0_slipsOfAll ∈ x_tbl := x_w 330 (by decide +kernel) (by decide +kernel)
theorem wzX0_slipsOfAll : Cond.selects RX0 yX0_slipsOfAll yX0_slipsOfAll ∈ x_tbl := x_w 331 (by decide +kernel) (by decide +kernel)
theorem wcL_tops : Cond.code yL_tops cL_tops 4 (some .int) ∈ x_tbl := x_w 335 (by decide +kernel) (by decide +kernel)
theorem okL_tops : xOk kL_tops 2 := ⟨by decide +kernel, by decide +kernel, wcL_tops, wn_RL⟩
theorem wsL_tops : Cond.static yL_tops ∈ x_tbl := x_w 334 (by decide +kernel) (by decide +kernel)
theorem wcX3_bestRoll : Cond.code yX3_bestRoll cX3_bestRoll 5 (some .int) ∈ x_tbl := x_w 339 (by decide +kernel) (by decide +kernel)
theorem okX3_bestRoll : xOk kX3_bestRoll 0 := ⟨by decide +kernel, by decide +kernel, wcX3_bestRoll, wn_RX3⟩
theorem wiX3_bestRoll : Cond.instanceMethod yX3_bestRoll ∈ x_tbl := x_w 337 (by decide +kernel) (by decide +kernel)
theorem wzX3_bestRoll : Cond.selects RX3 yX3_bestRoll yX3_bestRoll ∈ x_tbl := x_w 338 (by decide +kernel) (by decide +kernel)
theorem wcX3_gainOfRoll : Cond.code yX3_gainOfRoll cX3_gainOfRoll 5 (some .int) ∈ x_tbl := x_w 343 (by decide +kernel) (by decide +kernel)
theorem okX3_gainOfRoll : xOk kX3_gainOfRoll 1 := ⟨by decide +kernel, by decide +kernel, wcX3_gainOfRoll, wn_RX3⟩
theorem wiX3_gainOfRoll : Cond.instanceMethod yX3_gainOfRoll ∈ x_tbl := x_w 342 (by decide +kernel) (by decide +kernel)
theorem wzX3_gainOfRoll : Cond.selects RX3 yX3_gainOfRoll yX3_gainOfRoll ∈ x_tbl := x_w 8 (by decide +kernel) (by decide +kernel)
theorem wcX0_progressOf : Cond.code yX0_progressOf cX0_progressOf 2 (some .int) ∈ x_tbl := x_w 347 (by decide +kernel) (by decide +kernel)
theorem okX0_progressOf : xOk kX0_progressOf 1 := ⟨by decide +kernel, by decide +kernel, wcX0_progressOf, wn_RX0⟩
theorem wiX0_progressOf : Cond.instanceMethod yX0_progressOf ∈ x_tbl := x_w 345 (by decide +kernel) (by decide +kernel)
theorem wzX0_progressOf : Cond.selects RX0 yX0_progressOf yX0_progressOf ∈ x_tbl := x_w 346 (by decide +kernel) (by decide +kernel)
theorem wcX3_quietRolls : Cond.code yX3_quietRolls cX3_quietRolls 3 (some .int) ∈ x_tbl := x_w 351 (by decide +kernel) (by decide +kernel)
theorem okX3_quietRolls : xOk kX3_quietRolls 0 := ⟨by decide +kernel, by decide +kernel, wcX3_quietRolls, wn_RX3⟩
theorem wiX3_quietRolls : Cond.instanceMethod yX3_quietRolls ∈ x_tbl := x_w 349 (by decide +kernel) (by decide +kernel)
theorem wzX3_quietRolls : Cond.selects RX3 yX3_quietRolls yX3_quietRolls ∈ x_tbl := x_w 350 (by decide +kernel) (by decide +kernel)
theorem wcX0_wouldLift : Cond.code yX0_wouldLift cX0_wouldLift 3 (some .boolean) ∈ x_tbl := x_w 355 (by decide +kernel) (by decide +kernel)
theorem okX0_wouldLift : xOk kX0_wouldLift 1 := ⟨by decide +kernel, by decide +kernel, wcX0_wouldLift, wn_RX0⟩
theorem wiX0_wouldLift : Cond.instanceMethod yX0_wouldLift ∈ x_tbl := x_w 353 (by decide +kernel) (by decide +kernel)
theorem wzX0_wouldLift : Cond.selects RX0 yX0_wouldLift yX0_wouldLift ∈ x_tbl := x_w 354 (by decide +kernel) (by decide +kernel)
theorem wcL_game : Cond.code yL_game cL_game 10 (some .boolean) ∈ x_tbl := x_w 358 (by decide +kernel) (by decide +kernel)
theorem okL_game : xOk kL_game 6 := ⟨by decide +kernel, by decide +kernel, wcL_game, wn_RL⟩
theorem wsL_game : Cond.static yL_game ∈ x_tbl := x_w 357 (by decide +kernel) (by decide +kernel)
theorem wcX3_climber : Cond.code yX3_climber cX3_climber 3 (some .int) ∈ x_tbl := x_w 362 (by decide +kernel) (by decide +kernel)
theorem okX3_climber : xOk kX3_climber 2 := ⟨by decide +kernel, by decide +kernel, wcX3_climber, wn_RX3⟩
theorem wiX3_climber : Cond.instanceMethod yX3_climber ∈ x_tbl := x_w 360 (by decide +kernel) (by decide +kernel)
theorem wzX3_climber : Cond.selects RX3 yX3_climber yX3_climber ∈ x_tbl := x_w 361 (by decide +kernel) (by decide +kernel)
theorem wcX0_partOfClimber : Cond.code yX0_partOfClimber cX0_partOfClimber 3 (some .int) ∈ x_tbl := x_w 366 (by decide +kernel) (by decide +kernel)
theorem okX0_partOfClimber : xOk kX0_partOfClimber 2 := ⟨by decide +kernel, by decide +kernel, wcX0_partOfClimber, wn_RX0⟩
theorem wiX0_partOfClimber : Cond.instanceMethod yX0_partOfClimber ∈ x_tbl := x_w 364 (by decide +kernel) (by decide +kernel)
theorem wzX0_partOfClimber : Cond.selects RX0 yX0_partOfClimber yX0_partOfClimber ∈ x_tbl := x_w 365 (by decide +kernel) (by decide +kernel)
theorem wcX3_rank : Cond.code yX3_rank cX3_rank 2 (some .int) ∈ x_tbl := x_w 371 (by decide +kernel) (by decide +kernel)
theorem okX3_rank : xOk kX3_rank 1 := ⟨by decide +kernel, by decide +kernel, wcX3_rank, wn_RX3⟩
theorem wiX3_rank : Cond.instanceMethod yX3_rank ∈ x_tbl := x_w 369 (by decide +kernel) (by decide +kernel)
theorem wzX3_rank : Cond.selects RX3 yX3_rank yX3_rank ∈ x_tbl := x_w 370 (by decide +kernel) (by decide +kernel)
theorem wcX0_climberAtPlace : Cond.code yX0_climberAtPlace cX0_climberAtPlace 3 (some .int) ∈ x_tbl := x_w 375 (by decide +kernel) (by decide +kernel)
theorem okX0_climberAtPlace : xOk kX0_climberAtPlace 1 := ⟨by decide +kernel, by decide +kernel, wcX0_climberAtPlace, wn_RX0⟩
theorem wiX0_climberAtPlace : Cond.instanceMethod yX0_climberAtPlace ∈ x_tbl := x_w 373 (by decide +kernel) (by decide +kernel)
theorem wzX0_climberAtPlace : Cond.selects RX0 yX0_climberAtPlace yX0_climberAtPlace ∈ x_tbl := x_w 374 (by decide +kernel) (by decide +kernel)
theorem wcX0_climbersAheadOf : Cond.code yX0_climbersAheadOf cX0_climbersAheadOf 6 (some .int) ∈ x_tbl := x_w 379 (by decide +kernel) (by decide +kernel)
theorem okX0_climbersAheadOf : xOk kX0_climbersAheadOf 1 := ⟨by decide +kernel, by decide +kernel, wcX0_climbersAheadOf, wn_RX0⟩
theorem wiX0_climbersAheadOf : Cond.instanceMethod yX0_climbersAheadOf ∈ x_tbl := x_w 378 (by decide +kernel) (by decide +kernel)
theorem wzX0_climbersAheadOf : Cond.selects RX0 yX0_climbersAheadOf yX0_climbersAheadOf ∈ x_tbl := x_w 9 (by decide +kernel) (by decide +kernel)
theorem wcX3_rollsToTop : Cond.code yX3_rollsToTop cX3_rollsToTop 2 (some .int) ∈ x_tbl := x_w 383 (by decide +kernel) (by decide +kernel)
theorem okX3_rollsToTop : xOk kX3_rollsToTop 1 := ⟨by decide +kernel, by decide +kernel, wcX3_rollsToTop, wn_RX3⟩
theorem wiX3_rollsToTop : Cond.instanceMethod yX3_rollsToTop ∈ x_tbl := x_w 381 (by decide +kernel) (by decide +kernel)
theorem wzX3_rollsToTop : Cond.selects RX3 yX3_rollsToTop yX3_rollsToTop ∈ x_tbl := x_w 382 (by decide +kernel) (by decide +kernel)
theorem wcX0_fewestRollsOf : Cond.code yX0_fewestRollsOf cX0_fewestRollsOf 5 (some .int) ∈ x_tbl := x_w 388 (by decide +kernel) (by decide +kernel)
theorem okX0_fewestRollsOf : xOk kX0_fewestRollsOf 1 := ⟨by decide +kernel, by decide +kernel, wcX0_fewestRollsOf, wn_RX0⟩
theorem wiX0_fewestRollsOf : Cond.instanceMethod yX0_fewestRollsOf ∈ x_tbl := x_w 386 (by decide +kernel) (by decide +kernel)
theorem wzX0_fewestRollsOf : Cond.selects RX0 yX0_fewestRollsOf yX0_fewestRollsOf ∈ x_tbl := x_w 387 (by decide +kernel) (by decide +kernel)
theorem wcX0_reachedWithOneMore : Cond.code yX0_reachedWithOneMore cX0_reachedWithOneMore 6 (some .long) ∈ x_tbl := x_w 392 (by decide +kernel) (by decide +kernel)
theorem okX0_reachedWithOneMore : xOk kX0_reachedWithOneMore 1 := ⟨by decide +kernel, by decide +kernel, wcX0_reachedWithOneMore, wn_RX0⟩
theorem wiX0_reachedWithOneMore : Cond.instanceMethod yX0_reachedWithOneMore ∈ x_tbl := x_w 391 (by decide +kernel) (by decide +kernel)
theorem wzX0_reachedWithOneMore : Cond.selects RX0 yX0_reachedWithOneMore yX0_reachedWithOneMore ∈ x_tbl := x_w 10 (by decide +kernel) (by decide +kernel)
theorem wcX0_reachedFrom : Cond.code yX0_reachedFrom cX0_reachedFrom 5 (some .long) ∈ x_tbl := x_w 396 (by decide +kernel) (by decide +kernel)
theorem okX0_reachedFrom : xOk kX0_reachedFrom 1 := ⟨by decide +kernel, by decide +kernel, wcX0_reachedFrom, wn_RX0⟩
theorem wiX0_reachedFrom : Cond.instanceMethod yX0_reachedFrom ∈ x_tbl := x_w 395 (by decide +kernel) (by decide +kernel)
theorem wzX0_reachedFrom : Cond.selects RX0 yX0_reachedFrom yX0_reachedFrom ∈ x_tbl := x_w 11 (by decide +kernel) (by decide +kernel)
theorem wcL_fewest : Cond.code yL_fewest cL_fewest 9 (some .int) ∈ x_tbl := x_w 399 (by decide +kernel) (by decide +kernel)
theorem okL_fewest : xOk kL_fewest 3 := ⟨by decide +kernel, by decide +kernel, wcL_fewest, wn_RL⟩
theorem wsL_fewest : Cond.static yL_fewest ∈ x_tbl := x_w 398 (by decide +kernel) (by decide +kernel)
theorem wcX3_on : Cond.code yX3_on cX3_on 2 (some .int) ∈ x_tbl := x_w 403 (by decide +kernel) (by decide +kernel)
theorem okX3_on : xOk kX3_on 1 := ⟨by decide +kernel, by decide +kernel, wcX3_on, wn_RX3⟩
theorem wiX3_on : Cond.instanceMethod yX3_on ∈ x_tbl := x_w 401 (by decide +kernel) (by decide +kernel)
theorem wzX3_on : Cond.selects RX3 yX3_on yX3_on ∈ x_tbl := x_w 402 (by decide +kernel) (by decide +kernel)
theorem wcX3_step : Cond.code yX3_step cX3_step 3 (some .int) ∈ x_tbl := x_w 409 (by decide +kernel) (by decide +kernel)
theorem okX3_step : xOk kX3_step 2 := ⟨by decide +kernel, by decide +kernel, wcX3_step, wn_RX3⟩
theorem wiX3_step : Cond.instanceMethod yX3_step ∈ x_tbl := x_w 407 (by decide +kernel) (by decide +kernel)
theorem wzX3_step : Cond.selects RX3 yX3_step yX3_step ∈ x_tbl := x_w 408 (by decide +kernel) (by decide +kernel)
theorem wcX0_partOfStep : Cond.code yX0_partOfStep cX0_partOfStep 3 (some .int) ∈ x_tbl := x_w 413 (by decide +kernel) (by decide +kernel)
theorem okX0_partOfStep : xOk kX0_partOfStep 2 := ⟨by decide +kernel, by decide +kernel, wcX0_partOfStep, wn_RX0⟩
theorem wiX0_partOfStep : Cond.instanceMethod yX0_partOfStep ∈ x_tbl := x_w 411 (by decide +kernel) (by decide +kernel)
theorem wzX0_partOfStep : Cond.selects RX0 yX0_partOfStep yX0_partOfStep ∈ x_tbl := x_w 412 (by decide +kernel) (by decide +kernel)
theorem wcX3_turn : Cond.code yX3_turn cX3_turn 1 (some .int) ∈ x_tbl := x_w 417 (by decide +kernel) (by decide +kernel)
theorem okX3_turn : xOk kX3_turn 0 := ⟨by decide +kernel, by decide +kernel, wcX3_turn, wn_RX3⟩
theorem wiX3_turn : Cond.instanceMethod yX3_turn ∈ x_tbl := x_w 415 (by decide +kernel) (by decide +kernel)
theorem wzX3_turn : Cond.selects RX3 yX3_turn yX3_turn ∈ x_tbl := x_w 416 (by decide +kernel) (by decide +kernel)
theorem wcX3_total : Cond.code yX3_total cX3_total 2 (some .int) ∈ x_tbl := x_w 421 (by decide +kernel) (by decide +kernel)
theorem okX3_total : xOk kX3_total 1 := ⟨by decide +kernel, by decide +kernel, wcX3_total, wn_RX3⟩
theorem wiX3_total : Cond.instanceMethod yX3_total ∈ x_tbl := x_w 419 (by decide +kernel) (by decide +kernel)
theorem wzX3_total : Cond.selects RX3 yX3_total yX3_total ∈ x_tbl := x_w 420 (by decide +kernel) (by decide +kernel)
theorem wcX0_totalOf : Cond.code yX0_totalOf cX0_totalOf 2 (some .int) ∈ x_tbl := x_w 425 (by decide +kernel) (by decide +kernel)
theorem okX0_totalOf : xOk kX0_totalOf 1 := ⟨by decide +kernel, by decide +kernel, wcX0_totalOf, wn_RX0⟩
theorem wiX0_totalOf : Cond.instanceMethod yX0_totalOf ∈ x_tbl := x_w 423 (by decide +kernel) (by decide +kernel)
theorem wzX0_totalOf : Cond.selects RX0 yX0_totalOf yX0_totalOf ∈ x_tbl := x_w 424 (by decide +kernel) (by decide +kernel)
theorem wl_L_77 : Cond.methodLink RL 77 yX3_init ∈ x_tbl := x_w 21 (by decide +kernel) (by decide +kernel)
theorem wl_X3_1 : Cond.methodLink RX3 1 objectInit ∈ x_tbl := x_w 24 (by decide +kernel) (by decide +kernel)
theorem wl_X3_9 : Cond.methodLink RX3 9 yX0_init ∈ x_tbl := x_w 29 (by decide +kernel) (by decide +kernel)
theorem wl_X0_3 : Cond.methodLink RX0 3 objectInit ∈ x_tbl := x_w 32 (by decide +kernel) (by decide +kernel)
theorem wl_X3_27 : Cond.methodLink RX3 27 yX1_init ∈ x_tbl := x_w 79 (by decide +kernel) (by decide +kernel)
theorem wl_X1_3 : Cond.methodLink RX1 3 objectInit ∈ x_tbl := x_w 82 (by decide +kernel) (by decide +kernel)
theorem wl_X1_21 : Cond.methodLink RX1 21 yX0_init ∈ x_tbl := x_w 85 (by decide +kernel) (by decide +kernel)
theorem wl_X3_34 : Cond.methodLinkNest RX3 34 yX2_init RX3 ∈ x_nests := x_wn 95 (by decide +kernel) (by decide +kernel)
theorem wl_X2_3 : Cond.methodLink RX2 3 objectInit ∈ x_tbl := x_w 98 (by decide +kernel) (by decide +kernel)
theorem wl_L_88 : Cond.methodLink RL 88 yX3_setTop ∈ x_tbl := x_w 129 (by decide +kernel) (by decide +kernel)
theorem wl_X3_43 : Cond.methodLink RX3 43 yX0_copyFrom ∈ x_tbl := x_w 133 (by decide +kernel) (by decide +kernel)
theorem wl_X0_53 : Cond.methodLink RX0 53 arraycopyName ∈ x_tbl := x_w 137 (by decide +kernel) (by decide +kernel)
theorem wl_X3_47 : Cond.methodLink RX3 47 yX0_changeTop ∈ x_tbl := x_w 140 (by decide +kernel) (by decide +kernel)
theorem wl_X0_63 : Cond.methodLink RX0 63 yX0_isUpperEnd ∈ x_tbl := x_w 144 (by decide +kernel) (by decide +kernel)
theorem wl_X0_66 : Cond.methodLink RX0 66 yX0_climbersOn ∈ x_tbl := x_w 148 (by decide +kernel) (by decide +kernel)
theorem wl_X3_51 : Cond.methodLink RX3 51 yX3_recordUnlessError ∈ x_tbl := x_w 152 (by decide +kernel) (by decide +kernel)
theorem wl_X3_153 : Cond.methodLink RX3 153 yX1_keep ∈ x_tbl := x_w 156 (by decide +kernel) (by decide +kernel)
theorem wl_X1_22 : Cond.methodLink RX1 22 yX1_makeOldestLast ∈ x_tbl := x_w 160 (by decide +kernel) (by decide +kernel)
theorem wl_X1_25 : Cond.methodLink RX1 25 yX0_copyFrom ∈ x_tbl := x_w 164 (by decide +kernel) (by decide +kernel)
theorem wl_L_91 : Cond.methodLink RL 91 yX3_lay ∈ x_tbl := x_w 165 (by decide +kernel) (by decide +kernel)
theorem wl_X3_54 : Cond.methodLink RX3 54 yX0_layCarpet ∈ x_tbl := x_w 169 (by decide +kernel) (by decide +kernel)
theorem wl_X0_70 : Cond.methodLink RX0 70 yX0_isBelowTop ∈ x_tbl := x_w 173 (by decide +kernel) (by decide +kernel)
theorem wl_X0_73 : Cond.methodLink RX0 73 yX0_lowerEndsAt ∈ x_tbl := x_w 177 (by decide +kernel) (by decide +kernel)
theorem wl_X0_76 : Cond.methodLink RX0 76 yX0_countCarpets ∈ x_tbl := x_w 181 (by decide +kernel) (by decide +kernel)
theorem wl_L_94 : Cond.methodLink RL 94 yX3_take ∈ x_tbl := x_w 185 (by decide +kernel) (by decide +kernel)
theorem wl_X3_58 : Cond.methodLink RX3 58 yX0_takeCarpet ∈ x_tbl := x_w 189 (by decide +kernel) (by decide +kernel)
theorem wl_L_97 : Cond.methodLink RL 97 yX3_put ∈ x_tbl := x_w 193 (by decide +kernel) (by decide +kernel)
theorem wl_X3_61 : Cond.methodLink RX3 61 yX0_putLanding ∈ x_tbl := x_w 197 (by decide +kernel) (by decide +kernel)
theorem wl_X0_80 : Cond.methodLink RX0 80 yX0_countLandings ∈ x_tbl := x_w 201 (by decide +kernel) (by decide +kernel)
theorem wl_X0_83 : Cond.methodLink RX0 83 yX0_isLanding ∈ x_tbl := x_w 205 (by decide +kernel) (by decide +kernel)
theorem wl_L_100 : Cond.methodLink RL 100 yX3_remove ∈ x_tbl := x_w 209 (by decide +kernel) (by decide +kernel)
theorem wl_X3_64 : Cond.methodLink RX3 64 yX0_removeLanding ∈ x_tbl := x_w 213 (by decide +kernel) (by decide +kernel)
theorem wl_X0_86 : Cond.methodLink RX0 86 yJ6_bitCount_0f7a4 ∈ x_tbl := x_w 217 (by decide +kernel) (by decide +kernel)
theorem wl_L_85 : Cond.methodLink RL 85 yX3_join ∈ x_tbl := x_w 223 (by decide +kernel) (by decide +kernel)
theorem wl_X3_67 : Cond.methodLink RX3 67 yX0_addClimber ∈ x_tbl := x_w 227 (by decide +kernel) (by decide +kernel)
theorem wl_L_106 : Cond.methodLink RL 106 yX3_roll ∈ x_tbl := x_w 231 (by decide +kernel) (by decide +kernel)
theorem wl_X3_71 : Cond.methodLink RX3 71 yX0_makeRoll ∈ x_tbl := x_w 235 (by decide +kernel) (by decide +kernel)
theorem wl_X0_91 : Cond.methodLinkNest RX0 91 yX3_isRoll RX3 ∈ x_nests := x_wn 239 (by decide +kernel) (by decide +kernel)
theorem wl_X0_94 : Cond.methodLink RX0 94 yX0_hasMover ∈ x_tbl := x_w 242 (by decide +kernel) (by decide +kernel)
theorem wl_X0_59 : Cond.methodLink RX0 59 yX0_isClimber ∈ x_tbl := x_w 246 (by decide +kernel) (by decide +kernel)
theorem wl_X0_98 : Cond.methodLink RX0 98 yX0_liftThosePassed ∈ x_tbl := x_w 250 (by decide +kernel) (by decide +kernel)
theorem wl_X0_109 : Cond.methodLink RX0 109 yX0_isPassed ∈ x_tbl := x_w 254 (by decide +kernel) (by decide +kernel)
theorem wl_X0_102 : Cond.methodLink RX0 102 yX0_comeTo ∈ x_tbl := x_w 258 (by decide +kernel) (by decide +kernel)
theorem wl_X0_106 : Cond.methodLink RX0 106 yX0_goToNextMover ∈ x_tbl := x_w 262 (by decide +kernel) (by decide +kernel)
theorem wl_X0_113 : Cond.methodLink RX0 113 yX0_behind ∈ x_tbl := x_w 266 (by decide +kernel) (by decide +kernel)
theorem wl_L_103 : Cond.methodLink RL 103 yX3_pass ∈ x_tbl := x_w 270 (by decide +kernel) (by decide +kernel)
theorem wl_X3_74 : Cond.methodLink RX3 74 yX0_makePass ∈ x_tbl := x_w 274 (by decide +kernel) (by decide +kernel)
theorem wl_L_78 : Cond.methodLink RL 78 yL_cell ∈ x_tbl := x_w 278 (by decide +kernel) (by decide +kernel)
theorem wl_L_82 : Cond.methodLink RL 82 yL_low ∈ x_tbl := x_w 283 (by decide +kernel) (by decide +kernel)
theorem wl_L_16 : Cond.methodLink RL 16 yL_next ∈ x_tbl := x_w 287 (by decide +kernel) (by decide +kernel)
theorem wl_L_23 : Cond.methodLink RL 23 yL_roll ∈ x_tbl := x_w 290 (by decide +kernel) (by decide +kernel)
theorem wl_L_10 : Cond.methodLink RL 10 yL_come ∈ x_tbl := x_w 293 (by decide +kernel) (by decide +kernel)
theorem wl_L_73 : Cond.methodLink RL 73 yL_sum ∈ x_tbl := x_w 296 (by decide +kernel) (by decide +kernel)
theorem wl_L_112 : Cond.methodLink RL 112 yL_ahead ∈ x_tbl := x_w 299 (by decide +kernel) (by decide +kernel)
theorem wl_L_20 : Cond.methodLink RL 20 yL_copy ∈ x_tbl := x_w 302 (by decide +kernel) (by decide +kernel)
theorem wl_L_27 : Cond.methodLink RL 27 yL_progress ∈ x_tbl := x_w 305 (by decide +kernel) (by decide +kernel)
theorem wl_L_31 : Cond.methodLink RL 31 yX3_ifRolled ∈ x_tbl := x_w 308 (by decide +kernel) (by decide +kernel)
theorem wl_X3_104 : Cond.methodLink RX3 104 yX3_isRoll ∈ x_tbl := x_w 312 (by decide +kernel) (by decide +kernel)
theorem wl_X3_80 : Cond.methodLink RX3 80 yX0_hasMover ∈ x_tbl := x_w 313 (by decide +kernel) (by decide +kernel)
theorem wl_X3_107 : Cond.methodLink RX3 107 yX3_rollInTrial ∈ x_tbl := x_w 314 (by decide +kernel) (by decide +kernel)
theorem wl_X3_110 : Cond.methodLink RX3 110 yX0_liftsOfAll ∈ x_tbl := x_w 318 (by decide +kernel) (by decide +kernel)
theorem wl_X0_128 : Cond.methodLink RX0 128 yX0_sumOf ∈ x_tbl := x_w 322 (by decide +kernel) (by decide +kernel)
theorem wl_X3_113 : Cond.methodLink RX3 113 yX0_topsOfAll ∈ x_tbl := x_w 325 (by decide +kernel) (by decide +kernel)
theorem wl_X3_116 : Cond.methodLink RX3 116 yX0_slipsOfAll ∈ x_tbl := x_w 329 (by decide +kernel) (by decide +kernel)
theorem wl_L_37 : Cond.methodLink RL 37 yL_tops ∈ x_tbl := x_w 333 (by decide +kernel) (by decide +kernel)
theorem wl_L_41 : Cond.methodLink RL 41 yX3_bestRoll ∈ x_tbl := x_w 336 (by decide +kernel) (by decide +kernel)
theorem wl_X3_119 : Cond.methodLink RX3 119 yX3_gainOfRoll ∈ x_tbl := x_w 340 (by decide +kernel) (by decide +kernel)
theorem wl_X3_156 : Cond.methodLink RX3 156 yX0_progressOf ∈ x_tbl := x_w 344 (by decide +kernel) (by decide +kernel)
theorem wl_L_45 : Cond.methodLink RL 45 yX3_quietRolls ∈ x_tbl := x_w 348 (by decide +kernel) (by decide +kernel)
theorem wl_X3_122 : Cond.methodLink RX3 122 yX0_wouldLift ∈ x_tbl := x_w 352 (by decide +kernel) (by decide +kernel)
theorem wl_L_108 : Cond.methodLink RL 108 yL_game ∈ x_tbl := x_w 356 (by decide +kernel) (by decide +kernel)
theorem wl_L_48 : Cond.methodLink RL 48 yX3_climber ∈ x_tbl := x_w 359 (by decide +kernel) (by decide +kernel)
theorem wl_X3_77 : Cond.methodLink RX3 77 yX0_partOfClimber ∈ x_tbl := x_w 363 (by decide +kernel) (by decide +kernel)
theorem wl_X0_116 : Cond.methodLink RX0 116 yX0_progressOf ∈ x_tbl := x_w 367 (by decide +kernel) (by decide +kernel)
theorem wl_L_51 : Cond.methodLink RL 51 yX3_rank ∈ x_tbl := x_w 368 (by decide +kernel) (by decide +kernel)
theorem wl_X3_101 : Cond.methodLink RX3 101 yX0_climberAtPlace ∈ x_tbl := x_w 372 (by decide +kernel) (by decide +kernel)
theorem wl_X0_132 : Cond.methodLink RX0 132 yX0_climbersAheadOf ∈ x_tbl := x_w 376 (by decide +kernel) (by decide +kernel)
theorem wl_L_55 : Cond.methodLink RL 55 yX3_rollsToTop ∈ x_tbl := x_w 380 (by decide +kernel) (by decide +kernel)
theorem wl_X3_125 : Cond.methodLink RX3 125 yX0_isClimber ∈ x_tbl := x_w 384 (by decide +kernel) (by decide +kernel)
theorem wl_X3_128 : Cond.methodLink RX3 128 yX0_fewestRollsOf ∈ x_tbl := x_w 385 (by decide +kernel) (by decide +kernel)
theorem wl_X0_135 : Cond.methodLink RX0 135 yX0_reachedWithOneMore ∈ x_tbl := x_w 389 (by decide +kernel) (by decide +kernel)
theorem wl_X0_139 : Cond.methodLink RX0 139 yX0_reachedFrom ∈ x_tbl := x_w 393 (by decide +kernel) (by decide +kernel)
theorem wl_L_58 : Cond.methodLink RL 58 yL_fewest ∈ x_tbl := x_w 397 (by decide +kernel) (by decide +kernel)
theorem wl_L_61 : Cond.methodLink RL 61 yX3_on ∈ x_tbl := x_w 400 (by decide +kernel) (by decide +kernel)
theorem wl_X3_88 : Cond.methodLink RX3 88 yX0_isBelowTop ∈ x_tbl := x_w 404 (by decide +kernel) (by decide +kernel)
theorem wl_X3_92 : Cond.methodLink RX3 92 yX0_climbersOn ∈ x_tbl := x_w 405 (by decide +kernel) (by decide +kernel)
theorem wl_L_64 : Cond.methodLink RL 64 yX3_step ∈ x_tbl := x_w 406 (by decide +kernel) (by decide +kernel)
theorem wl_X3_95 : Cond.methodLink RX3 95 yX0_partOfStep ∈ x_tbl := x_w 410 (by decide +kernel) (by decide +kernel)
theorem wl_L_67 : Cond.methodLink RL 67 yX3_turn ∈ x_tbl := x_w 414 (by decide +kernel) (by decide +kernel)
theorem wl_L_70 : Cond.methodLink RL 70 yX3_total ∈ x_tbl := x_w 418 (by decide +kernel) (by decide +kernel)
theorem wl_X3_98 : Cond.methodLink RX3 98 yX0_totalOf ∈ x_tbl := x_w 422 (by decide +kernel) (by decide +kernel)
theorem wl_X0_119 : Cond.methodLink RX0 119 yX0_liftsOfAll ∈ x_tbl := x_w 426 (by decide +kernel) (by decide +kernel)
theorem wl_X0_122 : Cond.methodLink RX0 122 yX0_slipsOfAll ∈ x_tbl := x_w 427 (by decide +kernel) (by decide +kernel)
theorem wl_X0_125 : Cond.methodLink RX0 125 yX0_topsOfAll ∈ x_tbl := x_w 428 (by decide +kernel) (by decide +kernel)
theorem wn_RJ10 : Cond.initialized RJ10 ∈ x_tbl := x_w 17 (by decide +kernel) (by decide +kernel)
theorem wk_L_32 : Cond.classLink RL 32 RX3 ∈ x_tbl := x_w 19 (by decide +kernel) (by decide +kernel)
theorem wt_X3 : Cond.instantiable RX3 7 ∈ x_tbl := x_w 20 (by decide +kernel) (by decide +kernel)
theorem wk_X3_7 : Cond.classLink RX3 7 RX0 ∈ x_tbl := x_w 27 (by decide +kernel) (by decide +kernel)
theorem wt_X0 : Cond.instantiable RX0 13 ∈ x_tbl := x_w 28 (by decide +kernel) (by decide +kernel)
theorem wa_int : Cond.arrayClass .int ∈ x_tbl := x_w 75 (by decide +kernel) (by decide +kernel)
theorem wa_boolean : Cond.arrayClass .boolean ∈ x_tbl := x_w 76 (by decide +kernel) (by decide +kernel)
theorem wk_X3_25 : Cond.classLink RX3 25 RX1 ∈ x_tbl := x_w 77 (by decide +kernel) (by decide +kernel)
theorem wt_X1 : Cond.instantiable RX1 2 ∈ x_tbl := x_w 78 (by decide +kernel) (by decide +kernel)
theorem wk_X1_9 : Cond.classLink RX1 9 RX0 ∈ x_tbl := x_w 83 (by decide +kernel) (by decide +kernel)
theorem wk_X3_32 : Cond.classLink RX3 32 RX2 ∈ x_tbl := x_w 93 (by decide +kernel) (by decide +kernel)
theorem wt_X2 : Cond.instantiable RX2 2 ∈ x_tbl := x_w 94 (by decide +kernel) (by decide +kernel)
theorem wa_char : Cond.arrayClass .char ∈ x_tbl := x_w 106 (by decide +kernel) (by decide +kernel)
theorem w_acstat : Cond.static arraycopyName ∈ x_tbl := x_w 138 (by decide +kernel) (by decide +kernel)
theorem w_native : Cond.native arraycopyName ∈ x_tbl := x_w 139 (by decide +kernel) (by decide +kernel)
theorem wq_J6_265 : Cond.constant RJ6 265 (1431655765) ∈ x_tbl := x_w 220 (by decide +kernel) (by decide +kernel)
theorem wq_J6_266 : Cond.constant RJ6 266 (858993459) ∈ x_tbl := x_w 221 (by decide +kernel) (by decide +kernel)
theorem wq_J6_267 : Cond.constant RJ6 267 (252645135) ∈ x_tbl := x_w 222 (by decide +kernel) (by decide +kernel)
theorem wq_L_7 : Cond.constant RL 7 (32452867) ∈ x_tbl := x_w 281 (by decide +kernel) (by decide +kernel)
theorem wq_L_8 : Cond.constant RL 8 (15485863) ∈ x_tbl := x_w 282 (by decide +kernel) (by decide +kernel)
theorem wq_L_9 : Cond.constant RL 9 (2147483647) ∈ x_tbl := x_w 286 (by decide +kernel) (by decide +kernel)
theorem w_oin : Cond.instanceMethod objectInit ∈ x_tbl := x_w 25 (by decide +kernel) (by decide +kernel)
theorem w_oco : Cond.code objectInit ⟨#[0xb1]⟩ 1 none ∈ x_tbl := x_w 26 (by decide +kernel) (by decide +kernel)
section L
variable {G : xG} {k : xI} {R : Option Value → xM → Prop} {ce sl : Nat} {mem : xM} {pc : Nat} {loc : Nat → Option Value} {st : List Value} {r : Nat} {fs : List Value}
theorem wf_X0_9 : Cond.fieldLink RX0 9 RX0 "lowerEnds" "[I" ∈ x_tbl := x_w 33 (by decide +kernel) (by decide +kernel)
theorem gf_X0_9 {v : Value} (hd : decode k.2.1 pc = .ok (.getfield 9, 3)) (hown : k.1.cls = RX0) (hm : mem[r]? = some (.inr (0, fs))) (hv : fs[0]? = some v) (kk : E G k R ce sl mem (pc + 3) loc (v :: st)) : E G k R ce sl mem pc loc (.ref r :: st) := E_getf (T := TX0) (N := 13) (kf := 0) hd xin_X0 hown rfl (by decide) rfl wf_X0_9 hm hv kk
theorem pf_X0_9 {a : Nat} (hd : decode k.2.1 pc = .ok (.putfield 9, 3)) (hown : k.1.cls = RX0) (hi : k.1.name = "<init>") (hm : mem[r]? = some (.inr (0, fs))) (hl : 0 < fs.length) (kk : E G k R ce sl (mem.set r (.inr (0, fs.set 0 (.ref a)))) (pc + 3) loc st) : E G k R ce sl mem pc loc (.ref a :: .ref r :: st) := E_putF (T := TX0) (N := 13) (kf := 0) (v := .ref a) hd xin_X0 tyX0_ok nmX0 hown hi rfl (by decide) rfl rfl wf_X0_9 rfl hm rfl rfl hl kk
theorem wf_X0_15 : Cond.fieldLink RX0 15 RX0 "landings" "[Z" ∈ x_tbl := x_w 34 (by decide +kernel) (by decide +kernel)
theorem gf_X0_15 {v : Value} (hd : decode k.2.1 pc = .ok (.getfield 15, 3)) (hown : k.1.cls = RX0) (hm : mem[r]? = some (.inr (0, fs))) (hv : fs[1]? = some v) (kk : E G k R ce sl mem (pc + 3) loc (v :: st)) : E G k R ce sl mem pc loc (.ref r :: st) := E_getf (T := TX0) (N := 13) (kf := 1) hd xin_X0 hown rfl (by decide) rfl wf_X0_15 hm hv kk
theorem pf_X0_15 {a : Nat} (hd : decode k.2.1 pc = .ok (.putfield 15, 3)) (hown : k.1.cls = RX0) (hi : k.1.name = "<init>") (hm : mem[r]? = some (.inr (0, fs))) (hl : 1 < fs.length) (kk : E G k R ce sl (mem.set r (.inr (0, fs.set 1 (.ref a)))) (pc + 3) loc st) : E G k R ce sl mem pc loc (.ref a :: .ref r :: st) := E_putF (T := TX0) (N := 13) (kf := 1) (v := .ref a) hd xin_X0 tyX0_ok nmX0 hown hi rfl (by decide) rfl rfl wf_X0_15 rfl hm rfl rfl hl kk
theorem wf_X0_19 : Cond.fieldLink RX0 19 RX0 "places" "[I" ∈ x_tbl := x_w 35 (by decide +kernel) (by decide +kernel)
theorem gf_X0_19 {v : Value} (hd : decode k.2.1 pc = .ok (.getfield 19, 3)) (hown : k.1.cls = RX0) (hm : mem[r]? = some (.inr (0, fs))) (hv : fs[2]? = some v) (kk : E G k R ce sl mem (pc + 3) loc (v :: st)) : E G k R ce sl mem pc loc (.ref r :: st) := E_getf (T := TX0) (N := 13) (kf := 2) hd xin_X0 hown rfl (by decide) rfl wf_X0_19 hm hv kk
theorem pf_X0_19 {a : Nat} (hd : decode k.2.1 pc = .ok (.putfield 19, 3)) (hown : k.1.cls = RX0) (hi : k.1.name = "<init>") (hm : mem[r]? = some (.inr (0, fs))) (hl : 2 < fs.length) (kk : E G k R ce sl (mem.set r (.inr (0, fs.set 2 (.ref a)))) (pc + 3) loc st) : E G k R ce sl mem pc loc (.ref a :: .ref r :: st) := E_putF (T := TX0) (N := 13) (kf := 2) (v := .ref a) hd xin_X0 tyX0_ok nmX0 hown hi rfl (by decide) rfl rfl wf_X0_19 rfl hm rfl rfl hl kk
theorem wf_X0_22 : Cond.fieldLink RX0 22 RX0 "tops" "[I" ∈ x_tbl := x_w 36 (by decide +kernel) (by decide +kernel)
theorem gf_X0_22 {v : Value} (hd : decode k.2.1 pc = .ok (.getfield 22, 3)) (hown : k.1.cls = RX0) (hm : mem[r]? = some (.inr (0, fs))) (hv : fs[3]? = some v) (kk : E G k R ce sl mem (pc + 3) loc (v :: st)) : E G k R ce sl mem pc loc (.ref r :: st) := E_getf (T := TX0) (N := 13) (kf := 3) hd xin_X0 hown rfl (by decide) rfl wf_X0_22 hm hv kk
theorem pf_X0_22 {a : Nat} (hd : decode k.2.1 pc = .ok (.putfield 22, 3)) (hown : k.1.cls = RX0) (hi : k.1.name = "<init>") (hm : mem[r]? = some (.inr (0, fs))) (hl : 3 < fs.length) (kk : E G k R ce sl (mem.set r (.inr (0, fs.set 3 (.ref a)))) (pc + 3) loc st) : E G k R ce sl mem pc loc (.ref a :: .ref r :: st) := E_putF (T := TX0) (N := 13) (kf := 3) (v := .ref a) hd xin_X0 tyX0_ok nmX0 hown hi rfl (by decide) rfl rfl wf_X0_22 rfl hm rfl rfl hl kk
theorem wf_X0_25 : Cond.fieldLink RX0 25 RX0 "rests" "[I" ∈ x_tbl := x_w 37 (by decide +kernel) (by decide +kernel)
theorem gf_X0_25 {v : Value} (hd : decode k.2.1 pc = .ok (.getfield 25, 3)) (hown : k.1.cls = RX0) (hm : mem[r]? = some (.inr (0, fs))) (hv : fs[4]? = some v) (kk : E G k R ce sl mem (pc + 3) loc (v :: st)) : E G k R ce sl mem pc loc (.ref r :: st) := E_getf (T := TX0) (N := 13) (kf := 4) hd xin_X0 hown rfl (by decide) rfl wf_X0_25 hm hv kk
theorem pf_X0_25 {a : Nat} (hd : decode k.2.1 pc = .ok (.putfield 25, 3)) (hown : k.1.cls = RX0) (hi : k.1.name = "<init>") (hm : mem[r]? = some (.inr (0, fs))) (hl : 4 < fs.length) (kk : E G k R ce sl (mem.set r (.inr (0, fs.set 4 (.ref a)))) (pc + 3) loc st) : E G k R ce sl mem pc loc (.ref a :: .ref r :: st) := E_putF (T := TX0) (N := 13) (kf := 4) (v := .ref a) hd xin_X0 tyX0_ok nmX0 hown hi rfl (by decide) rfl rfl wf_X0_25 rfl hm rfl rfl hl kk
theorem wf_X0_28 : Cond.fieldLink RX0 28 RX0 "timesLifted" "[I" ∈ x_tbl := x_w 38 (by decide +kernel) (by decide +kernel)
theorem gf_X0_28 {v : Value} (hd : decode k.2.1 pc = .ok (.getfield 28, 3)) (hown : k.1.cls = RX0) (hm : mem[r]? = some (.inr (0, fs))) (hv : fs[5]? = some v) (kk : E G k R ce sl mem (pc + 3) loc (v :: st)) : E G k R ce sl mem pc loc (.ref r :: st) := E_getf (T := TX0) (N := 13) (kf := 5) hd xin_X0 hown rfl (by decide) rfl wf_X0_28 hm hv kk
theorem pf_X0_28 {a : Nat} (hd : decode k.2.1 pc = .ok (.putfield 28, 3)) (hown : k.1.cls = RX0) (hi : k.1.name = "<init>") (hm : mem[r]? = some (.inr (0, fs))) (hl : 5 < fs.length) (kk : E G k R ce sl (mem.set r (.inr (0, fs.set 5 (.ref a)))) (pc + 3) loc st) : E G k R ce sl mem pc loc (.ref a :: .ref r :: st) := E_putF (T := TX0) (N := 13) (kf := 5) (v := .ref a) hd xin_X0 tyX0_ok nmX0 hown hi rfl (by decide) rfl rfl wf_X0_28 rfl hm rfl rfl hl kk
theorem wf_X0_31 : Cond.fieldLink RX0 31 RX0 "liftsMade" "[I" ∈ x_tbl := x_w 39 (by decide +kernel) (by decide +kernel)
theorem gf_X0_31 {v : Value} (hd : decode k.2.1 pc = .ok (.getfield 31, 3)) (hown : k.1.cls = RX0) (hm : mem[r]? = some (.inr (0, fs))) (hv : fs[6]? = some v) (kk : E G k R ce sl mem (pc + 3) loc (v :: st)) : E G k R ce sl mem pc loc (.ref r :: st) := E_getf (T := TX0) (N := 13) (kf := 6) hd xin_X0 hown rfl (by decide) rfl wf_X0_31 hm hv kk
theorem pf_X0_31 {a : Nat} (hd : decode k.2.1 pc = .ok (.putfield 31, 3)) (hown : k.1.cls = RX0) (hi : k.1.name = "<init>") (hm : mem[r]? = some (.inr (0, fs))) (hl : 6 < fs.length) (kk : E G k R ce sl (mem.set r (.inr (0, fs.set 6 (.ref a)))) (pc + 3) loc st) : E G k R ce sl mem pc loc (.ref a :: .ref r :: st) := E_putF (T := TX0) (N := 13) (kf := 6) (v := .ref a) hd xin_X0 tyX0_ok nmX0 hown hi rfl (by decide) rfl rfl wf_X0_31 rfl hm rfl rfl hl kk
theorem wf_X0_34 : Cond.fieldLink RX0 34 RX0 "slips" "[I" ∈ x_tbl := x_w 40 (by decide +kernel) (by decide +kernel)
theorem gf_X0_34 {v : Value} (hd : decode k.2.1 pc = .ok (.getfield 34, 3)) (hown : k.1.cls = RX0) (hm : mem[r]? = some (.inr (0, fs))) (hv : fs[7]? = some v) (kk : E G k R ce sl mem (pc + 3) loc (v :: st)) : E G k R ce sl mem pc loc (.ref r :: st) := E_getf (T := TX0) (N := 13) (kf := 7) hd xin_X0 hown rfl (by decide) rfl wf_X0_34 hm hv kk
theorem pf_X0_34 {a : Nat} (hd : decode k.2.1 pc = .ok (.putfield 34, 3)) (hown : k.1.cls = RX0) (hi : k.1.name = "<init>") (hm : mem[r]? = some (.inr (0, fs))) (hl : 7 < fs.length) (kk : E G k R ce sl (mem.set r (.inr (0, fs.set 7 (.ref a)))) (pc + 3) loc st) : E G k R ce sl mem pc loc (.ref a :: .ref r :: st) := E_putF (T := TX0) (N := 13) (kf := 7) (v := .ref a) hd xin_X0 tyX0_ok nmX0 hown hi rfl (by decide) rfl rfl wf_X0_34 rfl hm rfl rfl hl kk
theorem wf_X0_37 : Cond.fieldLink RX0 37 RX0 "top" "I" ∈ x_tbl := x_w 41 (by decide +kernel) (by decide +kernel)
theorem gf_X0_37 {v : Value} (hd : decode k.2.1 pc = .ok (.getfield 37, 3)) (hown : k.1.cls = RX0) (hm : mem[r]? = some (.inr (0, fs))) (hv : fs[8]? = some v) (kk : E G k R ce sl mem (pc + 3) loc (v :: st)) : E G k R ce sl mem pc loc (.ref r :: st) := E_getf (T := TX0) (N := 13) (kf := 8) hd xin_X0 hown rfl (by decide) rfl wf_X0_37 hm hv kk
theorem pf_X0_37 {x : Int32} (hd : decode k.2.1 pc = .ok (.putfield 37, 3)) (hown : k.1.cls = RX0) (hm : mem[r]? = some (.inr (0, fs))) (hl : 8 < fs.length) (kk : E G k R ce sl (mem.set r (.inr (0, fs.set 8 (.int x)))) (pc + 3) loc st) : E G k R ce sl mem pc loc (.int x :: .ref r :: st) := E_putf (T := TX0) (N := 13) (kf := 8) (v := .int x) hd xin_X0 tyX0_ok nmX0 hown rfl (by decide) rfl wf_X0_37 rfl hm rfl rfl hl kk
theorem wf_X0_41 : Cond.fieldLink RX0 41 RX0 "climbers" "I" ∈ x_tbl := x_w 42 (by decide +kernel) (by decide +kernel)
theorem gf_X0_41 {v : Value} (hd : decode k.2.1 pc = .ok (.getfield 41, 3)) (hown : k.1.cls = RX0) (hm : mem[r]? = some (.inr (0, fs))) (hv : fs[9]? = some v) (kk : E G k R ce sl mem (pc + 3) loc (v :: st)) : E G k R ce sl mem pc loc (.ref r :: st) := E_getf (T := TX0) (N := 13) (kf := 9) hd xin_X0 hown rfl (by decide) rfl wf_X0_41 hm hv kk
theorem pf_X0_41 {x : Int32} (hd : decode k.2.1 pc = .ok (.putfield 41, 3)) (hown : k.1.cls = RX0) (hm : mem[r]? = some (.inr (0, fs))) (hl : 9 < fs.length) (kk : E G k R ce sl (mem.set r (.inr (0, fs.set 9 (.int x)))) (pc + 3) loc st) : E G k R ce sl mem pc loc (.int x :: .ref r :: st) := E_putf (T := TX0) (N := 13) (kf := 9) (v := .int x) hd xin_X0 tyX0_ok nmX0 hown rfl (by decide) rfl wf_X0_41 rfl hm rfl rfl hl kk
theorem wf_X3_150 : Cond.fieldLinkNest RX3 150 RX0 "climbers" "I" RX3 ∈ x_nests := x_wn 43 (by decide +kernel) (by decide +kernel)
theorem gf_X3_150 {v : Value} (hd : decode k.2.1 pc = .ok (.getfield 150, 3)) (hown : k.1.cls = RX3) (hm : mem[r]? = some (.inr (0, fs))) (hv : fs[9]? = some v) (kk : E G k R ce sl mem (pc + 3) loc (v :: st)) : E G k R ce sl mem pc loc (.ref r :: st) := E_getfN (T := TX0) (N := 13) (kf := 9) hd xin_X0 hown rfl (by decide) rfl wf_X3_150 hm hv kk
theorem wf_X0_44 : Cond.fieldLink RX0 44 RX0 "mover" "I" ∈ x_tbl := x_w 44 (by decide +kernel) (by decide +kernel)
theorem gf_X0_44 {v : Value} (hd : decode k.2.1 pc = .ok (.getfield 44, 3)) (hown : k.1.cls = RX0) (hm : mem[r]? = some (.inr (0, fs))) (hv : fs[10]? = some v) (kk : E G k R ce sl mem (pc + 3) loc (v :: st)) : E G k R ce sl mem pc loc (.ref r :: st) := E_getf (T := TX0) (N := 13) (kf := 10) hd xin_X0 hown rfl (by decide) rfl wf_X0_44 hm hv kk
theorem pf_X0_44 {x : Int32} (hd : decode k.2.1 pc = .ok (.putfield 44, 3)) (hown : k.1.cls = RX0) (hm : mem[r]? = some (.inr (0, fs))) (hl : 10 < fs.length) (kk : E G k R ce sl (mem.set r (.inr (0, fs.set 10 (.int x)))) (pc + 3) loc st) : E G k R ce sl mem pc loc (.int x :: .ref r :: st) := E_putf (T := TX0) (N := 13) (kf := 10) (v := .int x) hd xin_X0 tyX0_ok nmX0 hown rfl (by decide) rfl wf_X0_44 rfl hm rfl rfl hl kk
theorem wf_X3_84 : Cond.fieldLinkNest RX3 84 RX0 "mover" "I" RX3 ∈ x_nests := x_wn 45 (by decide +kernel) (by decide +kernel)
theorem gf_X3_84 {v : Value} (hd : decode k.2.1 pc = .ok (.getfield 84, 3)) (hown : k.1.cls = RX3) (hm : mem[r]? = some (.inr (0, fs))) (hv : fs[10]? = some v) (kk : E G k R ce sl mem (pc + 3) loc (v :: st)) : E G k R ce sl mem pc loc (.ref r :: st) := E_getfN (T := TX0) (N := 13) (kf := 10) hd xin_X0 hown rfl (by decide) rfl wf_X3_84 hm hv kk
theorem wf_X0_47 : Cond.fieldLink RX0 47 RX0 "rolls" "I" ∈ x_tbl := x_w 46 (by decide +kernel) (by decide +kernel)
theorem gf_X0_47 {v : Value} (hd : decode k.2.1 pc = .ok (.getfield 47, 3)) (hown : k.1.cls = RX0) (hm : mem[r]? = some (.inr (0, fs))) (hv : fs[11]? = some v) (kk : E G k R ce sl mem (pc + 3) loc (v :: st)) : E G k R ce sl mem pc loc (.ref r :: st) := E_getf (T := TX0) (N := 13) (kf := 11) hd xin_X0 hown rfl (by decide) rfl wf_X0_47 hm hv kk
theorem pf_X0_47 {x : Int32} (hd : decode k.2.1 pc = .ok (.putfield 47, 3)) (hown : k.1.cls = RX0) (hm : mem[r]? = some (.inr (0, fs))) (hl : 11 < fs.length) (kk : E G k R ce sl (mem.set r (.inr (0, fs.set 11 (.int x)))) (pc + 3) loc st) : E G k R ce sl mem pc loc (.int x :: .ref r :: st) := E_putf (T := TX0) (N := 13) (kf := 11) (v := .int x) hd xin_X0 tyX0_ok nmX0 hown rfl (by decide) rfl wf_X0_47 rfl hm rfl rfl hl kk
theorem wf_X0_50 : Cond.fieldLink RX0 50 RX0 "turnsLeftOut" "I" ∈ x_tbl := x_w 47 (by decide +kernel) (by decide +kernel)
theorem gf_X0_50 {v : Value} (hd : decode k.2.1 pc = .ok (.getfield 50, 3)) (hown : k.1.cls = RX0) (hm : mem[r]? = some (.inr (0, fs))) (hv : fs[12]? = some v) (kk : E G k R ce sl mem (pc + 3) loc (v :: st)) : E G k R ce sl mem pc loc (.ref r :: st) := E_getf (T := TX0) (N := 13) (kf := 12) hd xin_X0 hown rfl (by decide) rfl wf_X0_50 hm hv kk
theorem pf_X0_50 {x : Int32} (hd : decode k.2.1 pc = .ok (.putfield 50, 3)) (hown : k.1.cls = RX0) (hm : mem[r]? = some (.inr (0, fs))) (hl : 12 < fs.length) (kk : E G k R ce sl (mem.set r (.inr (0, fs.set 12 (.int x)))) (pc + 3) loc st) : E G k R ce sl mem pc loc (.int x :: .ref r :: st) := E_putf (T := TX0) (N := 13) (kf := 12) (v := .int x) hd xin_X0 tyX0_ok nmX0 hown rfl (by decide) rfl wf_X0_50 rfl hm rfl rfl hl kk
theorem wf_X1_11 : Cond.fieldLink RX1 11 RX1 "games" "[LLiftingStairs$Game;" ∈ x_tbl := x_w 86 (by decide +kernel) (by decide +kernel)
theorem gf_X1_11 {v : Value} (hd : decode k.2.1 pc = .ok (.getfield 11, 3)) (hown : k.1.cls = RX1) (hm : mem[r]? = some (.inr (1, fs))) (hv : fs[0]? = some v) (kk : E G k R ce sl mem (pc + 3) loc (v :: st)) : E G k R ce sl mem pc loc (.ref r :: st) := E_getf (T := TX1) (N := 2) (kf := 0) hd xin_X1 hown rfl (by decide) rfl wf_X1_11 hm hv kk
theorem pf_X1_11 {a : Nat} (hd : decode k.2.1 pc = .ok (.putfield 11, 3)) (hown : k.1.cls = RX1) (hi : k.1.name = "<init>") (hm : mem[r]? = some (.inr (1, fs))) (hl : 0 < fs.length) (kk : E G k R ce sl (mem.set r (.inr (1, fs.set 0 (.ref a)))) (pc + 3) loc st) : E G k R ce sl mem pc loc (.ref a :: .ref r :: st) := E_putF (T := TX1) (N := 2) (kf := 0) (v := .ref a) hd xin_X1 tyX1_ok nmX1 hown hi rfl (by decide) rfl rfl wf_X1_11 rfl hm rfl rfl hl kk
theorem wf_X1_17 : Cond.fieldLink RX1 17 RX1 "count" "I" ∈ x_tbl := x_w 87 (by decide +kernel) (by decide +kernel)
theorem gf_X1_17 {v : Value} (hd : decode k.2.1 pc = .ok (.getfield 17, 3)) (hown : k.1.cls = RX1) (hm : mem[r]? = some (.inr (1, fs))) (hv : fs[1]? = some v) (kk : E G k R ce sl mem (pc + 3) loc (v :: st)) : E G k R ce sl mem pc loc (.ref r :: st) := E_getf (T := TX1) (N := 2) (kf := 1) hd xin_X1 hown rfl (by decide) rfl wf_X1_17 hm hv kk
theorem pf_X1_17 {x : Int32} (hd : decode k.2.1 pc = .ok (.putfield 17, 3)) (hown : k.1.cls = RX1) (hm : mem[r]? = some (.inr (1, fs))) (hl : 1 < fs.length) (kk : E G k R ce sl (mem.set r (.inr (1, fs.set 1 (.int x)))) (pc + 3) loc st) : E G k R ce sl mem pc loc (.int x :: .ref r :: st) := E_putf (T := TX1) (N := 2) (kf := 1) (v := .int x) hd xin_X1 tyX1_ok nmX1 hown rfl (by decide) rfl wf_X1_17 rfl hm rfl rfl hl kk
theorem wf_X2_9 : Cond.fieldLink RX2 9 RX2 "signs" "[C" ∈ x_tbl := x_w 99 (by decide +kernel) (by decide +kernel)
theorem gf_X2_9 {v : Value} (hd : decode k.2.1 pc = .ok (.getfield 9, 3)) (hown : k.1.cls = RX2) (hm : mem[r]? = some (.inr (2, fs))) (hv : fs[0]? = some v) (kk : E G k R ce sl mem (pc + 3) loc (v :: st)) : E G k R ce sl mem pc loc (.ref r :: st) := E_getf (T := TX2) (N := 2) (kf := 0) hd xin_X2 hown rfl (by decide) rfl wf_X2_9 hm hv kk
theorem pf_X2_9 {a : Nat} (hd : decode k.2.1 pc = .ok (.putfield 9, 3)) (hown : k.1.cls = RX2) (hi : k.1.name = "<init>") (hm : mem[r]? = some (.inr (2, fs))) (hl : 0 < fs.length) (kk : E G k R ce sl (mem.set r (.inr (2, fs.set 0 (.ref a)))) (pc + 3) loc st) : E G k R ce sl mem pc loc (.ref a :: .ref r :: st) := E_putF (T := TX2) (N := 2) (kf := 0) (v := .ref a) hd xin_X2 tyX2_ok nmX2 hown hi rfl (by decide) rfl rfl wf_X2_9 rfl hm rfl rfl hl kk
theorem wf_X2_15 : Cond.fieldLink RX2 15 RX2 "length" "I" ∈ x_tbl := x_w 100 (by decide +kernel) (by decide +kernel)
theorem gf_X2_15 {v : Value} (hd : decode k.2.1 pc = .ok (.getfield 15, 3)) (hown : k.1.cls = RX2) (hm : mem[r]? = some (.inr (2, fs))) (hv : fs[1]? = some v) (kk : E G k R ce sl mem (pc + 3) loc (v :: st)) : E G k R ce sl mem pc loc (.ref r :: st) := E_getf (T := TX2) (N := 2) (kf := 1) hd xin_X2 hown rfl (by decide) rfl wf_X2_15 hm hv kk
theorem pf_X2_15 {x : Int32} (hd : decode k.2.1 pc = .ok (.putfield 15, 3)) (hown : k.1.cls = RX2) (hm : mem[r]? = some (.inr (2, fs))) (hl : 1 < fs.length) (kk : E G k R ce sl (mem.set r (.inr (2, fs.set 1 (.int x)))) (pc + 3) loc st) : E G k R ce sl mem pc loc (.int x :: .ref r :: st) := E_putf (T := TX2) (N := 2) (kf := 1) (v := .int x) hd xin_X2 tyX2_ok nmX2 hown rfl (by decide) rfl wf_X2_15 rfl hm rfl rfl hl kk
theorem wf_X3_10 : Cond.fieldLink RX3 10 RX3 "game" "LLiftingStairs$Game;" ∈ x_tbl := x_w 107 (by decide +kernel) (by decide +kernel)
theorem gf_X3_10 {v : Value} (hd : decode k.2.1 pc = .ok (.getfield 10, 3)) (hown : k.1.cls = RX3) (hm : mem[r]? = some (.inr (3, fs))) (hv : fs[0]? = some v) (kk : E G k R ce sl mem (pc + 3) loc (v :: st)) : E G k R ce sl mem pc loc (.ref r :: st) := E_getf (T := TX3) (N := 7) (kf := 0) hd xin_X3 hown rfl (by decide) rfl wf_X3_10 hm hv kk
theorem pf_X3_10 {a : Nat} (hd : decode k.2.1 pc = .ok (.putfield 10, 3)) (hown : k.1.cls = RX3) (hi : k.1.name = "<init>") (hm : mem[r]? = some (.inr (3, fs))) (hl : 0 < fs.length) (kk : E G k R ce sl (mem.set r (.inr (3, fs.set 0 (.ref a)))) (pc + 3) loc st) : E G k R ce sl mem pc loc (.ref a :: .ref r :: st) := E_putF (T := TX3) (N := 7) (kf := 0) (v := .ref a) hd xin_X3 tyX3_ok nmX3 hown hi rfl (by decide) rfl rfl wf_X3_10 rfl hm rfl rfl hl kk
theorem wf_X3_16 : Cond.fieldLink RX3 16 RX3 "ahead" "LLiftingStairs$Game;" ∈ x_tbl := x_w 108 (by decide +kernel) (by decide +kernel)
theorem gf_X3_16 {v : Value} (hd : decode k.2.1 pc = .ok (.getfield 16, 3)) (hown : k.1.cls = RX3) (hm : mem[r]? = some (.inr (3, fs))) (hv : fs[1]? = some v) (kk : E G k R ce sl mem (pc + 3) loc (v :: st)) : E G k R ce sl mem pc loc (.ref r :: st) := E_getf (T := TX3) (N := 7) (kf := 1) hd xin_X3 hown rfl (by decide) rfl wf_X3_16 hm hv kk
theorem pf_X3_16 {a : Nat} (hd : decode k.2.1 pc = .ok (.putfield 16, 3)) (hown : k.1.cls = RX3) (hi : k.1.name = "<init>") (hm : mem[r]? = some (.inr (3, fs))) (hl : 1 < fs.length) (kk : E G k R ce sl (mem.set r (.inr (3, fs.set 1 (.ref a)))) (pc + 3) loc st) : E G k R ce sl mem pc loc (.ref a :: .ref r :: st) := E_putF (T := TX3) (N := 7) (kf := 1) (v := .ref a) hd xin_X3 tyX3_ok nmX3 hown hi rfl (by decide) rfl rfl wf_X3_16 rfl hm rfl rfl hl kk
theorem wf_X3_19 : Cond.fieldLink RX3 19 RX3 "trial" "LLiftingStairs$Game;" ∈ x_tbl := x_w 109 (by decide +kernel) (by decide +kernel)
theorem gf_X3_19 {v : Value} (hd : decode k.2.1 pc = .ok (.getfield 19, 3)) (hown : k.1.cls = RX3) (hm : mem[r]? = some (.inr (3, fs))) (hv : fs[2]? = some v) (kk : E G k R ce sl mem (pc + 3) loc (v :: st)) : E G k R ce sl mem pc loc (.ref r :: st) := E_getf (T := TX3) (N := 7) (kf := 2) hd xin_X3 hown rfl (by decide) rfl wf_X3_19 hm hv kk
theorem pf_X3_19 {a : Nat} (hd : decode k.2.1 pc = .ok (.putfield 19, 3)) (hown : k.1.cls = RX3) (hi : k.1.name = "<init>") (hm : mem[r]? = some (.inr (3, fs))) (hl : 2 < fs.length) (kk : E G k R ce sl (mem.set r (.inr (3, fs.set 2 (.ref a)))) (pc + 3) loc st) : E G k R ce sl mem pc loc (.ref a :: .ref r :: st) := E_putF (T := TX3) (N := 7) (kf := 2) (v := .ref a) hd xin_X3 tyX3_ok nmX3 hown hi rfl (by decide) rfl rfl wf_X3_19 rfl hm rfl rfl hl kk
theorem wf_X3_22 : Cond.fieldLink RX3 22 RX3 "saved" "LLiftingStairs$Game;" ∈ x_tbl := x_w 110 (by decide +kernel) (by decide +kernel)
theorem gf_X3_22 {v : Value} (hd : decode k.2.1 pc = .ok (.getfield 22, 3)) (hown : k.1.cls = RX3) (hm : mem[r]? = some (.inr (3, fs))) (hv : fs[3]? = some v) (kk : E G k R ce sl mem (pc + 3) loc (v :: st)) : E G k R ce sl mem pc loc (.ref r :: st) := E_getf (T := TX3) (N := 7) (kf := 3) hd xin_X3 hown rfl (by decide) rfl wf_X3_22 hm hv kk
theorem pf_X3_22 {a : Nat} (hd : decode k.2.1 pc = .ok (.putfield 22, 3)) (hown : k.1.cls = RX3) (hi : k.1.name = "<init>") (hm : mem[r]? = some (.inr (3, fs))) (hl : 3 < fs.length) (kk : E G k R ce sl (mem.set r (.inr (3, fs.set 3 (.ref a)))) (pc + 3) loc st) : E G k R ce sl mem pc loc (.ref a :: .ref r :: st) := E_putF (T := TX3) (N := 7) (kf := 3) (v := .ref a) hd xin_X3 tyX3_ok nmX3 hown hi rfl (by decide) rfl rfl wf_X3_22 rfl hm rfl rfl hl kk
theorem wf_X3_28 : Cond.fieldLink RX3 28 RX3 "history" "LLiftingStairs$History;" ∈ x_tbl := x_w 111 (by decide +kernel) (by decide +kernel)
theorem gf_X3_28 {v : Value} (hd : decode k.2.1 pc = .ok (.getfield 28, 3)) (hown : k.1.cls = RX3) (hm : mem[r]? = some (.inr (3, fs))) (hv : fs[4]? = some v) (kk : E G k R ce sl mem (pc + 3) loc (v :: st)) : E G k R ce sl mem pc loc (.ref r :: st) := E_getf (T := TX3) (N := 7) (kf := 4) hd xin_X3 hown rfl (by decide) rfl wf_X3_28 hm hv kk
theorem pf_X3_28 {a : Nat} (hd : decode k.2.1 pc = .ok (.putfield 28, 3)) (hown : k.1.cls = RX3) (hi : k.1.name = "<init>") (hm : mem[r]? = some (.inr (3, fs))) (hl : 4 < fs.length) (kk : E G k R ce sl (mem.set r (.inr (3, fs.set 4 (.ref a)))) (pc + 3) loc st) : E G k R ce sl mem pc loc (.ref a :: .ref r :: st) := E_putF (T := TX3) (N := 7) (kf := 4) (v := .ref a) hd xin_X3 tyX3_ok nmX3 hown hi rfl (by decide) rfl rfl wf_X3_28 rfl hm rfl rfl hl kk
theorem wf_X3_35 : Cond.fieldLink RX3 35 RX3 "text" "LLiftingStairs$MoveText;" ∈ x_tbl := x_w 112 (by decide +kernel) (by decide +kernel)
theorem gf_X3_35 {v : Value} (hd : decode k.2.1 pc = .ok (.getfield 35, 3)) (hown : k.1.cls = RX3) (hm : mem[r]? = some (.inr (3, fs))) (hv : fs[5]? = some v) (kk : E G k R ce sl mem (pc + 3) loc (v :: st)) : E G k R ce sl mem pc loc (.ref r :: st) := E_getf (T := TX3) (N := 7) (kf := 5) hd xin_X3 hown rfl (by decide) rfl wf_X3_35 hm hv kk
theorem pf_X3_35 {a : Nat} (hd : decode k.2.1 pc = .ok (.putfield 35, 3)) (hown : k.1.cls = RX3) (hi : k.1.name = "<init>") (hm : mem[r]? = some (.inr (3, fs))) (hl : 5 < fs.length) (kk : E G k R ce sl (mem.set r (.inr (3, fs.set 5 (.ref a)))) (pc + 3) loc st) : E G k R ce sl mem pc loc (.ref a :: .ref r :: st) := E_putF (T := TX3) (N := 7) (kf := 5) (v := .ref a) hd xin_X3 tyX3_ok nmX3 hown hi rfl (by decide) rfl rfl wf_X3_35 rfl hm rfl rfl hl kk
theorem wf_X3_39 : Cond.fieldLink RX3 39 RX3 "hasSaved" "Z" ∈ x_tbl := x_w 113 (by decide +kernel) (by decide +kernel)
theorem gf_X3_39 {v : Value} (hd : decode k.2.1 pc = .ok (.getfield 39, 3)) (hown : k.1.cls = RX3) (hm : mem[r]? = some (.inr (3, fs))) (hv : fs[6]? = some v) (kk : E G k R ce sl mem (pc + 3) loc (v :: st)) : E G k R ce sl mem pc loc (.ref r :: st) := E_getf (T := TX3) (N := 7) (kf := 6) hd xin_X3 hown rfl (by decide) rfl wf_X3_39 hm hv kk
theorem pf_X3_39 {x : Int32} (hd : decode k.2.1 pc = .ok (.putfield 39, 3)) (hown : k.1.cls = RX3) (hb : x = 0 ∨ x = 1) (hm : mem[r]? = some (.inr (3, fs))) (hl : 6 < fs.length) (kk : E G k R ce sl (mem.set r (.inr (3, fs.set 6 (.int x)))) (pc + 3) loc st) : E G k R ce sl mem pc loc (.int x :: .ref r :: st) := E_putf (T := TX3) (N := 7) (kf := 6) (v := .int x) hd xin_X3 tyX3_ok nmX3 hown rfl (by decide) rfl wf_X3_39 rfl hm (by rcases hb with rfl | rfl <;> rfl) (by rcases hb with rfl | rfl <;> rfl) hl kk
theorem cs_X3_init_9 {mem2 : xM} (hrest : (st.map fun v => v.category).sum ≤ 8) (hcs : ce + 8 ≤ 85 ∧ sl + 156 ≤ 1590) (hC : Dt G kX0_init [.ref r] mem (none) mem2) (kk : E G kX3_init R (ce + 8) (sl + 156) mem2 12 loc (st)) : E G kX3_init R ce sl mem 9 loc (.ref r :: st) := E_I0v (k := kX3_init) (k' := kX0_init) dX3_init_9 rfl okX0_init rfl rfl wiX0_init wl_X3_9 ⟨Nat.le_of_ble_eq_true rfl, Nat.le_of_ble_eq_true rfl⟩ hcs hrest hC kk
theorem cs_X3_init_20 {mem2 : xM} (hrest : (st.map fun v => v.category).sum ≤ 8) (hcs : ce + 8 ≤ 85 ∧ sl + 156 ≤ 1590) (hC : Dt G kX0_init [.ref r] mem (none) mem2) (kk : E G kX3_init R (ce + 8) (sl + 156) mem2 23 loc (st)) : E G kX3_init R ce sl mem 20 loc (.ref r :: st) := E_I0v (k := kX3_init) (k' := kX0_init) dX3_init_20 rfl okX0_init rfl rfl wiX0_init wl_X3_9 ⟨Nat.le_of_ble_eq_true rfl, Nat.le_of_ble_eq_true rfl⟩ hcs hrest hC kk
theorem cs_X3_init_31 {mem2 : xM} (hrest : (st.map fun v => v.category).sum ≤ 8) (hcs : ce + 8 ≤ 85 ∧ sl + 156 ≤ 1590) (hC : Dt G kX0_init [.ref r] mem (none) mem2) (kk : E G kX3_init R (ce + 8) (sl + 156) mem2 34 loc (st)) : E G kX3_init R ce sl mem 31 loc (.ref r :: st) := E_I0v (k := kX3_init) (k' := kX0_init) dX3_init_31 rfl okX0_init rfl rfl wiX0_init wl_X3_9 ⟨Nat.le_of_ble_eq_true rfl, Nat.le_of_ble_eq_true rfl⟩ hcs hrest hC kk
theorem cs_X3_init_42 {mem2 : xM} (hrest : (st.map fun v => v.category).sum ≤ 8) (hcs : ce + 8 ≤ 85 ∧ sl + 156 ≤ 1590) (hC : Dt G kX0_init [.ref r] mem (none) mem2) (kk : E G kX3_init R (ce + 8) (sl + 156) mem2 45 loc (st)) : E G kX3_init R ce sl mem 42 loc (.ref r :: st) := E_I0v (k := kX3_init) (k' := kX0_init) dX3_init_42 rfl okX0_init rfl rfl wiX0_init wl_X3_9 ⟨Nat.le_of_ble_eq_true rfl, Nat.le_of_ble_eq_true rfl⟩ hcs hrest hC kk
theorem cs_X3_init_53 {mem2 : xM} (hrest : (st.map fun v => v.category).sum ≤ 8) (hcs : ce + 46 ≤ 85 ∧ sl + 850 ≤ 1590) (hC : Dt G kX1_init [.ref r] mem (none) mem2) (kk : E G kX3_init R (ce + 46) (sl + 850) mem2 56 loc (st)) : E G kX3_init R ce sl mem 53 loc (.ref r :: st) := E_I0v (k := kX3_init) (k' := kX1_init) dX3_init_53 rfl okX1_init rfl rfl wiX1_init wl_X3_27 ⟨Nat.le_of_ble_eq_true rfl, Nat.le_of_ble_eq_true rfl⟩ hcs hrest hC kk
theorem cs_X3_init_64 {mem2 : xM} (hrest : (st.map fun v => v.category).sum ≤ 8) (hcs : ce + 1 ≤ 85 ∧ sl + 60 ≤ 1590) (hC : Dt G kX2_init [.ref r] mem (none) mem2) (kk : E G kX3_init R (ce + 1) (sl + 60) mem2 67 loc (st)) : E G kX3_init R ce sl mem 64 loc (.ref r :: st) := E_IN0v (k := kX3_init) (k' := kX2_init) dX3_init_64 rfl okX2_init rfl rfl wiX2_init wl_X3_34 ⟨Nat.le_of_ble_eq_true rfl, Nat.le_of_ble_eq_true rfl⟩ hcs hrest hC kk
theorem cs_X1_init_33 {mem2 : xM} (hrest : (st.map fun v => v.category).sum ≤ 8) (hcs : ce + 8 ≤ 46 ∧ sl + 156 ≤ 850) (hC : Dt G kX0_init [.ref r] mem (none) mem2) (kk : E G kX1_init R (ce + 8) (sl + 156) mem2 36 loc (st)) : E G kX1_init R ce sl mem 33 loc (.ref r :: st) := E_I0v (k := kX1_init) (k' := kX0_init) dX1_init_33 rfl okX0_init rfl rfl wiX0_init wl_X1_21 ⟨Nat.le_of_ble_eq_true rfl, Nat.le_of_ble_eq_true rfl⟩ hcs hrest hC kk
theorem cs_X3_setTop_8 {a1 : Value} {mem2 : xM} (hm : mem[r]? = some (.inr (0, fs))) (hrest : (st.map fun v => v.category).sum ≤ 8) (hC : Dt G kX0_copyFrom [.ref r, a1] mem (none) mem2) (kk : E G kX3_setTop R 0 0 mem2 11 loc (st)) : E G kX3_setTop R 0 0 mem 8 loc (a1 :: .ref r :: st) := E_V1v (k := kX3_setTop) (k' := kX0_copyFrom) dX3_setTop_8 rfl okX0_copyFrom wiX0_copyFrom wzX0_copyFrom wl_X3_43 ⟨Nat.le_of_ble_eq_true rfl, Nat.le_of_ble_eq_true rfl⟩ ⟨rfl, rfl⟩ ⟨Nat.zero_le _, Nat.zero_le _⟩ hrest hm rfl hC kk
theorem cs_X3_setTop_17 {a1 : Value} {x : Int32} {mem2 : xM} (hm : mem[r]? = some (.inr (0, fs))) (hrest : (st.map fun v => v.category).sum ≤ 8) (hC : Dt G kX0_changeTop [.ref r, a1] mem (some (.int x)) mem2) (kk : E G kX3_setTop R 0 0 mem2 20 loc (.int x :: st)) : E G kX3_setTop R 0 0 mem 17 loc (a1 :: .ref r :: st) := E_V1i (k := kX3_setTop) (k' := kX0_changeTop) dX3_setTop_17 rfl okX0_changeTop wiX0_changeTop wzX0_changeTop wl_X3_47 ⟨Nat.le_of_ble_eq_true rfl, Nat.le_of_ble_eq_true rfl⟩ ⟨rfl, rfl⟩ ⟨Nat.zero_le _, Nat.zero_le _⟩ hrest hm rfl hC kk
theorem cs_X3_setTop_20 {a1 : Value} {x : Int32} {mem2 : xM} (hm : mem[r]? = some (.inr (3, fs))) (hrest : (st.map fun v => v.category).sum ≤ 8) (hC : Dt G kX3_recordUnlessError [.ref r, a1] mem (some (.int x)) mem2) (kk : E G kX3_setTop R 0 0 mem2 23 loc (.int x :: st)) : E G kX3_setTop R 0 0 mem 20 loc (a1 :: .ref r :: st) := E_V1i (k := kX3_setTop) (k' := kX3_recordUnlessError) dX3_setTop_20 rfl okX3_recordUnlessError wiX3_recordUnlessError wzX3_recordUnlessError wl_X3_51 ⟨Nat.le_of_ble_eq_true rfl, Nat.le_of_ble_eq_true rfl⟩ ⟨rfl, rfl⟩ ⟨Nat.zero_le _, Nat.zero_le _⟩ hrest hm rfl hC kk
theorem cs_X0_changeTop_36 {a1 : Value} {x : Int32} {mem2 : xM} (hm : mem[r]? = some (.inr (0, fs))) (hrest : (st.map fun v => v.category).sum ≤ 8) (hC : Dt G kX0_isUpperEnd [.ref r, a1] mem (some (.int x)) mem2) (kk : E G kX0_changeTop R 0 0 mem2 39 loc (.int x :: st)) : E G kX0_changeTop R 0 0 mem 36 loc (a1 :: .ref r :: st) := E_V1i (k := kX0_changeTop) (k' := kX0_isUpperEnd) dX0_changeTop_36 rfl okX0_isUpperEnd wiX0_isUpperEnd wzX0_isUpperEnd wl_X0_63 ⟨Nat.le_of_ble_eq_true rfl, Nat.le_of_ble_eq_true rfl⟩ ⟨rfl, rfl⟩ ⟨Nat.zero_le _, Nat.zero_le _⟩ hrest hm rfl hC kk
theorem cs_X0_changeTop_44 {a1 : Value} {x : Int32} {mem2 : xM} (hm : mem[r]? = some (.inr (0, fs))) (hrest : (st.map fun v => v.category).sum ≤ 8) (hC : Dt G kX0_climbersOn [.ref r, a1] mem (some (.int x)) mem2) (kk : E G kX0_changeTop R 0 0 mem2 47 loc (.int x :: st)) : E G kX0_changeTop R 0 0 mem 44 loc (a1 :: .ref r :: st) := E_V1i (k := kX0_changeTop) (k' := kX0_climbersOn) dX0_changeTop_44 rfl okX0_climbersOn wiX0_climbersOn wzX0_climbersOn wl_X0_66 ⟨Nat.le_of_ble_eq_true rfl, Nat.le_of_ble_eq_true rfl⟩ ⟨rfl, rfl⟩ ⟨Nat.zero_le _, Nat.zero_le _⟩ hrest hm rfl hC kk
theorem cs_X3_recordUnlessError_12 {a1 : Value} {mem2 : xM} (hm : mem[r]? = some (.inr (1, fs))) (hrest : (st.map fun v => v.category).sum ≤ 8) (hC : Dt G kX1_keep [.ref r, a1] mem (none) mem2) (kk : E G kX3_recordUnlessError R 0 0 mem2 15 loc (st)) : E G kX3_recordUnlessError R 0 0 mem 12 loc (a1 :: .ref r :: st) := E_V1v (k := kX3_recordUnlessError) (k' := kX1_keep) dX3_recordUnlessError_12 rfl okX1_keep wiX1_keep wzX1_keep wl_X3_153 ⟨Nat.le_of_ble_eq_true rfl, Nat.le_of_ble_eq_true rfl⟩ ⟨rfl, rfl⟩ ⟨Nat.zero_le _, Nat.zero_le _⟩ hrest hm rfl hC kk
theorem cs_X1_keep_9 {mem2 : xM} (hm : mem[r]? = some (.inr (1, fs))) (hrest : (st.map fun v => v.category).sum ≤ 8) (hC : Dt G kX1_makeOldestLast [.ref r] mem (none) mem2) (kk : E G kX1_keep R 0 0 mem2 12 loc (st)) : E G kX1_keep R 0 0 mem 9 loc (.ref r :: st) := E_V0v (k := kX1_keep) (k' := kX1_makeOldestLast) dX1_keep_9 rfl okX1_makeOldestLast wiX1_makeOldestLast wzX1_makeOldestLast wl_X1_22 ⟨Nat.le_of_ble_eq_true rfl, Nat.le_of_ble_eq_true rfl⟩ ⟨rfl, rfl⟩ ⟨Nat.zero_le _, Nat.zero_le _⟩ hrest hm rfl hC kk
theorem cs_X1_keep_33 {a1 : Value} {mem2 : xM} (hm : mem[r]? = some (.inr (0, fs))) (hrest : (st.map fun v => v.category).sum ≤ 8) (hC : Dt G kX0_copyFrom [.ref r, a1] mem (none) mem2) (kk : E G kX1_keep R 0 0 mem2 36 loc (st)) : E G kX1_keep R 0 0 mem 33 loc (a1 :: .ref r :: st) := E_V1v (k := kX1_keep) (k' := kX0_copyFrom) dX1_keep_33 rfl okX0_copyFrom wiX0_copyFrom wzX0_copyFrom wl_X1_25 ⟨Nat.le_of_ble_eq_true rfl, Nat.le_of_ble_eq_true rfl⟩ ⟨rfl, rfl⟩ ⟨Nat.zero_le _, Nat.zero_le _⟩ hrest hm rfl hC kk
theorem cs_X3_lay_8 {a1 : Value} {mem2 : xM} (hm : mem[r]? = some (.inr (0, fs))) (hrest : (st.map fun v => v.category).sum ≤ 8) (hC : Dt G kX0_copyFrom [.ref r, a1] mem (none) mem2) (kk : E G kX3_lay R 0 0 mem2 11 loc (st)) : E G kX3_lay R 0 0 mem 8 loc (a1 :: .ref r :: st) := E_V1v (k := kX3_lay) (k' := kX0_copyFrom) dX3_lay_8 rfl okX0_copyFrom wiX0_copyFrom wzX0_copyFrom wl_X3_43 ⟨Nat.le_of_ble_eq_true rfl, Nat.le_of_ble_eq_true rfl⟩ ⟨rfl, rfl⟩ ⟨Nat.zero_le _, Nat.zero_le _⟩ hrest hm rfl hC kk
theorem cs_X3_lay_18 {a1 a2 : Value} {x : Int32} {mem2 : xM} (hm : mem[r]? = some (.inr (0, fs))) (hrest : (st.map fun v => v.category).sum ≤ 8) (hC : Dt G kX0_layCarpet [.ref r, a1, a2] mem (some (.int x)) mem2) (kk : E G kX3_lay R 0 0 mem2 21 loc (.int x :: st)) : E G kX3_lay R 0 0 mem 18 loc (a2 :: a1 :: .ref r :: st) := E_V2i (k := kX3_lay) (k' := kX0_layCarpet) dX3_lay_18 rfl okX0_layCarpet wiX0_layCarpet wzX0_layCarpet wl_X3_54 ⟨Nat.le_of_ble_eq_true rfl, Nat.le_of_ble_eq_true rfl⟩ ⟨rfl, rfl⟩ ⟨Nat.zero_le _, Nat.zero_le _⟩ hrest hm rfl hC kk
theorem cs_X3_lay_21 {a1 : Value} {x : Int32} {mem2 : xM} (hm : mem[r]? = some (.inr (3, fs))) (hrest : (st.map fun v => v.category).sum ≤ 8) (hC : Dt G kX3_recordUnlessError [.ref r, a1] mem (some (.int x)) mem2) (kk : E G kX3_lay R 0 0 mem2 24 loc (.int x :: st)) : E G kX3_lay R 0 0 mem 21 loc (a1 :: .ref r :: st) := E_V1i (k := kX3_lay) (k' := kX3_recordUnlessError) dX3_lay_21 rfl okX3_recordUnlessError wiX3_recordUnlessError wzX3_recordUnlessError wl_X3_51 ⟨Nat.le_of_ble_eq_true rfl, Nat.le_of_ble_eq_true rfl⟩ ⟨rfl, rfl⟩ ⟨Nat.zero_le _, Nat.zero_le _⟩ hrest hm rfl hC kk
theorem cs_X0_layCarpet_6 {a1 : Value} {x : Int32} {mem2 : xM} (hm : mem[r]? = some (.inr (0, fs))) (hrest : (st.map fun v => v.category).sum ≤ 8) (hC : Dt G kX0_isBelowTop [.ref r, a1] mem (some (.int x)) mem2) (kk : E G kX0_layCarpet R 0 0 mem2 9 loc (.int x :: st)) : E G kX0_layCarpet R 0 0 mem 6 loc (a1 :: .ref r :: st) := E_V1i (k := kX0_layCarpet) (k' := kX0_isBelowTop) dX0_layCarpet_6 rfl okX0_isBelowTop wiX0_isBelowTop wzX0_isBelowTop wl_X0_70 ⟨Nat.le_of_ble_eq_true rfl, Nat.le_of_ble_eq_true rfl⟩ ⟨rfl, rfl⟩ ⟨Nat.zero_le _, Nat.zero_le _⟩ hrest hm rfl hC kk
theorem cs_X0_layCarpet_28 {a1 : Value} {x : Int32} {mem2 : xM} (hm : mem[r]? = some (.inr (0, fs))) (hrest : (st.map fun v => v.category).sum ≤ 8) (hC : Dt G kX0_isUpperEnd [.ref r, a1] mem (some (.int x)) mem2) (kk : E G kX0_layCarpet R 0 0 mem2 31 loc (.int x :: st)) : E G kX0_layCarpet R 0 0 mem 28 loc (a1 :: .ref r :: st) := E_V1i (k := kX0_layCarpet) (k' := kX0_isUpperEnd) dX0_layCarpet_28 rfl okX0_isUpperEnd wiX0_isUpperEnd wzX0_isUpperEnd wl_X0_63 ⟨Nat.le_of_ble_eq_true rfl, Nat.le_of_ble_eq_true rfl⟩ ⟨rfl, rfl⟩ ⟨Nat.zero_le _, Nat.zero_le _⟩ hrest hm rfl hC kk
theorem cs_X0_layCarpet_36 {a1 : Value} {x : Int32} {mem2 : xM} (hm : mem[r]? = some (.inr (0, fs))) (hrest : (st.map fun v => v.category).sum ≤ 8) (hC : Dt G kX0_isUpperEnd [.ref r, a1] mem (some (.int x)) mem2) (kk : E G kX0_layCarpet R 0 0 mem2 39 loc (.int x :: st)) : E G kX0_layCarpet R 0 0 mem 36 loc (a1 :: .ref r :: st) := E_V1i (k := kX0_layCarpet) (k' := kX0_isUpperEnd) dX0_layCarpet_36 rfl okX0_isUpperEnd wiX0_isUpperEnd wzX0_isUpperEnd wl_X0_63 ⟨Nat.le_of_ble_eq_true rfl, Nat.le_of_ble_eq_true rfl⟩ ⟨rfl, rfl⟩ ⟨Nat.zero_le _, Nat.zero_le _⟩ hrest hm rfl hC kk
theorem cs_X0_layCarpet_44 {a1 : Value} {x : Int32} {mem2 : xM} (hm : mem[r]? = some (.inr (0, fs))) (hrest : (st.map fun v => v.category).sum ≤ 8) (hC : Dt G kX0_lowerEndsAt [.ref r, a1] mem (some (.int x)) mem2) (kk : E G kX0_layCarpet R 0 0 mem2 47 loc (.int x :: st)) : E G kX0_layCarpet R 0 0 mem 44 loc (a1 :: .ref r :: st) := E_V1i (k := kX0_layCarpet) (k' := kX0_lowerEndsAt) dX0_layCarpet_44 rfl okX0_lowerEndsAt wiX0_lowerEndsAt wzX0_lowerEndsAt wl_X0_73 ⟨Nat.le_of_ble_eq_true rfl, Nat.le_of_ble_eq_true rfl⟩ ⟨rfl, rfl⟩ ⟨Nat.zero_le _, Nat.zero_le _⟩ hrest hm rfl hC kk
theorem cs_X0_layCarpet_64 {a1 : Value} {x : Int32} {mem2 : xM} (hm : mem[r]? = some (.inr (0, fs))) (hrest : (st.map fun v => v.category).sum ≤ 8) (hC : Dt G kX0_climbersOn [.ref r, a1] mem (some (.int x)) mem2) (kk : E G kX0_layCarpet R 0 0 mem2 67 loc (.int x :: st)) : E G kX0_layCarpet R 0 0 mem 64 loc (a1 :: .ref r :: st) := E_V1i (k := kX0_layCarpet) (k' := kX0_climbersOn) dX0_layCarpet_64 rfl okX0_climbersOn wiX0_climbersOn wzX0_climbersOn wl_X0_66 ⟨Nat.le_of_ble_eq_true rfl, Nat.le_of_ble_eq_true rfl⟩ ⟨rfl, rfl⟩ ⟨Nat.zero_le _, Nat.zero_le _⟩ hrest hm rfl hC kk
theorem cs_X0_layCarpet_74 {x : Int32} {mem2 : xM} (hm : mem[r]? = some (.inr (0, fs))) (hrest : (st.map fun v => v.category).sum ≤ 8) (hC : Dt G kX0_countCarpets [.ref r] mem (some (.int x)) mem2) (kk : E G kX0_layCarpet R 0 0 mem2 77 loc (.int x :: st)) : E G kX0_layCarpet R 0 0 mem 74 loc (.ref r :: st) := E_V0i (k := kX0_layCarpet) (k' := kX0_countCarpets) dX0_layCarpet_74 rfl okX0_countCarpets wiX0_countCarpets wzX0_countCarpets wl_X0_76 ⟨Nat.le_of_ble_eq_true rfl, Nat.le_of_ble_eq_true rfl⟩ ⟨rfl, rfl⟩ ⟨Nat.zero_le _, Nat.zero_le _⟩ hrest hm rfl hC kk
theorem cs_X0_layCarpet_93 {x : Int32} {mem2 : xM} (hm : mem[r]? = some (.inr (0, fs))) (hrest : (st.map fun v => v.category).sum ≤ 8) (hC : Dt G kX0_countCarpets [.ref r] mem (some (.int x)) mem2) (kk : E G kX0_layCarpet R 0 0 mem2 96 loc (.int x :: st)) : E G kX0_layCarpet R 0 0 mem 93 loc (.ref r :: st) := E_V0i (k := kX0_layCarpet) (k' := kX0_countCarpets) dX0_layCarpet_93 rfl okX0_countCarpets wiX0_countCarpets wzX0_countCarpets wl_X0_76 ⟨Nat.le_of_ble_eq_true rfl, Nat.le_of_ble_eq_true rfl⟩ ⟨rfl, rfl⟩ ⟨Nat.zero_le _, Nat.zero_le _⟩ hrest hm rfl hC kk
theorem cs_X0_countCarpets_14 {a1 : Value} {x : Int32} {mem2 : xM} (hm : mem[r]? = some (.inr (0, fs))) (hrest : (st.map fun v => v.category).sum ≤ 8) (hC : Dt G kX0_isUpperEnd [.ref r, a1] mem (some (.int x)) mem2) (kk : E G kX0_countCarpets R 0 0 mem2 17 loc (.int x :: st)) : E G kX0_countCarpets R 0 0 mem 14 loc (a1 :: .ref r :: st) := E_V1i (k := kX0_countCarpets) (k' := kX0_isUpperEnd) dX0_countCarpets_14 rfl okX0_isUpperEnd wiX0_isUpperEnd wzX0_isUpperEnd wl_X0_63 ⟨Nat.le_of_ble_eq_true rfl, Nat.le_of_ble_eq_true rfl⟩ ⟨rfl, rfl⟩ ⟨Nat.zero_le _, Nat.zero_le _⟩ hrest hm rfl hC kk
theorem cs_X3_take_8 {a1 : Value} {mem2 : xM} (hm : mem[r]? = some (.inr (0, fs))) (hrest : (st.map fun v => v.category).sum ≤ 8) (hC : Dt G kX0_copyFrom [.ref r, a1] mem (none) mem2) (kk : E G kX3_take R 0 0 mem2 11 loc (st)) : E G kX3_take R 0 0 mem 8 loc (a1 :: .ref r :: st) := E_V1v (k := kX3_take) (k' := kX0_copyFrom) dX3_take_8 rfl okX0_copyFrom wiX0_copyFrom wzX0_copyFrom wl_X3_43 ⟨Nat.le_of_ble_eq_true rfl, Nat.le_of_ble_eq_true rfl⟩ ⟨rfl, rfl⟩ ⟨Nat.zero_le _, Nat.zero_le _⟩ hrest hm rfl hC kk
theorem cs_X3_take_17 {a1 : Value} {x : Int32} {mem2 : xM} (hm : mem[r]? = some (.inr (0, fs))) (hrest : (st.map fun v => v.category).sum ≤ 8) (hC : Dt G kX0_takeCarpet [.ref r, a1] mem (some (.int x)) mem2) (kk : E G kX3_take R 0 0 mem2 20 loc (.int x :: st)) : E G kX3_take R 0 0 mem 17 loc (a1 :: .ref r :: st) := E_V1i (k := kX3_take) (k' := kX0_takeCarpet) dX3_take_17 rfl okX0_takeCarpet wiX0_takeCarpet wzX0_takeCarpet wl_X3_58 ⟨Nat.le_of_ble_eq_true rfl, Nat.le_of_ble_eq_true rfl⟩ ⟨rfl, rfl⟩ ⟨Nat.zero_le _, Nat.zero_le _⟩ hrest hm rfl hC kk
theorem cs_X3_take_20 {a1 : Value} {x : Int32} {mem2 : xM} (hm : mem[r]? = some (.inr (3, fs))) (hrest : (st.map fun v => v.category).sum ≤ 8) (hC : Dt G kX3_recordUnlessError [.ref r, a1] mem (some (.int x)) mem2) (kk : E G kX3_take R 0 0 mem2 23 loc (.int x :: st)) : E G kX3_take R 0 0 mem 20 loc (a1 :: .ref r :: st) := E_V1i (k := kX3_take) (k' := kX3_recordUnlessError) dX3_take_20 rfl okX3_recordUnlessError wiX3_recordUnlessError wzX3_recordUnlessError wl_X3_51 ⟨Nat.le_of_ble_eq_true rfl, Nat.le_of_ble_eq_true rfl⟩ ⟨rfl, rfl⟩ ⟨Nat.zero_le _, Nat.zero_le _⟩ hrest hm rfl hC kk
theorem cs_X0_takeCarpet_2 {a1 : Value} {x : Int32} {mem2 : xM} (hm : mem[r]? = some (.inr (0, fs))) (hrest : (st.map fun v => v.category).sum ≤ 8) (hC : Dt G kX0_isUpperEnd [.ref r, a1] mem (some (.int x)) mem2) (kk : E G kX0_takeCarpet R 0 0 mem2 5 loc (.int x :: st)) : E G kX0_takeCarpet R 0 0 mem 2 loc (a1 :: .ref r :: st) := E_V1i (k := kX0_takeCarpet) (k' := kX0_isUpperEnd) dX0_takeCarpet_2 rfl okX0_isUpperEnd wiX0_isUpperEnd wzX0_isUpperEnd wl_X0_63 ⟨Nat.le_of_ble_eq_true rfl, Nat.le_of_ble_eq_true rfl⟩ ⟨rfl, rfl⟩ ⟨Nat.zero_le _, Nat.zero_le _⟩ hrest hm rfl hC kk
theorem cs_X3_put_8 {a1 : Value} {mem2 : xM} (hm : mem[r]? = some (.inr (0, fs))) (hrest : (st.map fun v => v.category).sum ≤ 8) (hC : Dt G kX0_copyFrom [.ref r, a1] mem (none) mem2) (kk : E G kX3_put R 0 0 mem2 11 loc (st)) : E G kX3_put R 0 0 mem 8 loc (a1 :: .ref r :: st) := E_V1v (k := kX3_put) (k' := kX0_copyFrom) dX3_put_8 rfl okX0_copyFrom wiX0_copyFrom wzX0_copyFrom wl_X3_43 ⟨Nat.le_of_ble_eq_true rfl, Nat.le_of_ble_eq_true rfl⟩ ⟨rfl, rfl⟩ ⟨Nat.zero_le _, Nat.zero_le _⟩ hrest hm rfl hC kk
theorem cs_X3_put_17 {a1 : Value} {x : Int32} {mem2 : xM} (hm : mem[r]? = some (.inr (0, fs))) (hrest : (st.map fun v => v.category).sum ≤ 8) (hC : Dt G kX0_putLanding [.ref r, a1] mem (some (.int x)) mem2) (kk : E G kX3_put R 0 0 mem2 20 loc (.int x :: st)) : E G kX3_put R 0 0 mem 17 loc (a1 :: .ref r :: st) := E_V1i (k := kX3_put) (k' := kX0_putLanding) dX3_put_17 rfl okX0_putLanding wiX0_putLanding wzX0_putLanding wl_X3_61 ⟨Nat.le_of_ble_eq_true rfl, Nat.le_of_ble_eq_true rfl⟩ ⟨rfl, rfl⟩ ⟨Nat.zero_le _, Nat.zero_le _⟩ hrest hm rfl hC kk
theorem cs_X3_put_20 {a1 : Value} {x : Int32} {mem2 : xM} (hm : mem[r]? = some (.inr (3, fs))) (hrest : (st.map fun v => v.category).sum ≤ 8) (hC : Dt G kX3_recordUnlessError [.ref r, a1] mem (some (.int x)) mem2) (kk : E G kX3_put R 0 0 mem2 23 loc (.int x :: st)) : E G kX3_put R 0 0 mem 20 loc (a1 :: .ref r :: st) := E_V1i (k := kX3_put) (k' := kX3_recordUnlessError) dX3_put_20 rfl okX3_recordUnlessError wiX3_recordUnlessError wzX3_recordUnlessError wl_X3_51 ⟨Nat.le_of_ble_eq_true rfl, Nat.le_of_ble_eq_true rfl⟩ ⟨rfl, rfl⟩ ⟨Nat.zero_le _, Nat.zero_le _⟩ hrest hm rfl hC kk
theorem cs_X0_putLanding_6 {a1 : Value} {x : Int32} {mem2 : xM} (hm : mem[r]? = some (.inr (0, fs))) (hrest : (st.map fun v => v.category).sum ≤ 8) (hC : Dt G kX0_isBelowTop [.ref r, a1] mem (some (.int x)) mem2) (kk : E G kX0_putLanding R 0 0 mem2 9 loc (.int x :: st)) : E G kX0_putLanding R 0 0 mem 6 loc (a1 :: .ref r :: st) := E_V1i (k := kX0_putLanding) (k' := kX0_isBelowTop) dX0_putLanding_6 rfl okX0_isBelowTop wiX0_isBelowTop wzX0_isBelowTop wl_X0_70 ⟨Nat.le_of_ble_eq_true rfl, Nat.le_of_ble_eq_true rfl⟩ ⟨rfl, rfl⟩ ⟨Nat.zero_le _, Nat.zero_le _⟩ hrest hm rfl hC kk
theorem cs_X0_putLanding_25 {a1 : Value} {x : Int32} {mem2 : xM} (hm : mem[r]? = some (.inr (0, fs))) (hrest : (st.map fun v => v.category).sum ≤ 8) (hC : Dt G kX0_isUpperEnd [.ref r, a1] mem (some (.int x)) mem2) (kk : E G kX0_putLanding R 0 0 mem2 28 loc (.int x :: st)) : E G kX0_putLanding R 0 0 mem 25 loc (a1 :: .ref r :: st) := E_V1i (k := kX0_putLanding) (k' := kX0_isUpperEnd) dX0_putLanding_25 rfl okX0_isUpperEnd wiX0_isUpperEnd wzX0_isUpperEnd wl_X0_63 ⟨Nat.le_of_ble_eq_true rfl, Nat.le_of_ble_eq_true rfl⟩ ⟨rfl, rfl⟩ ⟨Nat.zero_le _, Nat.zero_le _⟩ hrest hm rfl hC kk
theorem cs_X0_putLanding_42 {x : Int32} {mem2 : xM} (hm : mem[r]? = some (.inr (0, fs))) (hrest : (st.map fun v => v.category).sum ≤ 8) (hC : Dt G kX0_countLandings [.ref r] mem (some (.int x)) mem2) (kk : E G kX0_putLanding R 0 0 mem2 45 loc (.int x :: st)) : E G kX0_putLanding R 0 0 mem 42 loc (.ref r :: st) := E_V0i (k := kX0_putLanding) (k' := kX0_countLandings) dX0_putLanding_42 rfl okX0_countLandings wiX0_countLandings wzX0_countLandings wl_X0_80 ⟨Nat.le_of_ble_eq_true rfl, Nat.le_of_ble_eq_true rfl⟩ ⟨rfl, rfl⟩ ⟨Nat.zero_le _, Nat.zero_le _⟩ hrest hm rfl hC kk
theorem cs_X0_countLandings_14 {a1 : Value} {x : Int32} {mem2 : xM} (hm : mem[r]? = some (.inr (0, fs))) (hrest : (st.map fun v => v.category).sum ≤ 8) (hC : Dt G kX0_isLanding [.ref r, a1] mem (some (.int x)) mem2) (kk : E G kX0_countLandings R 0 0 mem2 17 loc (.int x :: st)) : E G kX0_countLandings R 0 0 mem 14 loc (a1 :: .ref r :: st) := E_V1i (k := kX0_countLandings) (k' := kX0_isLanding) dX0_countLandings_14 rfl okX0_isLanding wiX0_isLanding wzX0_isLanding wl_X0_83 ⟨Nat.le_of_ble_eq_true rfl, Nat.le_of_ble_eq_true rfl⟩ ⟨rfl, rfl⟩ ⟨Nat.zero_le _, Nat.zero_le _⟩ hrest hm rfl hC kk
theorem cs_X3_remove_8 {a1 : Value} {mem2 : xM} (hm : mem[r]? = some (.inr (0, fs))) (hrest : (st.map fun v => v.category).sum ≤ 8) (hC : Dt G kX0_copyFrom [.ref r, a1] mem (none) mem2) (kk : E G kX3_remove R 0 0 mem2 11 loc (st)) : E G kX3_remove R 0 0 mem 8 loc (a1 :: .ref r :: st) := E_V1v (k := kX3_remove) (k' := kX0_copyFrom) dX3_remove_8 rfl okX0_copyFrom wiX0_copyFrom wzX0_copyFrom wl_X3_43 ⟨Nat.le_of_ble_eq_true rfl, Nat.le_of_ble_eq_true rfl⟩ ⟨rfl, rfl⟩ ⟨Nat.zero_le _, Nat.zero_le _⟩ hrest hm rfl hC kk
theorem cs_X3_remove_17 {a1 : Value} {x : Int32} {mem2 : xM} (hm : mem[r]? = some (.inr (0, fs))) (hrest : (st.map fun v => v.category).sum ≤ 8) (hC : Dt G kX0_removeLanding [.ref r, a1] mem (some (.int x)) mem2) (kk : E G kX3_remove R 0 0 mem2 20 loc (.int x :: st)) : E G kX3_remove R 0 0 mem 17 loc (a1 :: .ref r :: st) := E_V1i (k := kX3_remove) (k' := kX0_removeLanding) dX3_remove_17 rfl okX0_removeLanding wiX0_removeLanding wzX0_removeLanding wl_X3_64 ⟨Nat.le_of_ble_eq_true rfl, Nat.le_of_ble_eq_true rfl⟩ ⟨rfl, rfl⟩ ⟨Nat.zero_le _, Nat.zero_le _⟩ hrest hm rfl hC kk
theorem cs_X3_remove_20 {a1 : Value} {x : Int32} {mem2 : xM} (hm : mem[r]? = some (.inr (3, fs))) (hrest : (st.map fun v => v.category).sum ≤ 8) (hC : Dt G kX3_recordUnlessError [.ref r, a1] mem (some (.int x)) mem2) (kk : E G kX3_remove R 0 0 mem2 23 loc (.int x :: st)) : E G kX3_remove R 0 0 mem 20 loc (a1 :: .ref r :: st) := E_V1i (k := kX3_remove) (k' := kX3_recordUnlessError) dX3_remove_20 rfl okX3_recordUnlessError wiX3_recordUnlessError wzX3_recordUnlessError wl_X3_51 ⟨Nat.le_of_ble_eq_true rfl, Nat.le_of_ble_eq_true rfl⟩ ⟨rfl, rfl⟩ ⟨Nat.zero_le _, Nat.zero_le _⟩ hrest hm rfl hC kk
theorem cs_X0_removeLanding_2 {a1 : Value} {x : Int32} {mem2 : xM} (hm : mem[r]? = some (.inr (0, fs))) (hrest : (st.map fun v => v.category).sum ≤ 8) (hC : Dt G kX0_isLanding [.ref r, a1] mem (some (.int x)) mem2) (kk : E G kX0_removeLanding R 0 0 mem2 5 loc (.int x :: st)) : E G kX0_removeLanding R 0 0 mem 2 loc (a1 :: .ref r :: st) := E_V1i (k := kX0_removeLanding) (k' := kX0_isLanding) dX0_removeLanding_2 rfl okX0_isLanding wiX0_isLanding wzX0_isLanding wl_X0_83 ⟨Nat.le_of_ble_eq_true rfl, Nat.le_of_ble_eq_true rfl⟩ ⟨rfl, rfl⟩ ⟨Nat.zero_le _, Nat.zero_le _⟩ hrest hm rfl hC kk
theorem cs_X0_removeLanding_19 {a1 : Value} {x : Int32} {mem2 : xM} (hm : mem[r]? = some (.inr (0, fs))) (hrest : (st.map fun v => v.category).sum ≤ 8) (hC : Dt G kX0_climbersOn [.ref r, a1] mem (some (.int x)) mem2) (kk : E G kX0_removeLanding R 0 0 mem2 22 loc (.int x :: st)) : E G kX0_removeLanding R 0 0 mem 19 loc (a1 :: .ref r :: st) := E_V1i (k := kX0_removeLanding) (k' := kX0_climbersOn) dX0_removeLanding_19 rfl okX0_climbersOn wiX0_climbersOn wzX0_climbersOn wl_X0_66 ⟨Nat.le_of_ble_eq_true rfl, Nat.le_of_ble_eq_true rfl⟩ ⟨rfl, rfl⟩ ⟨Nat.zero_le _, Nat.zero_le _⟩ hrest hm rfl hC kk
theorem cs_X0_removeLanding_22 {a1 : Value} {x : Int32} {mem2 : xM} (hrest : (st.map fun v => v.category).sum ≤ 8) (hC : Dt G kJ6_bitCount_0f7a4 [a1] mem (some (.int x)) mem2) (kk : E G kX0_removeLanding R 0 0 mem2 25 loc (.int x :: st)) : E G kX0_removeLanding R 0 0 mem 22 loc (a1 :: st) := E_S1i (k := kX0_removeLanding) (k' := kJ6_bitCount_0f7a4) dX0_removeLanding_22 rfl okJ6_bitCount_0f7a4 wsJ6_bitCount_0f7a4 wl_X0_86 ⟨Nat.le_of_ble_eq_true rfl, Nat.le_of_ble_eq_true rfl⟩ ⟨rfl, rfl⟩ ⟨Nat.zero_le _, Nat.zero_le _⟩ hrest hC kk
theorem cs_X3_join_8 {a1 : Value} {mem2 : xM} (hm : mem[r]? = some (.inr (0, fs))) (hrest : (st.map fun v => v.category).sum ≤ 8) (hC : Dt G kX0_copyFrom [.ref r, a1] mem (none) mem2) (kk : E G kX3_join R 0 0 mem2 11 loc (st)) : E G kX3_join R 0 0 mem 8 loc (a1 :: .ref r :: st) := E_V1v (k := kX3_join) (k' := kX0_copyFrom) dX3_join_8 rfl okX0_copyFrom wiX0_copyFrom wzX0_copyFrom wl_X3_43 ⟨Nat.le_of_ble_eq_true rfl, Nat.le_of_ble_eq_true rfl⟩ ⟨rfl, rfl⟩ ⟨Nat.zero_le _, Nat.zero_le _⟩ hrest hm rfl hC kk
theorem cs_X3_join_16 {x : Int32} {mem2 : xM} (hm : mem[r]? = some (.inr (0, fs))) (hrest : (st.map fun v => v.category).sum ≤ 8) (hC : Dt G kX0_addClimber [.ref r] mem (some (.int x)) mem2) (kk : E G kX3_join R 0 0 mem2 19 loc (.int x :: st)) : E G kX3_join R 0 0 mem 16 loc (.ref r :: st) := E_V0i (k := kX3_join) (k' := kX0_addClimber) dX3_join_16 rfl okX0_addClimber wiX0_addClimber wzX0_addClimber wl_X3_67 ⟨Nat.le_of_ble_eq_true rfl, Nat.le_of_ble_eq_true rfl⟩ ⟨rfl, rfl⟩ ⟨Nat.zero_le _, Nat.zero_le _⟩ hrest hm rfl hC kk
theorem cs_X3_join_19 {a1 : Value} {x : Int32} {mem2 : xM} (hm : mem[r]? = some (.inr (3, fs))) (hrest : (st.map fun v => v.category).sum ≤ 8) (hC : Dt G kX3_recordUnlessError [.ref r, a1] mem (some (.int x)) mem2) (kk : E G kX3_join R 0 0 mem2 22 loc (.int x :: st)) : E G kX3_join R 0 0 mem 19 loc (a1 :: .ref r :: st) := E_V1i (k := kX3_join) (k' := kX3_recordUnlessError) dX3_join_19 rfl okX3_recordUnlessError wiX3_recordUnlessError wzX3_recordUnlessError wl_X3_51 ⟨Nat.le_of_ble_eq_true rfl, Nat.le_of_ble_eq_true rfl⟩ ⟨rfl, rfl⟩ ⟨Nat.zero_le _, Nat.zero_le _⟩ hrest hm rfl hC kk
theorem cs_X3_roll_8 {a1 : Value} {mem2 : xM} (hm : mem[r]? = some (.inr (0, fs))) (hrest : (st.map fun v => v.category).sum ≤ 8) (hC : Dt G kX0_copyFrom [.ref r, a1] mem (none) mem2) (kk : E G kX3_roll R 0 0 mem2 11 loc (st)) : E G kX3_roll R 0 0 mem 8 loc (a1 :: .ref r :: st) := E_V1v (k := kX3_roll) (k' := kX0_copyFrom) dX3_roll_8 rfl okX0_copyFrom wiX0_copyFrom wzX0_copyFrom wl_X3_43 ⟨Nat.le_of_ble_eq_true rfl, Nat.le_of_ble_eq_true rfl⟩ ⟨rfl, rfl⟩ ⟨Nat.zero_le _, Nat.zero_le _⟩ hrest hm rfl hC kk
theorem cs_X3_roll_17 {a1 : Value} {x : Int32} {mem2 : xM} (hm : mem[r]? = some (.inr (0, fs))) (hrest : (st.map fun v => v.category).sum ≤ 8) (hC : Dt G kX0_makeRoll [.ref r, a1] mem (some (.int x)) mem2) (kk : E G kX3_roll R 0 0 mem2 20 loc (.int x :: st)) : E G kX3_roll R 0 0 mem 17 loc (a1 :: .ref r :: st) := E_V1i (k := kX3_roll) (k' := kX0_makeRoll) dX3_roll_17 rfl okX0_makeRoll wiX0_makeRoll wzX0_makeRoll wl_X3_71 ⟨Nat.le_of_ble_eq_true rfl, Nat.le_of_ble_eq_true rfl⟩ ⟨rfl, rfl⟩ ⟨Nat.zero_le _, Nat.zero_le _⟩ hrest hm rfl hC kk
theorem cs_X3_roll_20 {a1 : Value} {x : Int32} {mem2 : xM} (hm : mem[r]? = some (.inr (3, fs))) (hrest : (st.map fun v => v.category).sum ≤ 8) (hC : Dt G kX3_recordUnlessError [.ref r, a1] mem (some (.int x)) mem2) (kk : E G kX3_roll R 0 0 mem2 23 loc (.int x :: st)) : E G kX3_roll R 0 0 mem 20 loc (a1 :: .ref r :: st) := E_V1i (k := kX3_roll) (k' := kX3_recordUnlessError) dX3_roll_20 rfl okX3_recordUnlessError wiX3_recordUnlessError wzX3_recordUnlessError wl_X3_51 ⟨Nat.le_of_ble_eq_true rfl, Nat.le_of_ble_eq_true rfl⟩ ⟨rfl, rfl⟩ ⟨Nat.zero_le _, Nat.zero_le _⟩ hrest hm rfl hC kk
theorem cs_X0_makeRoll_1 {a1 : Value} {x : Int32} {mem2 : xM} (hrest : (st.map fun v => v.category).sum ≤ 8) (hC : Dt G kX3_isRoll [a1] mem (some (.int x)) mem2) (kk : E G kX0_makeRoll R 0 0 mem2 4 loc (.int x :: st)) : E G kX0_makeRoll R 0 0 mem 1 loc (a1 :: st) := E_SN1i (k := kX0_makeRoll) (k' := kX3_isRoll) dX0_makeRoll_1 rfl okX3_isRoll wsX3_isRoll wl_X0_91 ⟨Nat.le_of_ble_eq_true rfl, Nat.le_of_ble_eq_true rfl⟩ ⟨rfl, rfl⟩ ⟨Nat.zero_le _, Nat.zero_le _⟩ hrest hC kk
theorem cs_X0_makeRoll_11 {x : Int32} {mem2 : xM} (hm : mem[r]? = some (.inr (0, fs))) (hrest : (st.map fun v => v.category).sum ≤ 8) (hC : Dt G kX0_hasMover [.ref r] mem (some (.int x)) mem2) (kk : E G kX0_makeRoll R 0 0 mem2 14 loc (.int x :: st)) : E G kX0_makeRoll R 0 0 mem 11 loc (.ref r :: st) := E_V0i (k := kX0_makeRoll) (k' := kX0_hasMover) dX0_makeRoll_11 rfl okX0_hasMover wiX0_hasMover wzX0_hasMover wl_X0_94 ⟨Nat.le_of_ble_eq_true rfl, Nat.le_of_ble_eq_true rfl⟩ ⟨rfl, rfl⟩ ⟨Nat.zero_le _, Nat.zero_le _⟩ hrest hm rfl hC kk
theorem cs_X0_makeRoll_46 {a1 : Value} {mem2 : xM} (hm : mem[r]? = some (.inr (0, fs))) (hrest : (st.map fun v => v.category).sum ≤ 8) (hC : Dt G kX0_liftThosePassed [.ref r, a1] mem (none) mem2) (kk : E G kX0_makeRoll R 0 0 mem2 49 loc (st)) : E G kX0_makeRoll R 0 0 mem 46 loc (a1 :: .ref r :: st) := E_V1v (k := kX0_makeRoll) (k' := kX0_liftThosePassed) dX0_makeRoll_46 rfl okX0_liftThosePassed wiX0_liftThosePassed wzX0_liftThosePassed wl_X0_98 ⟨Nat.le_of_ble_eq_true rfl, Nat.le_of_ble_eq_true rfl⟩ ⟨rfl, rfl⟩ ⟨Nat.zero_le _, Nat.zero_le _⟩ hrest hm rfl hC kk
theorem cs_X0_makeRoll_52 {a1 a2 : Value} {mem2 : xM} (hm : mem[r]? = some (.inr (0, fs))) (hrest : (st.map fun v => v.category).sum ≤ 8) (hC : Dt G kX0_comeTo [.ref r, a1, a2] mem (none) mem2) (kk : E G kX0_makeRoll R 0 0 mem2 55 loc (st)) : E G kX0_makeRoll R 0 0 mem 52 loc (a2 :: a1 :: .ref r :: st) := E_V2v (k := kX0_makeRoll) (k' := kX0_comeTo) dX0_makeRoll_52 rfl okX0_comeTo wiX0_comeTo wzX0_comeTo wl_X0_102 ⟨Nat.le_of_ble_eq_true rfl, Nat.le_of_ble_eq_true rfl⟩ ⟨rfl, rfl⟩ ⟨Nat.zero_le _, Nat.zero_le _⟩ hrest hm rfl hC kk
theorem cs_X0_makeRoll_57 {a1 : Value} {x : Int32} {mem2 : xM} (hm : mem[r]? = some (.inr (0, fs))) (hrest : (st.map fun v => v.category).sum ≤ 8) (hC : Dt G kX0_isLanding [.ref r, a1] mem (some (.int x)) mem2) (kk : E G kX0_makeRoll R 0 0 mem2 60 loc (.int x :: st)) : E G kX0_makeRoll R 0 0 mem 57 loc (a1 :: .ref r :: st) := E_V1i (k := kX0_makeRoll) (k' := kX0_isLanding) dX0_makeRoll_57 rfl okX0_isLanding wiX0_isLanding wzX0_isLanding wl_X0_83 ⟨Nat.le_of_ble_eq_true rfl, Nat.le_of_ble_eq_true rfl⟩ ⟨rfl, rfl⟩ ⟨Nat.zero_le _, Nat.zero_le _⟩ hrest hm rfl hC kk
theorem cs_X0_makeRoll_74 {mem2 : xM} (hm : mem[r]? = some (.inr (0, fs))) (hrest : (st.map fun v => v.category).sum ≤ 8) (hC : Dt G kX0_goToNextMover [.ref r] mem (none) mem2) (kk : E G kX0_makeRoll R 0 0 mem2 77 loc (st)) : E G kX0_makeRoll R 0 0 mem 74 loc (.ref r :: st) := E_V0v (k := kX0_makeRoll) (k' := kX0_goToNextMover) dX0_makeRoll_74 rfl okX0_goToNextMover wiX0_goToNextMover wzX0_goToNextMover wl_X0_106 ⟨Nat.le_of_ble_eq_true rfl, Nat.le_of_ble_eq_true rfl⟩ ⟨rfl, rfl⟩ ⟨Nat.zero_le _, Nat.zero_le _⟩ hrest hm rfl hC kk
theorem cs_X0_hasMover_5 {a1 : Value} {x : Int32} {mem2 : xM} (hm : mem[r]? = some (.inr (0, fs))) (hrest : (st.map fun v => v.category).sum ≤ 8) (hC : Dt G kX0_isClimber [.ref r, a1] mem (some (.int x)) mem2) (kk : E G kX0_hasMover R 0 0 mem2 8 loc (.int x :: st)) : E G kX0_hasMover R 0 0 mem 5 loc (a1 :: .ref r :: st) := E_V1i (k := kX0_hasMover) (k' := kX0_isClimber) dX0_hasMover_5 rfl okX0_isClimber wiX0_isClimber wzX0_isClimber wl_X0_59 ⟨Nat.le_of_ble_eq_true rfl, Nat.le_of_ble_eq_true rfl⟩ ⟨rfl, rfl⟩ ⟨Nat.zero_le _, Nat.zero_le _⟩ hrest hm rfl hC kk
theorem cs_X0_liftThosePassed_13 {a1 a2 : Value} {x : Int32} {mem2 : xM} (hm : mem[r]? = some (.inr (0, fs))) (hrest : (st.map fun v => v.category).sum ≤ 8) (hC : Dt G kX0_isPassed [.ref r, a1, a2] mem (some (.int x)) mem2) (kk : E G kX0_liftThosePassed R 0 0 mem2 16 loc (.int x :: st)) : E G kX0_liftThosePassed R 0 0 mem 13 loc (a2 :: a1 :: .ref r :: st) := E_V2i (k := kX0_liftThosePassed) (k' := kX0_isPassed) dX0_liftThosePassed_13 rfl okX0_isPassed wiX0_isPassed wzX0_isPassed wl_X0_109 ⟨Nat.le_of_ble_eq_true rfl, Nat.le_of_ble_eq_true rfl⟩ ⟨rfl, rfl⟩ ⟨Nat.zero_le _, Nat.zero_le _⟩ hrest hm rfl hC kk
theorem cs_X0_liftThosePassed_52 {a1 a2 : Value} {mem2 : xM} (hm : mem[r]? = some (.inr (0, fs))) (hrest : (st.map fun v => v.category).sum ≤ 8) (hC : Dt G kX0_comeTo [.ref r, a1, a2] mem (none) mem2) (kk : E G kX0_liftThosePassed R 0 0 mem2 55 loc (st)) : E G kX0_liftThosePassed R 0 0 mem 52 loc (a2 :: a1 :: .ref r :: st) := E_V2v (k := kX0_liftThosePassed) (k' := kX0_comeTo) dX0_liftThosePassed_52 rfl okX0_comeTo wiX0_comeTo wzX0_comeTo wl_X0_102 ⟨Nat.le_of_ble_eq_true rfl, Nat.le_of_ble_eq_true rfl⟩ ⟨rfl, rfl⟩ ⟨Nat.zero_le _, Nat.zero_le _⟩ hrest hm rfl hC kk
theorem cs_X0_isPassed_34 {a1 : Value} {x : Int32} {mem2 : xM} (hm : mem[r]? = some (.inr (0, fs))) (hrest : (st.map fun v => v.category).sum ≤ 8) (hC : Dt G kX0_isLanding [.ref r, a1] mem (some (.int x)) mem2) (kk : E G kX0_isPassed R 0 0 mem2 37 loc (.int x :: st)) : E G kX0_isPassed R 0 0 mem 34 loc (a1 :: .ref r :: st) := E_V1i (k := kX0_isPassed) (k' := kX0_isLanding) dX0_isPassed_34 rfl okX0_isLanding wiX0_isLanding wzX0_isLanding wl_X0_83 ⟨Nat.le_of_ble_eq_true rfl, Nat.le_of_ble_eq_true rfl⟩ ⟨rfl, rfl⟩ ⟨Nat.zero_le _, Nat.zero_le _⟩ hrest hm rfl hC kk
theorem cs_X0_comeTo_2 {a1 : Value} {x : Int32} {mem2 : xM} (hm : mem[r]? = some (.inr (0, fs))) (hrest : (st.map fun v => v.category).sum ≤ 8) (hC : Dt G kX0_isBelowTop [.ref r, a1] mem (some (.int x)) mem2) (kk : E G kX0_comeTo R 0 0 mem2 5 loc (.int x :: st)) : E G kX0_comeTo R 0 0 mem 2 loc (a1 :: .ref r :: st) := E_V1i (k := kX0_comeTo) (k' := kX0_isBelowTop) dX0_comeTo_2 rfl okX0_isBelowTop wiX0_isBelowTop wzX0_isBelowTop wl_X0_70 ⟨Nat.le_of_ble_eq_true rfl, Nat.le_of_ble_eq_true rfl⟩ ⟨rfl, rfl⟩ ⟨Nat.zero_le _, Nat.zero_le _⟩ hrest hm rfl hC kk
theorem cs_X0_goToNextMover_5 {a1 : Value} {x : Int32} {mem2 : xM} (hm : mem[r]? = some (.inr (0, fs))) (hrest : (st.map fun v => v.category).sum ≤ 8) (hC : Dt G kX0_behind [.ref r, a1] mem (some (.int x)) mem2) (kk : E G kX0_goToNextMover R 0 0 mem2 8 loc (.int x :: st)) : E G kX0_goToNextMover R 0 0 mem 5 loc (a1 :: .ref r :: st) := E_V1i (k := kX0_goToNextMover) (k' := kX0_behind) dX0_goToNextMover_5 rfl okX0_behind wiX0_behind wzX0_behind wl_X0_113 ⟨Nat.le_of_ble_eq_true rfl, Nat.le_of_ble_eq_true rfl⟩ ⟨rfl, rfl⟩ ⟨Nat.zero_le _, Nat.zero_le _⟩ hrest hm rfl hC kk
theorem cs_X0_goToNextMover_48 {a1 : Value} {x : Int32} {mem2 : xM} (hm : mem[r]? = some (.inr (0, fs))) (hrest : (st.map fun v => v.category).sum ≤ 8) (hC : Dt G kX0_behind [.ref r, a1] mem (some (.int x)) mem2) (kk : E G kX0_goToNextMover R 0 0 mem2 51 loc (.int x :: st)) : E G kX0_goToNextMover R 0 0 mem 48 loc (a1 :: .ref r :: st) := E_V1i (k := kX0_goToNextMover) (k' := kX0_behind) dX0_goToNextMover_48 rfl okX0_behind wiX0_behind wzX0_behind wl_X0_113 ⟨Nat.le_of_ble_eq_true rfl, Nat.le_of_ble_eq_true rfl⟩ ⟨rfl, rfl⟩ ⟨Nat.zero_le _, Nat.zero_le _⟩ hrest hm rfl hC kk
theorem cs_X0_behind_4 {a1 : Value} {x : Int32} {mem2 : xM} (hm : mem[r]? = some (.inr (0, fs))) (hrest : (st.map fun v => v.category).sum ≤ 8) (hC : Dt G kX0_isClimber [.ref r, a1] mem (some (.int x)) mem2) (kk : E G kX0_behind R 0 0 mem2 7 loc (.int x :: st)) : E G kX0_behind R 0 0 mem 4 loc (a1 :: .ref r :: st) := E_V1i (k := kX0_behind) (k' := kX0_isClimber) dX0_behind_4 rfl okX0_isClimber wiX0_isClimber wzX0_isClimber wl_X0_59 ⟨Nat.le_of_ble_eq_true rfl, Nat.le_of_ble_eq_true rfl⟩ ⟨rfl, rfl⟩ ⟨Nat.zero_le _, Nat.zero_le _⟩ hrest hm rfl hC kk
theorem cs_X3_pass_8 {a1 : Value} {mem2 : xM} (hm : mem[r]? = some (.inr (0, fs))) (hrest : (st.map fun v => v.category).sum ≤ 8) (hC : Dt G kX0_copyFrom [.ref r, a1] mem (none) mem2) (kk : E G kX3_pass R 0 0 mem2 11 loc (st)) : E G kX3_pass R 0 0 mem 8 loc (a1 :: .ref r :: st) := E_V1v (k := kX3_pass) (k' := kX0_copyFrom) dX3_pass_8 rfl okX0_copyFrom wiX0_copyFrom wzX0_copyFrom wl_X3_43 ⟨Nat.le_of_ble_eq_true rfl, Nat.le_of_ble_eq_true rfl⟩ ⟨rfl, rfl⟩ ⟨Nat.zero_le _, Nat.zero_le _⟩ hrest hm rfl hC kk
theorem cs_X3_pass_16 {x : Int32} {mem2 : xM} (hm : mem[r]? = some (.inr (0, fs))) (hrest : (st.map fun v => v.category).sum ≤ 8) (hC : Dt G kX0_makePass [.ref r] mem (some (.int x)) mem2) (kk : E G kX3_pass R 0 0 mem2 19 loc (.int x :: st)) : E G kX3_pass R 0 0 mem 16 loc (.ref r :: st) := E_V0i (k := kX3_pass) (k' := kX0_makePass) dX3_pass_16 rfl okX0_makePass wiX0_makePass wzX0_makePass wl_X3_74 ⟨Nat.le_of_ble_eq_true rfl, Nat.le_of_ble_eq_true rfl⟩ ⟨rfl, rfl⟩ ⟨Nat.zero_le _, Nat.zero_le _⟩ hrest hm rfl hC kk
theorem cs_X3_pass_19 {a1 : Value} {x : Int32} {mem2 : xM} (hm : mem[r]? = some (.inr (3, fs))) (hrest : (st.map fun v => v.category).sum ≤ 8) (hC : Dt G kX3_recordUnlessError [.ref r, a1] mem (some (.int x)) mem2) (kk : E G kX3_pass R 0 0 mem2 22 loc (.int x :: st)) : E G kX3_pass R 0 0 mem 19 loc (a1 :: .ref r :: st) := E_V1i (k := kX3_pass) (k' := kX3_recordUnlessError) dX3_pass_19 rfl okX3_recordUnlessError wiX3_recordUnlessError wzX3_recordUnlessError wl_X3_51 ⟨Nat.le_of_ble_eq_true rfl, Nat.le_of_ble_eq_true rfl⟩ ⟨rfl, rfl⟩ ⟨Nat.zero_le _, Nat.zero_le _⟩ hrest hm rfl hC kk
theorem cs_X0_makePass_1 {x : Int32} {mem2 : xM} (hm : mem[r]? = some (.inr (0, fs))) (hrest : (st.map fun v => v.category).sum ≤ 8) (hC : Dt G kX0_hasMover [.ref r] mem (some (.int x)) mem2) (kk : E G kX0_makePass R 0 0 mem2 4 loc (.int x :: st)) : E G kX0_makePass R 0 0 mem 1 loc (.ref r :: st) := E_V0i (k := kX0_makePass) (k' := kX0_hasMover) dX0_makePass_1 rfl okX0_hasMover wiX0_hasMover wzX0_hasMover wl_X0_94 ⟨Nat.le_of_ble_eq_true rfl, Nat.le_of_ble_eq_true rfl⟩ ⟨rfl, rfl⟩ ⟨Nat.zero_le _, Nat.zero_le _⟩ hrest hm rfl hC kk
theorem cs_X0_makePass_11 {mem2 : xM} (hm : mem[r]? = some (.inr (0, fs))) (hrest : (st.map fun v => v.category).sum ≤ 8) (hC : Dt G kX0_goToNextMover [.ref r] mem (none) mem2) (kk : E G kX0_makePass R 0 0 mem2 14 loc (st)) : E G kX0_makePass R 0 0 mem 11 loc (.ref r :: st) := E_V0v (k := kX0_makePass) (k' := kX0_goToNextMover) dX0_makePass_11 rfl okX0_goToNextMover wiX0_goToNextMover wzX0_goToNextMover wl_X0_106 ⟨Nat.le_of_ble_eq_true rfl, Nat.le_of_ble_eq_true rfl⟩ ⟨rfl, rfl⟩ ⟨Nat.zero_le _, Nat.zero_le _⟩ hrest hm rfl hC kk
theorem cw_L_roll_128 {a1 a2 a3 a4 a5 : Value} {P : xM → Prop} (hcs : ce ≤ 1 ∧ sl ≤ 6) (hrest : (st.map fun v => v.category).sum ≤ 8) (hC : Pt G kL_come [a1, a2, a3, a4, a5] mem (none) P) (kk : ∀ m2 : xM, P m2 → E G kL_roll R ce sl m2 131 loc (st)) : E G kL_roll R ce sl mem 128 loc (a5 :: a4 :: a3 :: a2 :: a1 :: st) := E_callS (k := kL_roll) (k' := kL_come) (n := 5) (As := [a1, a2, a3, a4, a5]) dL_roll_128 rfl okL_come wsL_come wl_L_10 ⟨Nat.le_of_ble_eq_true rfl, Nat.le_of_ble_eq_true rfl⟩ hcs hrest rfl hC (fun v mem2 hv => by obtain ⟨rfl, hv2⟩ := hv; exact kk _ hv2)
theorem cs_L_roll_128 {a1 a2 a3 a4 a5 : Value} {mem2 : xM} (hrest : (st.map fun v => v.category).sum ≤ 8) (hcs : ce ≤ 1 ∧ sl ≤ 6) (hC : Dt G kL_come [a1, a2, a3, a4, a5] mem (none) mem2) (kk : E G kL_roll R ce sl mem2 131 loc (st)) : E G kL_roll R ce sl mem 128 loc (a5 :: a4 :: a3 :: a2 :: a1 :: st) := E_S5v (k := kL_roll) (k' := kL_come) dL_roll_128 rfl okL_come wsL_come wl_L_10 ⟨Nat.le_of_ble_eq_true rfl, Nat.le_of_ble_eq_true rfl⟩ ⟨rfl, rfl⟩ hcs hrest hC kk
theorem cw_L_roll_182 {a1 a2 a3 a4 a5 : Value} {P : xM → Prop} (hcs : ce ≤ 1 ∧ sl ≤ 6) (hrest : (st.map fun v => v.category).sum ≤ 8) (hC : Pt G kL_come [a1, a2, a3, a4, a5] mem (none) P) (kk : ∀ m2 : xM, P m2 → E G kL_roll R ce sl m2 185 loc (st)) : E G kL_roll R ce sl mem 182 loc (a5 :: a4 :: a3 :: a2 :: a1 :: st) := E_callS (k := kL_roll) (k' := kL_come) (n := 5) (As := [a1, a2, a3, a4, a5]) dL_roll_182 rfl okL_come wsL_come wl_L_10 ⟨Nat.le_of_ble_eq_true rfl, Nat.le_of_ble_eq_true rfl⟩ hcs hrest rfl hC (fun v mem2 hv => by obtain ⟨rfl, hv2⟩ := hv; exact kk _ hv2)
theorem cs_L_roll_182 {a1 a2 a3 a4 a5 : Value} {mem2 : xM} (hrest : (st.map fun v => v.category).sum ≤ 8) (hcs : ce ≤ 1 ∧ sl ≤ 6) (hC : Dt G kL_come [a1, a2, a3, a4, a5] mem (none) mem2) (kk : E G kL_roll R ce sl mem2 185 loc (st)) : E G kL_roll R ce sl mem 182 loc (a5 :: a4 :: a3 :: a2 :: a1 :: st) := E_S5v (k := kL_roll) (k' := kL_come) dL_roll_182 rfl okL_come wsL_come wl_L_10 ⟨Nat.le_of_ble_eq_true rfl, Nat.le_of_ble_eq_true rfl⟩ ⟨rfl, rfl⟩ hcs hrest hC kk
theorem cw_L_roll_222 {a1 a2 : Value} {P : xM → Prop} (hcs : ce ≤ 1 ∧ sl ≤ 6) (hrest : (st.map fun v => v.category).sum ≤ 8) (hC : Pt G kL_next [a1, a2] mem (none) P) (kk : ∀ m2 : xM, P m2 → E G kL_roll R ce sl m2 225 loc (st)) : E G kL_roll R ce sl mem 222 loc (a2 :: a1 :: st) := E_callS (k := kL_roll) (k' := kL_next) (n := 2) (As := [a1, a2]) dL_roll_222 rfl okL_next wsL_next wl_L_16 ⟨Nat.le_of_ble_eq_true rfl, Nat.le_of_ble_eq_true rfl⟩ hcs hrest rfl hC (fun v mem2 hv => by obtain ⟨rfl, hv2⟩ := hv; exact kk _ hv2)
theorem cs_L_roll_222 {a1 a2 : Value} {mem2 : xM} (hrest : (st.map fun v => v.category).sum ≤ 8) (hcs : ce ≤ 1 ∧ sl ≤ 6) (hC : Dt G kL_next [a1, a2] mem (none) mem2) (kk : E G kL_roll R ce sl mem2 225 loc (st)) : E G kL_roll R ce sl mem 222 loc (a2 :: a1 :: st) := E_S2v (k := kL_roll) (k' := kL_next) dL_roll_222 rfl okL_next wsL_next wl_L_16 ⟨Nat.le_of_ble_eq_true rfl, Nat.le_of_ble_eq_true rfl⟩ ⟨rfl, rfl⟩ hcs hrest hC kk
theorem cw_L_ahead_34 {a1 a2 : Value} {P : xM → Prop} (hcs : ce ≤ 18 ∧ sl ≤ 294) (hrest : (st.map fun v => v.category).sum ≤ 8) (hC : Pt G kL_copy [a1, a2] mem (none) P) (kk : ∀ m2 : xM, P m2 → E G kL_ahead R ce sl m2 37 loc (st)) : E G kL_ahead R ce sl mem 34 loc (a2 :: a1 :: st) := E_callS (k := kL_ahead) (k' := kL_copy) (n := 2) (As := [a1, a2]) dL_ahead_34 rfl okL_copy wsL_copy wl_L_20 ⟨Nat.le_of_ble_eq_true rfl, Nat.le_of_ble_eq_true rfl⟩ hcs hrest rfl hC (fun v mem2 hv => by obtain ⟨rfl, hv2⟩ := hv; exact kk _ hv2)
theorem cs_L_ahead_34 {a1 a2 : Value} {mem2 : xM} (hrest : (st.map fun v => v.category).sum ≤ 8) (hcs : ce ≤ 18 ∧ sl ≤ 294) (hC : Dt G kL_copy [a1, a2] mem (none) mem2) (kk : E G kL_ahead R ce sl mem2 37 loc (st)) : E G kL_ahead R ce sl mem 34 loc (a2 :: a1 :: st) := E_S2v (k := kL_ahead) (k' := kL_copy) dL_ahead_34 rfl okL_copy wsL_copy wl_L_20 ⟨Nat.le_of_ble_eq_true rfl, Nat.le_of_ble_eq_true rfl⟩ ⟨rfl, rfl⟩ hcs hrest hC kk
theorem cw_L_ahead_41 {a1 a2 : Value} {P : xM → Prop} (hcs : ce ≤ 18 ∧ sl ≤ 294) (hrest : (st.map fun v => v.category).sum ≤ 8) (hC : Pt G kL_copy [a1, a2] mem (none) P) (kk : ∀ m2 : xM, P m2 → E G kL_ahead R ce sl m2 44 loc (st)) : E G kL_ahead R ce sl mem 41 loc (a2 :: a1 :: st) := E_callS (k := kL_ahead) (k' := kL_copy) (n := 2) (As := [a1, a2]) dL_ahead_41 rfl okL_copy wsL_copy wl_L_20 ⟨Nat.le_of_ble_eq_true rfl, Nat.le_of_ble_eq_true rfl⟩ hcs hrest rfl hC (fun v mem2 hv => by obtain ⟨rfl, hv2⟩ := hv; exact kk _ hv2)
theorem cs_L_ahead_41 {a1 a2 : Value} {mem2 : xM} (hrest : (st.map fun v => v.category).sum ≤ 8) (hcs : ce ≤ 18 ∧ sl ≤ 294) (hC : Dt G kL_copy [a1, a2] mem (none) mem2) (kk : E G kL_ahead R ce sl mem2 44 loc (st)) : E G kL_ahead R ce sl mem 41 loc (a2 :: a1 :: st) := E_S2v (k := kL_ahead) (k' := kL_copy) dL_ahead_41 rfl okL_copy wsL_copy wl_L_20 ⟨Nat.le_of_ble_eq_true rfl, Nat.le_of_ble_eq_true rfl⟩ ⟨rfl, rfl⟩ hcs hrest hC kk
theorem cw_L_ahead_52 {a1 a2 a3 a4 a5 : Value} {x : Int32} {P : xM → Prop} (hcs : (ce + 1) ≤ 18 ∧ (sl + 6) ≤ 294) (hrest : (st.map fun v => v.category).sum ≤ 8) (hC : Pt G kL_roll [a1, a2, a3, a4, a5] mem (some (.int x)) P) (kk : ∀ m2 : xM, P m2 → E G kL_ahead R (ce + 1) (sl + 6) m2 55 loc (.int x :: st)) : E G kL_ahead R ce sl mem 52 loc (a5 :: a4 :: a3 :: a2 :: a1 :: st) := E_callS (k := kL_ahead) (k' := kL_roll) (n := 5) (As := [a1, a2, a3, a4, a5]) dL_ahead_52 rfl okL_roll wsL_roll wl_L_23 ⟨Nat.le_of_ble_eq_true rfl, Nat.le_of_ble_eq_true rfl⟩ hcs hrest rfl hC (fun v mem2 hv => by obtain ⟨rfl, hv2⟩ := hv; exact kk _ hv2)
theorem cw_L_ahead_78 {a1 a2 a3 : Value} {x : Int32} {P : xM → Prop} (hcs : ce ≤ 18 ∧ sl ≤ 294) (hrest : (st.map fun v => v.category).sum ≤ 8) (hC : Pt G kL_progress [a1, a2, a3] mem (some (.int x)) P) (kk : ∀ m2 : xM, P m2 → E G kL_ahead R ce sl m2 81 loc (.int x :: st)) : E G kL_ahead R ce sl mem 78 loc (a3 :: a2 :: a1 :: st) := E_callS (k := kL_ahead) (k' := kL_progress) (n := 3) (As := [a1, a2, a3]) dL_ahead_78 rfl okL_progress wsL_progress wl_L_27 ⟨Nat.le_of_ble_eq_true rfl, Nat.le_of_ble_eq_true rfl⟩ hcs hrest rfl hC (fun v mem2 hv => by obtain ⟨rfl, hv2⟩ := hv; exact kk _ hv2)
theorem cs_L_ahead_78 {a1 a2 a3 : Value} {x : Int32} {mem2 : xM} (hrest : (st.map fun v => v.category).sum ≤ 8) (hcs : ce ≤ 18 ∧ sl ≤ 294) (hC : Dt G kL_progress [a1, a2, a3] mem (some (.int x)) mem2) (kk : E G kL_ahead R ce sl mem2 81 loc (.int x :: st)) : E G kL_ahead R ce sl mem 78 loc (a3 :: a2 :: a1 :: st) := E_S3i (k := kL_ahead) (k' := kL_progress) dL_ahead_78 rfl okL_progress wsL_progress wl_L_27 ⟨Nat.le_of_ble_eq_true rfl, Nat.le_of_ble_eq_true rfl⟩ ⟨rfl, rfl⟩ hcs hrest hC kk
theorem cw_L_ahead_86 {a1 a2 a3 : Value} {x : Int32} {P : xM → Prop} (hcs : ce ≤ 18 ∧ sl ≤ 294) (hrest : (st.map fun v => v.category).sum ≤ 8) (hC : Pt G kL_progress [a1, a2, a3] mem (some (.int x)) P) (kk : ∀ m2 : xM, P m2 → E G kL_ahead R ce sl m2 89 loc (.int x :: st)) : E G kL_ahead R ce sl mem 86 loc (a3 :: a2 :: a1 :: st) := E_callS (k := kL_ahead) (k' := kL_progress) (n := 3) (As := [a1, a2, a3]) dL_ahead_86 rfl okL_progress wsL_progress wl_L_27 ⟨Nat.le_of_ble_eq_true rfl, Nat.le_of_ble_eq_true rfl⟩ hcs hrest rfl hC (fun v mem2 hv => by obtain ⟨rfl, hv2⟩ := hv; exact kk _ hv2)
theorem cs_L_ahead_86 {a1 a2 a3 : Value} {x : Int32} {mem2 : xM} (hrest : (st.map fun v => v.category).sum ≤ 8) (hcs : ce ≤ 18 ∧ sl ≤ 294) (hC : Dt G kL_progress [a1, a2, a3] mem (some (.int x)) mem2) (kk : E G kL_ahead R ce sl mem2 89 loc (.int x :: st)) : E G kL_ahead R ce sl mem 86 loc (a3 :: a2 :: a1 :: st) := E_S3i (k := kL_ahead) (k' := kL_progress) dL_ahead_86 rfl okL_progress wsL_progress wl_L_27 ⟨Nat.le_of_ble_eq_true rfl, Nat.le_of_ble_eq_true rfl⟩ ⟨rfl, rfl⟩ hcs hrest hC kk
theorem cs_L_ahead_162 {a1 a2 : Value} {x : Int32} {mem2 : xM} (hm : mem[r]? = some (.inr (3, fs))) (hrest : (st.map fun v => v.category).sum ≤ 8) (hcs : ce ≤ 18 ∧ sl ≤ 294) (hC : Dt G kX3_ifRolled [.ref r, a1, a2] mem (some (.int x)) mem2) (kk : E G kL_ahead R ce sl mem2 165 loc (.int x :: st)) : E G kL_ahead R ce sl mem 162 loc (a2 :: a1 :: .ref r :: st) := E_V2i (k := kL_ahead) (k' := kX3_ifRolled) dL_ahead_162 rfl okX3_ifRolled wiX3_ifRolled wzX3_ifRolled wl_L_31 ⟨Nat.le_of_ble_eq_true rfl, Nat.le_of_ble_eq_true rfl⟩ ⟨rfl, rfl⟩ hcs hrest hm rfl hC kk
theorem cs_L_ahead_182 {a1 a2 : Value} {x : Int32} {mem2 : xM} (hm : mem[r]? = some (.inr (3, fs))) (hrest : (st.map fun v => v.category).sum ≤ 8) (hcs : ce ≤ 18 ∧ sl ≤ 294) (hC : Dt G kX3_ifRolled [.ref r, a1, a2] mem (some (.int x)) mem2) (kk : E G kL_ahead R ce sl mem2 185 loc (.int x :: st)) : E G kL_ahead R ce sl mem 182 loc (a2 :: a1 :: .ref r :: st) := E_V2i (k := kL_ahead) (k' := kX3_ifRolled) dL_ahead_182 rfl okX3_ifRolled wiX3_ifRolled wzX3_ifRolled wl_L_31 ⟨Nat.le_of_ble_eq_true rfl, Nat.le_of_ble_eq_true rfl⟩ ⟨rfl, rfl⟩ hcs hrest hm rfl hC kk
theorem cs_L_ahead_194 {a1 a2 : Value} {x : Int32} {mem2 : xM} (hm : mem[r]? = some (.inr (3, fs))) (hrest : (st.map fun v => v.category).sum ≤ 8) (hcs : ce ≤ 18 ∧ sl ≤ 294) (hC : Dt G kX3_ifRolled [.ref r, a1, a2] mem (some (.int x)) mem2) (kk : E G kL_ahead R ce sl mem2 197 loc (.int x :: st)) : E G kL_ahead R ce sl mem 194 loc (a2 :: a1 :: .ref r :: st) := E_V2i (k := kL_ahead) (k' := kX3_ifRolled) dL_ahead_194 rfl okX3_ifRolled wiX3_ifRolled wzX3_ifRolled wl_L_31 ⟨Nat.le_of_ble_eq_true rfl, Nat.le_of_ble_eq_true rfl⟩ ⟨rfl, rfl⟩ hcs hrest hm rfl hC kk
theorem cw_L_ahead_201 {a1 a2 : Value} {x : Int32} {P : xM → Prop} (hcs : ce ≤ 18 ∧ sl ≤ 294) (hrest : (st.map fun v => v.category).sum ≤ 8) (hC : Pt G kL_tops [a1, a2] mem (some (.int x)) P) (kk : ∀ m2 : xM, P m2 → E G kL_ahead R ce sl m2 204 loc (.int x :: st)) : E G kL_ahead R ce sl mem 201 loc (a2 :: a1 :: st) := E_callS (k := kL_ahead) (k' := kL_tops) (n := 2) (As := [a1, a2]) dL_ahead_201 rfl okL_tops wsL_tops wl_L_37 ⟨Nat.le_of_ble_eq_true rfl, Nat.le_of_ble_eq_true rfl⟩ hcs hrest rfl hC (fun v mem2 hv => by obtain ⟨rfl, hv2⟩ := hv; exact kk _ hv2)
theorem cs_L_ahead_201 {a1 a2 : Value} {x : Int32} {mem2 : xM} (hrest : (st.map fun v => v.category).sum ≤ 8) (hcs : ce ≤ 18 ∧ sl ≤ 294) (hC : Dt G kL_tops [a1, a2] mem (some (.int x)) mem2) (kk : E G kL_ahead R ce sl mem2 204 loc (.int x :: st)) : E G kL_ahead R ce sl mem 201 loc (a2 :: a1 :: st) := E_S2i (k := kL_ahead) (k' := kL_tops) dL_ahead_201 rfl okL_tops wsL_tops wl_L_37 ⟨Nat.le_of_ble_eq_true rfl, Nat.le_of_ble_eq_true rfl⟩ ⟨rfl, rfl⟩ hcs hrest hC kk
theorem cw_L_ahead_207 {a1 a2 : Value} {x : Int32} {P : xM → Prop} (hcs : ce ≤ 18 ∧ sl ≤ 294) (hrest : (st.map fun v => v.category).sum ≤ 8) (hC : Pt G kL_tops [a1, a2] mem (some (.int x)) P) (kk : ∀ m2 : xM, P m2 → E G kL_ahead R ce sl m2 210 loc (.int x :: st)) : E G kL_ahead R ce sl mem 207 loc (a2 :: a1 :: st) := E_callS (k := kL_ahead) (k' := kL_tops) (n := 2) (As := [a1, a2]) dL_ahead_207 rfl okL_tops wsL_tops wl_L_37 ⟨Nat.le_of_ble_eq_true rfl, Nat.le_of_ble_eq_true rfl⟩ hcs hrest rfl hC (fun v mem2 hv => by obtain ⟨rfl, hv2⟩ := hv; exact kk _ hv2)
theorem cs_L_ahead_207 {a1 a2 : Value} {x : Int32} {mem2 : xM} (hrest : (st.map fun v => v.category).sum ≤ 8) (hcs : ce ≤ 18 ∧ sl ≤ 294) (hC : Dt G kL_tops [a1, a2] mem (some (.int x)) mem2) (kk : E G kL_ahead R ce sl mem2 210 loc (.int x :: st)) : E G kL_ahead R ce sl mem 207 loc (a2 :: a1 :: st) := E_S2i (k := kL_ahead) (k' := kL_tops) dL_ahead_207 rfl okL_tops wsL_tops wl_L_37 ⟨Nat.le_of_ble_eq_true rfl, Nat.le_of_ble_eq_true rfl⟩ ⟨rfl, rfl⟩ hcs hrest hC kk
theorem cs_L_ahead_218 {a1 a2 : Value} {x : Int32} {mem2 : xM} (hm : mem[r]? = some (.inr (3, fs))) (hrest : (st.map fun v => v.category).sum ≤ 8) (hcs : ce ≤ 18 ∧ sl ≤ 294) (hC : Dt G kX3_ifRolled [.ref r, a1, a2] mem (some (.int x)) mem2) (kk : E G kL_ahead R ce sl mem2 221 loc (.int x :: st)) : E G kL_ahead R ce sl mem 218 loc (a2 :: a1 :: .ref r :: st) := E_V2i (k := kL_ahead) (k' := kX3_ifRolled) dL_ahead_218 rfl okX3_ifRolled wiX3_ifRolled wzX3_ifRolled wl_L_31 ⟨Nat.le_of_ble_eq_true rfl, Nat.le_of_ble_eq_true rfl⟩ ⟨rfl, rfl⟩ hcs hrest hm rfl hC kk
theorem cs_L_ahead_237 {a1 a2 : Value} {x : Int32} {mem2 : xM} (hm : mem[r]? = some (.inr (3, fs))) (hrest : (st.map fun v => v.category).sum ≤ 8) (hcs : ce ≤ 18 ∧ sl ≤ 294) (hC : Dt G kX3_ifRolled [.ref r, a1, a2] mem (some (.int x)) mem2) (kk : E G kL_ahead R ce sl mem2 240 loc (.int x :: st)) : E G kL_ahead R ce sl mem 237 loc (a2 :: a1 :: .ref r :: st) := E_V2i (k := kL_ahead) (k' := kX3_ifRolled) dL_ahead_237 rfl okX3_ifRolled wiX3_ifRolled wzX3_ifRolled wl_L_31 ⟨Nat.le_of_ble_eq_true rfl, Nat.le_of_ble_eq_true rfl⟩ ⟨rfl, rfl⟩ hcs hrest hm rfl hC kk
theorem cs_L_ahead_256 {x : Int32} {mem2 : xM} (hm : mem[r]? = some (.inr (3, fs))) (hrest : (st.map fun v => v.category).sum ≤ 8) (hcs : ce ≤ 18 ∧ sl ≤ 294) (hC : Dt G kX3_bestRoll [.ref r] mem (some (.int x)) mem2) (kk : E G kL_ahead R ce sl mem2 259 loc (.int x :: st)) : E G kL_ahead R ce sl mem 256 loc (.ref r :: st) := E_V0i (k := kL_ahead) (k' := kX3_bestRoll) dL_ahead_256 rfl okX3_bestRoll wiX3_bestRoll wzX3_bestRoll wl_L_41 ⟨Nat.le_of_ble_eq_true rfl, Nat.le_of_ble_eq_true rfl⟩ ⟨rfl, rfl⟩ hcs hrest hm rfl hC kk
theorem cs_L_ahead_265 {x : Int32} {mem2 : xM} (hm : mem[r]? = some (.inr (3, fs))) (hrest : (st.map fun v => v.category).sum ≤ 8) (hcs : ce ≤ 18 ∧ sl ≤ 294) (hC : Dt G kX3_quietRolls [.ref r] mem (some (.int x)) mem2) (kk : E G kL_ahead R ce sl mem2 268 loc (.int x :: st)) : E G kL_ahead R ce sl mem 265 loc (.ref r :: st) := E_V0i (k := kL_ahead) (k' := kX3_quietRolls) dL_ahead_265 rfl okX3_quietRolls wiX3_quietRolls wzX3_quietRolls wl_L_45 ⟨Nat.le_of_ble_eq_true rfl, Nat.le_of_ble_eq_true rfl⟩ ⟨rfl, rfl⟩ hcs hrest hm rfl hC kk
theorem cs_X3_ifRolled_1 {a1 : Value} {x : Int32} {mem2 : xM} (hrest : (st.map fun v => v.category).sum ≤ 8) (hC : Dt G kX3_isRoll [a1] mem (some (.int x)) mem2) (kk : E G kX3_ifRolled R 0 0 mem2 4 loc (.int x :: st)) : E G kX3_ifRolled R 0 0 mem 1 loc (a1 :: st) := E_S1i (k := kX3_ifRolled) (k' := kX3_isRoll) dX3_ifRolled_1 rfl okX3_isRoll wsX3_isRoll wl_X3_104 ⟨Nat.le_of_ble_eq_true rfl, Nat.le_of_ble_eq_true rfl⟩ ⟨rfl, rfl⟩ ⟨Nat.zero_le _, Nat.zero_le _⟩ hrest hC kk
theorem cs_X3_ifRolled_23 {x : Int32} {mem2 : xM} (hm : mem[r]? = some (.inr (0, fs))) (hrest : (st.map fun v => v.category).sum ≤ 8) (hC : Dt G kX0_hasMover [.ref r] mem (some (.int x)) mem2) (kk : E G kX3_ifRolled R 0 0 mem2 26 loc (.int x :: st)) : E G kX3_ifRolled R 0 0 mem 23 loc (.ref r :: st) := E_V0i (k := kX3_ifRolled) (k' := kX0_hasMover) dX3_ifRolled_23 rfl okX0_hasMover wiX0_hasMover wzX0_hasMover wl_X3_80 ⟨Nat.le_of_ble_eq_true rfl, Nat.le_of_ble_eq_true rfl⟩ ⟨rfl, rfl⟩ ⟨Nat.zero_le _, Nat.zero_le _⟩ hrest hm rfl hC kk
theorem cs_X3_ifRolled_34 {a1 : Value} {x : Int32} {mem2 : xM} (hm : mem[r]? = some (.inr (3, fs))) (hrest : (st.map fun v => v.category).sum ≤ 8) (hC : Dt G kX3_rollInTrial [.ref r, a1] mem (some (.int x)) mem2) (kk : E G kX3_ifRolled R 0 0 mem2 37 loc (.int x :: st)) : E G kX3_ifRolled R 0 0 mem 34 loc (a1 :: .ref r :: st) := E_V1i (k := kX3_ifRolled) (k' := kX3_rollInTrial) dX3_ifRolled_34 rfl okX3_rollInTrial wiX3_rollInTrial wzX3_rollInTrial wl_X3_107 ⟨Nat.le_of_ble_eq_true rfl, Nat.le_of_ble_eq_true rfl⟩ ⟨rfl, rfl⟩ ⟨Nat.zero_le _, Nat.zero_le _⟩ hrest hm rfl hC kk
theorem cs_X3_ifRolled_74 {x : Int32} {mem2 : xM} (hm : mem[r]? = some (.inr (0, fs))) (hrest : (st.map fun v => v.category).sum ≤ 8) (hC : Dt G kX0_liftsOfAll [.ref r] mem (some (.int x)) mem2) (kk : E G kX3_ifRolled R 0 0 mem2 77 loc (.int x :: st)) : E G kX3_ifRolled R 0 0 mem 74 loc (.ref r :: st) := E_V0i (k := kX3_ifRolled) (k' := kX0_liftsOfAll) dX3_ifRolled_74 rfl okX0_liftsOfAll wiX0_liftsOfAll wzX0_liftsOfAll wl_X3_110 ⟨Nat.le_of_ble_eq_true rfl, Nat.le_of_ble_eq_true rfl⟩ ⟨rfl, rfl⟩ ⟨Nat.zero_le _, Nat.zero_le _⟩ hrest hm rfl hC kk
theorem cs_X3_ifRolled_81 {x : Int32} {mem2 : xM} (hm : mem[r]? = some (.inr (0, fs))) (hrest : (st.map fun v => v.category).sum ≤ 8) (hC : Dt G kX0_liftsOfAll [.ref r] mem (some (.int x)) mem2) (kk : E G kX3_ifRolled R 0 0 mem2 84 loc (.int x :: st)) : E G kX3_ifRolled R 0 0 mem 81 loc (.ref r :: st) := E_V0i (k := kX3_ifRolled) (k' := kX0_liftsOfAll) dX3_ifRolled_81 rfl okX0_liftsOfAll wiX0_liftsOfAll wzX0_liftsOfAll wl_X3_110 ⟨Nat.le_of_ble_eq_true rfl, Nat.le_of_ble_eq_true rfl⟩ ⟨rfl, rfl⟩ ⟨Nat.zero_le _, Nat.zero_le _⟩ hrest hm rfl hC kk
theorem cs_X3_ifRolled_90 {x : Int32} {mem2 : xM} (hm : mem[r]? = some (.inr (0, fs))) (hrest : (st.map fun v => v.category).sum ≤ 8) (hC : Dt G kX0_topsOfAll [.ref r] mem (some (.int x)) mem2) (kk : E G kX3_ifRolled R 0 0 mem2 93 loc (.int x :: st)) : E G kX3_ifRolled R 0 0 mem 90 loc (.ref r :: st) := E_V0i (k := kX3_ifRolled) (k' := kX0_topsOfAll) dX3_ifRolled_90 rfl okX0_topsOfAll wiX0_topsOfAll wzX0_topsOfAll wl_X3_113 ⟨Nat.le_of_ble_eq_true rfl, Nat.le_of_ble_eq_true rfl⟩ ⟨rfl, rfl⟩ ⟨Nat.zero_le _, Nat.zero_le _⟩ hrest hm rfl hC kk
theorem cs_X3_ifRolled_97 {x : Int32} {mem2 : xM} (hm : mem[r]? = some (.inr (0, fs))) (hrest : (st.map fun v => v.category).sum ≤ 8) (hC : Dt G kX0_topsOfAll [.ref r] mem (some (.int x)) mem2) (kk : E G kX3_ifRolled R 0 0 mem2 100 loc (.int x :: st)) : E G kX3_ifRolled R 0 0 mem 97 loc (.ref r :: st) := E_V0i (k := kX3_ifRolled) (k' := kX0_topsOfAll) dX3_ifRolled_97 rfl okX0_topsOfAll wiX0_topsOfAll wzX0_topsOfAll wl_X3_113 ⟨Nat.le_of_ble_eq_true rfl, Nat.le_of_ble_eq_true rfl⟩ ⟨rfl, rfl⟩ ⟨Nat.zero_le _, Nat.zero_le _⟩ hrest hm rfl hC kk
theorem cs_X3_ifRolled_106 {x : Int32} {mem2 : xM} (hm : mem[r]? = some (.inr (0, fs))) (hrest : (st.map fun v => v.category).sum ≤ 8) (hC : Dt G kX0_slipsOfAll [.ref r] mem (some (.int x)) mem2) (kk : E G kX3_ifRolled R 0 0 mem2 109 loc (.int x :: st)) : E G kX3_ifRolled R 0 0 mem 106 loc (.ref r :: st) := E_V0i (k := kX3_ifRolled) (k' := kX0_slipsOfAll) dX3_ifRolled_106 rfl okX0_slipsOfAll wiX0_slipsOfAll wzX0_slipsOfAll wl_X3_116 ⟨Nat.le_of_ble_eq_true rfl, Nat.le_of_ble_eq_true rfl⟩ ⟨rfl, rfl⟩ ⟨Nat.zero_le _, Nat.zero_le _⟩ hrest hm rfl hC kk
theorem cs_X3_ifRolled_113 {x : Int32} {mem2 : xM} (hm : mem[r]? = some (.inr (0, fs))) (hrest : (st.map fun v => v.category).sum ≤ 8) (hC : Dt G kX0_slipsOfAll [.ref r] mem (some (.int x)) mem2) (kk : E G kX3_ifRolled R 0 0 mem2 116 loc (.int x :: st)) : E G kX3_ifRolled R 0 0 mem 113 loc (.ref r :: st) := E_V0i (k := kX3_ifRolled) (k' := kX0_slipsOfAll) dX3_ifRolled_113 rfl okX0_slipsOfAll wiX0_slipsOfAll wzX0_slipsOfAll wl_X3_116 ⟨Nat.le_of_ble_eq_true rfl, Nat.le_of_ble_eq_true rfl⟩ ⟨rfl, rfl⟩ ⟨Nat.zero_le _, Nat.zero_le _⟩ hrest hm rfl hC kk
theorem cs_X3_rollInTrial_8 {a1 : Value} {mem2 : xM} (hm : mem[r]? = some (.inr (0, fs))) (hrest : (st.map fun v => v.category).sum ≤ 8) (hC : Dt G kX0_copyFrom [.ref r, a1] mem (none) mem2) (kk : E G kX3_rollInTrial R 0 0 mem2 11 loc (st)) : E G kX3_rollInTrial R 0 0 mem 8 loc (a1 :: .ref r :: st) := E_V1v (k := kX3_rollInTrial) (k' := kX0_copyFrom) dX3_rollInTrial_8 rfl okX0_copyFrom wiX0_copyFrom wzX0_copyFrom wl_X3_43 ⟨Nat.le_of_ble_eq_true rfl, Nat.le_of_ble_eq_true rfl⟩ ⟨rfl, rfl⟩ ⟨Nat.zero_le _, Nat.zero_le _⟩ hrest hm rfl hC kk
theorem cs_X3_rollInTrial_16 {a1 : Value} {x : Int32} {mem2 : xM} (hm : mem[r]? = some (.inr (0, fs))) (hrest : (st.map fun v => v.category).sum ≤ 8) (hC : Dt G kX0_makeRoll [.ref r, a1] mem (some (.int x)) mem2) (kk : E G kX3_rollInTrial R 0 0 mem2 19 loc (.int x :: st)) : E G kX3_rollInTrial R 0 0 mem 16 loc (a1 :: .ref r :: st) := E_V1i (k := kX3_rollInTrial) (k' := kX0_makeRoll) dX3_rollInTrial_16 rfl okX0_makeRoll wiX0_makeRoll wzX0_makeRoll wl_X3_71 ⟨Nat.le_of_ble_eq_true rfl, Nat.le_of_ble_eq_true rfl⟩ ⟨rfl, rfl⟩ ⟨Nat.zero_le _, Nat.zero_le _⟩ hrest hm rfl hC kk
theorem cs_X0_liftsOfAll_4 {a1 : Value} {x : Int32} {mem2 : xM} (hrest : (st.map fun v => v.category).sum ≤ 8) (hC : Dt G kX0_sumOf [a1] mem (some (.int x)) mem2) (kk : E G kX0_liftsOfAll R 0 0 mem2 7 loc (.int x :: st)) : E G kX0_liftsOfAll R 0 0 mem 4 loc (a1 :: st) := E_S1i (k := kX0_liftsOfAll) (k' := kX0_sumOf) dX0_liftsOfAll_4 rfl okX0_sumOf wsX0_sumOf wl_X0_128 ⟨Nat.le_of_ble_eq_true rfl, Nat.le_of_ble_eq_true rfl⟩ ⟨rfl, rfl⟩ ⟨Nat.zero_le _, Nat.zero_le _⟩ hrest hC kk
theorem cs_X0_topsOfAll_4 {a1 : Value} {x : Int32} {mem2 : xM} (hrest : (st.map fun v => v.category).sum ≤ 8) (hC : Dt G kX0_sumOf [a1] mem (some (.int x)) mem2) (kk : E G kX0_topsOfAll R 0 0 mem2 7 loc (.int x :: st)) : E G kX0_topsOfAll R 0 0 mem 4 loc (a1 :: st) := E_S1i (k := kX0_topsOfAll) (k' := kX0_sumOf) dX0_topsOfAll_4 rfl okX0_sumOf wsX0_sumOf wl_X0_128 ⟨Nat.le_of_ble_eq_true rfl, Nat.le_of_ble_eq_true rfl⟩ ⟨rfl, rfl⟩ ⟨Nat.zero_le _, Nat.zero_le _⟩ hrest hC kk
theorem cs_X0_slipsOfAll_4 {a1 : Value} {x : Int32} {mem2 : xM} (hrest : (st.map fun v => v.category).sum ≤ 8) (hC : Dt G kX0_sumOf [a1] mem (some (.int x)) mem2) (kk : E G kX0_slipsOfAll R 0 0 mem2 7 loc (.int x :: st)) : E G kX0_slipsOfAll R 0 0 mem 4 loc (a1 :: st) := E_S1i (k := kX0_slipsOfAll) (k' := kX0_sumOf) dX0_slipsOfAll_4 rfl okX0_sumOf wsX0_sumOf wl_X0_128 ⟨Nat.le_of_ble_eq_true rfl, Nat.le_of_ble_eq_true rfl⟩ ⟨rfl, rfl⟩ ⟨Nat.zero_le _, Nat.zero_le _⟩ hrest hC kk
theorem cs_X3_bestRoll_4 {x : Int32} {mem2 : xM} (hm : mem[r]? = some (.inr (0, fs))) (hrest : (st.map fun v => v.category).sum ≤ 8) (hC : Dt G kX0_hasMover [.ref r] mem (some (.int x)) mem2) (kk : E G kX3_bestRoll R 0 0 mem2 7 loc (.int x :: st)) : E G kX3_bestRoll R 0 0 mem 4 loc (.ref r :: st) := E_V0i (k := kX3_bestRoll) (k' := kX0_hasMover) dX3_bestRoll_4 rfl okX0_hasMover wiX0_hasMover wzX0_hasMover wl_X3_80 ⟨Nat.le_of_ble_eq_true rfl, Nat.le_of_ble_eq_true rfl⟩ ⟨rfl, rfl⟩ ⟨Nat.zero_le _, Nat.zero_le _⟩ hrest hm rfl hC kk
theorem cs_X3_bestRoll_17 {a1 : Value} {x : Int32} {mem2 : xM} (hm : mem[r]? = some (.inr (3, fs))) (hrest : (st.map fun v => v.category).sum ≤ 8) (hC : Dt G kX3_gainOfRoll [.ref r, a1] mem (some (.int x)) mem2) (kk : E G kX3_bestRoll R 0 0 mem2 20 loc (.int x :: st)) : E G kX3_bestRoll R 0 0 mem 17 loc (a1 :: .ref r :: st) := E_V1i (k := kX3_bestRoll) (k' := kX3_gainOfRoll) dX3_bestRoll_17 rfl okX3_gainOfRoll wiX3_gainOfRoll wzX3_gainOfRoll wl_X3_119 ⟨Nat.le_of_ble_eq_true rfl, Nat.le_of_ble_eq_true rfl⟩ ⟨rfl, rfl⟩ ⟨Nat.zero_le _, Nat.zero_le _⟩ hrest hm rfl hC kk
theorem cs_X3_bestRoll_31 {a1 : Value} {x : Int32} {mem2 : xM} (hm : mem[r]? = some (.inr (3, fs))) (hrest : (st.map fun v => v.category).sum ≤ 8) (hC : Dt G kX3_gainOfRoll [.ref r, a1] mem (some (.int x)) mem2) (kk : E G kX3_bestRoll R 0 0 mem2 34 loc (.int x :: st)) : E G kX3_bestRoll R 0 0 mem 31 loc (a1 :: .ref r :: st) := E_V1i (k := kX3_bestRoll) (k' := kX3_gainOfRoll) dX3_bestRoll_31 rfl okX3_gainOfRoll wiX3_gainOfRoll wzX3_gainOfRoll wl_X3_119 ⟨Nat.le_of_ble_eq_true rfl, Nat.le_of_ble_eq_true rfl⟩ ⟨rfl, rfl⟩ ⟨Nat.zero_le _, Nat.zero_le _⟩ hrest hm rfl hC kk
theorem cs_X3_gainOfRoll_2 {a1 : Value} {x : Int32} {mem2 : xM} (hm : mem[r]? = some (.inr (3, fs))) (hrest : (st.map fun v => v.category).sum ≤ 8) (hC : Dt G kX3_rollInTrial [.ref r, a1] mem (some (.int x)) mem2) (kk : E G kX3_gainOfRoll R 0 0 mem2 5 loc (.int x :: st)) : E G kX3_gainOfRoll R 0 0 mem 2 loc (a1 :: .ref r :: st) := E_V1i (k := kX3_gainOfRoll) (k' := kX3_rollInTrial) dX3_gainOfRoll_2 rfl okX3_rollInTrial wiX3_rollInTrial wzX3_rollInTrial wl_X3_107 ⟨Nat.le_of_ble_eq_true rfl, Nat.le_of_ble_eq_true rfl⟩ ⟨rfl, rfl⟩ ⟨Nat.zero_le _, Nat.zero_le _⟩ hrest hm rfl hC kk
theorem cs_X3_gainOfRoll_26 {a1 : Value} {x : Int32} {mem2 : xM} (hm : mem[r]? = some (.inr (0, fs))) (hrest : (st.map fun v => v.category).sum ≤ 8) (hC : Dt G kX0_progressOf [.ref r, a1] mem (some (.int x)) mem2) (kk : E G kX3_gainOfRoll R 0 0 mem2 29 loc (.int x :: st)) : E G kX3_gainOfRoll R 0 0 mem 26 loc (a1 :: .ref r :: st) := E_V1i (k := kX3_gainOfRoll) (k' := kX0_progressOf) dX3_gainOfRoll_26 rfl okX0_progressOf wiX0_progressOf wzX0_progressOf wl_X3_156 ⟨Nat.le_of_ble_eq_true rfl, Nat.le_of_ble_eq_true rfl⟩ ⟨rfl, rfl⟩ ⟨Nat.zero_le _, Nat.zero_le _⟩ hrest hm rfl hC kk
theorem cs_X3_gainOfRoll_34 {a1 : Value} {x : Int32} {mem2 : xM} (hm : mem[r]? = some (.inr (0, fs))) (hrest : (st.map fun v => v.category).sum ≤ 8) (hC : Dt G kX0_progressOf [.ref r, a1] mem (some (.int x)) mem2) (kk : E G kX3_gainOfRoll R 0 0 mem2 37 loc (.int x :: st)) : E G kX3_gainOfRoll R 0 0 mem 34 loc (a1 :: .ref r :: st) := E_V1i (k := kX3_gainOfRoll) (k' := kX0_progressOf) dX3_gainOfRoll_34 rfl okX0_progressOf wiX0_progressOf wzX0_progressOf wl_X3_156 ⟨Nat.le_of_ble_eq_true rfl, Nat.le_of_ble_eq_true rfl⟩ ⟨rfl, rfl⟩ ⟨Nat.zero_le _, Nat.zero_le _⟩ hrest hm rfl hC kk
theorem cs_X0_progressOf_2 {a1 : Value} {x : Int32} {mem2 : xM} (hm : mem[r]? = some (.inr (0, fs))) (hrest : (st.map fun v => v.category).sum ≤ 8) (hC : Dt G kX0_isClimber [.ref r, a1] mem (some (.int x)) mem2) (kk : E G kX0_progressOf R 0 0 mem2 5 loc (.int x :: st)) : E G kX0_progressOf R 0 0 mem 2 loc (a1 :: .ref r :: st) := E_V1i (k := kX0_progressOf) (k' := kX0_isClimber) dX0_progressOf_2 rfl okX0_isClimber wiX0_isClimber wzX0_isClimber wl_X0_59 ⟨Nat.le_of_ble_eq_true rfl, Nat.le_of_ble_eq_true rfl⟩ ⟨rfl, rfl⟩ ⟨Nat.zero_le _, Nat.zero_le _⟩ hrest hm rfl hC kk
theorem cs_X3_quietRolls_4 {x : Int32} {mem2 : xM} (hm : mem[r]? = some (.inr (0, fs))) (hrest : (st.map fun v => v.category).sum ≤ 8) (hC : Dt G kX0_hasMover [.ref r] mem (some (.int x)) mem2) (kk : E G kX3_quietRolls R 0 0 mem2 7 loc (.int x :: st)) : E G kX3_quietRolls R 0 0 mem 4 loc (.ref r :: st) := E_V0i (k := kX3_quietRolls) (k' := kX0_hasMover) dX3_quietRolls_4 rfl okX0_hasMover wiX0_hasMover wzX0_hasMover wl_X3_80 ⟨Nat.le_of_ble_eq_true rfl, Nat.le_of_ble_eq_true rfl⟩ ⟨rfl, rfl⟩ ⟨Nat.zero_le _, Nat.zero_le _⟩ hrest hm rfl hC kk
theorem cs_X3_quietRolls_28 {a1 : Value} {x : Int32} {mem2 : xM} (hm : mem[r]? = some (.inr (0, fs))) (hrest : (st.map fun v => v.category).sum ≤ 8) (hC : Dt G kX0_wouldLift [.ref r, a1] mem (some (.int x)) mem2) (kk : E G kX3_quietRolls R 0 0 mem2 31 loc (.int x :: st)) : E G kX3_quietRolls R 0 0 mem 28 loc (a1 :: .ref r :: st) := E_V1i (k := kX3_quietRolls) (k' := kX0_wouldLift) dX3_quietRolls_28 rfl okX0_wouldLift wiX0_wouldLift wzX0_wouldLift wl_X3_122 ⟨Nat.le_of_ble_eq_true rfl, Nat.le_of_ble_eq_true rfl⟩ ⟨rfl, rfl⟩ ⟨Nat.zero_le _, Nat.zero_le _⟩ hrest hm rfl hC kk
theorem cs_X0_wouldLift_13 {a1 a2 : Value} {x : Int32} {mem2 : xM} (hm : mem[r]? = some (.inr (0, fs))) (hrest : (st.map fun v => v.category).sum ≤ 8) (hC : Dt G kX0_isPassed [.ref r, a1, a2] mem (some (.int x)) mem2) (kk : E G kX0_wouldLift R 0 0 mem2 16 loc (.int x :: st)) : E G kX0_wouldLift R 0 0 mem 13 loc (a2 :: a1 :: .ref r :: st) := E_V2i (k := kX0_wouldLift) (k' := kX0_isPassed) dX0_wouldLift_13 rfl okX0_isPassed wiX0_isPassed wzX0_isPassed wl_X0_109 ⟨Nat.le_of_ble_eq_true rfl, Nat.le_of_ble_eq_true rfl⟩ ⟨rfl, rfl⟩ ⟨Nat.zero_le _, Nat.zero_le _⟩ hrest hm rfl hC kk
theorem cw_L_game_34 {a1 a2 a3 : Value} {x : Int32} {P : xM → Prop} (hcs : ce ≤ 6 ∧ sl ≤ 366) (hrest : (st.map fun v => v.category).sum ≤ 8) (hC : Pt G kL_progress [a1, a2, a3] mem (some (.int x)) P) (kk : ∀ m2 : xM, P m2 → E G kL_game R ce sl m2 37 loc (.int x :: st)) : E G kL_game R ce sl mem 34 loc (a3 :: a2 :: a1 :: st) := E_callS (k := kL_game) (k' := kL_progress) (n := 3) (As := [a1, a2, a3]) dL_game_34 rfl okL_progress wsL_progress wl_L_27 ⟨Nat.le_of_ble_eq_true rfl, Nat.le_of_ble_eq_true rfl⟩ hcs hrest rfl hC (fun v mem2 hv => by obtain ⟨rfl, hv2⟩ := hv; exact kk _ hv2)
theorem cs_L_game_34 {a1 a2 a3 : Value} {x : Int32} {mem2 : xM} (hrest : (st.map fun v => v.category).sum ≤ 8) (hcs : ce ≤ 6 ∧ sl ≤ 366) (hC : Dt G kL_progress [a1, a2, a3] mem (some (.int x)) mem2) (kk : E G kL_game R ce sl mem2 37 loc (.int x :: st)) : E G kL_game R ce sl mem 34 loc (a3 :: a2 :: a1 :: st) := E_S3i (k := kL_game) (k' := kL_progress) dL_game_34 rfl okL_progress wsL_progress wl_L_27 ⟨Nat.le_of_ble_eq_true rfl, Nat.le_of_ble_eq_true rfl⟩ ⟨rfl, rfl⟩ hcs hrest hC kk
theorem cw_L_game_42 {a1 a2 a3 : Value} {x : Int32} {P : xM → Prop} (hcs : ce ≤ 6 ∧ sl ≤ 366) (hrest : (st.map fun v => v.category).sum ≤ 8) (hC : Pt G kL_progress [a1, a2, a3] mem (some (.int x)) P) (kk : ∀ m2 : xM, P m2 → E G kL_game R ce sl m2 45 loc (.int x :: st)) : E G kL_game R ce sl mem 42 loc (a3 :: a2 :: a1 :: st) := E_callS (k := kL_game) (k' := kL_progress) (n := 3) (As := [a1, a2, a3]) dL_game_42 rfl okL_progress wsL_progress wl_L_27 ⟨Nat.le_of_ble_eq_true rfl, Nat.le_of_ble_eq_true rfl⟩ hcs hrest rfl hC (fun v mem2 hv => by obtain ⟨rfl, hv2⟩ := hv; exact kk _ hv2)
theorem cs_L_game_42 {a1 a2 a3 : Value} {x : Int32} {mem2 : xM} (hrest : (st.map fun v => v.category).sum ≤ 8) (hcs : ce ≤ 6 ∧ sl ≤ 366) (hC : Dt G kL_progress [a1, a2, a3] mem (some (.int x)) mem2) (kk : E G kL_game R ce sl mem2 45 loc (.int x :: st)) : E G kL_game R ce sl mem 42 loc (a3 :: a2 :: a1 :: st) := E_S3i (k := kL_game) (k' := kL_progress) dL_game_42 rfl okL_progress wsL_progress wl_L_27 ⟨Nat.le_of_ble_eq_true rfl, Nat.le_of_ble_eq_true rfl⟩ ⟨rfl, rfl⟩ hcs hrest hC kk
theorem cw_L_game_53 {a1 a2 a3 : Value} {x : Int32} {P : xM → Prop} (hcs : ce ≤ 6 ∧ sl ≤ 366) (hrest : (st.map fun v => v.category).sum ≤ 8) (hC : Pt G kL_progress [a1, a2, a3] mem (some (.int x)) P) (kk : ∀ m2 : xM, P m2 → E G kL_game R ce sl m2 56 loc (.int x :: st)) : E G kL_game R ce sl mem 53 loc (a3 :: a2 :: a1 :: st) := E_callS (k := kL_game) (k' := kL_progress) (n := 3) (As := [a1, a2, a3]) dL_game_53 rfl okL_progress wsL_progress wl_L_27 ⟨Nat.le_of_ble_eq_true rfl, Nat.le_of_ble_eq_true rfl⟩ hcs hrest rfl hC (fun v mem2 hv => by obtain ⟨rfl, hv2⟩ := hv; exact kk _ hv2)
theorem cs_L_game_53 {a1 a2 a3 : Value} {x : Int32} {mem2 : xM} (hrest : (st.map fun v => v.category).sum ≤ 8) (hcs : ce ≤ 6 ∧ sl ≤ 366) (hC : Dt G kL_progress [a1, a2, a3] mem (some (.int x)) mem2) (kk : E G kL_game R ce sl mem2 56 loc (.int x :: st)) : E G kL_game R ce sl mem 53 loc (a3 :: a2 :: a1 :: st) := E_S3i (k := kL_game) (k' := kL_progress) dL_game_53 rfl okL_progress wsL_progress wl_L_27 ⟨Nat.le_of_ble_eq_true rfl, Nat.le_of_ble_eq_true rfl⟩ ⟨rfl, rfl⟩ hcs hrest hC kk
theorem cw_L_game_61 {a1 a2 a3 : Value} {x : Int32} {P : xM → Prop} (hcs : ce ≤ 6 ∧ sl ≤ 366) (hrest : (st.map fun v => v.category).sum ≤ 8) (hC : Pt G kL_progress [a1, a2, a3] mem (some (.int x)) P) (kk : ∀ m2 : xM, P m2 → E G kL_game R ce sl m2 64 loc (.int x :: st)) : E G kL_game R ce sl mem 61 loc (a3 :: a2 :: a1 :: st) := E_callS (k := kL_game) (k' := kL_progress) (n := 3) (As := [a1, a2, a3]) dL_game_61 rfl okL_progress wsL_progress wl_L_27 ⟨Nat.le_of_ble_eq_true rfl, Nat.le_of_ble_eq_true rfl⟩ hcs hrest rfl hC (fun v mem2 hv => by obtain ⟨rfl, hv2⟩ := hv; exact kk _ hv2)
theorem cs_L_game_61 {a1 a2 a3 : Value} {x : Int32} {mem2 : xM} (hrest : (st.map fun v => v.category).sum ≤ 8) (hcs : ce ≤ 6 ∧ sl ≤ 366) (hC : Dt G kL_progress [a1, a2, a3] mem (some (.int x)) mem2) (kk : E G kL_game R ce sl mem2 64 loc (.int x :: st)) : E G kL_game R ce sl mem 61 loc (a3 :: a2 :: a1 :: st) := E_S3i (k := kL_game) (k' := kL_progress) dL_game_61 rfl okL_progress wsL_progress wl_L_27 ⟨Nat.le_of_ble_eq_true rfl, Nat.le_of_ble_eq_true rfl⟩ ⟨rfl, rfl⟩ hcs hrest hC kk
theorem cs_L_game_103 {a1 a2 : Value} {x : Int32} {mem2 : xM} (hm : mem[r]? = some (.inr (3, fs))) (hrest : (st.map fun v => v.category).sum ≤ 8) (hcs : ce ≤ 6 ∧ sl ≤ 366) (hC : Dt G kX3_climber [.ref r, a1, a2] mem (some (.int x)) mem2) (kk : E G kL_game R ce sl mem2 106 loc (.int x :: st)) : E G kL_game R ce sl mem 103 loc (a2 :: a1 :: .ref r :: st) := E_V2i (k := kL_game) (k' := kX3_climber) dL_game_103 rfl okX3_climber wiX3_climber wzX3_climber wl_L_48 ⟨Nat.le_of_ble_eq_true rfl, Nat.le_of_ble_eq_true rfl⟩ ⟨rfl, rfl⟩ hcs hrest hm rfl hC kk
theorem cs_L_game_132 {a1 a2 : Value} {x : Int32} {mem2 : xM} (hm : mem[r]? = some (.inr (3, fs))) (hrest : (st.map fun v => v.category).sum ≤ 8) (hcs : ce ≤ 6 ∧ sl ≤ 366) (hC : Dt G kX3_climber [.ref r, a1, a2] mem (some (.int x)) mem2) (kk : E G kL_game R ce sl mem2 135 loc (.int x :: st)) : E G kL_game R ce sl mem 132 loc (a2 :: a1 :: .ref r :: st) := E_V2i (k := kL_game) (k' := kX3_climber) dL_game_132 rfl okX3_climber wiX3_climber wzX3_climber wl_L_48 ⟨Nat.le_of_ble_eq_true rfl, Nat.le_of_ble_eq_true rfl⟩ ⟨rfl, rfl⟩ hcs hrest hm rfl hC kk
theorem cw_L_game_140 {a1 a2 a3 : Value} {x : Int32} {P : xM → Prop} (hcs : ce ≤ 6 ∧ sl ≤ 366) (hrest : (st.map fun v => v.category).sum ≤ 8) (hC : Pt G kL_progress [a1, a2, a3] mem (some (.int x)) P) (kk : ∀ m2 : xM, P m2 → E G kL_game R ce sl m2 143 loc (.int x :: st)) : E G kL_game R ce sl mem 140 loc (a3 :: a2 :: a1 :: st) := E_callS (k := kL_game) (k' := kL_progress) (n := 3) (As := [a1, a2, a3]) dL_game_140 rfl okL_progress wsL_progress wl_L_27 ⟨Nat.le_of_ble_eq_true rfl, Nat.le_of_ble_eq_true rfl⟩ hcs hrest rfl hC (fun v mem2 hv => by obtain ⟨rfl, hv2⟩ := hv; exact kk _ hv2)
theorem cs_L_game_140 {a1 a2 a3 : Value} {x : Int32} {mem2 : xM} (hrest : (st.map fun v => v.category).sum ≤ 8) (hcs : ce ≤ 6 ∧ sl ≤ 366) (hC : Dt G kL_progress [a1, a2, a3] mem (some (.int x)) mem2) (kk : E G kL_game R ce sl mem2 143 loc (.int x :: st)) : E G kL_game R ce sl mem 140 loc (a3 :: a2 :: a1 :: st) := E_S3i (k := kL_game) (k' := kL_progress) dL_game_140 rfl okL_progress wsL_progress wl_L_27 ⟨Nat.le_of_ble_eq_true rfl, Nat.le_of_ble_eq_true rfl⟩ ⟨rfl, rfl⟩ hcs hrest hC kk
theorem cs_L_game_149 {a1 : Value} {x : Int32} {mem2 : xM} (hm : mem[r]? = some (.inr (3, fs))) (hrest : (st.map fun v => v.category).sum ≤ 8) (hcs : ce ≤ 6 ∧ sl ≤ 366) (hC : Dt G kX3_rank [.ref r, a1] mem (some (.int x)) mem2) (kk : E G kL_game R ce sl mem2 152 loc (.int x :: st)) : E G kL_game R ce sl mem 149 loc (a1 :: .ref r :: st) := E_V1i (k := kL_game) (k' := kX3_rank) dL_game_149 rfl okX3_rank wiX3_rank wzX3_rank wl_L_51 ⟨Nat.le_of_ble_eq_true rfl, Nat.le_of_ble_eq_true rfl⟩ ⟨rfl, rfl⟩ hcs hrest hm rfl hC kk
theorem cs_L_game_160 {a1 : Value} {x : Int32} {mem2 : xM} (hm : mem[r]? = some (.inr (3, fs))) (hrest : (st.map fun v => v.category).sum ≤ 8) (hcs : ce ≤ 6 ∧ sl ≤ 366) (hC : Dt G kX3_rollsToTop [.ref r, a1] mem (some (.int x)) mem2) (kk : E G kL_game R ce sl mem2 163 loc (.int x :: st)) : E G kL_game R ce sl mem 160 loc (a1 :: .ref r :: st) := E_V1i (k := kL_game) (k' := kX3_rollsToTop) dL_game_160 rfl okX3_rollsToTop wiX3_rollsToTop wzX3_rollsToTop wl_L_55 ⟨Nat.le_of_ble_eq_true rfl, Nat.le_of_ble_eq_true rfl⟩ ⟨rfl, rfl⟩ hcs hrest hm rfl hC kk
theorem cw_L_game_173 {a1 a2 a3 : Value} {x : Int32} {P : xM → Prop} (hcs : (ce + 1) ≤ 6 ∧ (sl + 61) ≤ 366) (hrest : (st.map fun v => v.category).sum ≤ 8) (hC : Pt G kL_fewest [a1, a2, a3] mem (some (.int x)) P) (kk : ∀ m2 : xM, P m2 → E G kL_game R (ce + 1) (sl + 61) m2 176 loc (.int x :: st)) : E G kL_game R ce sl mem 173 loc (a3 :: a2 :: a1 :: st) := E_callS (k := kL_game) (k' := kL_fewest) (n := 3) (As := [a1, a2, a3]) dL_game_173 rfl okL_fewest wsL_fewest wl_L_58 ⟨Nat.le_of_ble_eq_true rfl, Nat.le_of_ble_eq_true rfl⟩ hcs hrest rfl hC (fun v mem2 hv => by obtain ⟨rfl, hv2⟩ := hv; exact kk _ hv2)
theorem cs_L_game_286 {a1 : Value} {x : Int32} {mem2 : xM} (hm : mem[r]? = some (.inr (3, fs))) (hrest : (st.map fun v => v.category).sum ≤ 8) (hcs : ce ≤ 6 ∧ sl ≤ 366) (hC : Dt G kX3_on [.ref r, a1] mem (some (.int x)) mem2) (kk : E G kL_game R ce sl mem2 289 loc (.int x :: st)) : E G kL_game R ce sl mem 286 loc (a1 :: .ref r :: st) := E_V1i (k := kL_game) (k' := kX3_on) dL_game_286 rfl okX3_on wiX3_on wzX3_on wl_L_61 ⟨Nat.le_of_ble_eq_true rfl, Nat.le_of_ble_eq_true rfl⟩ ⟨rfl, rfl⟩ hcs hrest hm rfl hC kk
theorem cs_L_game_298 {a1 a2 : Value} {x : Int32} {mem2 : xM} (hm : mem[r]? = some (.inr (3, fs))) (hrest : (st.map fun v => v.category).sum ≤ 8) (hcs : ce ≤ 6 ∧ sl ≤ 366) (hC : Dt G kX3_step [.ref r, a1, a2] mem (some (.int x)) mem2) (kk : E G kL_game R ce sl mem2 301 loc (.int x :: st)) : E G kL_game R ce sl mem 298 loc (a2 :: a1 :: .ref r :: st) := E_V2i (k := kL_game) (k' := kX3_step) dL_game_298 rfl okX3_step wiX3_step wzX3_step wl_L_64 ⟨Nat.le_of_ble_eq_true rfl, Nat.le_of_ble_eq_true rfl⟩ ⟨rfl, rfl⟩ hcs hrest hm rfl hC kk
theorem cs_L_game_312 {a1 a2 : Value} {x : Int32} {mem2 : xM} (hm : mem[r]? = some (.inr (3, fs))) (hrest : (st.map fun v => v.category).sum ≤ 8) (hcs : ce ≤ 6 ∧ sl ≤ 366) (hC : Dt G kX3_step [.ref r, a1, a2] mem (some (.int x)) mem2) (kk : E G kL_game R ce sl mem2 315 loc (.int x :: st)) : E G kL_game R ce sl mem 312 loc (a2 :: a1 :: .ref r :: st) := E_V2i (k := kL_game) (k' := kX3_step) dL_game_312 rfl okX3_step wiX3_step wzX3_step wl_L_64 ⟨Nat.le_of_ble_eq_true rfl, Nat.le_of_ble_eq_true rfl⟩ ⟨rfl, rfl⟩ hcs hrest hm rfl hC kk
theorem cs_L_game_338 {a1 a2 : Value} {x : Int32} {mem2 : xM} (hm : mem[r]? = some (.inr (3, fs))) (hrest : (st.map fun v => v.category).sum ≤ 8) (hcs : ce ≤ 6 ∧ sl ≤ 366) (hC : Dt G kX3_step [.ref r, a1, a2] mem (some (.int x)) mem2) (kk : E G kL_game R ce sl mem2 341 loc (.int x :: st)) : E G kL_game R ce sl mem 338 loc (a2 :: a1 :: .ref r :: st) := E_V2i (k := kL_game) (k' := kX3_step) dL_game_338 rfl okX3_step wiX3_step wzX3_step wl_L_64 ⟨Nat.le_of_ble_eq_true rfl, Nat.le_of_ble_eq_true rfl⟩ ⟨rfl, rfl⟩ hcs hrest hm rfl hC kk
theorem cs_L_game_355 {x : Int32} {mem2 : xM} (hm : mem[r]? = some (.inr (3, fs))) (hrest : (st.map fun v => v.category).sum ≤ 8) (hcs : ce ≤ 6 ∧ sl ≤ 366) (hC : Dt G kX3_turn [.ref r] mem (some (.int x)) mem2) (kk : E G kL_game R ce sl mem2 358 loc (.int x :: st)) : E G kL_game R ce sl mem 355 loc (.ref r :: st) := E_V0i (k := kL_game) (k' := kX3_turn) dL_game_355 rfl okX3_turn wiX3_turn wzX3_turn wl_L_67 ⟨Nat.le_of_ble_eq_true rfl, Nat.le_of_ble_eq_true rfl⟩ ⟨rfl, rfl⟩ hcs hrest hm rfl hC kk
theorem cs_L_game_382 {a1 : Value} {x : Int32} {mem2 : xM} (hm : mem[r]? = some (.inr (3, fs))) (hrest : (st.map fun v => v.category).sum ≤ 8) (hcs : ce ≤ 6 ∧ sl ≤ 366) (hC : Dt G kX3_rank [.ref r, a1] mem (some (.int x)) mem2) (kk : E G kL_game R ce sl mem2 385 loc (.int x :: st)) : E G kL_game R ce sl mem 382 loc (a1 :: .ref r :: st) := E_V1i (k := kL_game) (k' := kX3_rank) dL_game_382 rfl okX3_rank wiX3_rank wzX3_rank wl_L_51 ⟨Nat.le_of_ble_eq_true rfl, Nat.le_of_ble_eq_true rfl⟩ ⟨rfl, rfl⟩ hcs hrest hm rfl hC kk
theorem cs_L_game_392 {a1 : Value} {x : Int32} {mem2 : xM} (hm : mem[r]? = some (.inr (3, fs))) (hrest : (st.map fun v => v.category).sum ≤ 8) (hcs : ce ≤ 6 ∧ sl ≤ 366) (hC : Dt G kX3_total [.ref r, a1] mem (some (.int x)) mem2) (kk : E G kL_game R ce sl mem2 395 loc (.int x :: st)) : E G kL_game R ce sl mem 392 loc (a1 :: .ref r :: st) := E_V1i (k := kL_game) (k' := kX3_total) dL_game_392 rfl okX3_total wiX3_total wzX3_total wl_L_70 ⟨Nat.le_of_ble_eq_true rfl, Nat.le_of_ble_eq_true rfl⟩ ⟨rfl, rfl⟩ hcs hrest hm rfl hC kk
theorem cs_L_game_404 {a1 : Value} {x : Int32} {mem2 : xM} (hm : mem[r]? = some (.inr (3, fs))) (hrest : (st.map fun v => v.category).sum ≤ 8) (hcs : ce ≤ 6 ∧ sl ≤ 366) (hC : Dt G kX3_total [.ref r, a1] mem (some (.int x)) mem2) (kk : E G kL_game R ce sl mem2 407 loc (.int x :: st)) : E G kL_game R ce sl mem 404 loc (a1 :: .ref r :: st) := E_V1i (k := kL_game) (k' := kX3_total) dL_game_404 rfl okX3_total wiX3_total wzX3_total wl_L_70 ⟨Nat.le_of_ble_eq_true rfl, Nat.le_of_ble_eq_true rfl⟩ ⟨rfl, rfl⟩ hcs hrest hm rfl hC kk
theorem cs_L_game_416 {a1 : Value} {x : Int32} {mem2 : xM} (hm : mem[r]? = some (.inr (3, fs))) (hrest : (st.map fun v => v.category).sum ≤ 8) (hcs : ce ≤ 6 ∧ sl ≤ 366) (hC : Dt G kX3_total [.ref r, a1] mem (some (.int x)) mem2) (kk : E G kL_game R ce sl mem2 419 loc (.int x :: st)) : E G kL_game R ce sl mem 416 loc (a1 :: .ref r :: st) := E_V1i (k := kL_game) (k' := kX3_total) dL_game_416 rfl okX3_total wiX3_total wzX3_total wl_L_70 ⟨Nat.le_of_ble_eq_true rfl, Nat.le_of_ble_eq_true rfl⟩ ⟨rfl, rfl⟩ hcs hrest hm rfl hC kk
theorem cs_L_game_426 {a1 : Value} {x : Int32} {mem2 : xM} (hm : mem[r]? = some (.inr (3, fs))) (hrest : (st.map fun v => v.category).sum ≤ 8) (hcs : ce ≤ 6 ∧ sl ≤ 366) (hC : Dt G kX3_total [.ref r, a1] mem (some (.int x)) mem2) (kk : E G kL_game R ce sl mem2 429 loc (.int x :: st)) : E G kL_game R ce sl mem 426 loc (a1 :: .ref r :: st) := E_V1i (k := kL_game) (k' := kX3_total) dL_game_426 rfl okX3_total wiX3_total wzX3_total wl_L_70 ⟨Nat.le_of_ble_eq_true rfl, Nat.le_of_ble_eq_true rfl⟩ ⟨rfl, rfl⟩ hcs hrest hm rfl hC kk
theorem cw_L_game_430 {a1 : Value} {x : Int32} {P : xM → Prop} (hcs : ce ≤ 6 ∧ sl ≤ 366) (hrest : (st.map fun v => v.category).sum ≤ 8) (hC : Pt G kL_sum [a1] mem (some (.int x)) P) (kk : ∀ m2 : xM, P m2 → E G kL_game R ce sl m2 433 loc (.int x :: st)) : E G kL_game R ce sl mem 430 loc (a1 :: st) := E_callS (k := kL_game) (k' := kL_sum) (n := 1) (As := [a1]) dL_game_430 rfl okL_sum wsL_sum wl_L_73 ⟨Nat.le_of_ble_eq_true rfl, Nat.le_of_ble_eq_true rfl⟩ hcs hrest rfl hC (fun v mem2 hv => by obtain ⟨rfl, hv2⟩ := hv; exact kk _ hv2)
theorem cs_L_game_430 {a1 : Value} {x : Int32} {mem2 : xM} (hrest : (st.map fun v => v.category).sum ≤ 8) (hcs : ce ≤ 6 ∧ sl ≤ 366) (hC : Dt G kL_sum [a1] mem (some (.int x)) mem2) (kk : E G kL_game R ce sl mem2 433 loc (.int x :: st)) : E G kL_game R ce sl mem 430 loc (a1 :: st) := E_S1i (k := kL_game) (k' := kL_sum) dL_game_430 rfl okL_sum wsL_sum wl_L_73 ⟨Nat.le_of_ble_eq_true rfl, Nat.le_of_ble_eq_true rfl⟩ ⟨rfl, rfl⟩ hcs hrest hC kk
theorem cs_L_game_438 {a1 : Value} {x : Int32} {mem2 : xM} (hm : mem[r]? = some (.inr (3, fs))) (hrest : (st.map fun v => v.category).sum ≤ 8) (hcs : ce ≤ 6 ∧ sl ≤ 366) (hC : Dt G kX3_total [.ref r, a1] mem (some (.int x)) mem2) (kk : E G kL_game R ce sl mem2 441 loc (.int x :: st)) : E G kL_game R ce sl mem 438 loc (a1 :: .ref r :: st) := E_V1i (k := kL_game) (k' := kX3_total) dL_game_438 rfl okX3_total wiX3_total wzX3_total wl_L_70 ⟨Nat.le_of_ble_eq_true rfl, Nat.le_of_ble_eq_true rfl⟩ ⟨rfl, rfl⟩ hcs hrest hm rfl hC kk
theorem cs_L_game_450 {a1 : Value} {x : Int32} {mem2 : xM} (hm : mem[r]? = some (.inr (3, fs))) (hrest : (st.map fun v => v.category).sum ≤ 8) (hcs : ce ≤ 6 ∧ sl ≤ 366) (hC : Dt G kX3_total [.ref r, a1] mem (some (.int x)) mem2) (kk : E G kL_game R ce sl mem2 453 loc (.int x :: st)) : E G kL_game R ce sl mem 450 loc (a1 :: .ref r :: st) := E_V1i (k := kL_game) (k' := kX3_total) dL_game_450 rfl okX3_total wiX3_total wzX3_total wl_L_70 ⟨Nat.le_of_ble_eq_true rfl, Nat.le_of_ble_eq_true rfl⟩ ⟨rfl, rfl⟩ hcs hrest hm rfl hC kk
theorem cs_L_game_463 {a1 : Value} {x : Int32} {mem2 : xM} (hm : mem[r]? = some (.inr (3, fs))) (hrest : (st.map fun v => v.category).sum ≤ 8) (hcs : ce ≤ 6 ∧ sl ≤ 366) (hC : Dt G kX3_total [.ref r, a1] mem (some (.int x)) mem2) (kk : E G kL_game R ce sl mem2 466 loc (.int x :: st)) : E G kL_game R ce sl mem 463 loc (a1 :: .ref r :: st) := E_V1i (k := kL_game) (k' := kX3_total) dL_game_463 rfl okX3_total wiX3_total wzX3_total wl_L_70 ⟨Nat.le_of_ble_eq_true rfl, Nat.le_of_ble_eq_true rfl⟩ ⟨rfl, rfl⟩ hcs hrest hm rfl hC kk
theorem cs_L_game_476 {a1 : Value} {x : Int32} {mem2 : xM} (hm : mem[r]? = some (.inr (3, fs))) (hrest : (st.map fun v => v.category).sum ≤ 8) (hcs : ce ≤ 6 ∧ sl ≤ 366) (hC : Dt G kX3_total [.ref r, a1] mem (some (.int x)) mem2) (kk : E G kL_game R ce sl mem2 479 loc (.int x :: st)) : E G kL_game R ce sl mem 476 loc (a1 :: .ref r :: st) := E_V1i (k := kL_game) (k' := kX3_total) dL_game_476 rfl okX3_total wiX3_total wzX3_total wl_L_70 ⟨Nat.le_of_ble_eq_true rfl, Nat.le_of_ble_eq_true rfl⟩ ⟨rfl, rfl⟩ hcs hrest hm rfl hC kk
theorem cw_L_game_482 {a1 a2 : Value} {x : Int32} {P : xM → Prop} (hcs : ce ≤ 6 ∧ sl ≤ 366) (hrest : (st.map fun v => v.category).sum ≤ 8) (hC : Pt G kL_tops [a1, a2] mem (some (.int x)) P) (kk : ∀ m2 : xM, P m2 → E G kL_game R ce sl m2 485 loc (.int x :: st)) : E G kL_game R ce sl mem 482 loc (a2 :: a1 :: st) := E_callS (k := kL_game) (k' := kL_tops) (n := 2) (As := [a1, a2]) dL_game_482 rfl okL_tops wsL_tops wl_L_37 ⟨Nat.le_of_ble_eq_true rfl, Nat.le_of_ble_eq_true rfl⟩ hcs hrest rfl hC (fun v mem2 hv => by obtain ⟨rfl, hv2⟩ := hv; exact kk _ hv2)
theorem cs_L_game_482 {a1 a2 : Value} {x : Int32} {mem2 : xM} (hrest : (st.map fun v => v.category).sum ≤ 8) (hcs : ce ≤ 6 ∧ sl ≤ 366) (hC : Dt G kL_tops [a1, a2] mem (some (.int x)) mem2) (kk : E G kL_game R ce sl mem2 485 loc (.int x :: st)) : E G kL_game R ce sl mem 482 loc (a2 :: a1 :: st) := E_S2i (k := kL_game) (k' := kL_tops) dL_game_482 rfl okL_tops wsL_tops wl_L_37 ⟨Nat.le_of_ble_eq_true rfl, Nat.le_of_ble_eq_true rfl⟩ ⟨rfl, rfl⟩ hcs hrest hC kk
theorem cs_L_game_491 {a1 : Value} {x : Int32} {mem2 : xM} (hm : mem[r]? = some (.inr (3, fs))) (hrest : (st.map fun v => v.category).sum ≤ 8) (hcs : ce ≤ 6 ∧ sl ≤ 366) (hC : Dt G kX3_total [.ref r, a1] mem (some (.int x)) mem2) (kk : E G kL_game R ce sl mem2 494 loc (.int x :: st)) : E G kL_game R ce sl mem 491 loc (a1 :: .ref r :: st) := E_V1i (k := kL_game) (k' := kX3_total) dL_game_491 rfl okX3_total wiX3_total wzX3_total wl_L_70 ⟨Nat.le_of_ble_eq_true rfl, Nat.le_of_ble_eq_true rfl⟩ ⟨rfl, rfl⟩ hcs hrest hm rfl hC kk
theorem cs_L_game_508 {a1 a2 : Value} {x : Int32} {mem2 : xM} (hm : mem[r]? = some (.inr (3, fs))) (hrest : (st.map fun v => v.category).sum ≤ 8) (hcs : ce ≤ 6 ∧ sl ≤ 366) (hC : Dt G kX3_step [.ref r, a1, a2] mem (some (.int x)) mem2) (kk : E G kL_game R ce sl mem2 511 loc (.int x :: st)) : E G kL_game R ce sl mem 508 loc (a2 :: a1 :: .ref r :: st) := E_V2i (k := kL_game) (k' := kX3_step) dL_game_508 rfl okX3_step wiX3_step wzX3_step wl_L_64 ⟨Nat.le_of_ble_eq_true rfl, Nat.le_of_ble_eq_true rfl⟩ ⟨rfl, rfl⟩ hcs hrest hm rfl hC kk
theorem cs_L_game_519 {a1 : Value} {x : Int32} {mem2 : xM} (hm : mem[r]? = some (.inr (3, fs))) (hrest : (st.map fun v => v.category).sum ≤ 8) (hcs : ce ≤ 6 ∧ sl ≤ 366) (hC : Dt G kX3_on [.ref r, a1] mem (some (.int x)) mem2) (kk : E G kL_game R ce sl mem2 522 loc (.int x :: st)) : E G kL_game R ce sl mem 519 loc (a1 :: .ref r :: st) := E_V1i (k := kL_game) (k' := kX3_on) dL_game_519 rfl okX3_on wiX3_on wzX3_on wl_L_61 ⟨Nat.le_of_ble_eq_true rfl, Nat.le_of_ble_eq_true rfl⟩ ⟨rfl, rfl⟩ hcs hrest hm rfl hC kk
theorem cs_X3_climber_6 {a1 a2 : Value} {x : Int32} {mem2 : xM} (hm : mem[r]? = some (.inr (0, fs))) (hrest : (st.map fun v => v.category).sum ≤ 8) (hC : Dt G kX0_partOfClimber [.ref r, a1, a2] mem (some (.int x)) mem2) (kk : E G kX3_climber R 0 0 mem2 9 loc (.int x :: st)) : E G kX3_climber R 0 0 mem 6 loc (a2 :: a1 :: .ref r :: st) := E_V2i (k := kX3_climber) (k' := kX0_partOfClimber) dX3_climber_6 rfl okX0_partOfClimber wiX0_partOfClimber wzX0_partOfClimber wl_X3_77 ⟨Nat.le_of_ble_eq_true rfl, Nat.le_of_ble_eq_true rfl⟩ ⟨rfl, rfl⟩ ⟨Nat.zero_le _, Nat.zero_le _⟩ hrest hm rfl hC kk
theorem cs_X0_partOfClimber_2 {a1 : Value} {x : Int32} {mem2 : xM} (hm : mem[r]? = some (.inr (0, fs))) (hrest : (st.map fun v => v.category).sum ≤ 8) (hC : Dt G kX0_isClimber [.ref r, a1] mem (some (.int x)) mem2) (kk : E G kX0_partOfClimber R 0 0 mem2 5 loc (.int x :: st)) : E G kX0_partOfClimber R 0 0 mem 2 loc (a1 :: .ref r :: st) := E_V1i (k := kX0_partOfClimber) (k' := kX0_isClimber) dX0_partOfClimber_2 rfl okX0_isClimber wiX0_isClimber wzX0_isClimber wl_X0_59 ⟨Nat.le_of_ble_eq_true rfl, Nat.le_of_ble_eq_true rfl⟩ ⟨rfl, rfl⟩ ⟨Nat.zero_le _, Nat.zero_le _⟩ hrest hm rfl hC kk
theorem cs_X0_partOfClimber_96 {a1 : Value} {x : Int32} {mem2 : xM} (hm : mem[r]? = some (.inr (0, fs))) (hrest : (st.map fun v => v.category).sum ≤ 8) (hC : Dt G kX0_progressOf [.ref r, a1] mem (some (.int x)) mem2) (kk : E G kX0_partOfClimber R 0 0 mem2 99 loc (.int x :: st)) : E G kX0_partOfClimber R 0 0 mem 96 loc (a1 :: .ref r :: st) := E_V1i (k := kX0_partOfClimber) (k' := kX0_progressOf) dX0_partOfClimber_96 rfl okX0_progressOf wiX0_progressOf wzX0_progressOf wl_X0_116 ⟨Nat.le_of_ble_eq_true rfl, Nat.le_of_ble_eq_true rfl⟩ ⟨rfl, rfl⟩ ⟨Nat.zero_le _, Nat.zero_le _⟩ hrest hm rfl hC kk
theorem cs_X3_rank_14 {a1 : Value} {x : Int32} {mem2 : xM} (hm : mem[r]? = some (.inr (0, fs))) (hrest : (st.map fun v => v.category).sum ≤ 8) (hC : Dt G kX0_climberAtPlace [.ref r, a1] mem (some (.int x)) mem2) (kk : E G kX3_rank R 0 0 mem2 17 loc (.int x :: st)) : E G kX3_rank R 0 0 mem 14 loc (a1 :: .ref r :: st) := E_V1i (k := kX3_rank) (k' := kX0_climberAtPlace) dX3_rank_14 rfl okX0_climberAtPlace wiX0_climberAtPlace wzX0_climberAtPlace wl_X3_101 ⟨Nat.le_of_ble_eq_true rfl, Nat.le_of_ble_eq_true rfl⟩ ⟨rfl, rfl⟩ ⟨Nat.zero_le _, Nat.zero_le _⟩ hrest hm rfl hC kk
theorem cs_X0_climberAtPlace_12 {a1 : Value} {x : Int32} {mem2 : xM} (hm : mem[r]? = some (.inr (0, fs))) (hrest : (st.map fun v => v.category).sum ≤ 8) (hC : Dt G kX0_climbersAheadOf [.ref r, a1] mem (some (.int x)) mem2) (kk : E G kX0_climberAtPlace R 0 0 mem2 15 loc (.int x :: st)) : E G kX0_climberAtPlace R 0 0 mem 12 loc (a1 :: .ref r :: st) := E_V1i (k := kX0_climberAtPlace) (k' := kX0_climbersAheadOf) dX0_climberAtPlace_12 rfl okX0_climbersAheadOf wiX0_climbersAheadOf wzX0_climbersAheadOf wl_X0_132 ⟨Nat.le_of_ble_eq_true rfl, Nat.le_of_ble_eq_true rfl⟩ ⟨rfl, rfl⟩ ⟨Nat.zero_le _, Nat.zero_le _⟩ hrest hm rfl hC kk
theorem cs_X0_climbersAheadOf_4 {a1 : Value} {x : Int32} {mem2 : xM} (hm : mem[r]? = some (.inr (0, fs))) (hrest : (st.map fun v => v.category).sum ≤ 8) (hC : Dt G kX0_progressOf [.ref r, a1] mem (some (.int x)) mem2) (kk : E G kX0_climbersAheadOf R 0 0 mem2 7 loc (.int x :: st)) : E G kX0_climbersAheadOf R 0 0 mem 4 loc (a1 :: .ref r :: st) := E_V1i (k := kX0_climbersAheadOf) (k' := kX0_progressOf) dX0_climbersAheadOf_4 rfl okX0_progressOf wiX0_progressOf wzX0_progressOf wl_X0_116 ⟨Nat.le_of_ble_eq_true rfl, Nat.le_of_ble_eq_true rfl⟩ ⟨rfl, rfl⟩ ⟨Nat.zero_le _, Nat.zero_le _⟩ hrest hm rfl hC kk
theorem cs_X0_climbersAheadOf_23 {a1 : Value} {x : Int32} {mem2 : xM} (hm : mem[r]? = some (.inr (0, fs))) (hrest : (st.map fun v => v.category).sum ≤ 8) (hC : Dt G kX0_progressOf [.ref r, a1] mem (some (.int x)) mem2) (kk : E G kX0_climbersAheadOf R 0 0 mem2 26 loc (.int x :: st)) : E G kX0_climbersAheadOf R 0 0 mem 23 loc (a1 :: .ref r :: st) := E_V1i (k := kX0_climbersAheadOf) (k' := kX0_progressOf) dX0_climbersAheadOf_23 rfl okX0_progressOf wiX0_progressOf wzX0_progressOf wl_X0_116 ⟨Nat.le_of_ble_eq_true rfl, Nat.le_of_ble_eq_true rfl⟩ ⟨rfl, rfl⟩ ⟨Nat.zero_le _, Nat.zero_le _⟩ hrest hm rfl hC kk
theorem cs_X3_rollsToTop_5 {a1 : Value} {x : Int32} {mem2 : xM} (hm : mem[r]? = some (.inr (0, fs))) (hrest : (st.map fun v => v.category).sum ≤ 8) (hC : Dt G kX0_isClimber [.ref r, a1] mem (some (.int x)) mem2) (kk : E G kX3_rollsToTop R 0 0 mem2 8 loc (.int x :: st)) : E G kX3_rollsToTop R 0 0 mem 5 loc (a1 :: .ref r :: st) := E_V1i (k := kX3_rollsToTop) (k' := kX0_isClimber) dX3_rollsToTop_5 rfl okX0_isClimber wiX0_isClimber wzX0_isClimber wl_X3_125 ⟨Nat.le_of_ble_eq_true rfl, Nat.le_of_ble_eq_true rfl⟩ ⟨rfl, rfl⟩ ⟨Nat.zero_le _, Nat.zero_le _⟩ hrest hm rfl hC kk
theorem cs_X3_rollsToTop_16 {a1 : Value} {x : Int32} {mem2 : xM} (hm : mem[r]? = some (.inr (0, fs))) (hrest : (st.map fun v => v.category).sum ≤ 8) (hC : Dt G kX0_fewestRollsOf [.ref r, a1] mem (some (.int x)) mem2) (kk : E G kX3_rollsToTop R 0 0 mem2 19 loc (.int x :: st)) : E G kX3_rollsToTop R 0 0 mem 16 loc (a1 :: .ref r :: st) := E_V1i (k := kX3_rollsToTop) (k' := kX0_fewestRollsOf) dX3_rollsToTop_16 rfl okX0_fewestRollsOf wiX0_fewestRollsOf wzX0_fewestRollsOf wl_X3_128 ⟨Nat.le_of_ble_eq_true rfl, Nat.le_of_ble_eq_true rfl⟩ ⟨rfl, rfl⟩ ⟨Nat.zero_le _, Nat.zero_le _⟩ hrest hm rfl hC kk
theorem cs_X0_fewestRollsOf_40 {a1 : Value} {x : Int64} {mem2 : xM} (hm : mem[r]? = some (.inr (0, fs))) (hrest : (st.map fun v => v.category).sum ≤ 8) (hC : Dt G kX0_reachedWithOneMore [.ref r, a1] mem (some (.long x)) mem2) (kk : E G kX0_fewestRollsOf R 0 0 mem2 43 loc (.long x :: st)) : E G kX0_fewestRollsOf R 0 0 mem 40 loc (a1 :: .ref r :: st) := E_V1l (k := kX0_fewestRollsOf) (k' := kX0_reachedWithOneMore) dX0_fewestRollsOf_40 rfl okX0_reachedWithOneMore wiX0_reachedWithOneMore wzX0_reachedWithOneMore wl_X0_135 ⟨Nat.le_of_ble_eq_true rfl, Nat.le_of_ble_eq_true rfl⟩ ⟨rfl, rfl⟩ ⟨Nat.zero_le _, Nat.zero_le _⟩ hrest hm rfl hC kk
theorem cs_X0_reachedWithOneMore_29 {a1 : Value} {x : Int64} {mem2 : xM} (hm : mem[r]? = some (.inr (0, fs))) (hrest : (st.map fun v => v.category).sum ≤ 8) (hC : Dt G kX0_reachedFrom [.ref r, a1] mem (some (.long x)) mem2) (kk : E G kX0_reachedWithOneMore R 0 0 mem2 32 loc (.long x :: st)) : E G kX0_reachedWithOneMore R 0 0 mem 29 loc (a1 :: .ref r :: st) := E_V1l (k := kX0_reachedWithOneMore) (k' := kX0_reachedFrom) dX0_reachedWithOneMore_29 rfl okX0_reachedFrom wiX0_reachedFrom wzX0_reachedFrom wl_X0_139 ⟨Nat.le_of_ble_eq_true rfl, Nat.le_of_ble_eq_true rfl⟩ ⟨rfl, rfl⟩ ⟨Nat.zero_le _, Nat.zero_le _⟩ hrest hm rfl hC kk
theorem cs_X0_reachedFrom_30 {a1 : Value} {x : Int32} {mem2 : xM} (hm : mem[r]? = some (.inr (0, fs))) (hrest : (st.map fun v => v.category).sum ≤ 8) (hC : Dt G kX0_isUpperEnd [.ref r, a1] mem (some (.int x)) mem2) (kk : E G kX0_reachedFrom R 0 0 mem2 33 loc (.int x :: st)) : E G kX0_reachedFrom R 0 0 mem 30 loc (a1 :: .ref r :: st) := E_V1i (k := kX0_reachedFrom) (k' := kX0_isUpperEnd) dX0_reachedFrom_30 rfl okX0_isUpperEnd wiX0_isUpperEnd wzX0_isUpperEnd wl_X0_63 ⟨Nat.le_of_ble_eq_true rfl, Nat.le_of_ble_eq_true rfl⟩ ⟨rfl, rfl⟩ ⟨Nat.zero_le _, Nat.zero_le _⟩ hrest hm rfl hC kk
theorem cs_X3_on_5 {a1 : Value} {x : Int32} {mem2 : xM} (hm : mem[r]? = some (.inr (0, fs))) (hrest : (st.map fun v => v.category).sum ≤ 8) (hC : Dt G kX0_isBelowTop [.ref r, a1] mem (some (.int x)) mem2) (kk : E G kX3_on R 0 0 mem2 8 loc (.int x :: st)) : E G kX3_on R 0 0 mem 5 loc (a1 :: .ref r :: st) := E_V1i (k := kX3_on) (k' := kX0_isBelowTop) dX3_on_5 rfl okX0_isBelowTop wiX0_isBelowTop wzX0_isBelowTop wl_X3_88 ⟨Nat.le_of_ble_eq_true rfl, Nat.le_of_ble_eq_true rfl⟩ ⟨rfl, rfl⟩ ⟨Nat.zero_le _, Nat.zero_le _⟩ hrest hm rfl hC kk
theorem cs_X3_on_16 {a1 : Value} {x : Int32} {mem2 : xM} (hm : mem[r]? = some (.inr (0, fs))) (hrest : (st.map fun v => v.category).sum ≤ 8) (hC : Dt G kX0_climbersOn [.ref r, a1] mem (some (.int x)) mem2) (kk : E G kX3_on R 0 0 mem2 19 loc (.int x :: st)) : E G kX3_on R 0 0 mem 16 loc (a1 :: .ref r :: st) := E_V1i (k := kX3_on) (k' := kX0_climbersOn) dX3_on_16 rfl okX0_climbersOn wiX0_climbersOn wzX0_climbersOn wl_X3_92 ⟨Nat.le_of_ble_eq_true rfl, Nat.le_of_ble_eq_true rfl⟩ ⟨rfl, rfl⟩ ⟨Nat.zero_le _, Nat.zero_le _⟩ hrest hm rfl hC kk
theorem cs_X3_step_6 {a1 a2 : Value} {x : Int32} {mem2 : xM} (hm : mem[r]? = some (.inr (0, fs))) (hrest : (st.map fun v => v.category).sum ≤ 8) (hC : Dt G kX0_partOfStep [.ref r, a1, a2] mem (some (.int x)) mem2) (kk : E G kX3_step R 0 0 mem2 9 loc (.int x :: st)) : E G kX3_step R 0 0 mem 6 loc (a2 :: a1 :: .ref r :: st) := E_V2i (k := kX3_step) (k' := kX0_partOfStep) dX3_step_6 rfl okX0_partOfStep wiX0_partOfStep wzX0_partOfStep wl_X3_95 ⟨Nat.le_of_ble_eq_true rfl, Nat.le_of_ble_eq_true rfl⟩ ⟨rfl, rfl⟩ ⟨Nat.zero_le _, Nat.zero_le _⟩ hrest hm rfl hC kk
theorem cs_X0_partOfStep_10 {a1 : Value} {x : Int32} {mem2 : xM} (hm : mem[r]? = some (.inr (0, fs))) (hrest : (st.map fun v => v.category).sum ≤ 8) (hC : Dt G kX0_isBelowTop [.ref r, a1] mem (some (.int x)) mem2) (kk : E G kX0_partOfStep R 0 0 mem2 13 loc (.int x :: st)) : E G kX0_partOfStep R 0 0 mem 10 loc (a1 :: .ref r :: st) := E_V1i (k := kX0_partOfStep) (k' := kX0_isBelowTop) dX0_partOfStep_10 rfl okX0_isBelowTop wiX0_isBelowTop wzX0_isBelowTop wl_X0_70 ⟨Nat.le_of_ble_eq_true rfl, Nat.le_of_ble_eq_true rfl⟩ ⟨rfl, rfl⟩ ⟨Nat.zero_le _, Nat.zero_le _⟩ hrest hm rfl hC kk
theorem cs_X0_partOfStep_46 {a1 : Value} {x : Int32} {mem2 : xM} (hm : mem[r]? = some (.inr (0, fs))) (hrest : (st.map fun v => v.category).sum ≤ 8) (hC : Dt G kX0_isLanding [.ref r, a1] mem (some (.int x)) mem2) (kk : E G kX0_partOfStep R 0 0 mem2 49 loc (.int x :: st)) : E G kX0_partOfStep R 0 0 mem 46 loc (a1 :: .ref r :: st) := E_V1i (k := kX0_partOfStep) (k' := kX0_isLanding) dX0_partOfStep_46 rfl okX0_isLanding wiX0_isLanding wzX0_isLanding wl_X0_83 ⟨Nat.le_of_ble_eq_true rfl, Nat.le_of_ble_eq_true rfl⟩ ⟨rfl, rfl⟩ ⟨Nat.zero_le _, Nat.zero_le _⟩ hrest hm rfl hC kk
theorem cs_X0_partOfStep_60 {a1 : Value} {x : Int32} {mem2 : xM} (hm : mem[r]? = some (.inr (0, fs))) (hrest : (st.map fun v => v.category).sum ≤ 8) (hC : Dt G kX0_isUpperEnd [.ref r, a1] mem (some (.int x)) mem2) (kk : E G kX0_partOfStep R 0 0 mem2 63 loc (.int x :: st)) : E G kX0_partOfStep R 0 0 mem 60 loc (a1 :: .ref r :: st) := E_V1i (k := kX0_partOfStep) (k' := kX0_isUpperEnd) dX0_partOfStep_60 rfl okX0_isUpperEnd wiX0_isUpperEnd wzX0_isUpperEnd wl_X0_63 ⟨Nat.le_of_ble_eq_true rfl, Nat.le_of_ble_eq_true rfl⟩ ⟨rfl, rfl⟩ ⟨Nat.zero_le _, Nat.zero_le _⟩ hrest hm rfl hC kk
theorem cs_X0_partOfStep_80 {a1 : Value} {x : Int32} {mem2 : xM} (hm : mem[r]? = some (.inr (0, fs))) (hrest : (st.map fun v => v.category).sum ≤ 8) (hC : Dt G kX0_lowerEndsAt [.ref r, a1] mem (some (.int x)) mem2) (kk : E G kX0_partOfStep R 0 0 mem2 83 loc (.int x :: st)) : E G kX0_partOfStep R 0 0 mem 80 loc (a1 :: .ref r :: st) := E_V1i (k := kX0_partOfStep) (k' := kX0_lowerEndsAt) dX0_partOfStep_80 rfl okX0_lowerEndsAt wiX0_lowerEndsAt wzX0_lowerEndsAt wl_X0_73 ⟨Nat.le_of_ble_eq_true rfl, Nat.le_of_ble_eq_true rfl⟩ ⟨rfl, rfl⟩ ⟨Nat.zero_le _, Nat.zero_le _⟩ hrest hm rfl hC kk
theorem cs_X3_turn_4 {x : Int32} {mem2 : xM} (hm : mem[r]? = some (.inr (0, fs))) (hrest : (st.map fun v => v.category).sum ≤ 8) (hC : Dt G kX0_hasMover [.ref r] mem (some (.int x)) mem2) (kk : E G kX3_turn R 0 0 mem2 7 loc (.int x :: st)) : E G kX3_turn R 0 0 mem 4 loc (.ref r :: st) := E_V0i (k := kX3_turn) (k' := kX0_hasMover) dX3_turn_4 rfl okX0_hasMover wiX0_hasMover wzX0_hasMover wl_X3_80 ⟨Nat.le_of_ble_eq_true rfl, Nat.le_of_ble_eq_true rfl⟩ ⟨rfl, rfl⟩ ⟨Nat.zero_le _, Nat.zero_le _⟩ hrest hm rfl hC kk
theorem cs_X3_total_5 {a1 : Value} {x : Int32} {mem2 : xM} (hm : mem[r]? = some (.inr (0, fs))) (hrest : (st.map fun v => v.category).sum ≤ 8) (hC : Dt G kX0_totalOf [.ref r, a1] mem (some (.int x)) mem2) (kk : E G kX3_total R 0 0 mem2 8 loc (.int x :: st)) : E G kX3_total R 0 0 mem 5 loc (a1 :: .ref r :: st) := E_V1i (k := kX3_total) (k' := kX0_totalOf) dX3_total_5 rfl okX0_totalOf wiX0_totalOf wzX0_totalOf wl_X3_98 ⟨Nat.le_of_ble_eq_true rfl, Nat.le_of_ble_eq_true rfl⟩ ⟨rfl, rfl⟩ ⟨Nat.zero_le _, Nat.zero_le _⟩ hrest hm rfl hC kk
theorem cs_X0_totalOf_63 {x : Int32} {mem2 : xM} (hm : mem[r]? = some (.inr (0, fs))) (hrest : (st.map fun v => v.category).sum ≤ 8) (hC : Dt G kX0_countCarpets [.ref r] mem (some (.int x)) mem2) (kk : E G kX0_totalOf R 0 0 mem2 66 loc (.int x :: st)) : E G kX0_totalOf R 0 0 mem 63 loc (.ref r :: st) := E_V0i (k := kX0_totalOf) (k' := kX0_countCarpets) dX0_totalOf_63 rfl okX0_countCarpets wiX0_countCarpets wzX0_countCarpets wl_X0_76 ⟨Nat.le_of_ble_eq_true rfl, Nat.le_of_ble_eq_true rfl⟩ ⟨rfl, rfl⟩ ⟨Nat.zero_le _, Nat.zero_le _⟩ hrest hm rfl hC kk
theorem cs_X0_totalOf_68 {x : Int32} {mem2 : xM} (hm : mem[r]? = some (.inr (0, fs))) (hrest : (st.map fun v => v.category).sum ≤ 8) (hC : Dt G kX0_countLandings [.ref r] mem (some (.int x)) mem2) (kk : E G kX0_totalOf R 0 0 mem2 71 loc (.int x :: st)) : E G kX0_totalOf R 0 0 mem 68 loc (.ref r :: st) := E_V0i (k := kX0_totalOf) (k' := kX0_countLandings) dX0_totalOf_68 rfl okX0_countLandings wiX0_countLandings wzX0_countLandings wl_X0_80 ⟨Nat.le_of_ble_eq_true rfl, Nat.le_of_ble_eq_true rfl⟩ ⟨rfl, rfl⟩ ⟨Nat.zero_le _, Nat.zero_le _⟩ hrest hm rfl hC kk
theorem cs_X0_totalOf_78 {x : Int32} {mem2 : xM} (hm : mem[r]? = some (.inr (0, fs))) (hrest : (st.map fun v => v.category).sum ≤ 8) (hC : Dt G kX0_liftsOfAll [.ref r] mem (some (.int x)) mem2) (kk : E G kX0_totalOf R 0 0 mem2 81 loc (.int x :: st)) : E G kX0_totalOf R 0 0 mem 78 loc (.ref r :: st) := E_V0i (k := kX0_totalOf) (k' := kX0_liftsOfAll) dX0_totalOf_78 rfl okX0_liftsOfAll wiX0_liftsOfAll wzX0_liftsOfAll wl_X0_119 ⟨Nat.le_of_ble_eq_true rfl, Nat.le_of_ble_eq_true rfl⟩ ⟨rfl, rfl⟩ ⟨Nat.zero_le _, Nat.zero_le _⟩ hrest hm rfl hC kk
theorem cs_X0_totalOf_83 {x : Int32} {mem2 : xM} (hm : mem[r]? = some (.inr (0, fs))) (hrest : (st.map fun v => v.category).sum ≤ 8) (hC : Dt G kX0_slipsOfAll [.ref r] mem (some (.int x)) mem2) (kk : E G kX0_totalOf R 0 0 mem2 86 loc (.int x :: st)) : E G kX0_totalOf R 0 0 mem 83 loc (.ref r :: st) := E_V0i (k := kX0_totalOf) (k' := kX0_slipsOfAll) dX0_totalOf_83 rfl okX0_slipsOfAll wiX0_slipsOfAll wzX0_slipsOfAll wl_X0_122 ⟨Nat.le_of_ble_eq_true rfl, Nat.le_of_ble_eq_true rfl⟩ ⟨rfl, rfl⟩ ⟨Nat.zero_le _, Nat.zero_le _⟩ hrest hm rfl hC kk
theorem cs_X0_totalOf_88 {x : Int32} {mem2 : xM} (hm : mem[r]? = some (.inr (0, fs))) (hrest : (st.map fun v => v.category).sum ≤ 8) (hC : Dt G kX0_topsOfAll [.ref r] mem (some (.int x)) mem2) (kk : E G kX0_totalOf R 0 0 mem2 91 loc (.int x :: st)) : E G kX0_totalOf R 0 0 mem 88 loc (.ref r :: st) := E_V0i (k := kX0_totalOf) (k' := kX0_topsOfAll) dX0_totalOf_88 rfl okX0_topsOfAll wiX0_topsOfAll wzX0_topsOfAll wl_X0_125 ⟨Nat.le_of_ble_eq_true rfl, Nat.le_of_ble_eq_true rfl⟩ ⟨rfl, rfl⟩ ⟨Nat.zero_le _, Nat.zero_le _⟩ hrest hm rfl hC kk
theorem cs_L_law_4 {mem2 : xM} (hrest : (st.map fun v => v.category).sum ≤ 8) (hcs : ce + 85 ≤ 600000 ∧ sl + 1590 ≤ 7302249) (hC : Dt G kX3_init [.ref r] mem (none) mem2) (kk : E G kL_law R (ce + 85) (sl + 1590) mem2 7 loc (st)) : E G kL_law R ce sl mem 4 loc (.ref r :: st) := E_I0v (k := kL_law) (k' := kX3_init) dL_law_4 rfl okX3_init rfl rfl wiX3_init wl_L_77 ⟨Nat.le_of_ble_eq_true rfl, Nat.le_of_ble_eq_true rfl⟩ hcs hrest hC kk
theorem cw_L_law_73 {a1 a2 : Value} {x : Int32} {P : xM → Prop} (hcs : ce ≤ 600000 ∧ sl ≤ 7302249) (hrest : (st.map fun v => v.category).sum ≤ 8) (hC : Pt G kL_cell [a1, a2] mem (some (.int x)) P) (kk : ∀ m2 : xM, P m2 → E G kL_law R ce sl m2 76 loc (.int x :: st)) : E G kL_law R ce sl mem 73 loc (a2 :: a1 :: st) := E_callS (k := kL_law) (k' := kL_cell) (n := 2) (As := [a1, a2]) dL_law_73 rfl okL_cell wsL_cell wl_L_78 ⟨Nat.le_of_ble_eq_true rfl, Nat.le_of_ble_eq_true rfl⟩ hcs hrest rfl hC (fun v mem2 hv => by obtain ⟨rfl, hv2⟩ := hv; exact kk _ hv2)
theorem cs_L_law_73 {a1 a2 : Value} {x : Int32} {mem2 : xM} (hrest : (st.map fun v => v.category).sum ≤ 8) (hcs : ce ≤ 600000 ∧ sl ≤ 7302249) (hC : Dt G kL_cell [a1, a2] mem (some (.int x)) mem2) (kk : E G kL_law R ce sl mem2 76 loc (.int x :: st)) : E G kL_law R ce sl mem 73 loc (a2 :: a1 :: st) := E_S2i (k := kL_law) (k' := kL_cell) dL_law_73 rfl okL_cell wsL_cell wl_L_78 ⟨Nat.le_of_ble_eq_true rfl, Nat.le_of_ble_eq_true rfl⟩ ⟨rfl, rfl⟩ hcs hrest hC kk
theorem cw_L_law_82 {a1 a2 : Value} {x : Int32} {P : xM → Prop} (hcs : ce ≤ 600000 ∧ sl ≤ 7302249) (hrest : (st.map fun v => v.category).sum ≤ 8) (hC : Pt G kL_low [a1, a2] mem (some (.int x)) P) (kk : ∀ m2 : xM, P m2 → E G kL_law R ce sl m2 85 loc (.int x :: st)) : E G kL_law R ce sl mem 82 loc (a2 :: a1 :: st) := E_callS (k := kL_law) (k' := kL_low) (n := 2) (As := [a1, a2]) dL_law_82 rfl okL_low wsL_low wl_L_82 ⟨Nat.le_of_ble_eq_true rfl, Nat.le_of_ble_eq_true rfl⟩ hcs hrest rfl hC (fun v mem2 hv => by obtain ⟨rfl, hv2⟩ := hv; exact kk _ hv2)
theorem cs_L_law_82 {a1 a2 : Value} {x : Int32} {mem2 : xM} (hrest : (st.map fun v => v.category).sum ≤ 8) (hcs : ce ≤ 600000 ∧ sl ≤ 7302249) (hC : Dt G kL_low [a1, a2] mem (some (.int x)) mem2) (kk : E G kL_law R ce sl mem2 85 loc (.int x :: st)) : E G kL_law R ce sl mem 82 loc (a2 :: a1 :: st) := E_S2i (k := kL_law) (k' := kL_low) dL_law_82 rfl okL_low wsL_low wl_L_82 ⟨Nat.le_of_ble_eq_true rfl, Nat.le_of_ble_eq_true rfl⟩ ⟨rfl, rfl⟩ hcs hrest hC kk
theorem cw_L_law_97 {a1 a2 : Value} {x : Int32} {P : xM → Prop} (hcs : ce ≤ 600000 ∧ sl ≤ 7302249) (hrest : (st.map fun v => v.category).sum ≤ 8) (hC : Pt G kL_low [a1, a2] mem (some (.int x)) P) (kk : ∀ m2 : xM, P m2 → E G kL_law R ce sl m2 100 loc (.int x :: st)) : E G kL_law R ce sl mem 97 loc (a2 :: a1 :: st) := E_callS (k := kL_law) (k' := kL_low) (n := 2) (As := [a1, a2]) dL_law_97 rfl okL_low wsL_low wl_L_82 ⟨Nat.le_of_ble_eq_true rfl, Nat.le_of_ble_eq_true rfl⟩ hcs hrest rfl hC (fun v mem2 hv => by obtain ⟨rfl, hv2⟩ := hv; exact kk _ hv2)
theorem cs_L_law_97 {a1 a2 : Value} {x : Int32} {mem2 : xM} (hrest : (st.map fun v => v.category).sum ≤ 8) (hcs : ce ≤ 600000 ∧ sl ≤ 7302249) (hC : Dt G kL_low [a1, a2] mem (some (.int x)) mem2) (kk : E G kL_law R ce sl mem2 100 loc (.int x :: st)) : E G kL_law R ce sl mem 97 loc (a2 :: a1 :: st) := E_S2i (k := kL_law) (k' := kL_low) dL_law_97 rfl okL_low wsL_low wl_L_82 ⟨Nat.le_of_ble_eq_true rfl, Nat.le_of_ble_eq_true rfl⟩ ⟨rfl, rfl⟩ hcs hrest hC kk
theorem cs_L_law_267 {x : Int32} {mem2 : xM} (hm : mem[r]? = some (.inr (3, fs))) (hrest : (st.map fun v => v.category).sum ≤ 8) (hcs : ce ≤ 600000 ∧ sl ≤ 7302249) (hC : Dt G kX3_join [.ref r] mem (some (.int x)) mem2) (kk : E G kL_law R ce sl mem2 270 loc (.int x :: st)) : E G kL_law R ce sl mem 267 loc (.ref r :: st) := E_V0i (k := kL_law) (k' := kX3_join) dL_law_267 rfl okX3_join wiX3_join wzX3_join wl_L_85 ⟨Nat.le_of_ble_eq_true rfl, Nat.le_of_ble_eq_true rfl⟩ ⟨rfl, rfl⟩ hcs hrest hm rfl hC kk
theorem cw_L_law_308 {a1 a2 : Value} {x : Int32} {P : xM → Prop} (hcs : ce ≤ 600000 ∧ sl ≤ 7302249) (hrest : (st.map fun v => v.category).sum ≤ 8) (hC : Pt G kL_low [a1, a2] mem (some (.int x)) P) (kk : ∀ m2 : xM, P m2 → E G kL_law R ce sl m2 311 loc (.int x :: st)) : E G kL_law R ce sl mem 308 loc (a2 :: a1 :: st) := E_callS (k := kL_law) (k' := kL_low) (n := 2) (As := [a1, a2]) dL_law_308 rfl okL_low wsL_low wl_L_82 ⟨Nat.le_of_ble_eq_true rfl, Nat.le_of_ble_eq_true rfl⟩ hcs hrest rfl hC (fun v mem2 hv => by obtain ⟨rfl, hv2⟩ := hv; exact kk _ hv2)
theorem cs_L_law_308 {a1 a2 : Value} {x : Int32} {mem2 : xM} (hrest : (st.map fun v => v.category).sum ≤ 8) (hcs : ce ≤ 600000 ∧ sl ≤ 7302249) (hC : Dt G kL_low [a1, a2] mem (some (.int x)) mem2) (kk : E G kL_law R ce sl mem2 311 loc (.int x :: st)) : E G kL_law R ce sl mem 308 loc (a2 :: a1 :: st) := E_S2i (k := kL_law) (k' := kL_low) dL_law_308 rfl okL_low wsL_low wl_L_82 ⟨Nat.le_of_ble_eq_true rfl, Nat.le_of_ble_eq_true rfl⟩ ⟨rfl, rfl⟩ hcs hrest hC kk
theorem cw_L_law_321 {a1 a2 : Value} {x : Int32} {P : xM → Prop} (hcs : ce ≤ 600000 ∧ sl ≤ 7302249) (hrest : (st.map fun v => v.category).sum ≤ 8) (hC : Pt G kL_low [a1, a2] mem (some (.int x)) P) (kk : ∀ m2 : xM, P m2 → E G kL_law R ce sl m2 324 loc (.int x :: st)) : E G kL_law R ce sl mem 321 loc (a2 :: a1 :: st) := E_callS (k := kL_law) (k' := kL_low) (n := 2) (As := [a1, a2]) dL_law_321 rfl okL_low wsL_low wl_L_82 ⟨Nat.le_of_ble_eq_true rfl, Nat.le_of_ble_eq_true rfl⟩ hcs hrest rfl hC (fun v mem2 hv => by obtain ⟨rfl, hv2⟩ := hv; exact kk _ hv2)
theorem cs_L_law_321 {a1 a2 : Value} {x : Int32} {mem2 : xM} (hrest : (st.map fun v => v.category).sum ≤ 8) (hcs : ce ≤ 600000 ∧ sl ≤ 7302249) (hC : Dt G kL_low [a1, a2] mem (some (.int x)) mem2) (kk : E G kL_law R ce sl mem2 324 loc (.int x :: st)) : E G kL_law R ce sl mem 321 loc (a2 :: a1 :: st) := E_S2i (k := kL_law) (k' := kL_low) dL_law_321 rfl okL_low wsL_low wl_L_82 ⟨Nat.le_of_ble_eq_true rfl, Nat.le_of_ble_eq_true rfl⟩ ⟨rfl, rfl⟩ hcs hrest hC kk
theorem cs_L_law_419 {a1 : Value} {x : Int32} {mem2 : xM} (hm : mem[r]? = some (.inr (3, fs))) (hrest : (st.map fun v => v.category).sum ≤ 8) (hcs : ce ≤ 600000 ∧ sl ≤ 7302249) (hC : Dt G kX3_setTop [.ref r, a1] mem (some (.int x)) mem2) (kk : E G kL_law R ce sl mem2 422 loc (.int x :: st)) : E G kL_law R ce sl mem 419 loc (a1 :: .ref r :: st) := E_V1i (k := kL_law) (k' := kX3_setTop) dL_law_419 rfl okX3_setTop wiX3_setTop wzX3_setTop wl_L_88 ⟨Nat.le_of_ble_eq_true rfl, Nat.le_of_ble_eq_true rfl⟩ ⟨rfl, rfl⟩ hcs hrest hm rfl hC kk
theorem cw_L_law_488 {a1 a2 : Value} {x : Int32} {P : xM → Prop} (hcs : ce ≤ 600000 ∧ sl ≤ 7302249) (hrest : (st.map fun v => v.category).sum ≤ 8) (hC : Pt G kL_low [a1, a2] mem (some (.int x)) P) (kk : ∀ m2 : xM, P m2 → E G kL_law R ce sl m2 491 loc (.int x :: st)) : E G kL_law R ce sl mem 488 loc (a2 :: a1 :: st) := E_callS (k := kL_law) (k' := kL_low) (n := 2) (As := [a1, a2]) dL_law_488 rfl okL_low wsL_low wl_L_82 ⟨Nat.le_of_ble_eq_true rfl, Nat.le_of_ble_eq_true rfl⟩ hcs hrest rfl hC (fun v mem2 hv => by obtain ⟨rfl, hv2⟩ := hv; exact kk _ hv2)
theorem cs_L_law_488 {a1 a2 : Value} {x : Int32} {mem2 : xM} (hrest : (st.map fun v => v.category).sum ≤ 8) (hcs : ce ≤ 600000 ∧ sl ≤ 7302249) (hC : Dt G kL_low [a1, a2] mem (some (.int x)) mem2) (kk : E G kL_law R ce sl mem2 491 loc (.int x :: st)) : E G kL_law R ce sl mem 488 loc (a2 :: a1 :: st) := E_S2i (k := kL_law) (k' := kL_low) dL_law_488 rfl okL_low wsL_low wl_L_82 ⟨Nat.le_of_ble_eq_true rfl, Nat.le_of_ble_eq_true rfl⟩ ⟨rfl, rfl⟩ hcs hrest hC kk
theorem cs_L_law_597 {a1 a2 : Value} {x : Int32} {mem2 : xM} (hm : mem[r]? = some (.inr (3, fs))) (hrest : (st.map fun v => v.category).sum ≤ 8) (hcs : ce ≤ 600000 ∧ sl ≤ 7302249) (hC : Dt G kX3_lay [.ref r, a1, a2] mem (some (.int x)) mem2) (kk : E G kL_law R ce sl mem2 600 loc (.int x :: st)) : E G kL_law R ce sl mem 597 loc (a2 :: a1 :: .ref r :: st) := E_V2i (k := kL_law) (k' := kX3_lay) dL_law_597 rfl okX3_lay wiX3_lay wzX3_lay wl_L_91 ⟨Nat.le_of_ble_eq_true rfl, Nat.le_of_ble_eq_true rfl⟩ ⟨rfl, rfl⟩ hcs hrest hm rfl hC kk
theorem cs_L_law_652 {a1 : Value} {x : Int32} {mem2 : xM} (hm : mem[r]? = some (.inr (3, fs))) (hrest : (st.map fun v => v.category).sum ≤ 8) (hcs : ce ≤ 600000 ∧ sl ≤ 7302249) (hC : Dt G kX3_take [.ref r, a1] mem (some (.int x)) mem2) (kk : E G kL_law R ce sl mem2 655 loc (.int x :: st)) : E G kL_law R ce sl mem 652 loc (a1 :: .ref r :: st) := E_V1i (k := kL_law) (k' := kX3_take) dL_law_652 rfl okX3_take wiX3_take wzX3_take wl_L_94 ⟨Nat.le_of_ble_eq_true rfl, Nat.le_of_ble_eq_true rfl⟩ ⟨rfl, rfl⟩ hcs hrest hm rfl hC kk
theorem cs_L_law_665 {a1 : Value} {x : Int32} {mem2 : xM} (hm : mem[r]? = some (.inr (3, fs))) (hrest : (st.map fun v => v.category).sum ≤ 8) (hcs : ce ≤ 600000 ∧ sl ≤ 7302249) (hC : Dt G kX3_take [.ref r, a1] mem (some (.int x)) mem2) (kk : E G kL_law R ce sl mem2 668 loc (.int x :: st)) : E G kL_law R ce sl mem 665 loc (a1 :: .ref r :: st) := E_V1i (k := kL_law) (k' := kX3_take) dL_law_665 rfl okX3_take wiX3_take wzX3_take wl_L_94 ⟨Nat.le_of_ble_eq_true rfl, Nat.le_of_ble_eq_true rfl⟩ ⟨rfl, rfl⟩ hcs hrest hm rfl hC kk
theorem cs_L_law_748 {a1 : Value} {x : Int32} {mem2 : xM} (hm : mem[r]? = some (.inr (3, fs))) (hrest : (st.map fun v => v.category).sum ≤ 8) (hcs : ce ≤ 600000 ∧ sl ≤ 7302249) (hC : Dt G kX3_put [.ref r, a1] mem (some (.int x)) mem2) (kk : E G kL_law R ce sl mem2 751 loc (.int x :: st)) : E G kL_law R ce sl mem 748 loc (a1 :: .ref r :: st) := E_V1i (k := kL_law) (k' := kX3_put) dL_law_748 rfl okX3_put wiX3_put wzX3_put wl_L_97 ⟨Nat.le_of_ble_eq_true rfl, Nat.le_of_ble_eq_true rfl⟩ ⟨rfl, rfl⟩ hcs hrest hm rfl hC kk
theorem cw_L_law_766 {a1 : Value} {x : Int32} {P : xM → Prop} (hcs : ce ≤ 600000 ∧ sl ≤ 7302249) (hrest : (st.map fun v => v.category).sum ≤ 8) (hC : Pt G kL_sum [a1] mem (some (.int x)) P) (kk : ∀ m2 : xM, P m2 → E G kL_law R ce sl m2 769 loc (.int x :: st)) : E G kL_law R ce sl mem 766 loc (a1 :: st) := E_callS (k := kL_law) (k' := kL_sum) (n := 1) (As := [a1]) dL_law_766 rfl okL_sum wsL_sum wl_L_73 ⟨Nat.le_of_ble_eq_true rfl, Nat.le_of_ble_eq_true rfl⟩ hcs hrest rfl hC (fun v mem2 hv => by obtain ⟨rfl, hv2⟩ := hv; exact kk _ hv2)
theorem cs_L_law_766 {a1 : Value} {x : Int32} {mem2 : xM} (hrest : (st.map fun v => v.category).sum ≤ 8) (hcs : ce ≤ 600000 ∧ sl ≤ 7302249) (hC : Dt G kL_sum [a1] mem (some (.int x)) mem2) (kk : E G kL_law R ce sl mem2 769 loc (.int x :: st)) : E G kL_law R ce sl mem 766 loc (a1 :: st) := E_S1i (k := kL_law) (k' := kL_sum) dL_law_766 rfl okL_sum wsL_sum wl_L_73 ⟨Nat.le_of_ble_eq_true rfl, Nat.le_of_ble_eq_true rfl⟩ ⟨rfl, rfl⟩ hcs hrest hC kk
theorem cw_L_law_800 {a1 a2 : Value} {x : Int32} {P : xM → Prop} (hcs : ce ≤ 600000 ∧ sl ≤ 7302249) (hrest : (st.map fun v => v.category).sum ≤ 8) (hC : Pt G kL_low [a1, a2] mem (some (.int x)) P) (kk : ∀ m2 : xM, P m2 → E G kL_law R ce sl m2 803 loc (.int x :: st)) : E G kL_law R ce sl mem 800 loc (a2 :: a1 :: st) := E_callS (k := kL_law) (k' := kL_low) (n := 2) (As := [a1, a2]) dL_law_800 rfl okL_low wsL_low wl_L_82 ⟨Nat.le_of_ble_eq_true rfl, Nat.le_of_ble_eq_true rfl⟩ hcs hrest rfl hC (fun v mem2 hv => by obtain ⟨rfl, hv2⟩ := hv; exact kk _ hv2)
theorem cs_L_law_800 {a1 a2 : Value} {x : Int32} {mem2 : xM} (hrest : (st.map fun v => v.category).sum ≤ 8) (hcs : ce ≤ 600000 ∧ sl ≤ 7302249) (hC : Dt G kL_low [a1, a2] mem (some (.int x)) mem2) (kk : E G kL_law R ce sl mem2 803 loc (.int x :: st)) : E G kL_law R ce sl mem 800 loc (a2 :: a1 :: st) := E_S2i (k := kL_law) (k' := kL_low) dL_law_800 rfl okL_low wsL_low wl_L_82 ⟨Nat.le_of_ble_eq_true rfl, Nat.le_of_ble_eq_true rfl⟩ ⟨rfl, rfl⟩ hcs hrest hC kk
theorem cs_L_law_809 {a1 : Value} {x : Int32} {mem2 : xM} (hm : mem[r]? = some (.inr (3, fs))) (hrest : (st.map fun v => v.category).sum ≤ 8) (hcs : ce ≤ 600000 ∧ sl ≤ 7302249) (hC : Dt G kX3_remove [.ref r, a1] mem (some (.int x)) mem2) (kk : E G kL_law R ce sl mem2 812 loc (.int x :: st)) : E G kL_law R ce sl mem 809 loc (a1 :: .ref r :: st) := E_V1i (k := kL_law) (k' := kX3_remove) dL_law_809 rfl okX3_remove wiX3_remove wzX3_remove wl_L_100 ⟨Nat.le_of_ble_eq_true rfl, Nat.le_of_ble_eq_true rfl⟩ ⟨rfl, rfl⟩ hcs hrest hm rfl hC kk
theorem cw_L_law_855 {a1 a2 : Value} {P : xM → Prop} (hcs : ce ≤ 600000 ∧ sl ≤ 7302249) (hrest : (st.map fun v => v.category).sum ≤ 8) (hC : Pt G kL_next [a1, a2] mem (none) P) (kk : ∀ m2 : xM, P m2 → E G kL_law R ce sl m2 858 loc (st)) : E G kL_law R ce sl mem 855 loc (a2 :: a1 :: st) := E_callS (k := kL_law) (k' := kL_next) (n := 2) (As := [a1, a2]) dL_law_855 rfl okL_next wsL_next wl_L_16 ⟨Nat.le_of_ble_eq_true rfl, Nat.le_of_ble_eq_true rfl⟩ hcs hrest rfl hC (fun v mem2 hv => by obtain ⟨rfl, hv2⟩ := hv; exact kk _ hv2)
theorem cs_L_law_855 {a1 a2 : Value} {mem2 : xM} (hrest : (st.map fun v => v.category).sum ≤ 8) (hcs : ce ≤ 600000 ∧ sl ≤ 7302249) (hC : Dt G kL_next [a1, a2] mem (none) mem2) (kk : E G kL_law R ce sl mem2 858 loc (st)) : E G kL_law R ce sl mem 855 loc (a2 :: a1 :: st) := E_S2v (k := kL_law) (k' := kL_next) dL_law_855 rfl okL_next wsL_next wl_L_16 ⟨Nat.le_of_ble_eq_true rfl, Nat.le_of_ble_eq_true rfl⟩ ⟨rfl, rfl⟩ hcs hrest hC kk
theorem cs_L_law_859 {x : Int32} {mem2 : xM} (hm : mem[r]? = some (.inr (3, fs))) (hrest : (st.map fun v => v.category).sum ≤ 8) (hcs : ce ≤ 600000 ∧ sl ≤ 7302249) (hC : Dt G kX3_pass [.ref r] mem (some (.int x)) mem2) (kk : E G kL_law R ce sl mem2 862 loc (.int x :: st)) : E G kL_law R ce sl mem 859 loc (.ref r :: st) := E_V0i (k := kL_law) (k' := kX3_pass) dL_law_859 rfl okX3_pass wiX3_pass wzX3_pass wl_L_103 ⟨Nat.le_of_ble_eq_true rfl, Nat.le_of_ble_eq_true rfl⟩ ⟨rfl, rfl⟩ hcs hrest hm rfl hC kk
theorem cw_L_law_887 {a1 a2 : Value} {x : Int32} {P : xM → Prop} (hcs : ce ≤ 600000 ∧ sl ≤ 7302249) (hrest : (st.map fun v => v.category).sum ≤ 8) (hC : Pt G kL_low [a1, a2] mem (some (.int x)) P) (kk : ∀ m2 : xM, P m2 → E G kL_law R ce sl m2 890 loc (.int x :: st)) : E G kL_law R ce sl mem 887 loc (a2 :: a1 :: st) := E_callS (k := kL_law) (k' := kL_low) (n := 2) (As := [a1, a2]) dL_law_887 rfl okL_low wsL_low wl_L_82 ⟨Nat.le_of_ble_eq_true rfl, Nat.le_of_ble_eq_true rfl⟩ hcs hrest rfl hC (fun v mem2 hv => by obtain ⟨rfl, hv2⟩ := hv; exact kk _ hv2)
theorem cs_L_law_887 {a1 a2 : Value} {x : Int32} {mem2 : xM} (hrest : (st.map fun v => v.category).sum ≤ 8) (hcs : ce ≤ 600000 ∧ sl ≤ 7302249) (hC : Dt G kL_low [a1, a2] mem (some (.int x)) mem2) (kk : E G kL_law R ce sl mem2 890 loc (.int x :: st)) : E G kL_law R ce sl mem 887 loc (a2 :: a1 :: st) := E_S2i (k := kL_law) (k' := kL_low) dL_law_887 rfl okL_low wsL_low wl_L_82 ⟨Nat.le_of_ble_eq_true rfl, Nat.le_of_ble_eq_true rfl⟩ ⟨rfl, rfl⟩ hcs hrest hC kk
theorem cw_L_law_907 {a1 a2 a3 a4 a5 : Value} {x : Int32} {P : xM → Prop} (hcs : (ce + 1) ≤ 600000 ∧ (sl + 6) ≤ 7302249) (hrest : (st.map fun v => v.category).sum ≤ 8) (hC : Pt G kL_roll [a1, a2, a3, a4, a5] mem (some (.int x)) P) (kk : ∀ m2 : xM, P m2 → E G kL_law R (ce + 1) (sl + 6) m2 910 loc (.int x :: st)) : E G kL_law R ce sl mem 907 loc (a5 :: a4 :: a3 :: a2 :: a1 :: st) := E_callS (k := kL_law) (k' := kL_roll) (n := 5) (As := [a1, a2, a3, a4, a5]) dL_law_907 rfl okL_roll wsL_roll wl_L_23 ⟨Nat.le_of_ble_eq_true rfl, Nat.le_of_ble_eq_true rfl⟩ hcs hrest rfl hC (fun v mem2 hv => by obtain ⟨rfl, hv2⟩ := hv; exact kk _ hv2)
theorem cs_L_law_914 {a1 : Value} {x : Int32} {mem2 : xM} (hm : mem[r]? = some (.inr (3, fs))) (hrest : (st.map fun v => v.category).sum ≤ 8) (hcs : ce ≤ 600000 ∧ sl ≤ 7302249) (hC : Dt G kX3_roll [.ref r, a1] mem (some (.int x)) mem2) (kk : E G kL_law R ce sl mem2 917 loc (.int x :: st)) : E G kL_law R ce sl mem 914 loc (a1 :: .ref r :: st) := E_V1i (k := kL_law) (k' := kX3_roll) dL_law_914 rfl okX3_roll wiX3_roll wzX3_roll wl_L_106 ⟨Nat.le_of_ble_eq_true rfl, Nat.le_of_ble_eq_true rfl⟩ ⟨rfl, rfl⟩ hcs hrest hm rfl hC kk
theorem cw_L_law_949 {a1 a2 a3 a4 a5 a6 : Value} {x : Int32} {P : xM → Prop} (hcs : (ce + 6) ≤ 600000 ∧ (sl + 366) ≤ 7302249) (hrest : (st.map fun v => v.category).sum ≤ 8) (hC : Pt G kL_game [a1, a2, a3, a4, a5, a6] mem (some (.int x)) P) (kk : ∀ m2 : xM, P m2 → E G kL_law R (ce + 6) (sl + 366) m2 952 loc (.int x :: st)) : E G kL_law R ce sl mem 949 loc (a6 :: a5 :: a4 :: a3 :: a2 :: a1 :: st) := E_callS (k := kL_law) (k' := kL_game) (n := 6) (As := [a1, a2, a3, a4, a5, a6]) dL_law_949 rfl okL_game wsL_game wl_L_108 ⟨Nat.le_of_ble_eq_true rfl, Nat.le_of_ble_eq_true rfl⟩ hcs hrest rfl hC (fun v mem2 hv => by obtain ⟨rfl, hv2⟩ := hv; exact kk _ hv2)
theorem cw_L_law_970 {a1 a2 a3 a4 a5 : Value} {x : Int32} {P : xM → Prop} (hcs : (ce + 18) ≤ 600000 ∧ (sl + 294) ≤ 7302249) (hrest : (st.map fun v => v.category).sum ≤ 8) (hC : Pt G kL_ahead [a1, a2, a3, a4, a5] mem (some (.int x)) P) (kk : ∀ m2 : xM, P m2 → E G kL_law R (ce + 18) (sl + 294) m2 973 loc (.int x :: st)) : E G kL_law R ce sl mem 970 loc (a5 :: a4 :: a3 :: a2 :: a1 :: st) := E_callS (k := kL_law) (k' := kL_ahead) (n := 5) (As := [a1, a2, a3, a4, a5]) dL_law_970 rfl okL_ahead wsL_ahead wl_L_112 ⟨Nat.le_of_ble_eq_true rfl, Nat.le_of_ble_eq_true rfl⟩ hcs hrest rfl hC (fun v mem2 hv => by obtain ⟨rfl, hv2⟩ := hv; exact kk _ hv2)
theorem cp_X3_setTop_8 {a1 : Value} {P : xM → Prop} (hm : mem[r]? = some (.inr (0, fs))) (hrest : (st.map fun v => v.category).sum ≤ 8) (hC : Pt G kX0_copyFrom [.ref r, a1] mem (none) P) (kk : ∀ m2 : xM, P m2 → E G kX3_setTop R 0 0 m2 11 loc (st)) : E G kX3_setTop R 0 0 mem 8 loc (a1 :: .ref r :: st) := E_V1vP (k := kX3_setTop) (k' := kX0_copyFrom) dX3_setTop_8 rfl okX0_copyFrom wiX0_copyFrom wzX0_copyFrom wl_X3_43 ⟨Nat.le_of_ble_eq_true rfl, Nat.le_of_ble_eq_true rfl⟩ ⟨rfl, rfl⟩ ⟨Nat.zero_le _, Nat.zero_le _⟩ hrest hm rfl hC kk
theorem cp_X3_setTop_17 {a1 : Value} {x : Int32} {P : xM → Prop} (hm : mem[r]? = some (.inr (0, fs))) (hrest : (st.map fun v => v.category).sum ≤ 8) (hC : Pt G kX0_changeTop [.ref r, a1] mem (some (.int x)) P) (kk : ∀ m2 : xM, P m2 → E G kX3_setTop R 0 0 m2 20 loc (.int x :: st)) : E G kX3_setTop R 0 0 mem 17 loc (a1 :: .ref r :: st) := E_V1iP (k := kX3_setTop) (k' := kX0_changeTop) dX3_setTop_17 rfl okX0_changeTop wiX0_changeTop wzX0_changeTop wl_X3_47 ⟨Nat.le_of_ble_eq_true rfl, Nat.le_of_ble_eq_true rfl⟩ ⟨rfl, rfl⟩ ⟨Nat.zero_le _, Nat.zero_le _⟩ hrest hm rfl hC kk
theorem cp_X3_setTop_20 {a1 : Value} {x : Int32} {P : xM → Prop} (hm : mem[r]? = some (.inr (3, fs))) (hrest : (st.map fun v => v.category).sum ≤ 8) (hC : Pt G kX3_recordUnlessError [.ref r, a1] mem (some (.int x)) P) (kk : ∀ m2 : xM, P m2 → E G kX3_setTop R 0 0 m2 23 loc (.int x :: st)) : E G kX3_setTop R 0 0 mem 20 loc (a1 :: .ref r :: st) := E_V1iP (k := kX3_setTop) (k' := kX3_recordUnlessError) dX3_setTop_20 rfl okX3_recordUnlessError wiX3_recordUnlessError wzX3_recordUnlessError wl_X3_51 ⟨Nat.le_of_ble_eq_true rfl, Nat.le_of_ble_eq_true rfl⟩ ⟨rfl, rfl⟩ ⟨Nat.zero_le _, Nat.zero_le _⟩ hrest hm rfl hC kk
theorem cp_X3_recordUnlessError_12 {a1 : Value} {P : xM → Prop} (hm : mem[r]? = some (.inr (1, fs))) (hrest : (st.map fun v => v.category).sum ≤ 8) (hC : Pt G kX1_keep [.ref r, a1] mem (none) P) (kk : ∀ m2 : xM, P m2 → E G kX3_recordUnlessError R 0 0 m2 15 loc (st)) : E G kX3_recordUnlessError R 0 0 mem 12 loc (a1 :: .ref r :: st) := E_V1vP (k := kX3_recordUnlessError) (k' := kX1_keep) dX3_recordUnlessError_12 rfl okX1_keep wiX1_keep wzX1_keep wl_X3_153 ⟨Nat.le_of_ble_eq_true rfl, Nat.le_of_ble_eq_true rfl⟩ ⟨rfl, rfl⟩ ⟨Nat.zero_le _, Nat.zero_le _⟩ hrest hm rfl hC kk
theorem cp_X3_lay_8 {a1 : Value} {P : xM → Prop} (hm : mem[r]? = some (.inr (0, fs))) (hrest : (st.map fun v => v.category).sum ≤ 8) (hC : Pt G kX0_copyFrom [.ref r, a1] mem (none) P) (kk : ∀ m2 : xM, P m2 → E G kX3_lay R 0 0 m2 11 loc (st)) : E G kX3_lay R 0 0 mem 8 loc (a1 :: .ref r :: st) := E_V1vP (k := kX3_lay) (k' := kX0_copyFrom) dX3_lay_8 rfl okX0_copyFrom wiX0_copyFrom wzX0_copyFrom wl_X3_43 ⟨Nat.le_of_ble_eq_true rfl, Nat.le_of_ble_eq_true rfl⟩ ⟨rfl, rfl⟩ ⟨Nat.zero_le _, Nat.zero_le _⟩ hrest hm rfl hC kk
theorem cp_X3_lay_18 {a1 a2 : Value} {x : Int32} {P : xM → Prop} (hm : mem[r]? = some (.inr (0, fs))) (hrest : (st.map fun v => v.category).sum ≤ 8) (hC : Pt G kX0_layCarpet [.ref r, a1, a2] mem (some (.int x)) P) (kk : ∀ m2 : xM, P m2 → E G kX3_lay R 0 0 m2 21 loc (.int x :: st)) : E G kX3_lay R 0 0 mem 18 loc (a2 :: a1 :: .ref r :: st) := E_V2iP (k := kX3_lay) (k' := kX0_layCarpet) dX3_lay_18 rfl okX0_layCarpet wiX0_layCarpet wzX0_layCarpet wl_X3_54 ⟨Nat.le_of_ble_eq_true rfl, Nat.le_of_ble_eq_true rfl⟩ ⟨rfl, rfl⟩ ⟨Nat.zero_le _, Nat.zero_le _⟩ hrest hm rfl hC kk
theorem cp_X3_lay_21 {a1 : Value} {x : Int32} {P : xM → Prop} (hm : mem[r]? = some (.inr (3, fs))) (hrest : (st.map fun v => v.category).sum ≤ 8) (hC : Pt G kX3_recordUnlessError [.ref r, a1] mem (some (.int x)) P) (kk : ∀ m2 : xM, P m2 → E G kX3_lay R 0 0 m2 24 loc (.int x :: st)) : E G kX3_lay R 0 0 mem 21 loc (a1 :: .ref r :: st) := E_V1iP (k := kX3_lay) (k' := kX3_recordUnlessError) dX3_lay_21 rfl okX3_recordUnlessError wiX3_recordUnlessError wzX3_recordUnlessError wl_X3_51 ⟨Nat.le_of_ble_eq_true rfl, Nat.le_of_ble_eq_true rfl⟩ ⟨rfl, rfl⟩ ⟨Nat.zero_le _, Nat.zero_le _⟩ hrest hm rfl hC kk
theorem cp_X3_take_8 {a1 : Value} {P : xM → Prop} (hm : mem[r]? = some (.inr (0, fs))) (hrest : (st.map fun v => v.category).sum ≤ 8) (hC : Pt G kX0_copyFrom [.ref r, a1] mem (none) P) (kk : ∀ m2 : xM, P m2 → E G kX3_take R 0 0 m2 11 loc (st)) : E G kX3_take R 0 0 mem 8 loc (a1 :: .ref r :: st) := E_V1vP (k := kX3_take) (k' := kX0_copyFrom) dX3_take_8 rfl okX0_copyFrom wiX0_copyFrom wzX0_copyFrom wl_X3_43 ⟨Nat.le_of_ble_eq_true rfl, Nat.le_of_ble_eq_true rfl⟩ ⟨rfl, rfl⟩ ⟨Nat.zero_le _, Nat.zero_le _⟩ hrest hm rfl hC kk
theorem cp_X3_take_17 {a1 : Value} {x : Int32} {P : xM → Prop} (hm : mem[r]? = some (.inr (0, fs))) (hrest : (st.map fun v => v.category).sum ≤ 8) (hC : Pt G kX0_takeCarpet [.ref r, a1] mem (some (.int x)) P) (kk : ∀ m2 : xM, P m2 → E G kX3_take R 0 0 m2 20 loc (.int x :: st)) : E G kX3_take R 0 0 mem 17 loc (a1 :: .ref r :: st) := E_V1iP (k := kX3_take) (k' := kX0_takeCarpet) dX3_take_17 rfl okX0_takeCarpet wiX0_takeCarpet wzX0_takeCarpet wl_X3_58 ⟨Nat.le_of_ble_eq_true rfl, Nat.le_of_ble_eq_true rfl⟩ ⟨rfl, rfl⟩ ⟨Nat.zero_le _, Nat.zero_le _⟩ hrest hm rfl hC kk
theorem cp_X3_take_20 {a1 : Value} {x : Int32} {P : xM → Prop} (hm : mem[r]? = some (.inr (3, fs))) (hrest : (st.map fun v => v.category).sum ≤ 8) (hC : Pt G kX3_recordUnlessError [.ref r, a1] mem (some (.int x)) P) (kk : ∀ m2 : xM, P m2 → E G kX3_take R 0 0 m2 23 loc (.int x :: st)) : E G kX3_take R 0 0 mem 20 loc (a1 :: .ref r :: st) := E_V1iP (k := kX3_take) (k' := kX3_recordUnlessError) dX3_take_20 rfl okX3_recordUnlessError wiX3_recordUnlessError wzX3_recordUnlessError wl_X3_51 ⟨Nat.le_of_ble_eq_true rfl, Nat.le_of_ble_eq_true rfl⟩ ⟨rfl, rfl⟩ ⟨Nat.zero_le _, Nat.zero_le _⟩ hrest hm rfl hC kk
theorem cp_X3_put_8 {a1 : Value} {P : xM → Prop} (hm : mem[r]? = some (.inr (0, fs))) (hrest : (st.map fun v => v.category).sum ≤ 8) (hC : Pt G kX0_copyFrom [.ref r, a1] mem (none) P) (kk : ∀ m2 : xM, P m2 → E G kX3_put R 0 0 m2 11 loc (st)) : E G kX3_put R 0 0 mem 8 loc (a1 :: .ref r :: st) := E_V1vP (k := kX3_put) (k' := kX0_copyFrom) dX3_put_8 rfl okX0_copyFrom wiX0_copyFrom wzX0_copyFrom wl_X3_43 ⟨Nat.le_of_ble_eq_true rfl, Nat.le_of_ble_eq_true rfl⟩ ⟨rfl, rfl⟩ ⟨Nat.zero_le _, Nat.zero_le _⟩ hrest hm rfl hC kk
theorem cp_X3_put_17 {a1 : Value} {x : Int32} {P : xM → Prop} (hm : mem[r]? = some (.inr (0, fs))) (hrest : (st.map fun v => v.category).sum ≤ 8) (hC : Pt G kX0_putLanding [.ref r, a1] mem (some (.int x)) P) (kk : ∀ m2 : xM, P m2 → E G kX3_put R 0 0 m2 20 loc (.int x :: st)) : E G kX3_put R 0 0 mem 17 loc (a1 :: .ref r :: st) := E_V1iP (k := kX3_put) (k' := kX0_putLanding) dX3_put_17 rfl okX0_putLanding wiX0_putLanding wzX0_putLanding wl_X3_61 ⟨Nat.le_of_ble_eq_true rfl, Nat.le_of_ble_eq_true rfl⟩ ⟨rfl, rfl⟩ ⟨Nat.zero_le _, Nat.zero_le _⟩ hrest hm rfl hC kk
theorem cp_X3_put_20 {a1 : Value} {x : Int32} {P : xM → Prop} (hm : mem[r]? = some (.inr (3, fs))) (hrest : (st.map fun v => v.category).sum ≤ 8) (hC : Pt G kX3_recordUnlessError [.ref r, a1] mem (some (.int x)) P) (kk : ∀ m2 : xM, P m2 → E G kX3_put R 0 0 m2 23 loc (.int x :: st)) : E G kX3_put R 0 0 mem 20 loc (a1 :: .ref r :: st) := E_V1iP (k := kX3_put) (k' := kX3_recordUnlessError) dX3_put_20 rfl okX3_recordUnlessError wiX3_recordUnlessError wzX3_recordUnlessError wl_X3_51 ⟨Nat.le_of_ble_eq_true rfl, Nat.le_of_ble_eq_true rfl⟩ ⟨rfl, rfl⟩ ⟨Nat.zero_le _, Nat.zero_le _⟩ hrest hm rfl hC kk
theorem cp_X3_remove_8 {a1 : Value} {P : xM → Prop} (hm : mem[r]? = some (.inr (0, fs))) (hrest : (st.map fun v => v.category).sum ≤ 8) (hC : Pt G kX0_copyFrom [.ref r, a1] mem (none) P) (kk : ∀ m2 : xM, P m2 → E G kX3_remove R 0 0 m2 11 loc (st)) : E G kX3_remove R 0 0 mem 8 loc (a1 :: .ref r :: st) := E_V1vP (k := kX3_remove) (k' := kX0_copyFrom) dX3_remove_8 rfl okX0_copyFrom wiX0_copyFrom wzX0_copyFrom wl_X3_43 ⟨Nat.le_of_ble_eq_true rfl, Nat.le_of_ble_eq_true rfl⟩ ⟨rfl, rfl⟩ ⟨Nat.zero_le _, Nat.zero_le _⟩ hrest hm rfl hC kk
theorem cp_X3_remove_17 {a1 : Value} {x : Int32} {P : xM → Prop} (hm : mem[r]? = some (.inr (0, fs))) (hrest : (st.map fun v => v.category).sum ≤ 8) (hC : Pt G kX0_removeLanding [.ref r, a1] mem (some (.int x)) P) (kk : ∀ m2 : xM, P m2 → E G kX3_remove R 0 0 m2 20 loc (.int x :: st)) : E G kX3_remove R 0 0 mem 17 loc (a1 :: .ref r :: st) := E_V1iP (k := kX3_remove) (k' := kX0_removeLanding) dX3_remove_17 rfl okX0_removeLanding wiX0_removeLanding wzX0_removeLanding wl_X3_64 ⟨Nat.le_of_ble_eq_true rfl, Nat.le_of_ble_eq_true rfl⟩ ⟨rfl, rfl⟩ ⟨Nat.zero_le _, Nat.zero_le _⟩ hrest hm rfl hC kk
theorem cp_X3_remove_20 {a1 : Value} {x : Int32} {P : xM → Prop} (hm : mem[r]? = some (.inr (3, fs))) (hrest : (st.map fun v => v.category).sum ≤ 8) (hC : Pt G kX3_recordUnlessError [.ref r, a1] mem (some (.int x)) P) (kk : ∀ m2 : xM, P m2 → E G kX3_remove R 0 0 m2 23 loc (.int x :: st)) : E G kX3_remove R 0 0 mem 20 loc (a1 :: .ref r :: st) := E_V1iP (k := kX3_remove) (k' := kX3_recordUnlessError) dX3_remove_20 rfl okX3_recordUnlessError wiX3_recordUnlessError wzX3_recordUnlessError wl_X3_51 ⟨Nat.le_of_ble_eq_true rfl, Nat.le_of_ble_eq_true rfl⟩ ⟨rfl, rfl⟩ ⟨Nat.zero_le _, Nat.zero_le _⟩ hrest hm rfl hC kk
theorem cp_X3_join_8 {a1 : Value} {P : xM → Prop} (hm : mem[r]? = some (.inr (0, fs))) (hrest : (st.map fun v => v.category).sum ≤ 8) (hC : Pt G kX0_copyFrom [.ref r, a1] mem (none) P) (kk : ∀ m2 : xM, P m2 → E G kX3_join R 0 0 m2 11 loc (st)) : E G kX3_join R 0 0 mem 8 loc (a1 :: .ref r :: st) := E_V1vP (k := kX3_join) (k' := kX0_copyFrom) dX3_join_8 rfl okX0_copyFrom wiX0_copyFrom wzX0_copyFrom wl_X3_43 ⟨Nat.le_of_ble_eq_true rfl, Nat.le_of_ble_eq_true rfl⟩ ⟨rfl, rfl⟩ ⟨Nat.zero_le _, Nat.zero_le _⟩ hrest hm rfl hC kk
theorem cp_X3_join_16 {x : Int32} {P : xM → Prop} (hm : mem[r]? = some (.inr (0, fs))) (hrest : (st.map fun v => v.category).sum ≤ 8) (hC : Pt G kX0_addClimber [.ref r] mem (some (.int x)) P) (kk : ∀ m2 : xM, P m2 → E G kX3_join R 0 0 m2 19 loc (.int x :: st)) : E G kX3_join R 0 0 mem 16 loc (.ref r :: st) := E_V0iP (k := kX3_join) (k' := kX0_addClimber) dX3_join_16 rfl okX0_addClimber wiX0_addClimber wzX0_addClimber wl_X3_67 ⟨Nat.le_of_ble_eq_true rfl, Nat.le_of_ble_eq_true rfl⟩ ⟨rfl, rfl⟩ ⟨Nat.zero_le _, Nat.zero_le _⟩ hrest hm rfl hC kk
theorem cp_X3_join_19 {a1 : Value} {x : Int32} {P : xM → Prop} (hm : mem[r]? = some (.inr (3, fs))) (hrest : (st.map fun v => v.category).sum ≤ 8) (hC : Pt G kX3_recordUnlessError [.ref r, a1] mem (some (.int x)) P) (kk : ∀ m2 : xM, P m2 → E G kX3_join R 0 0 m2 22 loc (.int x :: st)) : E G kX3_join R 0 0 mem 19 loc (a1 :: .ref r :: st) := E_V1iP (k := kX3_join) (k' := kX3_recordUnlessError) dX3_join_19 rfl okX3_recordUnlessError wiX3_recordUnlessError wzX3_recordUnlessError wl_X3_51 ⟨Nat.le_of_ble_eq_true rfl, Nat.le_of_ble_eq_true rfl⟩ ⟨rfl, rfl⟩ ⟨Nat.zero_le _, Nat.zero_le _⟩ hrest hm rfl hC kk
theorem cp_X3_roll_8 {a1 : Value} {P : xM → Prop} (hm : mem[r]? = some (.inr (0, fs))) (hrest : (st.map fun v => v.category).sum ≤ 8) (hC : Pt G kX0_copyFrom [.ref r, a1] mem (none) P) (kk : ∀ m2 : xM, P m2 → E G kX3_roll R 0 0 m2 11 loc (st)) : E G kX3_roll R 0 0 mem 8 loc (a1 :: .ref r :: st) := E_V1vP (k := kX3_roll) (k' := kX0_copyFrom) dX3_roll_8 rfl okX0_copyFrom wiX0_copyFrom wzX0_copyFrom wl_X3_43 ⟨Nat.le_of_ble_eq_true rfl, Nat.le_of_ble_eq_true rfl⟩ ⟨rfl, rfl⟩ ⟨Nat.zero_le _, Nat.zero_le _⟩ hrest hm rfl hC kk
theorem cp_X3_roll_17 {a1 : Value} {x : Int32} {P : xM → Prop} (hm : mem[r]? = some (.inr (0, fs))) (hrest : (st.map fun v => v.category).sum ≤ 8) (hC : Pt G kX0_makeRoll [.ref r, a1] mem (some (.int x)) P) (kk : ∀ m2 : xM, P m2 → E G kX3_roll R 0 0 m2 20 loc (.int x :: st)) : E G kX3_roll R 0 0 mem 17 loc (a1 :: .ref r :: st) := E_V1iP (k := kX3_roll) (k' := kX0_makeRoll) dX3_roll_17 rfl okX0_makeRoll wiX0_makeRoll wzX0_makeRoll wl_X3_71 ⟨Nat.le_of_ble_eq_true rfl, Nat.le_of_ble_eq_true rfl⟩ ⟨rfl, rfl⟩ ⟨Nat.zero_le _, Nat.zero_le _⟩ hrest hm rfl hC kk
theorem cp_X3_roll_20 {a1 : Value} {x : Int32} {P : xM → Prop} (hm : mem[r]? = some (.inr (3, fs))) (hrest : (st.map fun v => v.category).sum ≤ 8) (hC : Pt G kX3_recordUnlessError [.ref r, a1] mem (some (.int x)) P) (kk : ∀ m2 : xM, P m2 → E G kX3_roll R 0 0 m2 23 loc (.int x :: st)) : E G kX3_roll R 0 0 mem 20 loc (a1 :: .ref r :: st) := E_V1iP (k := kX3_roll) (k' := kX3_recordUnlessError) dX3_roll_20 rfl okX3_recordUnlessError wiX3_recordUnlessError wzX3_recordUnlessError wl_X3_51 ⟨Nat.le_of_ble_eq_true rfl, Nat.le_of_ble_eq_true rfl⟩ ⟨rfl, rfl⟩ ⟨Nat.zero_le _, Nat.zero_le _⟩ hrest hm rfl hC kk
theorem cp_X3_pass_8 {a1 : Value} {P : xM → Prop} (hm : mem[r]? = some (.inr (0, fs))) (hrest : (st.map fun v => v.category).sum ≤ 8) (hC : Pt G kX0_copyFrom [.ref r, a1] mem (none) P) (kk : ∀ m2 : xM, P m2 → E G kX3_pass R 0 0 m2 11 loc (st)) : E G kX3_pass R 0 0 mem 8 loc (a1 :: .ref r :: st) := E_V1vP (k := kX3_pass) (k' := kX0_copyFrom) dX3_pass_8 rfl okX0_copyFrom wiX0_copyFrom wzX0_copyFrom wl_X3_43 ⟨Nat.le_of_ble_eq_true rfl, Nat.le_of_ble_eq_true rfl⟩ ⟨rfl, rfl⟩ ⟨Nat.zero_le _, Nat.zero_le _⟩ hrest hm rfl hC kk
theorem cp_X3_pass_16 {x : Int32} {P : xM → Prop} (hm : mem[r]? = some (.inr (0, fs))) (hrest : (st.map fun v => v.category).sum ≤ 8) (hC : Pt G kX0_makePass [.ref r] mem (some (.int x)) P) (kk : ∀ m2 : xM, P m2 → E G kX3_pass R 0 0 m2 19 loc (.int x :: st)) : E G kX3_pass R 0 0 mem 16 loc (.ref r :: st) := E_V0iP (k := kX3_pass) (k' := kX0_makePass) dX3_pass_16 rfl okX0_makePass wiX0_makePass wzX0_makePass wl_X3_74 ⟨Nat.le_of_ble_eq_true rfl, Nat.le_of_ble_eq_true rfl⟩ ⟨rfl, rfl⟩ ⟨Nat.zero_le _, Nat.zero_le _⟩ hrest hm rfl hC kk
theorem cp_X3_pass_19 {a1 : Value} {x : Int32} {P : xM → Prop} (hm : mem[r]? = some (.inr (3, fs))) (hrest : (st.map fun v => v.category).sum ≤ 8) (hC : Pt G kX3_recordUnlessError [.ref r, a1] mem (some (.int x)) P) (kk : ∀ m2 : xM, P m2 → E G kX3_pass R 0 0 m2 22 loc (.int x :: st)) : E G kX3_pass R 0 0 mem 19 loc (a1 :: .ref r :: st) := E_V1iP (k := kX3_pass) (k' := kX3_recordUnlessError) dX3_pass_19 rfl okX3_recordUnlessError wiX3_recordUnlessError wzX3_recordUnlessError wl_X3_51 ⟨Nat.le_of_ble_eq_true rfl, Nat.le_of_ble_eq_true rfl⟩ ⟨rfl, rfl⟩ ⟨Nat.zero_le _, Nat.zero_le _⟩ hrest hm rfl hC kk
theorem cp_L_ahead_162 {a1 a2 : Value} {x : Int32} {P : xM → Prop} (hm : mem[r]? = some (.inr (3, fs))) (hrest : (st.map fun v => v.category).sum ≤ 8) (hcs : ce ≤ 18 ∧ sl ≤ 294) (hC : Pt G kX3_ifRolled [.ref r, a1, a2] mem (some (.int x)) P) (kk : ∀ m2 : xM, P m2 → E G kL_ahead R ce sl m2 165 loc (.int x :: st)) : E G kL_ahead R ce sl mem 162 loc (a2 :: a1 :: .ref r :: st) := E_V2iP (k := kL_ahead) (k' := kX3_ifRolled) dL_ahead_162 rfl okX3_ifRolled wiX3_ifRolled wzX3_ifRolled wl_L_31 ⟨Nat.le_of_ble_eq_true rfl, Nat.le_of_ble_eq_true rfl⟩ ⟨rfl, rfl⟩ hcs hrest hm rfl hC kk
theorem cp_L_ahead_182 {a1 a2 : Value} {x : Int32} {P : xM → Prop} (hm : mem[r]? = some (.inr (3, fs))) (hrest : (st.map fun v => v.category).sum ≤ 8) (hcs : ce ≤ 18 ∧ sl ≤ 294) (hC : Pt G kX3_ifRolled [.ref r, a1, a2] mem (some (.int x)) P) (kk : ∀ m2 : xM, P m2 → E G kL_ahead R ce sl m2 185 loc (.int x :: st)) : E G kL_ahead R ce sl mem 182 loc (a2 :: a1 :: .ref r :: st) := E_V2iP (k := kL_ahead) (k' := kX3_ifRolled) dL_ahead_182 rfl okX3_ifRolled wiX3_ifRolled wzX3_ifRolled wl_L_31 ⟨Nat.le_of_ble_eq_true rfl, Nat.le_of_ble_eq_true rfl⟩ ⟨rfl, rfl⟩ hcs hrest hm rfl hC kk
theorem cp_L_ahead_194 {a1 a2 : Value} {x : Int32} {P : xM → Prop} (hm : mem[r]? = some (.inr (3, fs))) (hrest : (st.map fun v => v.category).sum ≤ 8) (hcs : ce ≤ 18 ∧ sl ≤ 294) (hC : Pt G kX3_ifRolled [.ref r, a1, a2] mem (some (.int x)) P) (kk : ∀ m2 : xM, P m2 → E G kL_ahead R ce sl m2 197 loc (.int x :: st)) : E G kL_ahead R ce sl mem 194 loc (a2 :: a1 :: .ref r :: st) := E_V2iP (k := kL_ahead) (k' := kX3_ifRolled) dL_ahead_194 rfl okX3_ifRolled wiX3_ifRolled wzX3_ifRolled wl_L_31 ⟨Nat.le_of_ble_eq_true rfl, Nat.le_of_ble_eq_true rfl⟩ ⟨rfl, rfl⟩ hcs hrest hm rfl hC kk
theorem cp_L_ahead_218 {a1 a2 : Value} {x : Int32} {P : xM → Prop} (hm : mem[r]? = some (.inr (3, fs))) (hrest : (st.map fun v => v.category).sum ≤ 8) (hcs : ce ≤ 18 ∧ sl ≤ 294) (hC : Pt G kX3_ifRolled [.ref r, a1, a2] mem (some (.int x)) P) (kk : ∀ m2 : xM, P m2 → E G kL_ahead R ce sl m2 221 loc (.int x :: st)) : E G kL_ahead R ce sl mem 218 loc (a2 :: a1 :: .ref r :: st) := E_V2iP (k := kL_ahead) (k' := kX3_ifRolled) dL_ahead_218 rfl okX3_ifRolled wiX3_ifRolled wzX3_ifRolled wl_L_31 ⟨Nat.le_of_ble_eq_true rfl, Nat.le_of_ble_eq_true rfl⟩ ⟨rfl, rfl⟩ hcs hrest hm rfl hC kk
theorem cp_L_ahead_237 {a1 a2 : Value} {x : Int32} {P : xM → Prop} (hm : mem[r]? = some (.inr (3, fs))) (hrest : (st.map fun v => v.category).sum ≤ 8) (hcs : ce ≤ 18 ∧ sl ≤ 294) (hC : Pt G kX3_ifRolled [.ref r, a1, a2] mem (some (.int x)) P) (kk : ∀ m2 : xM, P m2 → E G kL_ahead R ce sl m2 240 loc (.int x :: st)) : E G kL_ahead R ce sl mem 237 loc (a2 :: a1 :: .ref r :: st) := E_V2iP (k := kL_ahead) (k' := kX3_ifRolled) dL_ahead_237 rfl okX3_ifRolled wiX3_ifRolled wzX3_ifRolled wl_L_31 ⟨Nat.le_of_ble_eq_true rfl, Nat.le_of_ble_eq_true rfl⟩ ⟨rfl, rfl⟩ hcs hrest hm rfl hC kk
theorem cp_L_ahead_256 {x : Int32} {P : xM → Prop} (hm : mem[r]? = some (.inr (3, fs))) (hrest : (st.map fun v => v.category).sum ≤ 8) (hcs : ce ≤ 18 ∧ sl ≤ 294) (hC : Pt G kX3_bestRoll [.ref r] mem (some (.int x)) P) (kk : ∀ m2 : xM, P m2 → E G kL_ahead R ce sl m2 259 loc (.int x :: st)) : E G kL_ahead R ce sl mem 256 loc (.ref r :: st) := E_V0iP (k := kL_ahead) (k' := kX3_bestRoll) dL_ahead_256 rfl okX3_bestRoll wiX3_bestRoll wzX3_bestRoll wl_L_41 ⟨Nat.le_of_ble_eq_true rfl, Nat.le_of_ble_eq_true rfl⟩ ⟨rfl, rfl⟩ hcs hrest hm rfl hC kk
theorem cp_L_ahead_265 {x : Int32} {P : xM → Prop} (hm : mem[r]? = some (.inr (3, fs))) (hrest : (st.map fun v => v.category).sum ≤ 8) (hcs : ce ≤ 18 ∧ sl ≤ 294) (hC : Pt G kX3_quietRolls [.ref r] mem (some (.int x)) P) (kk : ∀ m2 : xM, P m2 → E G kL_ahead R ce sl m2 268 loc (.int x :: st)) : E G kL_ahead R ce sl mem 265 loc (.ref r :: st) := E_V0iP (k := kL_ahead) (k' := kX3_quietRolls) dL_ahead_265 rfl okX3_quietRolls wiX3_quietRolls wzX3_quietRolls wl_L_45 ⟨Nat.le_of_ble_eq_true rfl, Nat.le_of_ble_eq_true rfl⟩ ⟨rfl, rfl⟩ hcs hrest hm rfl hC kk
theorem cp_X3_ifRolled_23 {x : Int32} {P : xM → Prop} (hm : mem[r]? = some (.inr (0, fs))) (hrest : (st.map fun v => v.category).sum ≤ 8) (hC : Pt G kX0_hasMover [.ref r] mem (some (.int x)) P) (kk : ∀ m2 : xM, P m2 → E G kX3_ifRolled R 0 0 m2 26 loc (.int x :: st)) : E G kX3_ifRolled R 0 0 mem 23 loc (.ref r :: st) := E_V0iP (k := kX3_ifRolled) (k' := kX0_hasMover) dX3_ifRolled_23 rfl okX0_hasMover wiX0_hasMover wzX0_hasMover wl_X3_80 ⟨Nat.le_of_ble_eq_true rfl, Nat.le_of_ble_eq_true rfl⟩ ⟨rfl, rfl⟩ ⟨Nat.zero_le _, Nat.zero_le _⟩ hrest hm rfl hC kk
theorem cp_X3_ifRolled_34 {a1 : Value} {x : Int32} {P : xM → Prop} (hm : mem[r]? = some (.inr (3, fs))) (hrest : (st.map fun v => v.category).sum ≤ 8) (hC : Pt G kX3_rollInTrial [.ref r, a1] mem (some (.int x)) P) (kk : ∀ m2 : xM, P m2 → E G kX3_ifRolled R 0 0 m2 37 loc (.int x :: st)) : E G kX3_ifRolled R 0 0 mem 34 loc (a1 :: .ref r :: st) := E_V1iP (k := kX3_ifRolled) (k' := kX3_rollInTrial) dX3_ifRolled_34 rfl okX3_rollInTrial wiX3_rollInTrial wzX3_rollInTrial wl_X3_107 ⟨Nat.le_of_ble_eq_true rfl, Nat.le_of_ble_eq_true rfl⟩ ⟨rfl, rfl⟩ ⟨Nat.zero_le _, Nat.zero_le _⟩ hrest hm rfl hC kk
theorem cp_X3_ifRolled_74 {x : Int32} {P : xM → Prop} (hm : mem[r]? = some (.inr (0, fs))) (hrest : (st.map fun v => v.category).sum ≤ 8) (hC : Pt G kX0_liftsOfAll [.ref r] mem (some (.int x)) P) (kk : ∀ m2 : xM, P m2 → E G kX3_ifRolled R 0 0 m2 77 loc (.int x :: st)) : E G kX3_ifRolled R 0 0 mem 74 loc (.ref r :: st) := E_V0iP (k := kX3_ifRolled) (k' := kX0_liftsOfAll) dX3_ifRolled_74 rfl okX0_liftsOfAll wiX0_liftsOfAll wzX0_liftsOfAll wl_X3_110 ⟨Nat.le_of_ble_eq_true rfl, Nat.le_of_ble_eq_true rfl⟩ ⟨rfl, rfl⟩ ⟨Nat.zero_le _, Nat.zero_le _⟩ hrest hm rfl hC kk
theorem cp_X3_ifRolled_81 {x : Int32} {P : xM → Prop} (hm : mem[r]? = some (.inr (0, fs))) (hrest : (st.map fun v => v.category).sum ≤ 8) (hC : Pt G kX0_liftsOfAll [.ref r] mem (some (.int x)) P) (kk : ∀ m2 : xM, P m2 → E G kX3_ifRolled R 0 0 m2 84 loc (.int x :: st)) : E G kX3_ifRolled R 0 0 mem 81 loc (.ref r :: st) := E_V0iP (k := kX3_ifRolled) (k' := kX0_liftsOfAll) dX3_ifRolled_81 rfl okX0_liftsOfAll wiX0_liftsOfAll wzX0_liftsOfAll wl_X3_110 ⟨Nat.le_of_ble_eq_true rfl, Nat.le_of_ble_eq_true rfl⟩ ⟨rfl, rfl⟩ ⟨Nat.zero_le _, Nat.zero_le _⟩ hrest hm rfl hC kk
theorem cp_X3_ifRolled_90 {x : Int32} {P : xM → Prop} (hm : mem[r]? = some (.inr (0, fs))) (hrest : (st.map fun v => v.category).sum ≤ 8) (hC : Pt G kX0_topsOfAll [.ref r] mem (some (.int x)) P) (kk : ∀ m2 : xM, P m2 → E G kX3_ifRolled R 0 0 m2 93 loc (.int x :: st)) : E G kX3_ifRolled R 0 0 mem 90 loc (.ref r :: st) := E_V0iP (k := kX3_ifRolled) (k' := kX0_topsOfAll) dX3_ifRolled_90 rfl okX0_topsOfAll wiX0_topsOfAll wzX0_topsOfAll wl_X3_113 ⟨Nat.le_of_ble_eq_true rfl, Nat.le_of_ble_eq_true rfl⟩ ⟨rfl, rfl⟩ ⟨Nat.zero_le _, Nat.zero_le _⟩ hrest hm rfl hC kk
theorem cp_X3_ifRolled_97 {x : Int32} {P : xM → Prop} (hm : mem[r]? = some (.inr (0, fs))) (hrest : (st.map fun v => v.category).sum ≤ 8) (hC : Pt G kX0_topsOfAll [.ref r] mem (some (.int x)) P) (kk : ∀ m2 : xM, P m2 → E G kX3_ifRolled R 0 0 m2 100 loc (.int x :: st)) : E G kX3_ifRolled R 0 0 mem 97 loc (.ref r :: st) := E_V0iP (k := kX3_ifRolled) (k' := kX0_topsOfAll) dX3_ifRolled_97 rfl okX0_topsOfAll wiX0_topsOfAll wzX0_topsOfAll wl_X3_113 ⟨Nat.le_of_ble_eq_true rfl, Nat.le_of_ble_eq_true rfl⟩ ⟨rfl, rfl⟩ ⟨Nat.zero_le _, Nat.zero_le _⟩ hrest hm rfl hC kk
theorem cp_X3_ifRolled_106 {x : Int32} {P : xM → Prop} (hm : mem[r]? = some (.inr (0, fs))) (hrest : (st.map fun v => v.category).sum ≤ 8) (hC : Pt G kX0_slipsOfAll [.ref r] mem (some (.int x)) P) (kk : ∀ m2 : xM, P m2 → E G kX3_ifRolled R 0 0 m2 109 loc (.int x :: st)) : E G kX3_ifRolled R 0 0 mem 106 loc (.ref r :: st) := E_V0iP (k := kX3_ifRolled) (k' := kX0_slipsOfAll) dX3_ifRolled_106 rfl okX0_slipsOfAll wiX0_slipsOfAll wzX0_slipsOfAll wl_X3_116 ⟨Nat.le_of_ble_eq_true rfl, Nat.le_of_ble_eq_true rfl⟩ ⟨rfl, rfl⟩ ⟨Nat.zero_le _, Nat.zero_le _⟩ hrest hm rfl hC kk
theorem cp_X3_ifRolled_113 {x : Int32} {P : xM → Prop} (hm : mem[r]? = some (.inr (0, fs))) (hrest : (st.map fun v => v.category).sum ≤ 8) (hC : Pt G kX0_slipsOfAll [.ref r] mem (some (.int x)) P) (kk : ∀ m2 : xM, P m2 → E G kX3_ifRolled R 0 0 m2 116 loc (.int x :: st)) : E G kX3_ifRolled R 0 0 mem 113 loc (.ref r :: st) := E_V0iP (k := kX3_ifRolled) (k' := kX0_slipsOfAll) dX3_ifRolled_113 rfl okX0_slipsOfAll wiX0_slipsOfAll wzX0_slipsOfAll wl_X3_116 ⟨Nat.le_of_ble_eq_true rfl, Nat.le_of_ble_eq_true rfl⟩ ⟨rfl, rfl⟩ ⟨Nat.zero_le _, Nat.zero_le _⟩ hrest hm rfl hC kk
theorem cp_X3_rollInTrial_8 {a1 : Value} {P : xM → Prop} (hm : mem[r]? = some (.inr (0, fs))) (hrest : (st.map fun v => v.category).sum ≤ 8) (hC : Pt G kX0_copyFrom [.ref r, a1] mem (none) P) (kk : ∀ m2 : xM, P m2 → E G kX3_rollInTrial R 0 0 m2 11 loc (st)) : E G kX3_rollInTrial R 0 0 mem 8 loc (a1 :: .ref r :: st) := E_V1vP (k := kX3_rollInTrial) (k' := kX0_copyFrom) dX3_rollInTrial_8 rfl okX0_copyFrom wiX0_copyFrom wzX0_copyFrom wl_X3_43 ⟨Nat.le_of_ble_eq_true rfl, Nat.le_of_ble_eq_true rfl⟩ ⟨rfl, rfl⟩ ⟨Nat.zero_le _, Nat.zero_le _⟩ hrest hm rfl hC kk
theorem cp_X3_rollInTrial_16 {a1 : Value} {x : Int32} {P : xM → Prop} (hm : mem[r]? = some (.inr (0, fs))) (hrest : (st.map fun v => v.category).sum ≤ 8) (hC : Pt G kX0_makeRoll [.ref r, a1] mem (some (.int x)) P) (kk : ∀ m2 : xM, P m2 → E G kX3_rollInTrial R 0 0 m2 19 loc (.int x :: st)) : E G kX3_rollInTrial R 0 0 mem 16 loc (a1 :: .ref r :: st) := E_V1iP (k := kX3_rollInTrial) (k' := kX0_makeRoll) dX3_rollInTrial_16 rfl okX0_makeRoll wiX0_makeRoll wzX0_makeRoll wl_X3_71 ⟨Nat.le_of_ble_eq_true rfl, Nat.le_of_ble_eq_true rfl⟩ ⟨rfl, rfl⟩ ⟨Nat.zero_le _, Nat.zero_le _⟩ hrest hm rfl hC kk
theorem cp_X3_bestRoll_4 {x : Int32} {P : xM → Prop} (hm : mem[r]? = some (.inr (0, fs))) (hrest : (st.map fun v => v.category).sum ≤ 8) (hC : Pt G kX0_hasMover [.ref r] mem (some (.int x)) P) (kk : ∀ m2 : xM, P m2 → E G kX3_bestRoll R 0 0 m2 7 loc (.int x :: st)) : E G kX3_bestRoll R 0 0 mem 4 loc (.ref r :: st) := E_V0iP (k := kX3_bestRoll) (k' := kX0_hasMover) dX3_bestRoll_4 rfl okX0_hasMover wiX0_hasMover wzX0_hasMover wl_X3_80 ⟨Nat.le_of_ble_eq_true rfl, Nat.le_of_ble_eq_true rfl⟩ ⟨rfl, rfl⟩ ⟨Nat.zero_le _, Nat.zero_le _⟩ hrest hm rfl hC kk
theorem cp_X3_bestRoll_17 {a1 : Value} {x : Int32} {P : xM → Prop} (hm : mem[r]? = some (.inr (3, fs))) (hrest : (st.map fun v => v.category).sum ≤ 8) (hC : Pt G kX3_gainOfRoll [.ref r, a1] mem (some (.int x)) P) (kk : ∀ m2 : xM, P m2 → E G kX3_bestRoll R 0 0 m2 20 loc (.int x :: st)) : E G kX3_bestRoll R 0 0 mem 17 loc (a1 :: .ref r :: st) := E_V1iP (k := kX3_bestRoll) (k' := kX3_gainOfRoll) dX3_bestRoll_17 rfl okX3_gainOfRoll wiX3_gainOfRoll wzX3_gainOfRoll wl_X3_119 ⟨Nat.le_of_ble_eq_true rfl, Nat.le_of_ble_eq_true rfl⟩ ⟨rfl, rfl⟩ ⟨Nat.zero_le _, Nat.zero_le _⟩ hrest hm rfl hC kk
theorem cp_X3_bestRoll_31 {a1 : Value} {x : Int32} {P : xM → Prop} (hm : mem[r]? = some (.inr (3, fs))) (hrest : (st.map fun v => v.category).sum ≤ 8) (hC : Pt G kX3_gainOfRoll [.ref r, a1] mem (some (.int x)) P) (kk : ∀ m2 : xM, P m2 → E G kX3_bestRoll R 0 0 m2 34 loc (.int x :: st)) : E G kX3_bestRoll R 0 0 mem 31 loc (a1 :: .ref r :: st) := E_V1iP (k := kX3_bestRoll) (k' := kX3_gainOfRoll) dX3_bestRoll_31 rfl okX3_gainOfRoll wiX3_gainOfRoll wzX3_gainOfRoll wl_X3_119 ⟨Nat.le_of_ble_eq_true rfl, Nat.le_of_ble_eq_true rfl⟩ ⟨rfl, rfl⟩ ⟨Nat.zero_le _, Nat.zero_le _⟩ hrest hm rfl hC kk
theorem cp_X3_gainOfRoll_2 {a1 : Value} {x : Int32} {P : xM → Prop} (hm : mem[r]? = some (.inr (3, fs))) (hrest : (st.map fun v => v.category).sum ≤ 8) (hC : Pt G kX3_rollInTrial [.ref r, a1] mem (some (.int x)) P) (kk : ∀ m2 : xM, P m2 → E G kX3_gainOfRoll R 0 0 m2 5 loc (.int x :: st)) : E G kX3_gainOfRoll R 0 0 mem 2 loc (a1 :: .ref r :: st) := E_V1iP (k := kX3_gainOfRoll) (k' := kX3_rollInTrial) dX3_gainOfRoll_2 rfl okX3_rollInTrial wiX3_rollInTrial wzX3_rollInTrial wl_X3_107 ⟨Nat.le_of_ble_eq_true rfl, Nat.le_of_ble_eq_true rfl⟩ ⟨rfl, rfl⟩ ⟨Nat.zero_le _, Nat.zero_le _⟩ hrest hm rfl hC kk
theorem cp_X3_gainOfRoll_26 {a1 : Value} {x : Int32} {P : xM → Prop} (hm : mem[r]? = some (.inr (0, fs))) (hrest : (st.map fun v => v.category).sum ≤ 8) (hC : Pt G kX0_progressOf [.ref r, a1] mem (some (.int x)) P) (kk : ∀ m2 : xM, P m2 → E G kX3_gainOfRoll R 0 0 m2 29 loc (.int x :: st)) : E G kX3_gainOfRoll R 0 0 mem 26 loc (a1 :: .ref r :: st) := E_V1iP (k := kX3_gainOfRoll) (k' := kX0_progressOf) dX3_gainOfRoll_26 rfl okX0_progressOf wiX0_progressOf wzX0_progressOf wl_X3_156 ⟨Nat.le_of_ble_eq_true rfl, Nat.le_of_ble_eq_true rfl⟩ ⟨rfl, rfl⟩ ⟨Nat.zero_le _, Nat.zero_le _⟩ hrest hm rfl hC kk
theorem cp_X3_gainOfRoll_34 {a1 : Value} {x : Int32} {P : xM → Prop} (hm : mem[r]? = some (.inr (0, fs))) (hrest : (st.map fun v => v.category).sum ≤ 8) (hC : Pt G kX0_progressOf [.ref r, a1] mem (some (.int x)) P) (kk : ∀ m2 : xM, P m2 → E G kX3_gainOfRoll R 0 0 m2 37 loc (.int x :: st)) : E G kX3_gainOfRoll R 0 0 mem 34 loc (a1 :: .ref r :: st) := E_V1iP (k := kX3_gainOfRoll) (k' := kX0_progressOf) dX3_gainOfRoll_34 rfl okX0_progressOf wiX0_progressOf wzX0_progressOf wl_X3_156 ⟨Nat.le_of_ble_eq_true rfl, Nat.le_of_ble_eq_true rfl⟩ ⟨rfl, rfl⟩ ⟨Nat.zero_le _, Nat.zero_le _⟩ hrest hm rfl hC kk
theorem cp_X3_quietRolls_4 {x : Int32} {P : xM → Prop} (hm : mem[r]? = some (.inr (0, fs))) (hrest : (st.map fun v => v.category).sum ≤ 8) (hC : Pt G kX0_hasMover [.ref r] mem (some (.int x)) P) (kk : ∀ m2 : xM, P m2 → E G kX3_quietRolls R 0 0 m2 7 loc (.int x :: st)) : E G kX3_quietRolls R 0 0 mem 4 loc (.ref r :: st) := E_V0iP (k := kX3_quietRolls) (k' := kX0_hasMover) dX3_quietRolls_4 rfl okX0_hasMover wiX0_hasMover wzX0_hasMover wl_X3_80 ⟨Nat.le_of_ble_eq_true rfl, Nat.le_of_ble_eq_true rfl⟩ ⟨rfl, rfl⟩ ⟨Nat.zero_le _, Nat.zero_le _⟩ hrest hm rfl hC kk
theorem cp_X3_quietRolls_28 {a1 : Value} {x : Int32} {P : xM → Prop} (hm : mem[r]? = some (.inr (0, fs))) (hrest : (st.map fun v => v.category).sum ≤ 8) (hC : Pt G kX0_wouldLift [.ref r, a1] mem (some (.int x)) P) (kk : ∀ m2 : xM, P m2 → E G kX3_quietRolls R 0 0 m2 31 loc (.int x :: st)) : E G kX3_quietRolls R 0 0 mem 28 loc (a1 :: .ref r :: st) := E_V1iP (k := kX3_quietRolls) (k' := kX0_wouldLift) dX3_quietRolls_28 rfl okX0_wouldLift wiX0_wouldLift wzX0_wouldLift wl_X3_122 ⟨Nat.le_of_ble_eq_true rfl, Nat.le_of_ble_eq_true rfl⟩ ⟨rfl, rfl⟩ ⟨Nat.zero_le _, Nat.zero_le _⟩ hrest hm rfl hC kk
theorem cp_L_game_103 {a1 a2 : Value} {x : Int32} {P : xM → Prop} (hm : mem[r]? = some (.inr (3, fs))) (hrest : (st.map fun v => v.category).sum ≤ 8) (hcs : ce ≤ 6 ∧ sl ≤ 366) (hC : Pt G kX3_climber [.ref r, a1, a2] mem (some (.int x)) P) (kk : ∀ m2 : xM, P m2 → E G kL_game R ce sl m2 106 loc (.int x :: st)) : E G kL_game R ce sl mem 103 loc (a2 :: a1 :: .ref r :: st) := E_V2iP (k := kL_game) (k' := kX3_climber) dL_game_103 rfl okX3_climber wiX3_climber wzX3_climber wl_L_48 ⟨Nat.le_of_ble_eq_true rfl, Nat.le_of_ble_eq_true rfl⟩ ⟨rfl, rfl⟩ hcs hrest hm rfl hC kk
theorem cp_L_game_132 {a1 a2 : Value} {x : Int32} {P : xM → Prop} (hm : mem[r]? = some (.inr (3, fs))) (hrest : (st.map fun v => v.category).sum ≤ 8) (hcs : ce ≤ 6 ∧ sl ≤ 366) (hC : Pt G kX3_climber [.ref r, a1, a2] mem (some (.int x)) P) (kk : ∀ m2 : xM, P m2 → E G kL_game R ce sl m2 135 loc (.int x :: st)) : E G kL_game R ce sl mem 132 loc (a2 :: a1 :: .ref r :: st) := E_V2iP (k := kL_game) (k' := kX3_climber) dL_game_132 rfl okX3_climber wiX3_climber wzX3_climber wl_L_48 ⟨Nat.le_of_ble_eq_true rfl, Nat.le_of_ble_eq_true rfl⟩ ⟨rfl, rfl⟩ hcs hrest hm rfl hC kk
theorem cp_L_game_149 {a1 : Value} {x : Int32} {P : xM → Prop} (hm : mem[r]? = some (.inr (3, fs))) (hrest : (st.map fun v => v.category).sum ≤ 8) (hcs : ce ≤ 6 ∧ sl ≤ 366) (hC : Pt G kX3_rank [.ref r, a1] mem (some (.int x)) P) (kk : ∀ m2 : xM, P m2 → E G kL_game R ce sl m2 152 loc (.int x :: st)) : E G kL_game R ce sl mem 149 loc (a1 :: .ref r :: st) := E_V1iP (k := kL_game) (k' := kX3_rank) dL_game_149 rfl okX3_rank wiX3_rank wzX3_rank wl_L_51 ⟨Nat.le_of_ble_eq_true rfl, Nat.le_of_ble_eq_true rfl⟩ ⟨rfl, rfl⟩ hcs hrest hm rfl hC kk
theorem cp_L_game_160 {a1 : Value} {x : Int32} {P : xM → Prop} (hm : mem[r]? = some (.inr (3, fs))) (hrest : (st.map fun v => v.category).sum ≤ 8) (hcs : ce ≤ 6 ∧ sl ≤ 366) (hC : Pt G kX3_rollsToTop [.ref r, a1] mem (some (.int x)) P) (kk : ∀ m2 : xM, P m2 → E G kL_game R ce sl m2 163 loc (.int x :: st)) : E G kL_game R ce sl mem 160 loc (a1 :: .ref r :: st) := E_V1iP (k := kL_game) (k' := kX3_rollsToTop) dL_game_160 rfl okX3_rollsToTop wiX3_rollsToTop wzX3_rollsToTop wl_L_55 ⟨Nat.le_of_ble_eq_true rfl, Nat.le_of_ble_eq_true rfl⟩ ⟨rfl, rfl⟩ hcs hrest hm rfl hC kk
theorem cp_L_game_286 {a1 : Value} {x : Int32} {P : xM → Prop} (hm : mem[r]? = some (.inr (3, fs))) (hrest : (st.map fun v => v.category).sum ≤ 8) (hcs : ce ≤ 6 ∧ sl ≤ 366) (hC : Pt G kX3_on [.ref r, a1] mem (some (.int x)) P) (kk : ∀ m2 : xM, P m2 → E G kL_game R ce sl m2 289 loc (.int x :: st)) : E G kL_game R ce sl mem 286 loc (a1 :: .ref r :: st) := E_V1iP (k := kL_game) (k' := kX3_on) dL_game_286 rfl okX3_on wiX3_on wzX3_on wl_L_61 ⟨Nat.le_of_ble_eq_true rfl, Nat.le_of_ble_eq_true rfl⟩ ⟨rfl, rfl⟩ hcs hrest hm rfl hC kk
theorem cp_L_game_298 {a1 a2 : Value} {x : Int32} {P : xM → Prop} (hm : mem[r]? = some (.inr (3, fs))) (hrest : (st.map fun v => v.category).sum ≤ 8) (hcs : ce ≤ 6 ∧ sl ≤ 366) (hC : Pt G kX3_step [.ref r, a1, a2] mem (some (.int x)) P) (kk : ∀ m2 : xM, P m2 → E G kL_game R ce sl m2 301 loc (.int x :: st)) : E G kL_game R ce sl mem 298 loc (a2 :: a1 :: .ref r :: st) := E_V2iP (k := kL_game) (k' := kX3_step) dL_game_298 rfl okX3_step wiX3_step wzX3_step wl_L_64 ⟨Nat.le_of_ble_eq_true rfl, Nat.le_of_ble_eq_true rfl⟩ ⟨rfl, rfl⟩ hcs hrest hm rfl hC kk
theorem cp_L_game_312 {a1 a2 : Value} {x : Int32} {P : xM → Prop} (hm : mem[r]? = some (.inr (3, fs))) (hrest : (st.map fun v => v.category).sum ≤ 8) (hcs : ce ≤ 6 ∧ sl ≤ 366) (hC : Pt G kX3_step [.ref r, a1, a2] mem (some (.int x)) P) (kk : ∀ m2 : xM, P m2 → E G kL_game R ce sl m2 315 loc (.int x :: st)) : E G kL_game R ce sl mem 312 loc (a2 :: a1 :: .ref r :: st) := E_V2iP (k := kL_game) (k' := kX3_step) dL_game_312 rfl okX3_step wiX3_step wzX3_step wl_L_64 ⟨Nat.le_of_ble_eq_true rfl, Nat.le_of_ble_eq_true rfl⟩ ⟨rfl, rfl⟩ hcs hrest hm rfl hC kk
theorem cp_L_game_338 {a1 a2 : Value} {x : Int32} {P : xM → Prop} (hm : mem[r]? = some (.inr (3, fs))) (hrest : (st.map fun v => v.category).sum ≤ 8) (hcs : ce ≤ 6 ∧ sl ≤ 366) (hC : Pt G kX3_step [.ref r, a1, a2] mem (some (.int x)) P) (kk : ∀ m2 : xM, P m2 → E G kL_game R ce sl m2 341 loc (.int x :: st)) : E G kL_game R ce sl mem 338 loc (a2 :: a1 :: .ref r :: st) := E_V2iP (k := kL_game) (k' := kX3_step) dL_game_338 rfl okX3_step wiX3_step wzX3_step wl_L_64 ⟨Nat.le_of_ble_eq_true rfl, Nat.le_of_ble_eq_true rfl⟩ ⟨rfl, rfl⟩ hcs hrest hm rfl hC kk
theorem cp_L_game_355 {x : Int32} {P : xM → Prop} (hm : mem[r]? = some (.inr (3, fs))) (hrest : (st.map fun v => v.category).sum ≤ 8) (hcs : ce ≤ 6 ∧ sl ≤ 366) (hC : Pt G kX3_turn [.ref r] mem (some (.int x)) P) (kk : ∀ m2 : xM, P m2 → E G kL_game R ce sl m2 358 loc (.int x :: st)) : E G kL_game R ce sl mem 355 loc (.ref r :: st) := E_V0iP (k := kL_game) (k' := kX3_turn) dL_game_355 rfl okX3_turn wiX3_turn wzX3_turn wl_L_67 ⟨Nat.le_of_ble_eq_true rfl, Nat.le_of_ble_eq_true rfl⟩ ⟨rfl, rfl⟩ hcs hrest hm rfl hC kk
theorem cp_L_game_382 {a1 : Value} {x : Int32} {P : xM → Prop} (hm : mem[r]? = some (.inr (3, fs))) (hrest : (st.map fun v => v.category).sum ≤ 8) (hcs : ce ≤ 6 ∧ sl ≤ 366) (hC : Pt G kX3_rank [.ref r, a1] mem (some (.int x)) P) (kk : ∀ m2 : xM, P m2 → E G kL_game R ce sl m2 385 loc (.int x :: st)) : E G kL_game R ce sl mem 382 loc (a1 :: .ref r :: st) := E_V1iP (k := kL_game) (k' := kX3_rank) dL_game_382 rfl okX3_rank wiX3_rank wzX3_rank wl_L_51 ⟨Nat.le_of_ble_eq_true rfl, Nat.le_of_ble_eq_true rfl⟩ ⟨rfl, rfl⟩ hcs hrest hm rfl hC kk
theorem cp_L_game_392 {a1 : Value} {x : Int32} {P : xM → Prop} (hm : mem[r]? = some (.inr (3, fs))) (hrest : (st.map fun v => v.category).sum ≤ 8) (hcs : ce ≤ 6 ∧ sl ≤ 366) (hC : Pt G kX3_total [.ref r, a1] mem (some (.int x)) P) (kk : ∀ m2 : xM, P m2 → E G kL_game R ce sl m2 395 loc (.int x :: st)) : E G kL_game R ce sl mem 392 loc (a1 :: .ref r :: st) := E_V1iP (k := kL_game) (k' := kX3_total) dL_game_392 rfl okX3_total wiX3_total wzX3_total wl_L_70 ⟨Nat.le_of_ble_eq_true rfl, Nat.le_of_ble_eq_true rfl⟩ ⟨rfl, rfl⟩ hcs hrest hm rfl hC kk
theorem cp_L_game_404 {a1 : Value} {x : Int32} {P : xM → Prop} (hm : mem[r]? = some (.inr (3, fs))) (hrest : (st.map fun v => v.category).sum ≤ 8) (hcs : ce ≤ 6 ∧ sl ≤ 366) (hC : Pt G kX3_total [.ref r, a1] mem (some (.int x)) P) (kk : ∀ m2 : xM, P m2 → E G kL_game R ce sl m2 407 loc (.int x :: st)) : E G kL_game R ce sl mem 404 loc (a1 :: .ref r :: st) := E_V1iP (k := kL_game) (k' := kX3_total) dL_game_404 rfl okX3_total wiX3_total wzX3_total wl_L_70 ⟨Nat.le_of_ble_eq_true rfl, Nat.le_of_ble_eq_true rfl⟩ ⟨rfl, rfl⟩ hcs hrest hm rfl hC kk
theorem cp_L_game_416 {a1 : Value} {x : Int32} {P : xM → Prop} (hm : mem[r]? = some (.inr (3, fs))) (hrest : (st.map fun v => v.category).sum ≤ 8) (hcs : ce ≤ 6 ∧ sl ≤ 366) (hC : Pt G kX3_total [.ref r, a1] mem (some (.int x)) P) (kk : ∀ m2 : xM, P m2 → E G kL_game R ce sl m2 419 loc (.int x :: st)) : E G kL_game R ce sl mem 416 loc (a1 :: .ref r :: st) := E_V1iP (k := kL_game) (k' := kX3_total) dL_game_416 rfl okX3_total wiX3_total wzX3_total wl_L_70 ⟨Nat.le_of_ble_eq_true rfl, Nat.le_of_ble_eq_true rfl⟩ ⟨rfl, rfl⟩ hcs hrest hm rfl hC kk
theorem cp_L_game_426 {a1 : Value} {x : Int32} {P : xM → Prop} (hm : mem[r]? = some (.inr (3, fs))) (hrest : (st.map fun v => v.category).sum ≤ 8) (hcs : ce ≤ 6 ∧ sl ≤ 366) (hC : Pt G kX3_total [.ref r, a1] mem (some (.int x)) P) (kk : ∀ m2 : xM, P m2 → E G kL_game R ce sl m2 429 loc (.int x :: st)) : E G kL_game R ce sl mem 426 loc (a1 :: .ref r :: st) := E_V1iP (k := kL_game) (k' := kX3_total) dL_game_426 rfl okX3_total wiX3_total wzX3_total wl_L_70 ⟨Nat.le_of_ble_eq_true rfl, Nat.le_of_ble_eq_true rfl⟩ ⟨rfl, rfl⟩ hcs hrest hm rfl hC kk
theorem cp_L_game_438 {a1 : Value} {x : Int32} {P : xM → Prop} (hm : mem[r]? = some (.inr (3, fs))) (hrest : (st.map fun v => v.category).sum ≤ 8) (hcs : ce ≤ 6 ∧ sl ≤ 366) (hC : Pt G kX3_total [.ref r, a1] mem (some (.int x)) P) (kk : ∀ m2 : xM, P m2 → E G kL_game R ce sl m2 441 loc (.int x :: st)) : E G kL_game R ce sl mem 438 loc (a1 :: .ref r :: st) := E_V1iP (k := kL_game) (k' := kX3_total) dL_game_438 rfl okX3_total wiX3_total wzX3_total wl_L_70 ⟨Nat.le_of_ble_eq_true rfl, Nat.le_of_ble_eq_true rfl⟩ ⟨rfl, rfl⟩ hcs hrest hm rfl hC kk
theorem cp_L_game_450 {a1 : Value} {x : Int32} {P : xM → Prop} (hm : mem[r]? = some (.inr (3, fs))) (hrest : (st.map fun v => v.category).sum ≤ 8) (hcs : ce ≤ 6 ∧ sl ≤ 366) (hC : Pt G kX3_total [.ref r, a1] mem (some (.int x)) P) (kk : ∀ m2 : xM, P m2 → E G kL_game R ce sl m2 453 loc (.int x :: st)) : E G kL_game R ce sl mem 450 loc (a1 :: .ref r :: st) := E_V1iP (k := kL_game) (k' := kX3_total) dL_game_450 rfl okX3_total wiX3_total wzX3_total wl_L_70 ⟨Nat.le_of_ble_eq_true rfl, Nat.le_of_ble_eq_true rfl⟩ ⟨rfl, rfl⟩ hcs hrest hm rfl hC kk
theorem cp_L_game_463 {a1 : Value} {x : Int32} {P : xM → Prop} (hm : mem[r]? = some (.inr (3, fs))) (hrest : (st.map fun v => v.category).sum ≤ 8) (hcs : ce ≤ 6 ∧ sl ≤ 366) (hC : Pt G kX3_total [.ref r, a1] mem (some (.int x)) P) (kk : ∀ m2 : xM, P m2 → E G kL_game R ce sl m2 466 loc (.int x :: st)) : E G kL_game R ce sl mem 463 loc (a1 :: .ref r :: st) := E_V1iP (k := kL_game) (k' := kX3_total) dL_game_463 rfl okX3_total wiX3_total wzX3_total wl_L_70 ⟨Nat.le_of_ble_eq_true rfl, Nat.le_of_ble_eq_true rfl⟩ ⟨rfl, rfl⟩ hcs hrest hm rfl hC kk
theorem cp_L_game_476 {a1 : Value} {x : Int32} {P : xM → Prop} (hm : mem[r]? = some (.inr (3, fs))) (hrest : (st.map fun v => v.category).sum ≤ 8) (hcs : ce ≤ 6 ∧ sl ≤ 366) (hC : Pt G kX3_total [.ref r, a1] mem (some (.int x)) P) (kk : ∀ m2 : xM, P m2 → E G kL_game R ce sl m2 479 loc (.int x :: st)) : E G kL_game R ce sl mem 476 loc (a1 :: .ref r :: st) := E_V1iP (k := kL_game) (k' := kX3_total) dL_game_476 rfl okX3_total wiX3_total wzX3_total wl_L_70 ⟨Nat.le_of_ble_eq_true rfl, Nat.le_of_ble_eq_true rfl⟩ ⟨rfl, rfl⟩ hcs hrest hm rfl hC kk
theorem cp_L_game_491 {a1 : Value} {x : Int32} {P : xM → Prop} (hm : mem[r]? = some (.inr (3, fs))) (hrest : (st.map fun v => v.category).sum ≤ 8) (hcs : ce ≤ 6 ∧ sl ≤ 366) (hC : Pt G kX3_total [.ref r, a1] mem (some (.int x)) P) (kk : ∀ m2 : xM, P m2 → E G kL_game R ce sl m2 494 loc (.int x :: st)) : E G kL_game R ce sl mem 491 loc (a1 :: .ref r :: st) := E_V1iP (k := kL_game) (k' := kX3_total) dL_game_491 rfl okX3_total wiX3_total wzX3_total wl_L_70 ⟨Nat.le_of_ble_eq_true rfl, Nat.le_of_ble_eq_true rfl⟩ ⟨rfl, rfl⟩ hcs hrest hm rfl hC kk
theorem cp_L_game_508 {a1 a2 : Value} {x : Int32} {P : xM → Prop} (hm : mem[r]? = some (.inr (3, fs))) (hrest : (st.map fun v => v.category).sum ≤ 8) (hcs : ce ≤ 6 ∧ sl ≤ 366) (hC : Pt G kX3_step [.ref r, a1, a2] mem (some (.int x)) P) (kk : ∀ m2 : xM, P m2 → E G kL_game R ce sl m2 511 loc (.int x :: st)) : E G kL_game R ce sl mem 508 loc (a2 :: a1 :: .ref r :: st) := E_V2iP (k := kL_game) (k' := kX3_step) dL_game_508 rfl okX3_step wiX3_step wzX3_step wl_L_64 ⟨Nat.le_of_ble_eq_true rfl, Nat.le_of_ble_eq_true rfl⟩ ⟨rfl, rfl⟩ hcs hrest hm rfl hC kk
theorem cp_L_game_519 {a1 : Value} {x : Int32} {P : xM → Prop} (hm : mem[r]? = some (.inr (3, fs))) (hrest : (st.map fun v => v.category).sum ≤ 8) (hcs : ce ≤ 6 ∧ sl ≤ 366) (hC : Pt G kX3_on [.ref r, a1] mem (some (.int x)) P) (kk : ∀ m2 : xM, P m2 → E G kL_game R ce sl m2 522 loc (.int x :: st)) : E G kL_game R ce sl mem 519 loc (a1 :: .ref r :: st) := E_V1iP (k := kL_game) (k' := kX3_on) dL_game_519 rfl okX3_on wiX3_on wzX3_on wl_L_61 ⟨Nat.le_of_ble_eq_true rfl, Nat.le_of_ble_eq_true rfl⟩ ⟨rfl, rfl⟩ hcs hrest hm rfl hC kk
theorem cp_X3_climber_6 {a1 a2 : Value} {x : Int32} {P : xM → Prop} (hm : mem[r]? = some (.inr (0, fs))) (hrest : (st.map fun v => v.category).sum ≤ 8) (hC : Pt G kX0_partOfClimber [.ref r, a1, a2] mem (some (.int x)) P) (kk : ∀ m2 : xM, P m2 → E G kX3_climber R 0 0 m2 9 loc (.int x :: st)) : E G kX3_climber R 0 0 mem 6 loc (a2 :: a1 :: .ref r :: st) := E_V2iP (k := kX3_climber) (k' := kX0_partOfClimber) dX3_climber_6 rfl okX0_partOfClimber wiX0_partOfClimber wzX0_partOfClimber wl_X3_77 ⟨Nat.le_of_ble_eq_true rfl, Nat.le_of_ble_eq_true rfl⟩ ⟨rfl, rfl⟩ ⟨Nat.zero_le _, Nat.zero_le _⟩ hrest hm rfl hC kk
theorem cp_X3_rank_14 {a1 : Value} {x : Int32} {P : xM → Prop} (hm : mem[r]? = some (.inr (0, fs))) (hrest : (st.map fun v => v.category).sum ≤ 8) (hC : Pt G kX0_climberAtPlace [.ref r, a1] mem (some (.int x)) P) (kk : ∀ m2 : xM, P m2 → E G kX3_rank R 0 0 m2 17 loc (.int x :: st)) : E G kX3_rank R 0 0 mem 14 loc (a1 :: .ref r :: st) := E_V1iP (k := kX3_rank) (k' := kX0_climberAtPlace) dX3_rank_14 rfl okX0_climberAtPlace wiX0_climberAtPlace wzX0_climberAtPlace wl_X3_101 ⟨Nat.le_of_ble_eq_true rfl, Nat.le_of_ble_eq_true rfl⟩ ⟨rfl, rfl⟩ ⟨Nat.zero_le _, Nat.zero_le _⟩ hrest hm rfl hC kk
theorem cp_X3_rollsToTop_5 {a1 : Value} {x : Int32} {P : xM → Prop} (hm : mem[r]? = some (.inr (0, fs))) (hrest : (st.map fun v => v.category).sum ≤ 8) (hC : Pt G kX0_isClimber [.ref r, a1] mem (some (.int x)) P) (kk : ∀ m2 : xM, P m2 → E G kX3_rollsToTop R 0 0 m2 8 loc (.int x :: st)) : E G kX3_rollsToTop R 0 0 mem 5 loc (a1 :: .ref r :: st) := E_V1iP (k := kX3_rollsToTop) (k' := kX0_isClimber) dX3_rollsToTop_5 rfl okX0_isClimber wiX0_isClimber wzX0_isClimber wl_X3_125 ⟨Nat.le_of_ble_eq_true rfl, Nat.le_of_ble_eq_true rfl⟩ ⟨rfl, rfl⟩ ⟨Nat.zero_le _, Nat.zero_le _⟩ hrest hm rfl hC kk
theorem cp_X3_rollsToTop_16 {a1 : Value} {x : Int32} {P : xM → Prop} (hm : mem[r]? = some (.inr (0, fs))) (hrest : (st.map fun v => v.category).sum ≤ 8) (hC : Pt G kX0_fewestRollsOf [.ref r, a1] mem (some (.int x)) P) (kk : ∀ m2 : xM, P m2 → E G kX3_rollsToTop R 0 0 m2 19 loc (.int x :: st)) : E G kX3_rollsToTop R 0 0 mem 16 loc (a1 :: .ref r :: st) := E_V1iP (k := kX3_rollsToTop) (k' := kX0_fewestRollsOf) dX3_rollsToTop_16 rfl okX0_fewestRollsOf wiX0_fewestRollsOf wzX0_fewestRollsOf wl_X3_128 ⟨Nat.le_of_ble_eq_true rfl, Nat.le_of_ble_eq_true rfl⟩ ⟨rfl, rfl⟩ ⟨Nat.zero_le _, Nat.zero_le _⟩ hrest hm rfl hC kk
theorem cp_X3_on_5 {a1 : Value} {x : Int32} {P : xM → Prop} (hm : mem[r]? = some (.inr (0, fs))) (hrest : (st.map fun v => v.category).sum ≤ 8) (hC : Pt G kX0_isBelowTop [.ref r, a1] mem (some (.int x)) P) (kk : ∀ m2 : xM, P m2 → E G kX3_on R 0 0 m2 8 loc (.int x :: st)) : E G kX3_on R 0 0 mem 5 loc (a1 :: .ref r :: st) := E_V1iP (k := kX3_on) (k' := kX0_isBelowTop) dX3_on_5 rfl okX0_isBelowTop wiX0_isBelowTop wzX0_isBelowTop wl_X3_88 ⟨Nat.le_of_ble_eq_true rfl, Nat.le_of_ble_eq_true rfl⟩ ⟨rfl, rfl⟩ ⟨Nat.zero_le _, Nat.zero_le _⟩ hrest hm rfl hC kk
theorem cp_X3_on_16 {a1 : Value} {x : Int32} {P : xM → Prop} (hm : mem[r]? = some (.inr (0, fs))) (hrest : (st.map fun v => v.category).sum ≤ 8) (hC : Pt G kX0_climbersOn [.ref r, a1] mem (some (.int x)) P) (kk : ∀ m2 : xM, P m2 → E G kX3_on R 0 0 m2 19 loc (.int x :: st)) : E G kX3_on R 0 0 mem 16 loc (a1 :: .ref r :: st) := E_V1iP (k := kX3_on) (k' := kX0_climbersOn) dX3_on_16 rfl okX0_climbersOn wiX0_climbersOn wzX0_climbersOn wl_X3_92 ⟨Nat.le_of_ble_eq_true rfl, Nat.le_of_ble_eq_true rfl⟩ ⟨rfl, rfl⟩ ⟨Nat.zero_le _, Nat.zero_le _⟩ hrest hm rfl hC kk
theorem cp_X3_step_6 {a1 a2 : Value} {x : Int32} {P : xM → Prop} (hm : mem[r]? = some (.inr (0, fs))) (hrest : (st.map fun v => v.category).sum ≤ 8) (hC : Pt G kX0_partOfStep [.ref r, a1, a2] mem (some (.int x)) P) (kk : ∀ m2 : xM, P m2 → E G kX3_step R 0 0 m2 9 loc (.int x :: st)) : E G kX3_step R 0 0 mem 6 loc (a2 :: a1 :: .ref r :: st) := E_V2iP (k := kX3_step) (k' := kX0_partOfStep) dX3_step_6 rfl okX0_partOfStep wiX0_partOfStep wzX0_partOfStep wl_X3_95 ⟨Nat.le_of_ble_eq_true rfl, Nat.le_of_ble_eq_true rfl⟩ ⟨rfl, rfl⟩ ⟨Nat.zero_le _, Nat.zero_le _⟩ hrest hm rfl hC kk
theorem cp_X3_turn_4 {x : Int32} {P : xM → Prop} (hm : mem[r]? = some (.inr (0, fs))) (hrest : (st.map fun v => v.category).sum ≤ 8) (hC : Pt G kX0_hasMover [.ref r] mem (some (.int x)) P) (kk : ∀ m2 : xM, P m2 → E G kX3_turn R 0 0 m2 7 loc (.int x :: st)) : E G kX3_turn R 0 0 mem 4 loc (.ref r :: st) := E_V0iP (k := kX3_turn) (k' := kX0_hasMover) dX3_turn_4 rfl okX0_hasMover wiX0_hasMover wzX0_hasMover wl_X3_80 ⟨Nat.le_of_ble_eq_true rfl, Nat.le_of_ble_eq_true rfl⟩ ⟨rfl, rfl⟩ ⟨Nat.zero_le _, Nat.zero_le _⟩ hrest hm rfl hC kk
theorem cp_X3_total_5 {a1 : Value} {x : Int32} {P : xM → Prop} (hm : mem[r]? = some (.inr (0, fs))) (hrest : (st.map fun v => v.category).sum ≤ 8) (hC : Pt G kX0_totalOf [.ref r, a1] mem (some (.int x)) P) (kk : ∀ m2 : xM, P m2 → E G kX3_total R 0 0 m2 8 loc (.int x :: st)) : E G kX3_total R 0 0 mem 5 loc (a1 :: .ref r :: st) := E_V1iP (k := kX3_total) (k' := kX0_totalOf) dX3_total_5 rfl okX0_totalOf wiX0_totalOf wzX0_totalOf wl_X3_98 ⟨Nat.le_of_ble_eq_true rfl, Nat.le_of_ble_eq_true rfl⟩ ⟨rfl, rfl⟩ ⟨Nat.zero_le _, Nat.zero_le _⟩ hrest hm rfl hC kk
theorem cp_L_law_267 {x : Int32} {P : xM → Prop} (hm : mem[r]? = some (.inr (3, fs))) (hrest : (st.map fun v => v.category).sum ≤ 8) (hcs : ce ≤ 600000 ∧ sl ≤ 7302249) (hC : Pt G kX3_join [.ref r] mem (some (.int x)) P) (kk : ∀ m2 : xM, P m2 → E G kL_law R ce sl m2 270 loc (.int x :: st)) : E G kL_law R ce sl mem 267 loc (.ref r :: st) := E_V0iP (k := kL_law) (k' := kX3_join) dL_law_267 rfl okX3_join wiX3_join wzX3_join wl_L_85 ⟨Nat.le_of_ble_eq_true rfl, Nat.le_of_ble_eq_true rfl⟩ ⟨rfl, rfl⟩ hcs hrest hm rfl hC kk
theorem cp_L_law_419 {a1 : Value} {x : Int32} {P : xM → Prop} (hm : mem[r]? = some (.inr (3, fs))) (hrest : (st.map fun v => v.category).sum ≤ 8) (hcs : ce ≤ 600000 ∧ sl ≤ 7302249) (hC : Pt G kX3_setTop [.ref r, a1] mem (some (.int x)) P) (kk : ∀ m2 : xM, P m2 → E G kL_law R ce sl m2 422 loc (.int x :: st)) : E G kL_law R ce sl mem 419 loc (a1 :: .ref r :: st) := E_V1iP (k := kL_law) (k' := kX3_setTop) dL_law_419 rfl okX3_setTop wiX3_setTop wzX3_setTop wl_L_88 ⟨Nat.le_of_ble_eq_true rfl, Nat.le_of_ble_eq_true rfl⟩ ⟨rfl, rfl⟩ hcs hrest hm rfl hC kk
theorem cp_L_law_597 {a1 a2 : Value} {x : Int32} {P : xM → Prop} (hm : mem[r]? = some (.inr (3, fs))) (hrest : (st.map fun v => v.category).sum ≤ 8) (hcs : ce ≤ 600000 ∧ sl ≤ 7302249) (hC : Pt G kX3_lay [.ref r, a1, a2] mem (some (.int x)) P) (kk : ∀ m2 : xM, P m2 → E G kL_law R ce sl m2 600 loc (.int x :: st)) : E G kL_law R ce sl mem 597 loc (a2 :: a1 :: .ref r :: st) := E_V2iP (k := kL_law) (k' := kX3_lay) dL_law_597 rfl okX3_lay wiX3_lay wzX3_lay wl_L_91 ⟨Nat.le_of_ble_eq_true rfl, Nat.le_of_ble_eq_true rfl⟩ ⟨rfl, rfl⟩ hcs hrest hm rfl hC kk
theorem cp_L_law_652 {a1 : Value} {x : Int32} {P : xM → Prop} (hm : mem[r]? = some (.inr (3, fs))) (hrest : (st.map fun v => v.category).sum ≤ 8) (hcs : ce ≤ 600000 ∧ sl ≤ 7302249) (hC : Pt G kX3_take [.ref r, a1] mem (some (.int x)) P) (kk : ∀ m2 : xM, P m2 → E G kL_law R ce sl m2 655 loc (.int x :: st)) : E G kL_law R ce sl mem 652 loc (a1 :: .ref r :: st) := E_V1iP (k := kL_law) (k' := kX3_take) dL_law_652 rfl okX3_take wiX3_take wzX3_take wl_L_94 ⟨Nat.le_of_ble_eq_true rfl, Nat.le_of_ble_eq_true rfl⟩ ⟨rfl, rfl⟩ hcs hrest hm rfl hC kk
theorem cp_L_law_665 {a1 : Value} {x : Int32} {P : xM → Prop} (hm : mem[r]? = some (.inr (3, fs))) (hrest : (st.map fun v => v.category).sum ≤ 8) (hcs : ce ≤ 600000 ∧ sl ≤ 7302249) (hC : Pt G kX3_take [.ref r, a1] mem (some (.int x)) P) (kk : ∀ m2 : xM, P m2 → E G kL_law R ce sl m2 668 loc (.int x :: st)) : E G kL_law R ce sl mem 665 loc (a1 :: .ref r :: st) := E_V1iP (k := kL_law) (k' := kX3_take) dL_law_665 rfl okX3_take wiX3_take wzX3_take wl_L_94 ⟨Nat.le_of_ble_eq_true rfl, Nat.le_of_ble_eq_true rfl⟩ ⟨rfl, rfl⟩ hcs hrest hm rfl hC kk
theorem cp_L_law_748 {a1 : Value} {x : Int32} {P : xM → Prop} (hm : mem[r]? = some (.inr (3, fs))) (hrest : (st.map fun v => v.category).sum ≤ 8) (hcs : ce ≤ 600000 ∧ sl ≤ 7302249) (hC : Pt G kX3_put [.ref r, a1] mem (some (.int x)) P) (kk : ∀ m2 : xM, P m2 → E G kL_law R ce sl m2 751 loc (.int x :: st)) : E G kL_law R ce sl mem 748 loc (a1 :: .ref r :: st) := E_V1iP (k := kL_law) (k' := kX3_put) dL_law_748 rfl okX3_put wiX3_put wzX3_put wl_L_97 ⟨Nat.le_of_ble_eq_true rfl, Nat.le_of_ble_eq_true rfl⟩ ⟨rfl, rfl⟩ hcs hrest hm rfl hC kk
theorem cp_L_law_809 {a1 : Value} {x : Int32} {P : xM → Prop} (hm : mem[r]? = some (.inr (3, fs))) (hrest : (st.map fun v => v.category).sum ≤ 8) (hcs : ce ≤ 600000 ∧ sl ≤ 7302249) (hC : Pt G kX3_remove [.ref r, a1] mem (some (.int x)) P) (kk : ∀ m2 : xM, P m2 → E G kL_law R ce sl m2 812 loc (.int x :: st)) : E G kL_law R ce sl mem 809 loc (a1 :: .ref r :: st) := E_V1iP (k := kL_law) (k' := kX3_remove) dL_law_809 rfl okX3_remove wiX3_remove wzX3_remove wl_L_100 ⟨Nat.le_of_ble_eq_true rfl, Nat.le_of_ble_eq_true rfl⟩ ⟨rfl, rfl⟩ hcs hrest hm rfl hC kk
theorem cp_L_law_859 {x : Int32} {P : xM → Prop} (hm : mem[r]? = some (.inr (3, fs))) (hrest : (st.map fun v => v.category).sum ≤ 8) (hcs : ce ≤ 600000 ∧ sl ≤ 7302249) (hC : Pt G kX3_pass [.ref r] mem (some (.int x)) P) (kk : ∀ m2 : xM, P m2 → E G kL_law R ce sl m2 862 loc (.int x :: st)) : E G kL_law R ce sl mem 859 loc (.ref r :: st) := E_V0iP (k := kL_law) (k' := kX3_pass) dL_law_859 rfl okX3_pass wiX3_pass wzX3_pass wl_L_103 ⟨Nat.le_of_ble_eq_true rfl, Nat.le_of_ble_eq_true rfl⟩ ⟨rfl, rfl⟩ hcs hrest hm rfl hC kk
theorem cp_L_law_914 {a1 : Value} {x : Int32} {P : xM → Prop} (hm : mem[r]? = some (.inr (3, fs))) (hrest : (st.map fun v => v.category).sum ≤ 8) (hcs : ce ≤ 600000 ∧ sl ≤ 7302249) (hC : Pt G kX3_roll [.ref r, a1] mem (some (.int x)) P) (kk : ∀ m2 : xM, P m2 → E G kL_law R ce sl m2 917 loc (.int x :: st)) : E G kL_law R ce sl mem 914 loc (a1 :: .ref r :: st) := E_V1iP (k := kL_law) (k' := kX3_roll) dL_law_914 rfl okX3_roll wiX3_roll wzX3_roll wl_L_106 ⟨Nat.le_of_ble_eq_true rfl, Nat.le_of_ble_eq_true rfl⟩ ⟨rfl, rfl⟩ hcs hrest hm rfl hC kk
end L
end
section
/-! the state of a Game: le la pl tp rs tl lm sl top climbers mover rolls leftOut -/
abbrev gS : Type := (Nat → Int32) × (Nat → Int32) × (Nat → Int32) × (Nat → Int32) × (Nat → Int32) × (Nat → Int32) × (Nat → Int32) × (Nat → Int32) × Int32 × Int32 × Int32 × Int32 × Int32
abbrev g_le (S : gS) : Nat → Int32 := S.1
abbrev g_la (S : gS) : Nat → Int32 := S.2.1
abbrev g_pl (S : gS) : Nat → Int32 := S.2.2.1
abbrev g_tp (S : gS) : Nat → Int32 := S.2.2.2.1
abbrev g_rs (S : gS) : Nat → Int32 := S.2.2.2.2.1
abbrev g_tl (S : gS) : Nat → Int32 := S.2.2.2.2.2.1
abbrev g_lm (S : gS) : Nat → Int32 := S.2.2.2.2.2.2.1
abbrev g_sl (S : gS) : Nat → Int32 := S.2.2.2.2.2.2.2.1
abbrev g_top (S : gS) : Int32 := S.2.2.2.2.2.2.2.2.1
abbrev g_cl (S : gS) : Int32 := S.2.2.2.2.2.2.2.2.2.1
abbrev g_mv (S : gS) : Int32 := S.2.2.2.2.2.2.2.2.2.2.1
abbrev g_ro (S : gS) : Int32 := S.2.2.2.2.2.2.2.2.2.2.2.1
abbrev g_lo (S : gS) : Int32 := S.2.2.2.2.2.2.2.2.2.2.2.2
abbrev g_o (g : Nat) (S : gS) : va_E := .inr (0, [.ref (g + 1), .ref (g + 2), .ref (g + 3), .ref (g + 4), .ref (g + 5), .ref (g + 6), .ref (g + 7), .ref (g + 8), .int (g_top S), .int (g_cl S), .int (g_mv S), .int (g_ro S), .int (g_lo S)])
abbrev g_a (t n : Nat) (f : Nat → Int32) : va_E := .inl (t, n, .inl f)
def gCells (g : Nat) (S : gS) : List va_E := [g_o g S, g_a 0 60 (g_le S), g_a 1 60 (g_la S), g_a 0 6 (g_pl S), g_a 0 6 (g_tp S), g_a 0 6 (g_rs S), g_a 0 6 (g_tl S), g_a 0 6 (g_lm S), g_a 0 6 (g_sl S)]
def gAt (mem : xM) (g : Nat) (S : gS) : Prop := mem[g]? = some (g_o g S) ∧ mem[g + 1]? = some (g_a 0 60 (g_le S)) ∧ mem[g + 2]? = some (g_a 1 60 (g_la S)) ∧ mem[g + 3]? = some (g_a 0 6 (g_pl S)) ∧ mem[g + 4]? = some (g_a 0 6 (g_tp S)) ∧ mem[g + 5]? = some (g_a 0 6 (g_rs S)) ∧ mem[g + 6]? = some (g_a 0 6 (g_tl S)) ∧ mem[g + 7]? = some (g_a 0 6 (g_lm S)) ∧ mem[g + 8]? = some (g_a 0 6 (g_sl S))
/-- cells from g on written over -/
def x_seg (mem : xM) (g : Nat) (cs : List va_E) : xM := mem.take g ++ (cs ++ mem.drop (g + cs.length))
def gPut (mem : xM) (g : Nat) (S : gS) : xM := x_seg mem g (gCells g S)
theorem x_seg_len {mem : xM} {g : Nat} {cs : List va_E} (h : g + cs.length ≤ mem.length) : (x_seg mem g cs).length = mem.length := by
  simp only [x_seg, List.length_append, List.length_take, List.length_drop]
  omega
theorem x_seg_in {mem : xM} {g i : Nat} {cs : List va_E} (h : g + cs.length ≤ mem.length) (hi : i < cs.length) : (x_seg mem g cs)[g + i]? = cs[i]? := by
  have e : (mem.take g).length = g := by rw [List.length_take]; omega
  rw [x_seg, List.getElem?_append_right (by rw [e]; omega), e, show g + i - g = i by omega, List.getElem?_append_left hi]
theorem x_seg_lo {mem : xM} {g i : Nat} {cs : List va_E} (h : g + cs.length ≤ mem.length) (hi : i < g) : (x_seg mem g cs)[i]? = mem[i]? := by
  have e : (mem.take g).length = g := by rw [List.length_take]; omega
  rw [x_seg, List.getElem?_append_left (by rw [e]; omega), List.getElem?_take, if_pos hi]
theorem x_seg_hi {mem : xM} {g i : Nat} {cs : List va_E} (h : g + cs.length ≤ mem.length) (hi : g + cs.length ≤ i) : (x_seg mem g cs)[i]? = mem[i]? := by
  have e : (mem.take g).length = g := by rw [List.length_take]; omega
  rw [x_seg, List.getElem?_append_right (by rw [e]; omega), e, List.getElem?_append_right (by omega), List.getElem?_drop]
  congr 1
  omega
theorem x_seg_set {mem : xM} {g i : Nat} {cs : List va_E} {c : va_E} (h : g + cs.length ≤ mem.length) (hi : i < cs.length) : (x_seg mem g cs).set (g + i) c = x_seg mem g (cs.set i c) := by
  have e : (mem.take g).length = g := by rw [List.length_take]; omega
  rw [x_seg, List.set_append, if_neg (by rw [e]; omega), e, show g + i - g = i by omega, List.set_append, if_pos hi, x_seg, List.length_set]
theorem x_seg_seg {mem : xM} {g : Nat} {cs ds : List va_E} (h : g + cs.length ≤ mem.length) (hd : ds.length = cs.length) : x_seg (x_seg mem g cs) g ds = x_seg mem g ds := by
  apply List.ext_getElem?
  intro i
  have hl := x_seg_len h
  by_cases h1 : i < g
  · rw [x_seg_lo (by omega) h1, x_seg_lo h h1, x_seg_lo (by omega) h1]
  · by_cases h2 : i < g + ds.length
    · obtain ⟨j, rfl⟩ : ∃ j, i = g + j := ⟨i - g, by omega⟩
      rw [x_seg_in (by omega) (by omega), x_seg_in (by omega) (by omega)]
    · rw [x_seg_hi (by omega) (by omega), x_seg_hi h (by omega), x_seg_hi (by omega) (by omega)]
theorem gAt_len {mem : xM} {g : Nat} {S : gS} (h : gAt mem g S) : g + 9 ≤ mem.length := by
  have := (List.getElem?_eq_some_iff.mp h.2.2.2.2.2.2.2.2).1
  omega
theorem gAt_put {mem : xM} {g : Nat} {S : gS} (h : gAt mem g S) (S' : gS) : gAt (gPut mem g S') g S' := by
  have hl : g + (gCells g S').length ≤ mem.length := gAt_len h
  refine ⟨x_seg_in (i := 0) hl (Nat.le_of_ble_eq_true rfl), x_seg_in (i := 1) hl (Nat.le_of_ble_eq_true rfl), x_seg_in (i := 2) hl (Nat.le_of_ble_eq_true rfl), x_seg_in (i := 3) hl (Nat.le_of_ble_eq_true rfl), x_seg_in (i := 4) hl (Nat.le_of_ble_eq_true rfl), x_seg_in (i := 5) hl (Nat.le_of_ble_eq_true rfl), x_seg_in (i := 6) hl (Nat.le_of_ble_eq_true rfl), x_seg_in (i := 7) hl (Nat.le_of_ble_eq_true rfl), x_seg_in (i := 8) hl (Nat.le_of_ble_eq_true rfl)⟩
theorem gPut_put {mem : xM} {g : Nat} {S : gS} (h : gAt mem g S) (S1 S2 : gS) : gPut (gPut mem g S1) g S2 = gPut mem g S2 := x_seg_seg (gAt_len h) rfl
theorem gPut_len {mem : xM} {g : Nat} {S : gS} (h : gAt mem g S) (S1 : gS) : (gPut mem g S1).length = mem.length := x_seg_len (gAt_len h)
theorem gPut_self {mem : xM} {g : Nat} {S : gS} (h : gAt mem g S) : gPut mem g S = mem := by
  apply List.ext_getElem?
  intro i
  have hl : g + (gCells g S).length ≤ mem.length := gAt_len h
  by_cases h1 : i < g
  · exact x_seg_lo hl h1
  · by_cases h2 : i < g + 9
    · obtain ⟨j, rfl⟩ : ∃ j, i = g + j := ⟨i - g, by omega⟩
      have hj : j < 9 := by omega
      rw [gPut, x_seg_in hl hj]
      obtain ⟨a0, a1, a2, a3, a4, a5, a6, a7, a8⟩ := h
      match j, hj with
      | 0, _ => exact a0.symm
      | 1, _ => exact a1.symm
      | 2, _ => exact a2.symm
      | 3, _ => exact a3.symm
      | 4, _ => exact a4.symm
      | 5, _ => exact a5.symm
      | 6, _ => exact a6.symm
      | 7, _ => exact a7.symm
      | 8, _ => exact a8.symm
    · exact x_seg_hi hl (by show g + 9 ≤ i; omega)
theorem gPut_other {mem : xM} {g i : Nat} {S : gS} (h : gAt mem g S) (S1 : gS) (hi : i < g ∨ g + 9 ≤ i) : (gPut mem g S1)[i]? = mem[i]? := by
  have hl : g + (gCells g S1).length ≤ mem.length := gAt_len h
  rcases hi with hi | hi
  · exact x_seg_lo hl hi
  · exact x_seg_hi hl hi
/-- one cell of a game written: the game with the new state -/
theorem gSet {mem : xM} {g : Nat} {S : gS} (h : gAt mem g S) (S' : gS) (i : Nat) (c : va_E) (hi : i < 9) (he : (gCells g S).set i c = gCells g S') : mem.set (g + i) c = gPut mem g S' := by
  have hl : g + (gCells g S).length ≤ mem.length := gAt_len h
  calc mem.set (g + i) c = (gPut mem g S).set (g + i) c := by rw [gPut_self h]
    _ = x_seg mem g ((gCells g S).set i c) := x_seg_set hl hi
    _ = gPut mem g S' := by rw [he]; rfl
theorem gSet0 {mem : xM} {g : Nat} {S : gS} (h : gAt mem g S) (S' : gS) (c : va_E) (he : (gCells g S).set 0 c = gCells g S') : mem.set g c = gPut mem g S' := gSet h S' 0 c (by decide) he
theorem gSetP {mem : xM} {g : Nat} {S T : gS} {c : va_E} (h : gAt mem g S) (T' : gS) (i : Nat) (hi : i < 9) (he : (gCells g T).set i c = gCells g T') : (gPut mem g T).set (g + i) c = gPut mem g T' := by
  rw [gSet (gAt_put h T) T' i c hi he, gPut_put h]
theorem gSetP0 {mem : xM} {g : Nat} {S T : gS} {c : va_E} (h : gAt mem g S) (T' : gS) (he : (gCells g T).set 0 c = gCells g T') : (gPut mem g T).set g c = gPut mem g T' := gSetP h T' 0 (by decide) he
abbrev g_wLe (S : gS) (f : Nat → Int32) : gS := (f, S.2)
abbrev g_wLa (S : gS) (f : Nat → Int32) : gS := (S.1, f, S.2.2)
abbrev g_wPl (S : gS) (f : Nat → Int32) : gS := (S.1, S.2.1, f, S.2.2.2)
abbrev g_wTp (S : gS) (f : Nat → Int32) : gS := (S.1, S.2.1, S.2.2.1, f, S.2.2.2.2)
abbrev g_wRs (S : gS) (f : Nat → Int32) : gS := (S.1, S.2.1, S.2.2.1, S.2.2.2.1, f, S.2.2.2.2.2)
abbrev g_wTl (S : gS) (f : Nat → Int32) : gS := (S.1, S.2.1, S.2.2.1, S.2.2.2.1, S.2.2.2.2.1, f, S.2.2.2.2.2.2)
abbrev g_wLm (S : gS) (f : Nat → Int32) : gS := (S.1, S.2.1, S.2.2.1, S.2.2.2.1, S.2.2.2.2.1, S.2.2.2.2.2.1, f, S.2.2.2.2.2.2.2)
abbrev g_wSl (S : gS) (f : Nat → Int32) : gS := (S.1, S.2.1, S.2.2.1, S.2.2.2.1, S.2.2.2.2.1, S.2.2.2.2.2.1, S.2.2.2.2.2.2.1, f, S.2.2.2.2.2.2.2.2)
abbrev g_wO (S : gS) (a b c d e : Int32) : gS := (S.1, S.2.1, S.2.2.1, S.2.2.2.1, S.2.2.2.2.1, S.2.2.2.2.2.1, S.2.2.2.2.2.2.1, S.2.2.2.2.2.2.2.1, a, b, c, d, e)
/-! numbers -/
def b2i (p : Prop) [Decidable p] : Int32 := if p then 1 else 0
theorem b2i_t {p : Prop} [Decidable p] (h : p) : b2i p = 1 := if_pos h
theorem b2i_f {p : Prop} [Decidable p] (h : ¬ p) : b2i p = 0 := if_neg h
theorem b2i_0 {p : Prop} [Decidable p] : b2i p = 0 ↔ ¬ p := by
  unfold b2i
  by_cases h : p <;> simp [h]
theorem b2i_n0 {p : Prop} [Decidable p] : ¬ b2i p = 0 ↔ p := by
  unfold b2i
  by_cases h : p <;> simp [h]
theorem b2i_c {p q : Prop} [Decidable p] [Decidable q] (h : p ↔ q) : b2i p = b2i q := by
  unfold b2i
  by_cases hp : p
  · rw [if_pos hp, if_pos (h.mp hp)]
  · rw [if_neg hp, if_neg (fun hq => hp (h.mpr hq))]
theorem i_rng (x : Int32) : -2147483648 ≤ x.toInt ∧ x.toInt ≤ 2147483647 := by
  have a := x.le_toInt
  have b := x.toInt_lt
  omega
theorem i_add {x y : Int32} (h1 : -2147483648 ≤ x.toInt + y.toInt) (h2 : x.toInt + y.toInt ≤ 2147483647) : (x + y).toInt = x.toInt + y.toInt := by
  rw [Int32.toInt_add, Int.bmod_eq_of_le] <;> omega
theorem i_sub {x y : Int32} (h1 : -2147483648 ≤ x.toInt - y.toInt) (h2 : x.toInt - y.toInt ≤ 2147483647) : (x - y).toInt = x.toInt - y.toInt := by
  rw [Int32.toInt_sub, Int.bmod_eq_of_le] <;> omega
theorem i_mul {x y : Int32} (h1 : -2147483648 ≤ x.toInt * y.toInt) (h2 : x.toInt * y.toInt ≤ 2147483647) : (x * y).toInt = x.toInt * y.toInt := by
  rw [Int32.toInt_mul, Int.bmod_eq_of_le] <;> omega
theorem i_in {x : Int32} {n : Nat} (h1 : 0 ≤ x.toInt) (h2 : x.toInt < n) : vp_in x n := vp_in_iff.mpr ⟨h1, h2⟩
theorem i_cl {x : Int32} (h : 0 ≤ x.toInt) : (x.toNatClampNeg : Int) = x.toInt := by
  show ((x.toInt.toNat : Nat) : Int) = x.toInt
  omega
theorem i_nI {x : Int32} (h : 0 ≤ x.toInt) : x = nI x.toNatClampNeg := by
  have e := i_cl h
  have r := i_rng x
  rw [i_eq, nI_toInt (by omega)]
  omega
end
section
/-! methods of Game that read alone -/
theorem b2i_nar {p : Prop} [Decidable p] : narrow .boolean (.int (b2i p)) = .int (b2i p) := by
  unfold b2i
  by_cases h : p
  · rw [if_pos h]; decide
  · rw [if_neg h]; decide
theorem b2i_T0 {p : Prop} [Decidable p] : (b2i p).toInt = 0 ↔ ¬ p := by
  unfold b2i
  by_cases h : p <;> simp [h]
section G1
variable {G : xG} {mem : xM} {g : Nat} {S : gS}
abbrev g_below (S : gS) (x : Int32) : Prop := 0 ≤ x.toInt ∧ x.toInt < (g_top S).toInt
abbrev g_isCl (S : gS) (x : Int32) : Prop := 0 ≤ x.toInt ∧ x.toInt < (g_cl S).toInt
abbrev g_isLa (S : gS) (x : Int32) : Prop := (0 ≤ x.toInt ∧ x.toInt < (g_top S).toInt) ∧ (g_la S x.toNatClampNeg).toInt ≠ 0
abbrev g_isUp (S : gS) (x : Int32) : Prop := (0 ≤ x.toInt ∧ x.toInt < (g_top S).toInt) ∧ (g_le S x.toNatClampNeg).toInt ≠ -6
theorem c_isBelowTop (h : gAt mem g S) (x : Int32) : Dt G kX0_isBelowTop [.ref g, .int x] mem (some (.int (b2i (g_below S x)))) mem := by
  obtain ⟨a0, a1, a2, a3, a4, a5, a6, a7, a8⟩ := h
  refine Ct_of (by decide) (Nat.le_of_ble_eq_true rfl) ?_
  refine E_iload_n dX0_isBelowTop_0 (by rfl) ?_
  refine E_if_lt (tgt := 16) dX0_isBelowTop_1 (by decide) (fun q1 => ?_) (fun q1 => ?_)
  · refine E_iconst (v := 0) dX0_isBelowTop_16 (by decide) ?_
    refine E_iret dX0_isBelowTop_17 rfl (by decide) (Nat.zero_le _) (Nat.zero_le _) ?_
    first | exact ⟨by rw [b2i_t (by omega)], rfl⟩ | exact ⟨by rw [b2i_f (by omega)], rfl⟩
  · refine E_iload_n dX0_isBelowTop_4 (by rfl) ?_
    refine E_aload_n dX0_isBelowTop_5 (by rfl) ?_
    refine gf_X0_37 dX0_isBelowTop_6 rfl (by assumption) (by rfl) ?_
    refine E_icmp_ge (n := _) rfl (tgt := 16) dX0_isBelowTop_9 (by decide) (fun q9 => ?_) (fun q9 => ?_)
    · refine E_iconst (v := 0) dX0_isBelowTop_16 (by decide) ?_
      refine E_iret dX0_isBelowTop_17 rfl (by decide) (Nat.zero_le _) (Nat.zero_le _) ?_
      first | exact ⟨by rw [b2i_t (by omega)], rfl⟩ | exact ⟨by rw [b2i_f (by omega)], rfl⟩
    · refine E_iconst (v := 1) dX0_isBelowTop_12 (by decide) ?_
      refine E_goto (tgt := 17) dX0_isBelowTop_13 (by decide) ?_
      refine E_iret dX0_isBelowTop_17 rfl (by decide) (Nat.zero_le _) (Nat.zero_le _) ?_
      first | exact ⟨by rw [b2i_t (by omega)], rfl⟩ | exact ⟨by rw [b2i_f (by omega)], rfl⟩
theorem c_isClimber (h : gAt mem g S) (x : Int32) : Dt G kX0_isClimber [.ref g, .int x] mem (some (.int (b2i (g_isCl S x)))) mem := by
  obtain ⟨a0, a1, a2, a3, a4, a5, a6, a7, a8⟩ := h
  refine Ct_of (by decide) (Nat.le_of_ble_eq_true rfl) ?_
  refine E_iload_n dX0_isClimber_0 (by rfl) ?_
  refine E_if_lt (tgt := 16) dX0_isClimber_1 (by decide) (fun q1 => ?_) (fun q1 => ?_)
  · refine E_iconst (v := 0) dX0_isClimber_16 (by decide) ?_
    refine E_iret dX0_isClimber_17 rfl (by decide) (Nat.zero_le _) (Nat.zero_le _) ?_
    first | exact ⟨by rw [b2i_t (by omega)], rfl⟩ | exact ⟨by rw [b2i_f (by omega)], rfl⟩
  · refine E_iload_n dX0_isClimber_4 (by rfl) ?_
    refine E_aload_n dX0_isClimber_5 (by rfl) ?_
    refine gf_X0_41 dX0_isClimber_6 rfl (by assumption) (by rfl) ?_
    refine E_icmp_ge (n := _) rfl (tgt := 16) dX0_isClimber_9 (by decide) (fun q9 => ?_) (fun q9 => ?_)
    · refine E_iconst (v := 0) dX0_isClimber_16 (by decide) ?_
      refine E_iret dX0_isClimber_17 rfl (by decide) (Nat.zero_le _) (Nat.zero_le _) ?_
      first | exact ⟨by rw [b2i_t (by omega)], rfl⟩ | exact ⟨by rw [b2i_f (by omega)], rfl⟩
    · refine E_iconst (v := 1) dX0_isClimber_12 (by decide) ?_
      refine E_goto (tgt := 17) dX0_isClimber_13 (by decide) ?_
      refine E_iret dX0_isClimber_17 rfl (by decide) (Nat.zero_le _) (Nat.zero_le _) ?_
      first | exact ⟨by rw [b2i_t (by omega)], rfl⟩ | exact ⟨by rw [b2i_f (by omega)], rfl⟩
theorem c_hasMover (h : gAt mem g S) : Dt G kX0_hasMover [.ref g] mem (some (.int (b2i (g_isCl S (g_mv S))))) mem := by
  obtain ⟨a0, a1, a2, a3, a4, a5, a6, a7, a8⟩ := id h
  refine Ct_of (by decide) (Nat.le_of_ble_eq_true rfl) ?_
  refine E_aload_n dX0_hasMover_0 (by rfl) ?_
  refine E_aload_n dX0_hasMover_1 (by rfl) ?_
  refine gf_X0_44 dX0_hasMover_2 rfl (by assumption) (by rfl) ?_
  refine cs_X0_hasMover_5 (by assumption) (Nat.le_of_ble_eq_true rfl) (c_isClimber h _) ?_
  refine E_iret dX0_hasMover_8 rfl b2i_nar (Nat.zero_le _) (Nat.zero_le _) ?_
  exact ⟨rfl, rfl⟩
theorem c_isLanding (h : gAt mem g S) (ht : (g_top S).toInt ≤ 60) (x : Int32) : Dt G kX0_isLanding [.ref g, .int x] mem (some (.int (b2i (g_isLa S x)))) mem := by
  obtain ⟨a0, a1, a2, a3, a4, a5, a6, a7, a8⟩ := id h
  refine Ct_of (by decide) (Nat.le_of_ble_eq_true rfl) ?_
  refine E_iload_n dX0_isLanding_0 (by rfl) ?_
  refine E_if_lt (tgt := 25) dX0_isLanding_1 (by decide) (fun q1 => ?_) (fun q1 => ?_)
  · refine E_iconst (v := 0) dX0_isLanding_25 (by decide) ?_
    refine E_iret dX0_isLanding_26 rfl (by decide) (Nat.zero_le _) (Nat.zero_le _) ?_
    first | exact ⟨by rw [b2i_t (by omega)], rfl⟩ | exact ⟨by rw [b2i_f (by omega)], rfl⟩
  · refine E_iload_n dX0_isLanding_4 (by rfl) ?_
    refine E_aload_n dX0_isLanding_5 (by rfl) ?_
    refine gf_X0_37 dX0_isLanding_6 rfl (by assumption) (by rfl) ?_
    refine E_icmp_ge (n := _) rfl (tgt := 25) dX0_isLanding_9 (by decide) (fun q9 => ?_) (fun q9 => ?_)
    · refine E_iconst (v := 0) dX0_isLanding_25 (by decide) ?_
      refine E_iret dX0_isLanding_26 rfl (by decide) (Nat.zero_le _) (Nat.zero_le _) ?_
      first | exact ⟨by rw [b2i_t (by omega)], rfl⟩ | exact ⟨by rw [b2i_f (by omega)], rfl⟩
    · refine E_aload_n dX0_isLanding_12 (by rfl) ?_
      refine gf_X0_15 dX0_isLanding_13 rfl (by assumption) (by rfl) ?_
      refine E_iload_n dX0_isLanding_16 (by rfl) ?_
      refine E_zald dX0_isLanding_17 (by assumption) (i_in (by omega) (by omega)) ?_
      refine E_if_eq (tgt := 25) dX0_isLanding_18 (by decide) (fun q18 => ?_) (fun q18 => ?_)
      · refine E_iconst (v := 0) dX0_isLanding_25 (by decide) ?_
        refine E_iret dX0_isLanding_26 rfl (by decide) (Nat.zero_le _) (Nat.zero_le _) ?_
        first | exact ⟨by rw [b2i_t (by omega)], rfl⟩ | exact ⟨by rw [b2i_f (by omega)], rfl⟩
      · refine E_iconst (v := 1) dX0_isLanding_21 (by decide) ?_
        refine E_goto (tgt := 26) dX0_isLanding_22 (by decide) ?_
        refine E_iret dX0_isLanding_26 rfl (by decide) (Nat.zero_le _) (Nat.zero_le _) ?_
        first | exact ⟨by rw [b2i_t (by omega)], rfl⟩ | exact ⟨by rw [b2i_f (by omega)], rfl⟩
theorem c_isUpperEnd (h : gAt mem g S) (ht : (g_top S).toInt ≤ 60) (x : Int32) : Dt G kX0_isUpperEnd [.ref g, .int x] mem (some (.int (b2i (g_isUp S x)))) mem := by
  obtain ⟨a0, a1, a2, a3, a4, a5, a6, a7, a8⟩ := id h
  refine Ct_of (by decide) (Nat.le_of_ble_eq_true rfl) ?_
  refine E_iload_n dX0_isUpperEnd_0 (by rfl) ?_
  refine E_if_lt (tgt := 27) dX0_isUpperEnd_1 (by decide) (fun q1 => ?_) (fun q1 => ?_)
  · refine E_iconst (v := 0) dX0_isUpperEnd_27 (by decide) ?_
    refine E_iret dX0_isUpperEnd_28 rfl (by decide) (Nat.zero_le _) (Nat.zero_le _) ?_
    first | exact ⟨by rw [b2i_t (by omega)], rfl⟩ | exact ⟨by rw [b2i_f (by omega)], rfl⟩
  · refine E_iload_n dX0_isUpperEnd_4 (by rfl) ?_
    refine E_aload_n dX0_isUpperEnd_5 (by rfl) ?_
    refine gf_X0_37 dX0_isUpperEnd_6 rfl (by assumption) (by rfl) ?_
    refine E_icmp_ge (n := _) rfl (tgt := 27) dX0_isUpperEnd_9 (by decide) (fun q9 => ?_) (fun q9 => ?_)
    · refine E_iconst (v := 0) dX0_isUpperEnd_27 (by decide) ?_
      refine E_iret dX0_isUpperEnd_28 rfl (by decide) (Nat.zero_le _) (Nat.zero_le _) ?_
      first | exact ⟨by rw [b2i_t (by omega)], rfl⟩ | exact ⟨by rw [b2i_f (by omega)], rfl⟩
    · refine E_aload_n dX0_isUpperEnd_12 (by rfl) ?_
      refine gf_X0_9 dX0_isUpperEnd_13 rfl (by assumption) (by rfl) ?_
      refine E_iload_n dX0_isUpperEnd_16 (by rfl) ?_
      refine E_iald dX0_isUpperEnd_17 (by assumption) (i_in (by omega) (by omega)) ?_
      refine E_bipush (v := (-6)) dX0_isUpperEnd_18 (by decide) ?_
      refine E_icmp_eq (n := (-6)) (by decide) (tgt := 27) dX0_isUpperEnd_20 (by decide) (fun q20 => ?_) (fun q20 => ?_)
      · refine E_iconst (v := 0) dX0_isUpperEnd_27 (by decide) ?_
        refine E_iret dX0_isUpperEnd_28 rfl (by decide) (Nat.zero_le _) (Nat.zero_le _) ?_
        first | exact ⟨by rw [b2i_t (by omega)], rfl⟩ | exact ⟨by rw [b2i_f (by omega)], rfl⟩
      · refine E_iconst (v := 1) dX0_isUpperEnd_23 (by decide) ?_
        refine E_goto (tgt := 28) dX0_isUpperEnd_24 (by decide) ?_
        refine E_iret dX0_isUpperEnd_28 rfl (by decide) (Nat.zero_le _) (Nat.zero_le _) ?_
        first | exact ⟨by rw [b2i_t (by omega)], rfl⟩ | exact ⟨by rw [b2i_f (by omega)], rfl⟩
theorem c_behind (h : gAt mem g S) (x : Int32) : Dt G kX0_behind [.ref g, .int x] mem (some (.int (if g_isCl S (x + 1) then x + 1 else 0))) mem := by
  obtain ⟨a0, a1, a2, a3, a4, a5, a6, a7, a8⟩ := id h
  refine Ct_of (by decide) (Nat.le_of_ble_eq_true rfl) ?_
  refine E_aload_n dX0_behind_0 (by rfl) ?_
  refine E_iload_n dX0_behind_1 (by rfl) ?_
  refine E_iconst (v := 1) dX0_behind_2 (by decide) ?_
  refine E_iadd dX0_behind_3 ?_
  refine cs_X0_behind_4 (by assumption) (Nat.le_of_ble_eq_true rfl) (c_isClimber h _) ?_
  refine E_if_eq (tgt := 16) dX0_behind_7 (by decide) (fun q7 => ?_) (fun q7 => ?_)
  · refine E_iconst (v := 0) dX0_behind_16 (by decide) ?_
    refine E_iret dX0_behind_17 rfl rfl (Nat.zero_le _) (Nat.zero_le _) ?_
    rw [b2i_T0] at q7
    first | exact ⟨by rw [if_neg q7], rfl⟩ | exact ⟨by rw [if_pos (Classical.not_not.mp q7)], rfl⟩
  · refine E_iload_n dX0_behind_10 (by rfl) ?_
    refine E_iconst (v := 1) dX0_behind_11 (by decide) ?_
    refine E_iadd dX0_behind_12 ?_
    refine E_goto (tgt := 17) dX0_behind_13 (by decide) ?_
    refine E_iret dX0_behind_17 rfl rfl (Nat.zero_le _) (Nat.zero_le _) ?_
    rw [b2i_T0] at q7
    first | exact ⟨by rw [if_neg q7], rfl⟩ | exact ⟨by rw [if_pos (Classical.not_not.mp q7)], rfl⟩
end G1
end
section
/-! loops of Game that read alone -/
/-- the climbers on a step, of the first n -/
def sOn (pl : Nat → Int32) (x : Int32) : Nat → Int32
  | 0 => 0
  | c + 1 => if (pl c).toInt = x.toInt then sOn pl x c ||| (1 <<< (nI c &&& 31)) else sOn pl x c
/-- how many of the first n are so -/
def sCn (p : Nat → Prop) [DecidablePred p] : Nat → Int32
  | 0 => 0
  | c + 1 => if p c then sCn p c + 1 else sCn p c
def sSm (f : Nat → Int32) : Nat → Int32
  | 0 => 0
  | c + 1 => sSm f c + f c
section G2
variable {G : xG} {mem : xM} {g : Nat} {S : gS} {t n : Nat}
theorem c_climbersOn (h : gAt mem g S) (hc : g_cl S = nI n) (hn : n ≤ 6) (x : Int32) : Dt G kX0_climbersOn [.ref g, .int x] mem (some (.int (sOn (g_pl S) x n))) mem := by
  obtain ⟨a0, a1, a2, a3, a4, a5, a6, a7, a8⟩ := id h
  have hc' : (g_cl S).toInt = (n : Int) := by rw [hc]; exact nI_toInt (by omega)
  refine Ct_of (by decide) (Nat.le_of_ble_eq_true rfl) ?_
  have loop : ∀ di i : Nat, n < i + di → i ≤ n → E G kX0_climbersOn (x_R (some (.int (sOn (g_pl S) x n))) mem) 0 0 (mem) 4 (x_L [(0, .ref g), (1, .int x), (2, .int (sOn (g_pl S) x i)), (3, .int (nI i))]) [] := by
    intro di
    induction di with
    | zero => intro i hi1 hi2; exact absurd hi1 (by omega)
    | succ di ihi =>
      intro i hi1 hi2
      have ei : (nI i).toInt = (i : Int) := nI_toInt (by omega)
      have eci : (nI i).toNatClampNeg = i := nI_clamp (by omega)
      refine E_iload_n dX0_climbersOn_4 (by rfl) ?_
      refine E_aload_n dX0_climbersOn_5 (by rfl) ?_
      refine gf_X0_41 dX0_climbersOn_6 rfl (by assumption) (by rfl) ?_
      refine E_icmp_ge (n := _) rfl (tgt := 34) dX0_climbersOn_9 (by decide) (fun q9 => ?_) (fun q9 => ?_)
      · refine E_iload_n dX0_climbersOn_34 (by rfl) ?_
        refine E_iret dX0_climbersOn_35 rfl rfl (Nat.zero_le _) (Nat.zero_le _) ?_
        exact x_leaf (by rw [show i = n by omega])
      · refine E_aload_n dX0_climbersOn_12 (by rfl) ?_
        refine gf_X0_19 dX0_climbersOn_13 rfl (by assumption) (by rfl) ?_
        refine E_iload_n dX0_climbersOn_16 (by rfl) ?_
        refine E_iald dX0_climbersOn_17 (by assumption) (i_in (by omega) (by omega)) ?_
        refine E_iload_n dX0_climbersOn_18 (by rfl) ?_
        refine E_icmp_ne (n := _) rfl (tgt := 28) dX0_climbersOn_19 (by decide) (fun q19 => ?_) (fun q19 => ?_)
        · rw [eci] at q19
          refine E_iinc (d := 1) dX0_climbersOn_28 (by rfl) (by decide) (Nat.le_of_ble_eq_true rfl) (by rfl) ?_
          refine E_goto (tgt := 4) dX0_climbersOn_31 (by decide) ?_
          exact E_loc [(0, .ref g), (1, .int x), (2, .int (sOn (g_pl S) x (i + 1))), (3, .int (nI (i + 1)))] ⟨rfl, rfl, x_i (by simp only [sOn]; first | rw [if_pos q19] | rw [if_neg q19]), x_i (by first | exact nI_1 _ | decide), trivial⟩ (ihi (i + 1) (by omega) (by omega))
        · refine E_iload_n dX0_climbersOn_22 (by rfl) ?_
          refine E_iconst (v := 1) dX0_climbersOn_23 (by decide) ?_
          refine E_iload_n dX0_climbersOn_24 (by rfl) ?_
          refine E_ishl dX0_climbersOn_25 ?_
          refine E_ior dX0_climbersOn_26 ?_
          refine E_istore_n dX0_climbersOn_27 (Nat.le_of_ble_eq_true rfl) (by rfl) ?_
          rw [eci] at q19
          refine E_iinc (d := 1) dX0_climbersOn_28 (by rfl) (by decide) (Nat.le_of_ble_eq_true rfl) (by rfl) ?_
          refine E_goto (tgt := 4) dX0_climbersOn_31 (by decide) ?_
          exact E_loc [(0, .ref g), (1, .int x), (2, .int (sOn (g_pl S) x (i + 1))), (3, .int (nI (i + 1)))] ⟨rfl, rfl, x_i (by simp only [sOn]; first | rw [if_pos q19] | rw [if_neg q19]), x_i (by first | exact nI_1 _ | decide), trivial⟩ (ihi (i + 1) (by omega) (by omega))
  refine E_iconst (v := 0) dX0_climbersOn_0 (by decide) ?_
  refine E_istore_n dX0_climbersOn_1 (Nat.le_of_ble_eq_true rfl) (by rfl) ?_
  refine E_iconst (v := 0) dX0_climbersOn_2 (by decide) ?_
  refine E_istore_n dX0_climbersOn_3 (Nat.le_of_ble_eq_true rfl) (by rfl) ?_
  exact E_loc [(0, .ref g), (1, .int x), (2, .int (sOn (g_pl S) x 0)), (3, .int (nI 0))] ⟨rfl, rfl, x_i (by rfl), x_i (by first | rfl | decide), trivial⟩ (loop (n + 1) 0 (by omega) (by omega))
abbrev g_up (le : Nat → Int32) (s : Nat) : Prop := (le s).toInt ≠ -6
theorem c_countCarpets (h : gAt mem g S) (ht : g_top S = nI t) (ht60 : t ≤ 60) : Dt G kX0_countCarpets [.ref g] mem (some (.int (sCn (g_up (g_le S)) t))) mem := by
  obtain ⟨a0, a1, a2, a3, a4, a5, a6, a7, a8⟩ := id h
  have ht' : (g_top S).toInt = (t : Int) := by rw [ht]; exact nI_toInt (by omega)
  refine Ct_of (by decide) (Nat.le_of_ble_eq_true rfl) ?_
  have loop : ∀ di i : Nat, t < i + di → i ≤ t → E G kX0_countCarpets (x_R (some (.int (sCn (g_up (g_le S)) t))) mem) 0 0 (mem) 4 (x_L [(0, .ref g), (1, .int (sCn (g_up (g_le S)) i)), (2, .int (nI i))]) [] := by
    intro di
    induction di with
    | zero => intro i hi1 hi2; exact absurd hi1 (by omega)
    | succ di ihi =>
      intro i hi1 hi2
      have ei : (nI i).toInt = (i : Int) := nI_toInt (by omega)
      have eci : (nI i).toNatClampNeg = i := nI_clamp (by omega)
      refine E_iload_n dX0_countCarpets_4 (by rfl) ?_
      refine E_aload_n dX0_countCarpets_5 (by rfl) ?_
      refine gf_X0_37 dX0_countCarpets_6 rfl (by assumption) (by rfl) ?_
      refine E_icmp_ge (n := _) rfl (tgt := 29) dX0_countCarpets_9 (by decide) (fun q9 => ?_) (fun q9 => ?_)
      · refine E_iload_n dX0_countCarpets_29 (by rfl) ?_
        refine E_iret dX0_countCarpets_30 rfl rfl (Nat.zero_le _) (Nat.zero_le _) ?_
        exact x_leaf (by rw [show i = t by omega])
      · refine E_aload_n dX0_countCarpets_12 (by rfl) ?_
        refine E_iload_n dX0_countCarpets_13 (by rfl) ?_
        refine cs_X0_countCarpets_14 (by assumption) (Nat.le_of_ble_eq_true rfl) (c_isUpperEnd h (by omega) _) ?_
        refine E_if_eq (tgt := 23) dX0_countCarpets_17 (by decide) (fun q17 => ?_) (fun q17 => ?_)
        · rw [b2i_T0] at q17; simp only [g_isUp, eci] at q17
          refine E_iinc (d := 1) dX0_countCarpets_23 (by rfl) (by decide) (Nat.le_of_ble_eq_true rfl) (by rfl) ?_
          refine E_goto (tgt := 4) dX0_countCarpets_26 (by decide) ?_
          exact E_loc [(0, .ref g), (1, .int (sCn (g_up (g_le S)) (i + 1))), (2, .int (nI (i + 1)))] ⟨rfl, x_i (by simp only [sCn]; first | rw [if_pos (fun hh => q17 (fun h2 => h2.2 hh))] | rw [if_neg (fun hh => q17 ⟨⟨by omega, by omega⟩, hh⟩)]), x_i (by first | exact nI_1 _ | decide), trivial⟩ (ihi (i + 1) (by omega) (by omega))
        · refine E_iinc (d := 1) dX0_countCarpets_20 (by rfl) (by decide) (Nat.le_of_ble_eq_true rfl) (by rfl) ?_
          rw [b2i_T0] at q17; simp only [g_isUp, eci] at q17
          refine E_iinc (d := 1) dX0_countCarpets_23 (by rfl) (by decide) (Nat.le_of_ble_eq_true rfl) (by rfl) ?_
          refine E_goto (tgt := 4) dX0_countCarpets_26 (by decide) ?_
          exact E_loc [(0, .ref g), (1, .int (sCn (g_up (g_le S)) (i + 1))), (2, .int (nI (i + 1)))] ⟨rfl, x_i (by simp only [sCn]; first | rw [if_pos (fun hh => q17 (fun h2 => h2.2 hh))] | rw [if_neg (fun hh => q17 ⟨⟨by omega, by omega⟩, hh⟩)]), x_i (by first | exact nI_1 _ | decide), trivial⟩ (ihi (i + 1) (by omega) (by omega))
  refine E_iconst (v := 0) dX0_countCarpets_0 (by decide) ?_
  refine E_istore_n dX0_countCarpets_1 (Nat.le_of_ble_eq_true rfl) (by rfl) ?_
  refine E_iconst (v := 0) dX0_countCarpets_2 (by decide) ?_
  refine E_istore_n dX0_countCarpets_3 (Nat.le_of_ble_eq_true rfl) (by rfl) ?_
  exact E_loc [(0, .ref g), (1, .int (sCn (g_up (g_le S)) 0)), (2, .int (nI 0))] ⟨rfl, x_i (by rfl), x_i (by first | rfl | decide), trivial⟩ (loop (t + 1) 0 (by omega) (by omega))
abbrev g_lan (la : Nat → Int32) (s : Nat) : Prop := (la s).toInt ≠ 0
theorem c_countLandings (h : gAt mem g S) (ht : g_top S = nI t) (ht60 : t ≤ 60) : Dt G kX0_countLandings [.ref g] mem (some (.int (sCn (g_lan (g_la S)) t))) mem := by
  obtain ⟨a0, a1, a2, a3, a4, a5, a6, a7, a8⟩ := id h
  have ht' : (g_top S).toInt = (t : Int) := by rw [ht]; exact nI_toInt (by omega)
  refine Ct_of (by decide) (Nat.le_of_ble_eq_true rfl) ?_
  have loop : ∀ di i : Nat, t < i + di → i ≤ t → E G kX0_countLandings (x_R (some (.int (sCn (g_lan (g_la S)) t))) mem) 0 0 (mem) 4 (x_L [(0, .ref g), (1, .int (sCn (g_lan (g_la S)) i)), (2, .int (nI i))]) [] := by
    intro di
    induction di with
    | zero => intro i hi1 hi2; exact absurd hi1 (by omega)
    | succ di ihi =>
      intro i hi1 hi2
      have ei : (nI i).toInt = (i : Int) := nI_toInt (by omega)
      have eci : (nI i).toNatClampNeg = i := nI_clamp (by omega)
      refine E_iload_n dX0_countLandings_4 (by rfl) ?_
      refine E_aload_n dX0_countLandings_5 (by rfl) ?_
      refine gf_X0_37 dX0_countLandings_6 rfl (by assumption) (by rfl) ?_
      refine E_icmp_ge (n := _) rfl (tgt := 29) dX0_countLandings_9 (by decide) (fun q9 => ?_) (fun q9 => ?_)
      · refine E_iload_n dX0_countLandings_29 (by rfl) ?_
        refine E_iret dX0_countLandings_30 rfl rfl (Nat.zero_le _) (Nat.zero_le _) ?_
        exact x_leaf (by rw [show i = t by omega])
      · refine E_aload_n dX0_countLandings_12 (by rfl) ?_
        refine E_iload_n dX0_countLandings_13 (by rfl) ?_
        refine cs_X0_countLandings_14 (by assumption) (Nat.le_of_ble_eq_true rfl) (c_isLanding h (by omega) _) ?_
        refine E_if_eq (tgt := 23) dX0_countLandings_17 (by decide) (fun q17 => ?_) (fun q17 => ?_)
        · rw [b2i_T0] at q17; simp only [g_isLa, eci] at q17
          refine E_iinc (d := 1) dX0_countLandings_23 (by rfl) (by decide) (Nat.le_of_ble_eq_true rfl) (by rfl) ?_
          refine E_goto (tgt := 4) dX0_countLandings_26 (by decide) ?_
          exact E_loc [(0, .ref g), (1, .int (sCn (g_lan (g_la S)) (i + 1))), (2, .int (nI (i + 1)))] ⟨rfl, x_i (by simp only [sCn]; first | rw [if_pos (fun hh => q17 (fun h2 => h2.2 hh))] | rw [if_neg (fun hh => q17 ⟨⟨by omega, by omega⟩, hh⟩)]), x_i (by first | exact nI_1 _ | decide), trivial⟩ (ihi (i + 1) (by omega) (by omega))
        · refine E_iinc (d := 1) dX0_countLandings_20 (by rfl) (by decide) (Nat.le_of_ble_eq_true rfl) (by rfl) ?_
          rw [b2i_T0] at q17; simp only [g_isLa, eci] at q17
          refine E_iinc (d := 1) dX0_countLandings_23 (by rfl) (by decide) (Nat.le_of_ble_eq_true rfl) (by rfl) ?_
          refine E_goto (tgt := 4) dX0_countLandings_26 (by decide) ?_
          exact E_loc [(0, .ref g), (1, .int (sCn (g_lan (g_la S)) (i + 1))), (2, .int (nI (i + 1)))] ⟨rfl, x_i (by simp only [sCn]; first | rw [if_pos (fun hh => q17 (fun h2 => h2.2 hh))] | rw [if_neg (fun hh => q17 ⟨⟨by omega, by omega⟩, hh⟩)]), x_i (by first | exact nI_1 _ | decide), trivial⟩ (ihi (i + 1) (by omega) (by omega))
  refine E_iconst (v := 0) dX0_countLandings_0 (by decide) ?_
  refine E_istore_n dX0_countLandings_1 (Nat.le_of_ble_eq_true rfl) (by rfl) ?_
  refine E_iconst (v := 0) dX0_countLandings_2 (by decide) ?_
  refine E_istore_n dX0_countLandings_3 (Nat.le_of_ble_eq_true rfl) (by rfl) ?_
  exact E_loc [(0, .ref g), (1, .int (sCn (g_lan (g_la S)) 0)), (2, .int (nI 0))] ⟨rfl, x_i (by rfl), x_i (by first | rfl | decide), trivial⟩ (loop (t + 1) 0 (by omega) (by omega))
theorem c_lowerEndsAt (h : gAt mem g S) (ht : g_top S = nI t) (ht60 : t ≤ 60) (x : Int32) : Dt G kX0_lowerEndsAt [.ref g, .int x] mem (some (.int (sCn (fun s => (g_le S s).toInt = x.toInt) t))) mem := by
  obtain ⟨a0, a1, a2, a3, a4, a5, a6, a7, a8⟩ := id h
  have ht' : (g_top S).toInt = (t : Int) := by rw [ht]; exact nI_toInt (by omega)
  refine Ct_of (by decide) (Nat.le_of_ble_eq_true rfl) ?_
  have loop : ∀ di i : Nat, t < i + di → i ≤ t → E G kX0_lowerEndsAt (x_R (some (.int (sCn (fun s => (g_le S s).toInt = x.toInt) t))) mem) 0 0 (mem) 4 (x_L [(0, .ref g), (1, .int x), (2, .int (sCn (fun s => (g_le S s).toInt = x.toInt) i)), (3, .int (nI i))]) [] := by
    intro di
    induction di with
    | zero => intro i hi1 hi2; exact absurd hi1 (by omega)
    | succ di ihi =>
      intro i hi1 hi2
      have ei : (nI i).toInt = (i : Int) := nI_toInt (by omega)
      have eci : (nI i).toNatClampNeg = i := nI_clamp (by omega)
      refine E_iload_n dX0_lowerEndsAt_4 (by rfl) ?_
      refine E_aload_n dX0_lowerEndsAt_5 (by rfl) ?_
      refine gf_X0_37 dX0_lowerEndsAt_6 rfl (by assumption) (by rfl) ?_
      refine E_icmp_ge (n := _) rfl (tgt := 31) dX0_lowerEndsAt_9 (by decide) (fun q9 => ?_) (fun q9 => ?_)
      · refine E_iload_n dX0_lowerEndsAt_31 (by rfl) ?_
        refine E_iret dX0_lowerEndsAt_32 rfl rfl (Nat.zero_le _) (Nat.zero_le _) ?_
        exact x_leaf (by rw [show i = t by omega])
      · refine E_aload_n dX0_lowerEndsAt_12 (by rfl) ?_
        refine gf_X0_9 dX0_lowerEndsAt_13 rfl (by assumption) (by rfl) ?_
        refine E_iload_n dX0_lowerEndsAt_16 (by rfl) ?_
        refine E_iald dX0_lowerEndsAt_17 (by assumption) (i_in (by omega) (by omega)) ?_
        refine E_iload_n dX0_lowerEndsAt_18 (by rfl) ?_
        refine E_icmp_ne (n := _) rfl (tgt := 25) dX0_lowerEndsAt_19 (by decide) (fun q19 => ?_) (fun q19 => ?_)
        · rw [eci] at q19
          refine E_iinc (d := 1) dX0_lowerEndsAt_25 (by rfl) (by decide) (Nat.le_of_ble_eq_true rfl) (by rfl) ?_
          refine E_goto (tgt := 4) dX0_lowerEndsAt_28 (by decide) ?_
          exact E_loc [(0, .ref g), (1, .int x), (2, .int (sCn (fun s => (g_le S s).toInt = x.toInt) (i + 1))), (3, .int (nI (i + 1)))] ⟨rfl, rfl, x_i (by simp only [sCn]; first | rw [if_pos q19] | rw [if_neg q19]), x_i (by first | exact nI_1 _ | decide), trivial⟩ (ihi (i + 1) (by omega) (by omega))
        · refine E_iinc (d := 1) dX0_lowerEndsAt_22 (by rfl) (by decide) (Nat.le_of_ble_eq_true rfl) (by rfl) ?_
          rw [eci] at q19
          refine E_iinc (d := 1) dX0_lowerEndsAt_25 (by rfl) (by decide) (Nat.le_of_ble_eq_true rfl) (by rfl) ?_
          refine E_goto (tgt := 4) dX0_lowerEndsAt_28 (by decide) ?_
          exact E_loc [(0, .ref g), (1, .int x), (2, .int (sCn (fun s => (g_le S s).toInt = x.toInt) (i + 1))), (3, .int (nI (i + 1)))] ⟨rfl, rfl, x_i (by simp only [sCn]; first | rw [if_pos q19] | rw [if_neg q19]), x_i (by first | exact nI_1 _ | decide), trivial⟩ (ihi (i + 1) (by omega) (by omega))
  refine E_iconst (v := 0) dX0_lowerEndsAt_0 (by decide) ?_
  refine E_istore_n dX0_lowerEndsAt_1 (Nat.le_of_ble_eq_true rfl) (by rfl) ?_
  refine E_iconst (v := 0) dX0_lowerEndsAt_2 (by decide) ?_
  refine E_istore_n dX0_lowerEndsAt_3 (Nat.le_of_ble_eq_true rfl) (by rfl) ?_
  exact E_loc [(0, .ref g), (1, .int x), (2, .int (sCn (fun s => (g_le S s).toInt = x.toInt) 0)), (3, .int (nI 0))] ⟨rfl, rfl, x_i (by rfl), x_i (by first | rfl | decide), trivial⟩ (loop (t + 1) 0 (by omega) (by omega))
theorem c_sumOf {a : Nat} {f : Nat → Int32} (h : mem[a]? = some (g_a 0 6 f)) : Dt G kX0_sumOf [.ref a] mem (some (.int (sSm f 6))) mem := by
  refine Ct_of (by decide) (Nat.le_of_ble_eq_true rfl) ?_
  have loop : ∀ di i : Nat, 6 < i + di → i ≤ 6 → E G kX0_sumOf (x_R (some (.int (sSm f 6))) mem) 0 0 (mem) 10 (x_L [(0, .ref a), (1, .int (sSm f i)), (2, .ref a), (3, .int 6), (4, .int (nI i))]) [] := by
    intro di
    induction di with
    | zero => intro i hi1 hi2; exact absurd hi1 (by omega)
    | succ di ihi =>
      intro i hi1 hi2
      have ei : (nI i).toInt = (i : Int) := nI_toInt (by omega)
      have eci : (nI i).toNatClampNeg = i := nI_clamp (by omega)
      have e6 : (6 : Int32).toInt = 6 := by decide
      refine E_iload dX0_sumOf_10 (by rfl) ?_
      refine E_iload_n dX0_sumOf_12 (by rfl) ?_
      refine E_icmp_ge (n := _) rfl (tgt := 33) dX0_sumOf_13 (by decide) (fun q13 => ?_) (fun q13 => ?_)
      · refine E_iload_n dX0_sumOf_33 (by rfl) ?_
        refine E_iret dX0_sumOf_34 rfl rfl (Nat.zero_le _) (Nat.zero_le _) ?_
        exact x_leaf (by rw [show i = 6 by omega])
      · refine E_aload_n dX0_sumOf_16 (by rfl) ?_
        refine E_iload dX0_sumOf_17 (by rfl) ?_
        refine E_iald dX0_sumOf_19 (by assumption) (i_in (by omega) (by omega)) ?_
        refine E_istore dX0_sumOf_20 (Nat.le_of_ble_eq_true rfl) (by rfl) ?_
        refine E_iload_n dX0_sumOf_22 (by rfl) ?_
        refine E_iload dX0_sumOf_23 (by rfl) ?_
        refine E_iadd dX0_sumOf_25 ?_
        refine E_istore_n dX0_sumOf_26 (Nat.le_of_ble_eq_true rfl) (by rfl) ?_
        refine E_iinc (d := 1) dX0_sumOf_27 (by rfl) (by decide) (Nat.le_of_ble_eq_true rfl) (by rfl) ?_
        refine E_goto (tgt := 10) dX0_sumOf_30 (by decide) ?_
        exact E_loc [(0, .ref a), (1, .int (sSm f (i + 1))), (2, .ref a), (3, .int 6), (4, .int (nI (i + 1)))] ⟨rfl, x_i (by simp only [sSm, eci]), rfl, rfl, x_i (by first | exact nI_1 _ | decide), trivial⟩ (ihi (i + 1) (by omega) (by omega))
  refine E_iconst (v := 0) dX0_sumOf_0 (by decide) ?_
  refine E_istore_n dX0_sumOf_1 (Nat.le_of_ble_eq_true rfl) (by rfl) ?_
  refine E_aload_n dX0_sumOf_2 (by rfl) ?_
  refine E_astore_n dX0_sumOf_3 (Nat.le_of_ble_eq_true rfl) (by rfl) ?_
  refine E_aload_n dX0_sumOf_4 (by rfl) ?_
  refine E_alen dX0_sumOf_5 (by assumption) rfl rfl ?_
  refine E_istore_n dX0_sumOf_6 (Nat.le_of_ble_eq_true rfl) (by rfl) ?_
  refine E_iconst (v := 0) dX0_sumOf_7 (by decide) ?_
  refine E_istore dX0_sumOf_8 (Nat.le_of_ble_eq_true rfl) (by rfl) ?_
  exact E_loc [(0, .ref a), (1, .int (sSm f 0)), (2, .ref a), (3, .int 6), (4, .int (nI 0))] ⟨rfl, x_i (by rfl), rfl, rfl, x_i (by first | rfl | decide), trivial⟩ (loop (6 + 1) 0 (by omega) (by omega))
theorem c_liftsOfAll (h : gAt mem g S) : Dt G kX0_liftsOfAll [.ref g] mem (some (.int (sSm (g_tl S) 6))) mem := by
  obtain ⟨a0, a1, a2, a3, a4, a5, a6, a7, a8⟩ := id h
  refine Ct_of (by decide) (Nat.le_of_ble_eq_true rfl) ?_
  refine E_aload_n dX0_liftsOfAll_0 (by rfl) ?_
  refine gf_X0_28 dX0_liftsOfAll_1 rfl (by assumption) (by rfl) ?_
  refine cs_X0_liftsOfAll_4 (Nat.le_of_ble_eq_true rfl) (c_sumOf a6) ?_
  refine E_iret dX0_liftsOfAll_7 rfl rfl (Nat.zero_le _) (Nat.zero_le _) ?_
  exact x_leaf rfl
theorem c_slipsOfAll (h : gAt mem g S) : Dt G kX0_slipsOfAll [.ref g] mem (some (.int (sSm (g_sl S) 6))) mem := by
  obtain ⟨a0, a1, a2, a3, a4, a5, a6, a7, a8⟩ := id h
  refine Ct_of (by decide) (Nat.le_of_ble_eq_true rfl) ?_
  refine E_aload_n dX0_slipsOfAll_0 (by rfl) ?_
  refine gf_X0_34 dX0_slipsOfAll_1 rfl (by assumption) (by rfl) ?_
  refine cs_X0_slipsOfAll_4 (Nat.le_of_ble_eq_true rfl) (c_sumOf a8) ?_
  refine E_iret dX0_slipsOfAll_7 rfl rfl (Nat.zero_le _) (Nat.zero_le _) ?_
  exact x_leaf rfl
theorem c_topsOfAll (h : gAt mem g S) : Dt G kX0_topsOfAll [.ref g] mem (some (.int (sSm (g_tp S) 6))) mem := by
  obtain ⟨a0, a1, a2, a3, a4, a5, a6, a7, a8⟩ := id h
  refine Ct_of (by decide) (Nat.le_of_ble_eq_true rfl) ?_
  refine E_aload_n dX0_topsOfAll_0 (by rfl) ?_
  refine gf_X0_22 dX0_topsOfAll_1 rfl (by assumption) (by rfl) ?_
  refine cs_X0_topsOfAll_4 (Nat.le_of_ble_eq_true rfl) (c_sumOf a4) ?_
  refine E_iret dX0_topsOfAll_7 rfl rfl (Nat.zero_le _) (Nat.zero_le _) ?_
  exact x_leaf rfl
def gPr (S : gS) (c : Int32) : Int32 := if g_isCl S c then g_tp S c.toNatClampNeg * g_top S + g_pl S c.toNatClampNeg else 0
theorem c_progressOf (h : gAt mem g S) (hc : (g_cl S).toInt ≤ 6) (x : Int32) : Dt G kX0_progressOf [.ref g, .int x] mem (some (.int (gPr S x))) mem := by
  obtain ⟨a0, a1, a2, a3, a4, a5, a6, a7, a8⟩ := id h
  refine Ct_of (by decide) (Nat.le_of_ble_eq_true rfl) ?_
  refine E_aload_n dX0_progressOf_0 (by rfl) ?_
  refine E_iload_n dX0_progressOf_1 (by rfl) ?_
  refine cs_X0_progressOf_2 (by assumption) (Nat.le_of_ble_eq_true rfl) (c_isClimber h _) ?_
  refine E_if_eq (tgt := 29) dX0_progressOf_5 (by decide) (fun q5 => ?_) (fun q5 => ?_)
  · rw [b2i_T0] at q5
    refine E_iconst (v := 0) dX0_progressOf_29 (by decide) ?_
    refine E_iret dX0_progressOf_30 rfl rfl (Nat.zero_le _) (Nat.zero_le _) ?_
    first | exact x_leaf (by rw [gPr, if_neg q5]) | exact x_leaf (by rw [gPr, if_pos q5])
  · rw [b2i_T0] at q5; have q5 := Classical.not_not.mp q5
    refine E_aload_n dX0_progressOf_8 (by rfl) ?_
    refine gf_X0_22 dX0_progressOf_9 rfl (by assumption) (by rfl) ?_
    refine E_iload_n dX0_progressOf_12 (by rfl) ?_
    refine E_iald dX0_progressOf_13 (by assumption) (i_in (by omega) (by omega)) ?_
    refine E_aload_n dX0_progressOf_14 (by rfl) ?_
    refine gf_X0_37 dX0_progressOf_15 rfl (by assumption) (by rfl) ?_
    refine E_imul dX0_progressOf_18 ?_
    refine E_aload_n dX0_progressOf_19 (by rfl) ?_
    refine gf_X0_19 dX0_progressOf_20 rfl (by assumption) (by rfl) ?_
    refine E_iload_n dX0_progressOf_23 (by rfl) ?_
    refine E_iald dX0_progressOf_24 (by assumption) (i_in (by omega) (by omega)) ?_
    refine E_iadd dX0_progressOf_25 ?_
    refine E_goto (tgt := 30) dX0_progressOf_26 (by decide) ?_
    refine E_iret dX0_progressOf_30 rfl rfl (Nat.zero_le _) (Nat.zero_le _) ?_
    first | exact x_leaf (by rw [gPr, if_neg q5]) | exact x_leaf (by rw [gPr, if_pos q5])
end G2
end
section
/-! more of Game: what is asked by search, errors, and the writing of single cells -/
section G3
variable {G : xG} {mem : xM} {g : Nat} {S T : gS} {t n : Nat}
theorem c_isRoll (x : Int32) : Dt G kX3_isRoll [.int x] mem (some (.int (b2i (1 ≤ x.toInt ∧ x.toInt ≤ 6)))) mem := by
  refine Ct_of (by decide) (Nat.le_of_ble_eq_true rfl) ?_
  refine E_iload_n dX3_isRoll_0 (by rfl) ?_
  refine E_iconst (v := 1) dX3_isRoll_1 (by decide) ?_
  refine E_icmp_lt (n := 1) (by decide) (tgt := 15) dX3_isRoll_2 (by decide) (fun q2 => ?_) (fun q2 => ?_)
  · refine E_iconst (v := 0) dX3_isRoll_15 (by decide) ?_
    refine E_iret dX3_isRoll_16 rfl (by decide) (Nat.zero_le _) (Nat.zero_le _) ?_
    first | exact ⟨by rw [b2i_t (by omega)], rfl⟩ | exact ⟨by rw [b2i_f (by omega)], rfl⟩
  · refine E_iload_n dX3_isRoll_5 (by rfl) ?_
    refine E_bipush (v := 6) dX3_isRoll_6 (by decide) ?_
    refine E_icmp_gt (n := 6) (by decide) (tgt := 15) dX3_isRoll_8 (by decide) (fun q8 => ?_) (fun q8 => ?_)
    · refine E_iconst (v := 0) dX3_isRoll_15 (by decide) ?_
      refine E_iret dX3_isRoll_16 rfl (by decide) (Nat.zero_le _) (Nat.zero_le _) ?_
      first | exact ⟨by rw [b2i_t (by omega)], rfl⟩ | exact ⟨by rw [b2i_f (by omega)], rfl⟩
    · refine E_iconst (v := 1) dX3_isRoll_11 (by decide) ?_
      refine E_goto (tgt := 16) dX3_isRoll_12 (by decide) ?_
      refine E_iret dX3_isRoll_16 rfl (by decide) (Nat.zero_le _) (Nat.zero_le _) ?_
      first | exact ⟨by rw [b2i_t (by omega)], rfl⟩ | exact ⟨by rw [b2i_f (by omega)], rfl⟩
abbrev g_psd (S : gS) (c : Nat) (u : Int32) : Prop := (g_pl S (g_mv S).toNatClampNeg).toInt < (g_pl S c).toInt ∧ (g_pl S c).toInt < (g_pl S (g_mv S).toNatClampNeg + u).toInt ∧ ¬ g_isLa S (g_pl S c)
theorem c_isPassed (h : gAt mem g S) (ht : (g_top S).toInt ≤ 60) (hm : 0 ≤ (g_mv S).toInt ∧ (g_mv S).toInt < 6) {x : Int32} (hx : 0 ≤ x.toInt ∧ x.toInt < 6) (u : Int32) : Dt G kX0_isPassed [.ref g, .int x, .int u] mem (some (.int (b2i (g_psd S x.toNatClampNeg u)))) mem := by
  obtain ⟨a0, a1, a2, a3, a4, a5, a6, a7, a8⟩ := id h
  refine Ct_of (by decide) (Nat.le_of_ble_eq_true rfl) ?_
  refine E_aload_n dX0_isPassed_0 (by rfl) ?_
  refine gf_X0_19 dX0_isPassed_1 rfl (by assumption) (by rfl) ?_
  refine E_iload_n dX0_isPassed_4 (by rfl) ?_
  refine E_iald dX0_isPassed_5 (by assumption) (i_in (by omega) (by omega)) ?_
  refine E_istore_n dX0_isPassed_6 (Nat.le_of_ble_eq_true rfl) (by rfl) ?_
  refine E_aload_n dX0_isPassed_7 (by rfl) ?_
  refine gf_X0_19 dX0_isPassed_8 rfl (by assumption) (by rfl) ?_
  refine E_aload_n dX0_isPassed_11 (by rfl) ?_
  refine gf_X0_44 dX0_isPassed_12 rfl (by assumption) (by rfl) ?_
  refine E_iald dX0_isPassed_15 (by assumption) (i_in (by omega) (by omega)) ?_
  refine E_istore dX0_isPassed_16 (Nat.le_of_ble_eq_true rfl) (by rfl) ?_
  refine E_iload_n dX0_isPassed_18 (by rfl) ?_
  refine E_iload dX0_isPassed_19 (by rfl) ?_
  refine E_icmp_le (n := _) rfl (tgt := 44) dX0_isPassed_21 (by decide) (fun q21 => ?_) (fun q21 => ?_)
  · refine E_iconst (v := 0) dX0_isPassed_44 (by decide) ?_
    refine E_iret dX0_isPassed_45 rfl (by decide) (Nat.zero_le _) (Nat.zero_le _) ?_
    exact x_leaf (by rw [b2i_f (fun hh => by have := hh.1; omega)])
  · refine E_iload_n dX0_isPassed_24 (by rfl) ?_
    refine E_iload dX0_isPassed_25 (by rfl) ?_
    refine E_iload_n dX0_isPassed_27 (by rfl) ?_
    refine E_iadd dX0_isPassed_28 ?_
    refine E_icmp_ge (n := _) rfl (tgt := 44) dX0_isPassed_29 (by decide) (fun q29 => ?_) (fun q29 => ?_)
    · refine E_iconst (v := 0) dX0_isPassed_44 (by decide) ?_
      refine E_iret dX0_isPassed_45 rfl (by decide) (Nat.zero_le _) (Nat.zero_le _) ?_
      exact x_leaf (by rw [b2i_f (fun hh => by have := hh.2.1; omega)])
    · refine E_aload_n dX0_isPassed_32 (by rfl) ?_
      refine E_iload_n dX0_isPassed_33 (by rfl) ?_
      refine cs_X0_isPassed_34 (by assumption) (Nat.le_of_ble_eq_true rfl) (c_isLanding h ht _) ?_
      refine E_if_ne (tgt := 44) dX0_isPassed_37 (by decide) (fun q37 => ?_) (fun q37 => ?_)
      · rw [b2i_T0] at q37; have q37 := Classical.not_not.mp q37
        refine E_iconst (v := 0) dX0_isPassed_44 (by decide) ?_
        refine E_iret dX0_isPassed_45 rfl (by decide) (Nat.zero_le _) (Nat.zero_le _) ?_
        exact x_leaf (by rw [b2i_f (fun hh => hh.2.2 q37)])
      · rw [b2i_T0] at q37
        refine E_iconst (v := 1) dX0_isPassed_40 (by decide) ?_
        refine E_goto (tgt := 45) dX0_isPassed_41 (by decide) ?_
        refine E_iret dX0_isPassed_45 rfl (by decide) (Nat.zero_le _) (Nat.zero_le _) ?_
        exact x_leaf (by rw [b2i_t ⟨by omega, by omega, q37⟩])
def sNo (p : Nat → Prop) [DecidablePred p] : Nat → Bool
  | 0 => true
  | c + 1 => sNo p c && !decide (p c)
theorem sNo_iff {p : Nat → Prop} [DecidablePred p] (n : Nat) : sNo p n = true ↔ ∀ c, c < n → ¬ p c := by
  induction n with
  | zero => exact ⟨fun _ c h => by omega, fun _ => rfl⟩
  | succ n ih =>
    simp only [sNo, Bool.and_eq_true, ih, Bool.not_eq_true', decide_eq_false_iff_not]
    constructor
    · rintro ⟨h1, h2⟩ c hc
      by_cases e : c = n
      · rw [e]; exact h2
      · exact h1 c (by omega)
    · intro h
      exact ⟨fun c hc => h c (by omega), h n (by omega)⟩
theorem c_wouldLift (h : gAt mem g S) (ht : (g_top S).toInt ≤ 60) (hc : g_cl S = nI n) (hn : n ≤ 6) (hm : 0 ≤ (g_mv S).toInt ∧ (g_mv S).toInt < 6) (u : Int32) : Dt G kX0_wouldLift [.ref g, .int u] mem (some (.int (b2i (sNo (fun c => g_psd S c u) n = false)))) mem := by
  obtain ⟨a0, a1, a2, a3, a4, a5, a6, a7, a8⟩ := id h
  have hc' : (g_cl S).toInt = (n : Int) := by rw [hc]; exact nI_toInt (by omega)
  refine Ct_of (by decide) (Nat.le_of_ble_eq_true rfl) ?_
  have loop : ∀ di i : Nat, n < i + di → i ≤ n → (∀ c, c < i → ¬ g_psd S c u) → E G kX0_wouldLift (x_R (some (.int (b2i (sNo (fun c => g_psd S c u) n = false)))) mem) 0 0 (mem) 2 (x_L [(0, .ref g), (1, .int u), (2, .int (nI i))]) [] := by
    intro di
    induction di with
    | zero => intro i hi1 hi2 _; exact absurd hi1 (by omega)
    | succ di ihi =>
      intro i hi1 hi2 hinv
      have ei : (nI i).toInt = (i : Int) := nI_toInt (by omega)
      have eci : (nI i).toNatClampNeg = i := nI_clamp (by omega)
      refine E_iload_n dX0_wouldLift_2 (by rfl) ?_
      refine E_aload_n dX0_wouldLift_3 (by rfl) ?_
      refine gf_X0_41 dX0_wouldLift_4 rfl (by assumption) (by rfl) ?_
      refine E_icmp_ge (n := _) rfl (tgt := 27) dX0_wouldLift_7 (by decide) (fun q7 => ?_) (fun q7 => ?_)
      · refine E_iconst (v := 0) dX0_wouldLift_27 (by decide) ?_
        refine E_iret dX0_wouldLift_28 rfl (by decide) (Nat.zero_le _) (Nat.zero_le _) ?_
        exact x_leaf (by rw [b2i_f]; rw [(sNo_iff n).mpr (fun c hcn => hinv c (by omega))]; decide)
      · refine E_aload_n dX0_wouldLift_10 (by rfl) ?_
        refine E_iload_n dX0_wouldLift_11 (by rfl) ?_
        refine E_iload_n dX0_wouldLift_12 (by rfl) ?_
        refine cs_X0_wouldLift_13 (by assumption) (Nat.le_of_ble_eq_true rfl) (c_isPassed h ht hm (by omega) u) ?_
        refine E_if_eq (tgt := 21) dX0_wouldLift_16 (by decide) (fun q16 => ?_) (fun q16 => ?_)
        · rw [b2i_T0, eci] at q16
          refine E_iinc (d := 1) dX0_wouldLift_21 (by rfl) (by decide) (Nat.le_of_ble_eq_true rfl) (by rfl) ?_
          refine E_goto (tgt := 2) dX0_wouldLift_24 (by decide) ?_
          exact E_loc [(0, .ref g), (1, .int u), (2, .int (nI (i + 1)))] ⟨rfl, rfl, x_i (by first | exact nI_1 _ | decide), trivial⟩ (ihi (i + 1) (by omega) (by omega) (lt_s hinv q16))
        · rw [b2i_T0, eci] at q16; have q16 := Classical.not_not.mp q16
          refine E_iconst (v := 1) dX0_wouldLift_19 (by decide) ?_
          refine E_iret dX0_wouldLift_20 rfl (by decide) (Nat.zero_le _) (Nat.zero_le _) ?_
          exact x_leaf (by rw [b2i_t]; exact Bool.eq_false_iff.mpr (fun hh => (sNo_iff n).mp hh i (by omega) q16))
  refine E_iconst (v := 0) dX0_wouldLift_0 (by decide) ?_
  refine E_istore_n dX0_wouldLift_1 (Nat.le_of_ble_eq_true rfl) (by rfl) ?_
  exact E_loc [(0, .ref g), (1, .int u), (2, .int (nI 0))] ⟨rfl, rfl, x_i (by first | rfl | decide), trivial⟩ (loop (n + 1) 0 (by omega) (by omega) lt_0)
/-- the first of n, from i on, that is so -/
def sFst (p : Nat → Prop) [DecidablePred p] : Nat → Nat → Int32
  | 0, _ => -6
  | d + 1, i => if p i then nI i else sFst p d (i + 1)
abbrev g_ahd (S : gS) (x : Int32) (o : Nat) : Prop := (gPr S x).toInt < (gPr S (nI o)).toInt ∨ (gPr S (nI o)).toInt = (gPr S x).toInt ∧ (nI o).toInt < x.toInt
theorem c_climbersAheadOf (h : gAt mem g S) (hc : g_cl S = nI n) (hn : n ≤ 6) (x : Int32) : Dt G kX0_climbersAheadOf [.ref g, .int x] mem (some (.int (sCn (g_ahd S x) n))) mem := by
  obtain ⟨a0, a1, a2, a3, a4, a5, a6, a7, a8⟩ := id h
  have hc' : (g_cl S).toInt = (n : Int) := by rw [hc]; exact nI_toInt (by omega)
  refine Ct_of (by decide) (Nat.le_of_ble_eq_true rfl) ?_
  have loop : ∀ di i : Nat, n < i + di → i ≤ n → E G kX0_climbersAheadOf (x_R (some (.int (sCn (g_ahd S x) n))) mem) 0 0 (mem) 11 (x_L [(0, .ref g), (1, .int x), (2, .int (sCn (g_ahd S x) i)), (3, .int (gPr S x)), (4, .int (nI i))]) [] := by
    intro di
    induction di with
    | zero => intro i hi1 hi2; exact absurd hi1 (by omega)
    | succ di ihi =>
      intro i hi1 hi2
      have ei : (nI i).toInt = (i : Int) := nI_toInt (by omega)
      have eci : (nI i).toNatClampNeg = i := nI_clamp (by omega)
      refine E_iload dX0_climbersAheadOf_11 (by rfl) ?_
      refine E_aload_n dX0_climbersAheadOf_13 (by rfl) ?_
      refine gf_X0_41 dX0_climbersAheadOf_14 rfl (by assumption) (by rfl) ?_
      refine E_icmp_ge (n := _) rfl (tgt := 55) dX0_climbersAheadOf_17 (by decide) (fun q17 => ?_) (fun q17 => ?_)
      · refine E_iload_n dX0_climbersAheadOf_55 (by rfl) ?_
        refine E_iret dX0_climbersAheadOf_56 rfl rfl (Nat.zero_le _) (Nat.zero_le _) ?_
        exact x_leaf (by rw [show i = n by omega])
      · refine E_aload_n dX0_climbersAheadOf_20 (by rfl) ?_
        refine E_iload dX0_climbersAheadOf_21 (by rfl) ?_
        refine cs_X0_climbersAheadOf_23 (by assumption) (Nat.le_of_ble_eq_true rfl) (c_progressOf h (by omega) _) ?_
        refine E_istore dX0_climbersAheadOf_26 (Nat.le_of_ble_eq_true rfl) (by rfl) ?_
        refine E_iload dX0_climbersAheadOf_28 (by rfl) ?_
        refine E_iload_n dX0_climbersAheadOf_30 (by rfl) ?_
        refine E_icmp_gt (n := _) rfl (tgt := 46) dX0_climbersAheadOf_31 (by decide) (fun q31 => ?_) (fun q31 => ?_)
        · refine E_iinc (d := 1) dX0_climbersAheadOf_46 (by rfl) (by decide) (Nat.le_of_ble_eq_true rfl) (by rfl) ?_
          refine E_iinc (d := 1) dX0_climbersAheadOf_49 (by rfl) (by decide) (Nat.le_of_ble_eq_true rfl) (by rfl) ?_
          refine E_goto (tgt := 11) dX0_climbersAheadOf_52 (by decide) ?_
          exact E_loc [(0, .ref g), (1, .int x), (2, .int (sCn (g_ahd S x) (i + 1))), (3, .int (gPr S x)), (4, .int (nI (i + 1)))] ⟨rfl, rfl, x_i (by simp only [sCn]; first | rw [if_pos (by unfold g_ahd; omega)] | rw [if_neg (by unfold g_ahd; omega)]), rfl, x_i (by first | exact nI_1 _ | decide), trivial⟩ (ihi (i + 1) (by omega) (by omega))
        · refine E_iload dX0_climbersAheadOf_34 (by rfl) ?_
          refine E_iload_n dX0_climbersAheadOf_36 (by rfl) ?_
          refine E_icmp_ne (n := _) rfl (tgt := 49) dX0_climbersAheadOf_37 (by decide) (fun q37 => ?_) (fun q37 => ?_)
          · refine E_iinc (d := 1) dX0_climbersAheadOf_49 (by rfl) (by decide) (Nat.le_of_ble_eq_true rfl) (by rfl) ?_
            refine E_goto (tgt := 11) dX0_climbersAheadOf_52 (by decide) ?_
            exact E_loc [(0, .ref g), (1, .int x), (2, .int (sCn (g_ahd S x) (i + 1))), (3, .int (gPr S x)), (4, .int (nI (i + 1)))] ⟨rfl, rfl, x_i (by simp only [sCn]; first | rw [if_pos (by unfold g_ahd; omega)] | rw [if_neg (by unfold g_ahd; omega)]), rfl, x_i (by first | exact nI_1 _ | decide), trivial⟩ (ihi (i + 1) (by omega) (by omega))
          · refine E_iload dX0_climbersAheadOf_40 (by rfl) ?_
            refine E_iload_n dX0_climbersAheadOf_42 (by rfl) ?_
            refine E_icmp_ge (n := _) rfl (tgt := 49) dX0_climbersAheadOf_43 (by decide) (fun q43 => ?_) (fun q43 => ?_)
            · refine E_iinc (d := 1) dX0_climbersAheadOf_49 (by rfl) (by decide) (Nat.le_of_ble_eq_true rfl) (by rfl) ?_
              refine E_goto (tgt := 11) dX0_climbersAheadOf_52 (by decide) ?_
              exact E_loc [(0, .ref g), (1, .int x), (2, .int (sCn (g_ahd S x) (i + 1))), (3, .int (gPr S x)), (4, .int (nI (i + 1)))] ⟨rfl, rfl, x_i (by simp only [sCn]; first | rw [if_pos (by unfold g_ahd; omega)] | rw [if_neg (by unfold g_ahd; omega)]), rfl, x_i (by first | exact nI_1 _ | decide), trivial⟩ (ihi (i + 1) (by omega) (by omega))
            · refine E_iinc (d := 1) dX0_climbersAheadOf_46 (by rfl) (by decide) (Nat.le_of_ble_eq_true rfl) (by rfl) ?_
              refine E_iinc (d := 1) dX0_climbersAheadOf_49 (by rfl) (by decide) (Nat.le_of_ble_eq_true rfl) (by rfl) ?_
              refine E_goto (tgt := 11) dX0_climbersAheadOf_52 (by decide) ?_
              exact E_loc [(0, .ref g), (1, .int x), (2, .int (sCn (g_ahd S x) (i + 1))), (3, .int (gPr S x)), (4, .int (nI (i + 1)))] ⟨rfl, rfl, x_i (by simp only [sCn]; first | rw [if_pos (by unfold g_ahd; omega)] | rw [if_neg (by unfold g_ahd; omega)]), rfl, x_i (by first | exact nI_1 _ | decide), trivial⟩ (ihi (i + 1) (by omega) (by omega))
  refine E_iconst (v := 0) dX0_climbersAheadOf_0 (by decide) ?_
  refine E_istore_n dX0_climbersAheadOf_1 (Nat.le_of_ble_eq_true rfl) (by rfl) ?_
  refine E_aload_n dX0_climbersAheadOf_2 (by rfl) ?_
  refine E_iload_n dX0_climbersAheadOf_3 (by rfl) ?_
  refine cs_X0_climbersAheadOf_4 (by assumption) (Nat.le_of_ble_eq_true rfl) (c_progressOf h (by omega) _) ?_
  refine E_istore_n dX0_climbersAheadOf_7 (Nat.le_of_ble_eq_true rfl) (by rfl) ?_
  refine E_iconst (v := 0) dX0_climbersAheadOf_8 (by decide) ?_
  refine E_istore dX0_climbersAheadOf_9 (Nat.le_of_ble_eq_true rfl) (by rfl) ?_
  exact E_loc [(0, .ref g), (1, .int x), (2, .int (sCn (g_ahd S x) 0)), (3, .int (gPr S x)), (4, .int (nI 0))] ⟨rfl, rfl, x_i (by rfl), rfl, x_i (by first | rfl | decide), trivial⟩ (loop (n + 1) 0 (by omega) (by omega))
theorem c_climberAtPlace (h : gAt mem g S) (hc : g_cl S = nI n) (hn : n ≤ 6) (x : Int32) : Dt G kX0_climberAtPlace [.ref g, .int x] mem (some (.int (sFst (fun c => (sCn (g_ahd S (nI c)) n).toInt = x.toInt) n 0))) mem := by
  obtain ⟨a0, a1, a2, a3, a4, a5, a6, a7, a8⟩ := id h
  have hc' : (g_cl S).toInt = (n : Int) := by rw [hc]; exact nI_toInt (by omega)
  refine Ct_of (by decide) (Nat.le_of_ble_eq_true rfl) ?_
  have loop : ∀ di i : Nat, n < i + di → i ≤ n → (sFst (fun c => (sCn (g_ahd S (nI c)) n).toInt = x.toInt) n 0 = sFst (fun c => (sCn (g_ahd S (nI c)) n).toInt = x.toInt) (n - i) i) → E G kX0_climberAtPlace (x_R (some (.int (sFst (fun c => (sCn (g_ahd S (nI c)) n).toInt = x.toInt) n 0))) mem) 0 0 (mem) 2 (x_L [(0, .ref g), (1, .int x), (2, .int (nI i))]) [] := by
    intro di
    induction di with
    | zero => intro i hi1 hi2 _; exact absurd hi1 (by omega)
    | succ di ihi =>
      intro i hi1 hi2 hinv
      have ei : (nI i).toInt = (i : Int) := nI_toInt (by omega)
      have eci : (nI i).toNatClampNeg = i := nI_clamp (by omega)
      refine E_iload_n dX0_climberAtPlace_2 (by rfl) ?_
      refine E_aload_n dX0_climberAtPlace_3 (by rfl) ?_
      refine gf_X0_41 dX0_climberAtPlace_4 rfl (by assumption) (by rfl) ?_
      refine E_icmp_ge (n := _) rfl (tgt := 27) dX0_climberAtPlace_7 (by decide) (fun q7 => ?_) (fun q7 => ?_)
      · refine E_bipush (v := (-6)) dX0_climberAtPlace_27 (by decide) ?_
        refine E_iret dX0_climberAtPlace_29 rfl rfl (Nat.zero_le _) (Nat.zero_le _) ?_
        exact x_leaf (by rw [hinv, show n - i = 0 by omega]; rfl)
      · refine E_aload_n dX0_climberAtPlace_10 (by rfl) ?_
        refine E_iload_n dX0_climberAtPlace_11 (by rfl) ?_
        refine cs_X0_climberAtPlace_12 (by assumption) (Nat.le_of_ble_eq_true rfl) (c_climbersAheadOf h hc hn _) ?_
        refine E_iload_n dX0_climberAtPlace_15 (by rfl) ?_
        refine E_icmp_ne (n := _) rfl (tgt := 21) dX0_climberAtPlace_16 (by decide) (fun q16 => ?_) (fun q16 => ?_)
        · refine E_iinc (d := 1) dX0_climberAtPlace_21 (by rfl) (by decide) (Nat.le_of_ble_eq_true rfl) (by rfl) ?_
          refine E_goto (tgt := 2) dX0_climberAtPlace_24 (by decide) ?_
          exact E_loc [(0, .ref g), (1, .int x), (2, .int (nI (i + 1)))] ⟨rfl, rfl, x_i (by first | exact nI_1 _ | decide), trivial⟩ (ihi (i + 1) (by omega) (by omega) (by rw [hinv, show n - i = (n - (i + 1)) + 1 by omega, sFst, if_neg q16]))
        · refine E_iload_n dX0_climberAtPlace_19 (by rfl) ?_
          refine E_iret dX0_climberAtPlace_20 rfl rfl (Nat.zero_le _) (Nat.zero_le _) ?_
          exact x_leaf (by rw [hinv, show n - i = (n - (i + 1)) + 1 by omega, sFst, if_pos q16])
  refine E_iconst (v := 0) dX0_climberAtPlace_0 (by decide) ?_
  refine E_istore_n dX0_climberAtPlace_1 (Nat.le_of_ble_eq_true rfl) (by rfl) ?_
  exact E_loc [(0, .ref g), (1, .int x), (2, .int (nI 0))] ⟨rfl, rfl, x_i (by first | rfl | decide), trivial⟩ (loop (n + 1) 0 (by omega) (by omega) rfl)
/-! setTop -/
theorem x_exn {P : Nat → Prop} {i t : Nat} (h : ∃ s, i ≤ s ∧ s < t ∧ P s) (hn : ¬ P i) : ∃ s, i + 1 ≤ s ∧ s < t ∧ P s := by
  obtain ⟨s, h1, h2, h3⟩ := h
  refine ⟨s, ?_, h2, h3⟩
  rcases Nat.lt_or_ge i s with h | h
  · exact h
  · have e : s = i := by omega
    rw [e] at h3
    exact absurd h3 hn
abbrev g_blk (S : gS) (n s : Nat) : Prop := (g_la S s).toInt ≠ 0 ∨ g_isUp S (nI s) ∨ (sOn (g_pl S) (nI s) n).toInt ≠ 0
theorem c_changeTop_out (x : Int32) (hx : x.toInt < 10 ∨ 60 < x.toInt) : Dt G kX0_changeTop [.ref g, .int x] mem (some (.int (-2))) mem := by
  refine Ct_of (by decide) (Nat.le_of_ble_eq_true rfl) ?_
  refine E_iload_n dX0_changeTop_0 (by rfl) ?_
  refine E_bipush (v := 10) dX0_changeTop_1 (by decide) ?_
  refine E_icmp_lt (n := 10) (by decide) (tgt := 12) dX0_changeTop_3 (by decide) (fun q3 => ?_) (fun q3 => ?_)
  · refine E_bipush (v := (-2)) dX0_changeTop_12 (by decide) ?_
    refine E_iret dX0_changeTop_14 rfl rfl (Nat.zero_le _) (Nat.zero_le _) ?_
    exact x_leaf rfl
  · refine E_iload_n dX0_changeTop_6 (by rfl) ?_
    refine E_bipush (v := 60) dX0_changeTop_7 (by decide) ?_
    refine E_icmp_le (n := 60) (by decide) (tgt := 15) dX0_changeTop_9 (by decide) (fun q9 => ?_) (fun q9 => ?_)
    · exact absurd hx (by omega)
    · refine E_bipush (v := (-2)) dX0_changeTop_12 (by decide) ?_
      refine E_iret dX0_changeTop_14 rfl rfl (Nat.zero_le _) (Nat.zero_le _) ?_
      exact x_leaf rfl
theorem c_changeTop_blk (h : gAt mem g S) (ht : g_top S = nI t) (ht60 : t ≤ 60) (hc : g_cl S = nI n) (hn : n ≤ 6) {x : Nat} (hx : 10 ≤ x ∧ x ≤ 60) (hb : ∃ s, x ≤ s ∧ s < t ∧ g_blk S n s) : Dt G kX0_changeTop [.ref g, .int (nI x)] mem (some (.int (-3))) mem := by
  obtain ⟨a0, a1, a2, a3, a4, a5, a6, a7, a8⟩ := id h
  have ht' : (g_top S).toInt = (t : Int) := by rw [ht]; exact nI_toInt (by omega)
  have ex : (nI x).toInt = (x : Int) := nI_toInt (by omega)
  have hxt : x ≤ t := by obtain ⟨s, h1, h2, -⟩ := hb; omega
  refine Ct_of (by decide) (Nat.le_of_ble_eq_true rfl) ?_
  have loop : ∀ di i : Nat, t < i + di → i ≤ t → (x ≤ i ∧ ∃ s, i ≤ s ∧ s < t ∧ g_blk S n s) → E G kX0_changeTop (x_R (some (.int (-3))) mem) 0 0 (mem) 17 (x_L [(0, .ref g), (1, .int (nI x)), (2, .int (nI i))]) [] := by
    intro di
    induction di with
    | zero => intro i hi1 hi2 _; exact absurd hi1 (by omega)
    | succ di ihi =>
      intro i hi1 hi2 hinv
      have ei : (nI i).toInt = (i : Int) := nI_toInt (by omega)
      have eci : (nI i).toNatClampNeg = i := nI_clamp (by omega)
      refine E_iload_n dX0_changeTop_17 (by rfl) ?_
      refine E_aload_n dX0_changeTop_18 (by rfl) ?_
      refine gf_X0_37 dX0_changeTop_19 rfl (by assumption) (by rfl) ?_
      refine E_icmp_ge (n := _) rfl (tgt := 59) dX0_changeTop_22 (by decide) (fun q22 => ?_) (fun q22 => ?_)
      · obtain ⟨h1, s, h2, h3, h4⟩ := hinv; exact absurd h3 (by omega)
      · refine E_aload_n dX0_changeTop_25 (by rfl) ?_
        refine gf_X0_15 dX0_changeTop_26 rfl (by assumption) (by rfl) ?_
        refine E_iload_n dX0_changeTop_29 (by rfl) ?_
        refine E_zald dX0_changeTop_30 (by assumption) (i_in (by omega) (by omega)) ?_
        refine E_if_ne (tgt := 50) dX0_changeTop_31 (by decide) (fun q31 => ?_) (fun q31 => ?_)
        · refine E_bipush (v := (-3)) dX0_changeTop_50 (by decide) ?_
          refine E_iret dX0_changeTop_52 rfl rfl (Nat.zero_le _) (Nat.zero_le _) ?_
          exact x_leaf rfl
        · refine E_aload_n dX0_changeTop_34 (by rfl) ?_
          refine E_iload_n dX0_changeTop_35 (by rfl) ?_
          refine cs_X0_changeTop_36 (by assumption) (Nat.le_of_ble_eq_true rfl) (c_isUpperEnd h (by omega) _) ?_
          refine E_if_ne (tgt := 50) dX0_changeTop_39 (by decide) (fun q39 => ?_) (fun q39 => ?_)
          · refine E_bipush (v := (-3)) dX0_changeTop_50 (by decide) ?_
            refine E_iret dX0_changeTop_52 rfl rfl (Nat.zero_le _) (Nat.zero_le _) ?_
            exact x_leaf rfl
          · refine E_aload_n dX0_changeTop_42 (by rfl) ?_
            refine E_iload_n dX0_changeTop_43 (by rfl) ?_
            refine cs_X0_changeTop_44 (by assumption) (Nat.le_of_ble_eq_true rfl) (c_climbersOn h hc hn _) ?_
            refine E_if_eq (tgt := 53) dX0_changeTop_47 (by decide) (fun q47 => ?_) (fun q47 => ?_)
            · rw [eci] at q31; rw [b2i_T0] at q39; have hnb : ¬ g_blk S n i := fun z => z.elim (fun z => z q31) (fun z => z.elim q39 (fun z => z q47))
              refine E_iinc (d := 1) dX0_changeTop_53 (by rfl) (by decide) (Nat.le_of_ble_eq_true rfl) (by rfl) ?_
              refine E_goto (tgt := 17) dX0_changeTop_56 (by decide) ?_
              exact E_loc [(0, .ref g), (1, .int (nI x)), (2, .int (nI (i + 1)))] ⟨rfl, rfl, x_i (by first | exact nI_1 _ | decide), trivial⟩ (ihi (i + 1) (by omega) (by omega) ⟨by omega, x_exn hinv.2 hnb⟩)
            · refine E_bipush (v := (-3)) dX0_changeTop_50 (by decide) ?_
              refine E_iret dX0_changeTop_52 rfl rfl (Nat.zero_le _) (Nat.zero_le _) ?_
              exact x_leaf rfl
  refine E_iload_n dX0_changeTop_0 (by rfl) ?_
  refine E_bipush (v := 10) dX0_changeTop_1 (by decide) ?_
  refine E_icmp_lt (n := 10) (by decide) (tgt := 12) dX0_changeTop_3 (by decide) (fun q3 => ?_) (fun q3 => ?_)
  · exact absurd hx (by omega)
  · refine E_iload_n dX0_changeTop_6 (by rfl) ?_
    refine E_bipush (v := 60) dX0_changeTop_7 (by decide) ?_
    refine E_icmp_le (n := 60) (by decide) (tgt := 15) dX0_changeTop_9 (by decide) (fun q9 => ?_) (fun q9 => ?_)
    · refine E_iload_n dX0_changeTop_15 (by rfl) ?_
      refine E_istore_n dX0_changeTop_16 (Nat.le_of_ble_eq_true rfl) (by rfl) ?_
      exact E_loc [(0, .ref g), (1, .int (nI x)), (2, .int (nI x))] ⟨rfl, rfl, x_i (by first | rfl | decide), trivial⟩ (loop (t + 1) x (by omega) (by omega) ⟨Nat.le_refl _, hb⟩)
    · exact absurd hx (by omega)
theorem c_changeTop_ok (h : gAt mem g S) (ht : g_top T = nI t) (ht60 : t ≤ 60) (hc : g_cl T = nI n) (hn : n ≤ 6) {x : Nat} (hx : 10 ≤ x ∧ x ≤ 60) (hb : ∀ s, x ≤ s → s < t → ¬ g_blk T n s) : Dt G kX0_changeTop [.ref g, .int (nI x)] (gPut mem g T) (some (.int (nI t))) (gPut mem g (g_wO T (nI x) (g_cl T) (g_mv T) (g_ro T) (g_lo T))) := by
  obtain ⟨a0, a1, a2, a3, a4, a5, a6, a7, a8⟩ := gAt_put h T
  have ht' : (g_top T).toInt = (t : Int) := by rw [ht]; exact nI_toInt (by omega)
  have ex : (nI x).toInt = (x : Int) := nI_toInt (by omega)
  refine Ct_of (by decide) (Nat.le_of_ble_eq_true rfl) ?_
  refine (?_ : ∀ (K : E G kX0_changeTop (x_R (some (.int (nI t))) (gPut mem g (g_wO T (nI x) (g_cl T) (g_mv T) (g_ro T) (g_lo T)))) 0 0 (gPut mem g T) 59 (x_L [(0, .ref g), (1, .int (nI x))]) []), E G kX0_changeTop _ 0 0 (gPut mem g T) 0 _ []) ?_
  · intro K
    by_cases hxt : t < x
    · refine E_iload_n dX0_changeTop_0 (by rfl) ?_
      refine E_bipush (v := 10) dX0_changeTop_1 (by decide) ?_
      refine E_icmp_lt (n := 10) (by decide) (tgt := 12) dX0_changeTop_3 (by decide) (fun q3 => ?_) (fun q3 => ?_)
      · exact absurd hx (by omega)
      · refine E_iload_n dX0_changeTop_6 (by rfl) ?_
        refine E_bipush (v := 60) dX0_changeTop_7 (by decide) ?_
        refine E_icmp_le (n := 60) (by decide) (tgt := 15) dX0_changeTop_9 (by decide) (fun q9 => ?_) (fun q9 => ?_)
        · refine E_iload_n dX0_changeTop_15 (by rfl) ?_
          refine E_istore_n dX0_changeTop_16 (Nat.le_of_ble_eq_true rfl) (by rfl) ?_
          refine E_iload_n dX0_changeTop_17 (by rfl) ?_
          refine E_aload_n dX0_changeTop_18 (by rfl) ?_
          refine gf_X0_37 dX0_changeTop_19 rfl (by assumption) (by rfl) ?_
          refine E_icmp_ge (n := _) rfl (tgt := 59) dX0_changeTop_22 (by decide) (fun q22 => ?_) (fun q22 => ?_)
          · exact E_loc [(0, .ref g), (1, .int (nI x))] ⟨rfl, rfl, trivial⟩ K
          · exact absurd hxt (by omega)
        · exact absurd hx (by omega)
    · have loop : ∀ di i : Nat, t < i + di → i ≤ t → (x ≤ i) → E G kX0_changeTop (x_R (some (.int (nI t))) (gPut mem g (g_wO T (nI x) (g_cl T) (g_mv T) (g_ro T) (g_lo T)))) 0 0 ((gPut mem g T)) 17 (x_L [(0, .ref g), (1, .int (nI x)), (2, .int (nI i))]) [] := by
        intro di
        induction di with
        | zero => intro i hi1 hi2 _; exact absurd hi1 (by omega)
        | succ di ihi =>
          intro i hi1 hi2 hinv
          have ei : (nI i).toInt = (i : Int) := nI_toInt (by omega)
          have eci : (nI i).toNatClampNeg = i := nI_clamp (by omega)
          refine E_iload_n dX0_changeTop_17 (by rfl) ?_
          refine E_aload_n dX0_changeTop_18 (by rfl) ?_
          refine gf_X0_37 dX0_changeTop_19 rfl (by assumption) (by rfl) ?_
          refine E_icmp_ge (n := _) rfl (tgt := 59) dX0_changeTop_22 (by decide) (fun q22 => ?_) (fun q22 => ?_)
          · exact E_loc [(0, .ref g), (1, .int (nI x))] ⟨rfl, rfl, trivial⟩ K
          · refine E_aload_n dX0_changeTop_25 (by rfl) ?_
            refine gf_X0_15 dX0_changeTop_26 rfl (by assumption) (by rfl) ?_
            refine E_iload_n dX0_changeTop_29 (by rfl) ?_
            refine E_zald dX0_changeTop_30 (by assumption) (i_in (by omega) (by omega)) ?_
            refine E_if_ne (tgt := 50) dX0_changeTop_31 (by decide) (fun q31 => ?_) (fun q31 => ?_)
            · rw [eci] at q31; exact absurd (Or.inl q31) (hb i hinv (by omega))
            · refine E_aload_n dX0_changeTop_34 (by rfl) ?_
              refine E_iload_n dX0_changeTop_35 (by rfl) ?_
              refine cs_X0_changeTop_36 (by assumption) (Nat.le_of_ble_eq_true rfl) (c_isUpperEnd (gAt_put h T) (by omega) _) ?_
              refine E_if_ne (tgt := 50) dX0_changeTop_39 (by decide) (fun q39 => ?_) (fun q39 => ?_)
              · rw [b2i_T0] at q39; exact absurd (Or.inr (Or.inl (Classical.not_not.mp q39))) (hb i hinv (by omega))
              · refine E_aload_n dX0_changeTop_42 (by rfl) ?_
                refine E_iload_n dX0_changeTop_43 (by rfl) ?_
                refine cs_X0_changeTop_44 (by assumption) (Nat.le_of_ble_eq_true rfl) (c_climbersOn (gAt_put h T) hc hn _) ?_
                refine E_if_eq (tgt := 53) dX0_changeTop_47 (by decide) (fun q47 => ?_) (fun q47 => ?_)
                · refine E_iinc (d := 1) dX0_changeTop_53 (by rfl) (by decide) (Nat.le_of_ble_eq_true rfl) (by rfl) ?_
                  refine E_goto (tgt := 17) dX0_changeTop_56 (by decide) ?_
                  exact E_loc [(0, .ref g), (1, .int (nI x)), (2, .int (nI (i + 1)))] ⟨rfl, rfl, x_i (by first | exact nI_1 _ | decide), trivial⟩ (ihi (i + 1) (by omega) (by omega) (by omega))
                · exact absurd (Or.inr (Or.inr q47)) (hb i hinv (by omega))
      refine E_iload_n dX0_changeTop_0 (by rfl) ?_
      refine E_bipush (v := 10) dX0_changeTop_1 (by decide) ?_
      refine E_icmp_lt (n := 10) (by decide) (tgt := 12) dX0_changeTop_3 (by decide) (fun q3 => ?_) (fun q3 => ?_)
      · exact absurd hx (by omega)
      · refine E_iload_n dX0_changeTop_6 (by rfl) ?_
        refine E_bipush (v := 60) dX0_changeTop_7 (by decide) ?_
        refine E_icmp_le (n := 60) (by decide) (tgt := 15) dX0_changeTop_9 (by decide) (fun q9 => ?_) (fun q9 => ?_)
        · refine E_iload_n dX0_changeTop_15 (by rfl) ?_
          refine E_istore_n dX0_changeTop_16 (Nat.le_of_ble_eq_true rfl) (by rfl) ?_
          exact E_loc [(0, .ref g), (1, .int (nI x)), (2, .int (nI x))] ⟨rfl, rfl, x_i (by first | rfl | decide), trivial⟩ (loop (t + 1) x (by omega) (by omega) (Nat.le_refl _))
        · exact absurd hx (by omega)
  · refine E_aload_n dX0_changeTop_59 (by rfl) ?_
    refine gf_X0_37 dX0_changeTop_60 rfl (by assumption) (by rfl) ?_
    refine E_istore_n dX0_changeTop_63 (Nat.le_of_ble_eq_true rfl) (by rfl) ?_
    refine E_aload_n dX0_changeTop_64 (by rfl) ?_
    refine E_iload_n dX0_changeTop_65 (by rfl) ?_
    refine pf_X0_37 dX0_changeTop_66 rfl (by assumption) (Nat.le_of_ble_eq_true rfl) ?_
    refine E_mem (gSetP0 h (g_wO T (nI x) (g_cl T) (g_mv T) (g_ro T) (g_lo T)) (by rfl)) ?_
    obtain ⟨a0, a1, a2, a3, a4, a5, a6, a7, a8⟩ := gAt_put h (g_wO T (nI x) (g_cl T) (g_mv T) (g_ro T) (g_lo T))
    refine E_iload_n dX0_changeTop_69 (by rfl) ?_
    refine E_iret dX0_changeTop_70 rfl rfl (Nat.zero_le _) (Nat.zero_le _) ?_
    exact x_leaf (by rw [← ht])
end G3
end
section
/-! Game: the methods that change it -/
section G4
variable {G : xG} {mem : xM} {g : Nat} {S T : gS} {t n : Nat}
abbrev g_why1 (T : gS) (u : Int32) : Prop := u.toInt = 0 ∨ ¬ g_below T u
abbrev g_why3 (T : gS) (t : Nat) (u l : Int32) : Prop := g_isUp T u ∨ g_isUp T l ∨ 0 < (sCn (fun s => (g_le T s).toInt = u.toInt) t).toInt
abbrev g_why4 (T : gS) (n : Nat) (u : Int32) : Prop := (g_la T u.toNatClampNeg).toInt ≠ 0 ∨ (sOn (g_pl T) u n).toInt ≠ 0
/-- why no carpet can be laid; 0 where it can -/
def gWhyL (T : gS) (t n : Nat) (u l : Int32) : Int32 :=
  if g_why1 T u then -1 else if l.toInt < 0 ∨ u.toInt ≤ l.toInt then -2 else if g_why3 T t u l then -3 else if g_why4 T n u then -3 else if 6 ≤ (sCn (g_up (g_le T)) t).toInt then -4 else 0
theorem c_layCarpet_no (h : gAt mem g S) (ht : g_top S = nI t) (ht60 : t ≤ 60) (hc : g_cl S = nI n) (hn : n ≤ 6) (u l : Int32) (hw : gWhyL S t n u l ≠ 0) : Dt G kX0_layCarpet [.ref g, .int u, .int l] mem (some (.int (gWhyL S t n u l))) mem := by
  obtain ⟨a0, a1, a2, a3, a4, a5, a6, a7, a8⟩ := id h
  have ht' : (g_top S).toInt = (t : Int) := by rw [ht]; exact nI_toInt (by omega)
  refine Ct_of (by decide) (Nat.le_of_ble_eq_true rfl) ?_
  refine E_iload_n dX0_layCarpet_0 (by rfl) ?_
  refine E_if_eq (tgt := 12) dX0_layCarpet_1 (by decide) (fun q1 => ?_) (fun q1 => ?_)
  · refine E_iconst (v := (-1)) dX0_layCarpet_12 (by decide) ?_
    refine E_iret dX0_layCarpet_13 rfl rfl (Nat.zero_le _) (Nat.zero_le _) ?_
    exact x_leaf (by unfold gWhyL; rw [if_pos (show g_why1 S u from Or.inl q1)])
  · refine E_aload_n dX0_layCarpet_4 (by rfl) ?_
    refine E_iload_n dX0_layCarpet_5 (by rfl) ?_
    refine cs_X0_layCarpet_6 (by assumption) (Nat.le_of_ble_eq_true rfl) (c_isBelowTop h _) ?_
    refine E_if_ne (tgt := 14) dX0_layCarpet_9 (by decide) (fun q9 => ?_) (fun q9 => ?_)
    · rw [b2i_T0] at q9; have q9 := Classical.not_not.mp q9; have w1 : ¬ g_why1 S u := fun z => z.elim q1 (fun z => z q9)
      refine E_iload_n dX0_layCarpet_14 (by rfl) ?_
      refine E_if_lt (tgt := 23) dX0_layCarpet_15 (by decide) (fun q15 => ?_) (fun q15 => ?_)
      · refine E_bipush (v := (-2)) dX0_layCarpet_23 (by decide) ?_
        refine E_iret dX0_layCarpet_25 rfl rfl (Nat.zero_le _) (Nat.zero_le _) ?_
        exact x_leaf (by unfold gWhyL; rw [if_neg w1, if_pos (by omega)])
      · refine E_iload_n dX0_layCarpet_18 (by rfl) ?_
        refine E_iload_n dX0_layCarpet_19 (by rfl) ?_
        refine E_icmp_lt (n := _) rfl (tgt := 26) dX0_layCarpet_20 (by decide) (fun q20 => ?_) (fun q20 => ?_)
        · refine E_aload_n dX0_layCarpet_26 (by rfl) ?_
          refine E_iload_n dX0_layCarpet_27 (by rfl) ?_
          refine cs_X0_layCarpet_28 (by assumption) (Nat.le_of_ble_eq_true rfl) (c_isUpperEnd h (by omega) _) ?_
          refine E_if_ne (tgt := 50) dX0_layCarpet_31 (by decide) (fun q31 => ?_) (fun q31 => ?_)
          · rw [b2i_T0] at q31; have q31 := Classical.not_not.mp q31; have w3 : g_why3 S t u l := Or.inl q31
            refine E_bipush (v := (-3)) dX0_layCarpet_50 (by decide) ?_
            refine E_iret dX0_layCarpet_52 rfl rfl (Nat.zero_le _) (Nat.zero_le _) ?_
            exact x_leaf (by unfold gWhyL; rw [if_neg w1, if_neg (by omega), if_pos w3])
          · rw [b2i_T0] at q31
            refine E_aload_n dX0_layCarpet_34 (by rfl) ?_
            refine E_iload_n dX0_layCarpet_35 (by rfl) ?_
            refine cs_X0_layCarpet_36 (by assumption) (Nat.le_of_ble_eq_true rfl) (c_isUpperEnd h (by omega) _) ?_
            refine E_if_ne (tgt := 50) dX0_layCarpet_39 (by decide) (fun q39 => ?_) (fun q39 => ?_)
            · rw [b2i_T0] at q39; have q39 := Classical.not_not.mp q39; have w3 : g_why3 S t u l := Or.inr (Or.inl q39)
              refine E_bipush (v := (-3)) dX0_layCarpet_50 (by decide) ?_
              refine E_iret dX0_layCarpet_52 rfl rfl (Nat.zero_le _) (Nat.zero_le _) ?_
              exact x_leaf (by unfold gWhyL; rw [if_neg w1, if_neg (by omega), if_pos w3])
            · rw [b2i_T0] at q39
              refine E_aload_n dX0_layCarpet_42 (by rfl) ?_
              refine E_iload_n dX0_layCarpet_43 (by rfl) ?_
              refine cs_X0_layCarpet_44 (by assumption) (Nat.le_of_ble_eq_true rfl) (c_lowerEndsAt h ht ht60 _) ?_
              refine E_if_le (tgt := 53) dX0_layCarpet_47 (by decide) (fun q47 => ?_) (fun q47 => ?_)
              · have w3 : ¬ g_why3 S t u l := fun z => z.elim q31 (fun z => z.elim q39 (fun z => by omega))
                refine E_aload_n dX0_layCarpet_53 (by rfl) ?_
                refine gf_X0_15 dX0_layCarpet_54 rfl (by assumption) (by rfl) ?_
                refine E_iload_n dX0_layCarpet_57 (by rfl) ?_
                refine E_zald dX0_layCarpet_58 (by assumption) (i_in (by omega) (by omega)) ?_
                refine E_if_ne (tgt := 70) dX0_layCarpet_59 (by decide) (fun q59 => ?_) (fun q59 => ?_)
                · have w4 : g_why4 S n u := Or.inl q59
                  refine E_bipush (v := (-3)) dX0_layCarpet_70 (by decide) ?_
                  refine E_iret dX0_layCarpet_72 rfl rfl (Nat.zero_le _) (Nat.zero_le _) ?_
                  exact x_leaf (by unfold gWhyL; rw [if_neg w1, if_neg (by omega), if_neg w3, if_pos w4])
                · refine E_aload_n dX0_layCarpet_62 (by rfl) ?_
                  refine E_iload_n dX0_layCarpet_63 (by rfl) ?_
                  refine cs_X0_layCarpet_64 (by assumption) (Nat.le_of_ble_eq_true rfl) (c_climbersOn h hc hn _) ?_
                  refine E_if_eq (tgt := 73) dX0_layCarpet_67 (by decide) (fun q67 => ?_) (fun q67 => ?_)
                  · have w4 : ¬ g_why4 S n u := fun z => z.elim (fun z => z q59) (fun z => z q67)
                    refine E_aload_n dX0_layCarpet_73 (by rfl) ?_
                    refine cs_X0_layCarpet_74 (by assumption) (Nat.le_of_ble_eq_true rfl) (c_countCarpets h ht ht60) ?_
                    refine E_bipush (v := 6) dX0_layCarpet_77 (by decide) ?_
                    refine E_icmp_lt (n := 6) (by decide) (tgt := 85) dX0_layCarpet_79 (by decide) (fun q79 => ?_) (fun q79 => ?_)
                    · exact absurd (by unfold gWhyL; rw [if_neg w1, if_neg (by omega), if_neg w3, if_neg w4, if_neg (by omega)]) hw
                    · refine E_bipush (v := (-4)) dX0_layCarpet_82 (by decide) ?_
                      refine E_iret dX0_layCarpet_84 rfl rfl (Nat.zero_le _) (Nat.zero_le _) ?_
                      exact x_leaf (by unfold gWhyL; rw [if_neg w1, if_neg (by omega), if_neg w3, if_neg w4, if_pos (by omega)])
                  · have w4 : g_why4 S n u := Or.inr q67
                    refine E_bipush (v := (-3)) dX0_layCarpet_70 (by decide) ?_
                    refine E_iret dX0_layCarpet_72 rfl rfl (Nat.zero_le _) (Nat.zero_le _) ?_
                    exact x_leaf (by unfold gWhyL; rw [if_neg w1, if_neg (by omega), if_neg w3, if_pos w4])
              · have w3 : g_why3 S t u l := Or.inr (Or.inr (by omega))
                refine E_bipush (v := (-3)) dX0_layCarpet_50 (by decide) ?_
                refine E_iret dX0_layCarpet_52 rfl rfl (Nat.zero_le _) (Nat.zero_le _) ?_
                exact x_leaf (by unfold gWhyL; rw [if_neg w1, if_neg (by omega), if_pos w3])
        · refine E_bipush (v := (-2)) dX0_layCarpet_23 (by decide) ?_
          refine E_iret dX0_layCarpet_25 rfl rfl (Nat.zero_le _) (Nat.zero_le _) ?_
          exact x_leaf (by unfold gWhyL; rw [if_neg w1, if_pos (by omega)])
    · rw [b2i_T0] at q9
      refine E_iconst (v := (-1)) dX0_layCarpet_12 (by decide) ?_
      refine E_iret dX0_layCarpet_13 rfl rfl (Nat.zero_le _) (Nat.zero_le _) ?_
      exact x_leaf (by unfold gWhyL; rw [if_pos (show g_why1 S u from Or.inr q9)])
theorem gWhyL_ok {u l : Int32} (hw : gWhyL T t n u l = 0) : ¬ g_why1 T u ∧ ¬ (l.toInt < 0 ∨ u.toInt ≤ l.toInt) ∧ ¬ g_why3 T t u l ∧ ¬ g_why4 T n u ∧ ¬ 6 ≤ (sCn (g_up (g_le T)) t).toInt := by
  unfold gWhyL at hw
  by_cases h1 : g_why1 T u
  · rw [if_pos h1] at hw; exact absurd hw (by decide)
  rw [if_neg h1] at hw
  by_cases h2 : l.toInt < 0 ∨ u.toInt ≤ l.toInt
  · rw [if_pos h2] at hw; exact absurd hw (by decide)
  rw [if_neg h2] at hw
  by_cases h3 : g_why3 T t u l
  · rw [if_pos h3] at hw; exact absurd hw (by decide)
  rw [if_neg h3] at hw
  by_cases h4 : g_why4 T n u
  · rw [if_pos h4] at hw; exact absurd hw (by decide)
  rw [if_neg h4] at hw
  by_cases h5 : 6 ≤ (sCn (g_up (g_le T)) t).toInt
  · rw [if_pos h5] at hw; exact absurd hw (by decide)
  exact ⟨h1, h2, h3, h4, h5⟩
abbrev gLay (T : gS) (u l : Int32) : gS := g_wLe T (upd (g_le T) u.toNatClampNeg l)
theorem c_layCarpet_ok (h : gAt mem g S) (ht : g_top T = nI t) (ht60 : t ≤ 60) (hc : g_cl T = nI n) (hn : n ≤ 6) (u l : Int32) (hw : gWhyL T t n u l = 0) : Dt G kX0_layCarpet [.ref g, .int u, .int l] (gPut mem g T) (some (.int (sCn (g_up (g_le (gLay T u l))) t))) (gPut mem g (gLay T u l)) := by
  obtain ⟨a0, a1, a2, a3, a4, a5, a6, a7, a8⟩ := gAt_put h T
  have ht' : (g_top T).toInt = (t : Int) := by rw [ht]; exact nI_toInt (by omega)
  obtain ⟨w1, w2, w3, w4, w5⟩ := gWhyL_ok hw
  have hb : g_below T u := Classical.not_not.mp (fun z => w1 (Or.inr z))
  refine Ct_of (by decide) (Nat.le_of_ble_eq_true rfl) ?_
  refine E_iload_n dX0_layCarpet_0 (by rfl) ?_
  refine E_if_eq (tgt := 12) dX0_layCarpet_1 (by decide) (fun q1 => ?_) (fun q1 => ?_)
  · exact absurd (Or.inl q1) w1
  · refine E_aload_n dX0_layCarpet_4 (by rfl) ?_
    refine E_iload_n dX0_layCarpet_5 (by rfl) ?_
    refine cs_X0_layCarpet_6 (by assumption) (Nat.le_of_ble_eq_true rfl) (c_isBelowTop (gAt_put h T) _) ?_
    refine E_if_ne (tgt := 14) dX0_layCarpet_9 (by decide) (fun q9 => ?_) (fun q9 => ?_)
    · refine E_iload_n dX0_layCarpet_14 (by rfl) ?_
      refine E_if_lt (tgt := 23) dX0_layCarpet_15 (by decide) (fun q15 => ?_) (fun q15 => ?_)
      · exact absurd (Or.inl q15) w2
      · refine E_iload_n dX0_layCarpet_18 (by rfl) ?_
        refine E_iload_n dX0_layCarpet_19 (by rfl) ?_
        refine E_icmp_lt (n := _) rfl (tgt := 26) dX0_layCarpet_20 (by decide) (fun q20 => ?_) (fun q20 => ?_)
        · refine E_aload_n dX0_layCarpet_26 (by rfl) ?_
          refine E_iload_n dX0_layCarpet_27 (by rfl) ?_
          refine cs_X0_layCarpet_28 (by assumption) (Nat.le_of_ble_eq_true rfl) (c_isUpperEnd (gAt_put h T) (by omega) _) ?_
          refine E_if_ne (tgt := 50) dX0_layCarpet_31 (by decide) (fun q31 => ?_) (fun q31 => ?_)
          · rw [b2i_T0] at q31; exact absurd (Or.inl (Classical.not_not.mp q31)) w3
          · refine E_aload_n dX0_layCarpet_34 (by rfl) ?_
            refine E_iload_n dX0_layCarpet_35 (by rfl) ?_
            refine cs_X0_layCarpet_36 (by assumption) (Nat.le_of_ble_eq_true rfl) (c_isUpperEnd (gAt_put h T) (by omega) _) ?_
            refine E_if_ne (tgt := 50) dX0_layCarpet_39 (by decide) (fun q39 => ?_) (fun q39 => ?_)
            · rw [b2i_T0] at q39; exact absurd (Or.inr (Or.inl (Classical.not_not.mp q39))) w3
            · refine E_aload_n dX0_layCarpet_42 (by rfl) ?_
              refine E_iload_n dX0_layCarpet_43 (by rfl) ?_
              refine cs_X0_layCarpet_44 (by assumption) (Nat.le_of_ble_eq_true rfl) (c_lowerEndsAt (gAt_put h T) ht ht60 _) ?_
              refine E_if_le (tgt := 53) dX0_layCarpet_47 (by decide) (fun q47 => ?_) (fun q47 => ?_)
              · refine E_aload_n dX0_layCarpet_53 (by rfl) ?_
                refine gf_X0_15 dX0_layCarpet_54 rfl (by assumption) (by rfl) ?_
                refine E_iload_n dX0_layCarpet_57 (by rfl) ?_
                refine E_zald dX0_layCarpet_58 (by assumption) (i_in (by omega) (by omega)) ?_
                refine E_if_ne (tgt := 70) dX0_layCarpet_59 (by decide) (fun q59 => ?_) (fun q59 => ?_)
                · exact absurd (Or.inl q59) w4
                · refine E_aload_n dX0_layCarpet_62 (by rfl) ?_
                  refine E_iload_n dX0_layCarpet_63 (by rfl) ?_
                  refine cs_X0_layCarpet_64 (by assumption) (Nat.le_of_ble_eq_true rfl) (c_climbersOn (gAt_put h T) hc hn _) ?_
                  refine E_if_eq (tgt := 73) dX0_layCarpet_67 (by decide) (fun q67 => ?_) (fun q67 => ?_)
                  · refine E_aload_n dX0_layCarpet_73 (by rfl) ?_
                    refine cs_X0_layCarpet_74 (by assumption) (Nat.le_of_ble_eq_true rfl) (c_countCarpets (gAt_put h T) ht ht60) ?_
                    refine E_bipush (v := 6) dX0_layCarpet_77 (by decide) ?_
                    refine E_icmp_lt (n := 6) (by decide) (tgt := 85) dX0_layCarpet_79 (by decide) (fun q79 => ?_) (fun q79 => ?_)
                    · refine E_aload_n dX0_layCarpet_85 (by rfl) ?_
                      refine gf_X0_9 dX0_layCarpet_86 rfl (by assumption) (by rfl) ?_
                      refine E_iload_n dX0_layCarpet_89 (by rfl) ?_
                      refine E_iload_n dX0_layCarpet_90 (by rfl) ?_
                      refine E_iast dX0_layCarpet_91 (by assumption) (i_in (by omega) (by omega)) ?_
                      refine E_mem (gSetP h (gLay T u l) 1 (by decide) (by rfl)) ?_
                      obtain ⟨a0, a1, a2, a3, a4, a5, a6, a7, a8⟩ := gAt_put h (gLay T u l)
                      refine E_aload_n dX0_layCarpet_92 (by rfl) ?_
                      refine cs_X0_layCarpet_93 (by assumption) (Nat.le_of_ble_eq_true rfl) (c_countCarpets (gAt_put h (gLay T u l)) ht ht60) ?_
                      refine E_iret dX0_layCarpet_96 rfl rfl (Nat.zero_le _) (Nat.zero_le _) ?_
                      exact x_leaf rfl
                    · exact absurd (by omega) w5
                  · exact absurd (Or.inr q67) w4
              · exact absurd (Or.inr (Or.inr (by omega))) w3
        · exact absurd (Or.inr (by omega)) w2
    · rw [b2i_T0] at q9; exact absurd hb q9
theorem c_takeCarpet_no (h : gAt mem g S) (ht : (g_top S).toInt ≤ 60) (u : Int32) (hu : ¬ g_isUp S u) : Dt G kX0_takeCarpet [.ref g, .int u] mem (some (.int (-1))) mem := by
  refine Ct_of (by decide) (Nat.le_of_ble_eq_true rfl) ?_
  refine E_aload_n dX0_takeCarpet_0 (by rfl) ?_
  refine E_iload_n dX0_takeCarpet_1 (by rfl) ?_
  refine cs_X0_takeCarpet_2 h.1 (Nat.le_of_ble_eq_true rfl) (c_isUpperEnd h ht _) ?_
  refine E_if_ne (tgt := 10) dX0_takeCarpet_5 (by decide) (fun q5 => ?_) (fun q5 => ?_)
  · rw [b2i_T0] at q5; exact absurd hu q5
  · refine E_iconst (v := (-1)) dX0_takeCarpet_8 (by decide) ?_
    refine E_iret dX0_takeCarpet_9 rfl rfl (Nat.zero_le _) (Nat.zero_le _) ?_
    exact x_leaf rfl
abbrev gTake (T : gS) (u : Int32) : gS := g_wLe T (upd (g_le T) u.toNatClampNeg (-6))
theorem c_takeCarpet_ok (h : gAt mem g S) (ht : (g_top T).toInt ≤ 60) (u : Int32) (hu : g_isUp T u) : Dt G kX0_takeCarpet [.ref g, .int u] (gPut mem g T) (some (.int (g_le T u.toNatClampNeg))) (gPut mem g (gTake T u)) := by
  obtain ⟨a0, a1, a2, a3, a4, a5, a6, a7, a8⟩ := gAt_put h T
  have hb := hu.1
  refine Ct_of (by decide) (Nat.le_of_ble_eq_true rfl) ?_
  refine E_aload_n dX0_takeCarpet_0 (by rfl) ?_
  refine E_iload_n dX0_takeCarpet_1 (by rfl) ?_
  refine cs_X0_takeCarpet_2 (by assumption) (Nat.le_of_ble_eq_true rfl) (c_isUpperEnd (gAt_put h T) ht _) ?_
  refine E_if_ne (tgt := 10) dX0_takeCarpet_5 (by decide) (fun q5 => ?_) (fun q5 => ?_)
  · refine E_aload_n dX0_takeCarpet_10 (by rfl) ?_
    refine gf_X0_9 dX0_takeCarpet_11 rfl (by assumption) (by rfl) ?_
    refine E_iload_n dX0_takeCarpet_14 (by rfl) ?_
    refine E_iald dX0_takeCarpet_15 (by assumption) (i_in (by omega) (by omega)) ?_
    refine E_istore_n dX0_takeCarpet_16 (Nat.le_of_ble_eq_true rfl) (by rfl) ?_
    refine E_aload_n dX0_takeCarpet_17 (by rfl) ?_
    refine gf_X0_9 dX0_takeCarpet_18 rfl (by assumption) (by rfl) ?_
    refine E_iload_n dX0_takeCarpet_21 (by rfl) ?_
    refine E_bipush (v := (-6)) dX0_takeCarpet_22 (by decide) ?_
    refine E_iast dX0_takeCarpet_24 (by assumption) (i_in (by omega) (by omega)) ?_
    refine E_mem (gSetP h (gTake T u) 1 (by decide) (by rfl)) ?_
    obtain ⟨a0, a1, a2, a3, a4, a5, a6, a7, a8⟩ := gAt_put h (gTake T u)
    refine E_iload_n dX0_takeCarpet_25 (by rfl) ?_
    refine E_iret dX0_takeCarpet_26 rfl rfl (Nat.zero_le _) (Nat.zero_le _) ?_
    exact x_leaf rfl
  · rw [b2i_T0] at q5; exact absurd hu q5
def gWhyP (T : gS) (u : Int32) : Int32 := if g_why1 T u then -1 else if (g_la T u.toNatClampNeg).toInt ≠ 0 ∨ g_isUp T u then -3 else 0
theorem c_putLanding_no (h : gAt mem g S) (ht : (g_top S).toInt ≤ 60) (u : Int32) (hw : gWhyP S u ≠ 0) : Dt G kX0_putLanding [.ref g, .int u] mem (some (.int (gWhyP S u))) mem := by
  obtain ⟨a0, a1, a2, a3, a4, a5, a6, a7, a8⟩ := id h
  refine Ct_of (by decide) (Nat.le_of_ble_eq_true rfl) ?_
  refine E_iload_n dX0_putLanding_0 (by rfl) ?_
  refine E_if_eq (tgt := 12) dX0_putLanding_1 (by decide) (fun q1 => ?_) (fun q1 => ?_)
  · refine E_iconst (v := (-1)) dX0_putLanding_12 (by decide) ?_
    refine E_iret dX0_putLanding_13 rfl rfl (Nat.zero_le _) (Nat.zero_le _) ?_
    exact x_leaf (by unfold gWhyP; rw [if_pos (show g_why1 S u from Or.inl q1)])
  · refine E_aload_n dX0_putLanding_4 (by rfl) ?_
    refine E_iload_n dX0_putLanding_5 (by rfl) ?_
    refine cs_X0_putLanding_6 (by assumption) (Nat.le_of_ble_eq_true rfl) (c_isBelowTop h _) ?_
    refine E_if_ne (tgt := 14) dX0_putLanding_9 (by decide) (fun q9 => ?_) (fun q9 => ?_)
    · rw [b2i_T0] at q9; have q9 := Classical.not_not.mp q9; have w1 : ¬ g_why1 S u := fun z => z.elim q1 (fun z => z q9)
      refine E_aload_n dX0_putLanding_14 (by rfl) ?_
      refine gf_X0_15 dX0_putLanding_15 rfl (by assumption) (by rfl) ?_
      refine E_iload_n dX0_putLanding_18 (by rfl) ?_
      refine E_zald dX0_putLanding_19 (by assumption) (i_in (by omega) (by omega)) ?_
      refine E_if_ne (tgt := 31) dX0_putLanding_20 (by decide) (fun q20 => ?_) (fun q20 => ?_)
      · have w2 : (g_la S u.toNatClampNeg).toInt ≠ 0 ∨ g_isUp S u := Or.inl q20
        refine E_bipush (v := (-3)) dX0_putLanding_31 (by decide) ?_
        refine E_iret dX0_putLanding_33 rfl rfl (Nat.zero_le _) (Nat.zero_le _) ?_
        exact x_leaf (by unfold gWhyP; rw [if_neg w1, if_pos w2])
      · refine E_aload_n dX0_putLanding_23 (by rfl) ?_
        refine E_iload_n dX0_putLanding_24 (by rfl) ?_
        refine cs_X0_putLanding_25 (by assumption) (Nat.le_of_ble_eq_true rfl) (c_isUpperEnd h ht _) ?_
        refine E_if_eq (tgt := 34) dX0_putLanding_28 (by decide) (fun q28 => ?_) (fun q28 => ?_)
        · rw [b2i_T0] at q28; exact absurd (by unfold gWhyP; rw [if_neg w1, if_neg (fun z => z.elim (fun z => z q20) q28)]) hw
        · rw [b2i_T0] at q28; have w2 : (g_la S u.toNatClampNeg).toInt ≠ 0 ∨ g_isUp S u := Or.inr (Classical.not_not.mp q28)
          refine E_bipush (v := (-3)) dX0_putLanding_31 (by decide) ?_
          refine E_iret dX0_putLanding_33 rfl rfl (Nat.zero_le _) (Nat.zero_le _) ?_
          exact x_leaf (by unfold gWhyP; rw [if_neg w1, if_pos w2])
    · rw [b2i_T0] at q9
      refine E_iconst (v := (-1)) dX0_putLanding_12 (by decide) ?_
      refine E_iret dX0_putLanding_13 rfl rfl (Nat.zero_le _) (Nat.zero_le _) ?_
      exact x_leaf (by unfold gWhyP; rw [if_pos (show g_why1 S u from Or.inr q9)])
theorem gWhyP_ok {u : Int32} (hw : gWhyP T u = 0) : ¬ g_why1 T u ∧ ¬ ((g_la T u.toNatClampNeg).toInt ≠ 0 ∨ g_isUp T u) := by
  unfold gWhyP at hw
  by_cases h1 : g_why1 T u
  · rw [if_pos h1] at hw; exact absurd hw (by decide)
  rw [if_neg h1] at hw
  by_cases h2 : (g_la T u.toNatClampNeg).toInt ≠ 0 ∨ g_isUp T u
  · rw [if_pos h2] at hw; exact absurd hw (by decide)
  exact ⟨h1, h2⟩
abbrev gPutL (T : gS) (u v : Int32) : gS := g_wLa T (upd (g_la T) u.toNatClampNeg v)
theorem c_putLanding_ok (h : gAt mem g S) (ht : g_top T = nI t) (ht60 : t ≤ 60) (u : Int32) (hw : gWhyP T u = 0) : Dt G kX0_putLanding [.ref g, .int u] (gPut mem g T) (some (.int (sCn (g_lan (g_la (gPutL T u 1))) t))) (gPut mem g (gPutL T u 1)) := by
  obtain ⟨a0, a1, a2, a3, a4, a5, a6, a7, a8⟩ := gAt_put h T
  have ht' : (g_top T).toInt = (t : Int) := by rw [ht]; exact nI_toInt (by omega)
  obtain ⟨w1, w2⟩ := gWhyP_ok hw
  have hb : g_below T u := Classical.not_not.mp (fun z => w1 (Or.inr z))
  refine Ct_of (by decide) (Nat.le_of_ble_eq_true rfl) ?_
  refine E_iload_n dX0_putLanding_0 (by rfl) ?_
  refine E_if_eq (tgt := 12) dX0_putLanding_1 (by decide) (fun q1 => ?_) (fun q1 => ?_)
  · exact absurd (Or.inl q1) w1
  · refine E_aload_n dX0_putLanding_4 (by rfl) ?_
    refine E_iload_n dX0_putLanding_5 (by rfl) ?_
    refine cs_X0_putLanding_6 (by assumption) (Nat.le_of_ble_eq_true rfl) (c_isBelowTop (gAt_put h T) _) ?_
    refine E_if_ne (tgt := 14) dX0_putLanding_9 (by decide) (fun q9 => ?_) (fun q9 => ?_)
    · refine E_aload_n dX0_putLanding_14 (by rfl) ?_
      refine gf_X0_15 dX0_putLanding_15 rfl (by assumption) (by rfl) ?_
      refine E_iload_n dX0_putLanding_18 (by rfl) ?_
      refine E_zald dX0_putLanding_19 (by assumption) (i_in (by omega) (by omega)) ?_
      refine E_if_ne (tgt := 31) dX0_putLanding_20 (by decide) (fun q20 => ?_) (fun q20 => ?_)
      · exact absurd (Or.inl q20) w2
      · refine E_aload_n dX0_putLanding_23 (by rfl) ?_
        refine E_iload_n dX0_putLanding_24 (by rfl) ?_
        refine cs_X0_putLanding_25 (by assumption) (Nat.le_of_ble_eq_true rfl) (c_isUpperEnd (gAt_put h T) (by omega) _) ?_
        refine E_if_eq (tgt := 34) dX0_putLanding_28 (by decide) (fun q28 => ?_) (fun q28 => ?_)
        · refine E_aload_n dX0_putLanding_34 (by rfl) ?_
          refine gf_X0_15 dX0_putLanding_35 rfl (by assumption) (by rfl) ?_
          refine E_iload_n dX0_putLanding_38 (by rfl) ?_
          refine E_iconst (v := 1) dX0_putLanding_39 (by decide) ?_
          refine E_zast dX0_putLanding_40 (by assumption) (i_in (by omega) (by omega)) (by rfl) ?_
          refine E_mem (gSetP h (gPutL T u 1) 2 (by decide) (by rfl)) ?_
          obtain ⟨a0, a1, a2, a3, a4, a5, a6, a7, a8⟩ := gAt_put h (gPutL T u 1)
          refine E_aload_n dX0_putLanding_41 (by rfl) ?_
          refine cs_X0_putLanding_42 (by assumption) (Nat.le_of_ble_eq_true rfl) (c_countLandings (gAt_put h (gPutL T u 1)) ht ht60) ?_
          refine E_iret dX0_putLanding_45 rfl rfl (Nat.zero_le _) (Nat.zero_le _) ?_
          exact x_leaf rfl
        · rw [b2i_T0] at q28; exact absurd (Or.inr (Classical.not_not.mp q28)) w2
    · rw [b2i_T0] at q9; exact absurd hb q9
/-! bitCount -/
def sBc (x : Int32) : Int32 :=
  let a := x - ((x.toUInt32 >>> ((1 : Int32).toUInt32 &&& Int32.toUInt32 31)).toInt32 &&& 1431655765)
  let b := (a &&& 858993459) + ((a.toUInt32 >>> ((2 : Int32).toUInt32 &&& Int32.toUInt32 31)).toInt32 &&& 858993459)
  let c := (b + (b.toUInt32 >>> ((4 : Int32).toUInt32 &&& Int32.toUInt32 31)).toInt32) &&& 252645135
  let d := c + (c.toUInt32 >>> ((8 : Int32).toUInt32 &&& Int32.toUInt32 31)).toInt32
  let e := d + (d.toUInt32 >>> ((16 : Int32).toUInt32 &&& Int32.toUInt32 31)).toInt32
  e &&& 63
theorem c_bitCount (x : Int32) : Dt G kJ6_bitCount_0f7a4 [.int x] mem (some (.int (sBc x))) mem := by
  refine Ct_of (by decide) (Nat.le_of_ble_eq_true rfl) ?_
  refine E_iload_n dJ6_bitCount_0f7a4_0 (by rfl) ?_
  refine E_iload_n dJ6_bitCount_0f7a4_1 (by rfl) ?_
  refine E_iconst (v := 1) dJ6_bitCount_0f7a4_2 (by decide) ?_
  refine E_iushr dJ6_bitCount_0f7a4_3 rfl ?_
  refine E_ldcw dJ6_bitCount_0f7a4_4 rfl wq_J6_265 ?_
  refine E_iand dJ6_bitCount_0f7a4_7 ?_
  refine E_isub dJ6_bitCount_0f7a4_8 ?_
  refine E_istore_n dJ6_bitCount_0f7a4_9 (Nat.le_of_ble_eq_true rfl) (by rfl) ?_
  refine E_iload_n dJ6_bitCount_0f7a4_10 (by rfl) ?_
  refine E_ldcw dJ6_bitCount_0f7a4_11 rfl wq_J6_266 ?_
  refine E_iand dJ6_bitCount_0f7a4_14 ?_
  refine E_iload_n dJ6_bitCount_0f7a4_15 (by rfl) ?_
  refine E_iconst (v := 2) dJ6_bitCount_0f7a4_16 (by decide) ?_
  refine E_iushr dJ6_bitCount_0f7a4_17 rfl ?_
  refine E_ldcw dJ6_bitCount_0f7a4_18 rfl wq_J6_266 ?_
  refine E_iand dJ6_bitCount_0f7a4_21 ?_
  refine E_iadd dJ6_bitCount_0f7a4_22 ?_
  refine E_istore_n dJ6_bitCount_0f7a4_23 (Nat.le_of_ble_eq_true rfl) (by rfl) ?_
  refine E_iload_n dJ6_bitCount_0f7a4_24 (by rfl) ?_
  refine E_iload_n dJ6_bitCount_0f7a4_25 (by rfl) ?_
  refine E_iconst (v := 4) dJ6_bitCount_0f7a4_26 (by decide) ?_
  refine E_iushr dJ6_bitCount_0f7a4_27 rfl ?_
  refine E_iadd dJ6_bitCount_0f7a4_28 ?_
  refine E_ldcw dJ6_bitCount_0f7a4_29 rfl wq_J6_267 ?_
  refine E_iand dJ6_bitCount_0f7a4_32 ?_
  refine E_istore_n dJ6_bitCount_0f7a4_33 (Nat.le_of_ble_eq_true rfl) (by rfl) ?_
  refine E_iload_n dJ6_bitCount_0f7a4_34 (by rfl) ?_
  refine E_iload_n dJ6_bitCount_0f7a4_35 (by rfl) ?_
  refine E_bipush (v := 8) dJ6_bitCount_0f7a4_36 (by decide) ?_
  refine E_iushr dJ6_bitCount_0f7a4_38 rfl ?_
  refine E_iadd dJ6_bitCount_0f7a4_39 ?_
  refine E_istore_n dJ6_bitCount_0f7a4_40 (Nat.le_of_ble_eq_true rfl) (by rfl) ?_
  refine E_iload_n dJ6_bitCount_0f7a4_41 (by rfl) ?_
  refine E_iload_n dJ6_bitCount_0f7a4_42 (by rfl) ?_
  refine E_bipush (v := 16) dJ6_bitCount_0f7a4_43 (by decide) ?_
  refine E_iushr dJ6_bitCount_0f7a4_45 rfl ?_
  refine E_iadd dJ6_bitCount_0f7a4_46 ?_
  refine E_istore_n dJ6_bitCount_0f7a4_47 (Nat.le_of_ble_eq_true rfl) (by rfl) ?_
  refine E_iload_n dJ6_bitCount_0f7a4_48 (by rfl) ?_
  refine E_bipush (v := 63) dJ6_bitCount_0f7a4_49 (by decide) ?_
  refine E_iand dJ6_bitCount_0f7a4_51 ?_
  refine E_iret dJ6_bitCount_0f7a4_52 rfl rfl (Nat.zero_le _) (Nat.zero_le _) ?_
  exact x_leaf rfl
theorem c_removeLanding_no (h : gAt mem g S) (ht : (g_top S).toInt ≤ 60) (u : Int32) (hu : ¬ g_isLa S u) : Dt G kX0_removeLanding [.ref g, .int u] mem (some (.int (-1))) mem := by
  refine Ct_of (by decide) (Nat.le_of_ble_eq_true rfl) ?_
  refine E_aload_n dX0_removeLanding_0 (by rfl) ?_
  refine E_iload_n dX0_removeLanding_1 (by rfl) ?_
  refine cs_X0_removeLanding_2 h.1 (Nat.le_of_ble_eq_true rfl) (c_isLanding h ht _) ?_
  refine E_if_ne (tgt := 10) dX0_removeLanding_5 (by decide) (fun q5 => ?_) (fun q5 => ?_)
  · rw [b2i_T0] at q5; exact absurd hu q5
  · refine E_iconst (v := (-1)) dX0_removeLanding_8 (by decide) ?_
    refine E_iret dX0_removeLanding_9 rfl rfl (Nat.zero_le _) (Nat.zero_le _) ?_
    exact x_leaf rfl
theorem c_removeLanding_ok (h : gAt mem g S) (ht : (g_top T).toInt ≤ 60) (hc : g_cl T = nI n) (hn : n ≤ 6) (u : Int32) (hu : g_isLa T u) : Dt G kX0_removeLanding [.ref g, .int u] (gPut mem g T) (some (.int (sBc (sOn (g_pl T) u n)))) (gPut mem g (gPutL T u 0)) := by
  obtain ⟨a0, a1, a2, a3, a4, a5, a6, a7, a8⟩ := gAt_put h T
  have hb := hu.1
  refine Ct_of (by decide) (Nat.le_of_ble_eq_true rfl) ?_
  refine E_aload_n dX0_removeLanding_0 (by rfl) ?_
  refine E_iload_n dX0_removeLanding_1 (by rfl) ?_
  refine cs_X0_removeLanding_2 (by assumption) (Nat.le_of_ble_eq_true rfl) (c_isLanding (gAt_put h T) ht _) ?_
  refine E_if_ne (tgt := 10) dX0_removeLanding_5 (by decide) (fun q5 => ?_) (fun q5 => ?_)
  · refine E_aload_n dX0_removeLanding_10 (by rfl) ?_
    refine gf_X0_15 dX0_removeLanding_11 rfl (by assumption) (by rfl) ?_
    refine E_iload_n dX0_removeLanding_14 (by rfl) ?_
    refine E_iconst (v := 0) dX0_removeLanding_15 (by decide) ?_
    refine E_zast dX0_removeLanding_16 (by assumption) (i_in (by omega) (by omega)) (by rfl) ?_
    refine E_mem (gSetP h (gPutL T u 0) 2 (by decide) (by rfl)) ?_
    obtain ⟨a0, a1, a2, a3, a4, a5, a6, a7, a8⟩ := gAt_put h (gPutL T u 0)
    refine E_aload_n dX0_removeLanding_17 (by rfl) ?_
    refine E_iload_n dX0_removeLanding_18 (by rfl) ?_
    refine cs_X0_removeLanding_19 (by assumption) (Nat.le_of_ble_eq_true rfl) (c_climbersOn (gAt_put h (gPutL T u 0)) hc hn _) ?_
    refine cs_X0_removeLanding_22 (Nat.le_of_ble_eq_true rfl) (c_bitCount _) ?_
    refine E_iret dX0_removeLanding_25 rfl rfl (Nat.zero_le _) (Nat.zero_le _) ?_
    exact x_leaf rfl
  · rw [b2i_T0] at q5; exact absurd hu q5
theorem c_addClimber_no (h : gAt mem g S) (hc : 6 ≤ (g_cl S).toInt) : Dt G kX0_addClimber [.ref g] mem (some (.int (-4))) mem := by
  obtain ⟨a0, a1, a2, a3, a4, a5, a6, a7, a8⟩ := id h
  refine Ct_of (by decide) (Nat.le_of_ble_eq_true rfl) ?_
  refine E_aload_n dX0_addClimber_0 (by rfl) ?_
  refine gf_X0_41 dX0_addClimber_1 rfl (by assumption) (by rfl) ?_
  refine E_bipush (v := 6) dX0_addClimber_4 (by decide) ?_
  refine E_icmp_lt (n := 6) (by decide) (tgt := 12) dX0_addClimber_6 (by decide) (fun q6 => ?_) (fun q6 => ?_)
  · exact absurd q6 (by omega)
  · refine E_bipush (v := (-4)) dX0_addClimber_9 (by decide) ?_
    refine E_iret dX0_addClimber_11 rfl rfl (Nat.zero_le _) (Nat.zero_le _) ?_
    exact x_leaf rfl
abbrev gAdd (T : gS) : gS := g_wO T (g_top T) (g_cl T + 1) (g_mv T) (g_ro T) (g_lo T)
theorem c_addClimber_ok (h : gAt mem g S) (hc : ¬ 6 ≤ (g_cl T).toInt) : Dt G kX0_addClimber [.ref g] (gPut mem g T) (some (.int (g_cl T + 1 - 1))) (gPut mem g (gAdd T)) := by
  obtain ⟨a0, a1, a2, a3, a4, a5, a6, a7, a8⟩ := gAt_put h T
  refine Ct_of (by decide) (Nat.le_of_ble_eq_true rfl) ?_
  refine E_aload_n dX0_addClimber_0 (by rfl) ?_
  refine gf_X0_41 dX0_addClimber_1 rfl (by assumption) (by rfl) ?_
  refine E_bipush (v := 6) dX0_addClimber_4 (by decide) ?_
  refine E_icmp_lt (n := 6) (by decide) (tgt := 12) dX0_addClimber_6 (by decide) (fun q6 => ?_) (fun q6 => ?_)
  · refine E_aload_n dX0_addClimber_12 (by rfl) ?_
    refine E_dup dX0_addClimber_13 rfl ?_
    refine gf_X0_41 dX0_addClimber_14 rfl (by assumption) (by rfl) ?_
    refine E_iconst (v := 1) dX0_addClimber_17 (by decide) ?_
    refine E_iadd dX0_addClimber_18 ?_
    refine pf_X0_41 dX0_addClimber_19 rfl (by assumption) (Nat.le_of_ble_eq_true rfl) ?_
    refine E_mem (gSetP0 h (gAdd T) (by rfl)) ?_
    obtain ⟨a0, a1, a2, a3, a4, a5, a6, a7, a8⟩ := gAt_put h (gAdd T)
    refine E_aload_n dX0_addClimber_22 (by rfl) ?_
    refine gf_X0_41 dX0_addClimber_23 rfl (by assumption) (by rfl) ?_
    refine E_iconst (v := 1) dX0_addClimber_26 (by decide) ?_
    refine E_isub dX0_addClimber_27 ?_
    refine E_iret dX0_addClimber_28 rfl rfl (Nat.zero_le _) (Nat.zero_le _) ?_
    exact x_leaf rfl
  · exact absurd q6 (by omega)
end G4
end
section
/-! Game: rolls -/
section G5
variable {G : xG} {mem : xM} {g : Nat} {S T : gS} {t n : Nat}
def gCome (T : gS) (c : Nat) (x : Int32) : gS :=
  (T.1, T.2.1,
   (if g_below T x then (if (g_le T x.toNatClampNeg).toInt = -6 then upd (g_pl T) c x else upd (g_pl T) c (g_le T x.toNatClampNeg)) else upd (g_pl T) c 0),
   (if g_below T x then g_tp T else upd (g_tp T) c (g_tp T c + 1)), g_rs T, g_tl T, g_lm T,
   (if g_below T x then (if (g_le T x.toNatClampNeg).toInt = -6 then g_sl T else upd (g_sl T) c (g_sl T c + 1)) else g_sl T),
   T.2.2.2.2.2.2.2.2)
theorem c_comeTo (h : gAt mem g S) (ht : (g_top T).toInt ≤ 60) {y : Int32} (hy : 0 ≤ y.toInt ∧ y.toInt < 6) (x : Int32) : Dt G kX0_comeTo [.ref g, .int y, .int x] (gPut mem g T) none (gPut mem g (gCome T y.toNatClampNeg x)) := by
  obtain ⟨a0, a1, a2, a3, a4, a5, a6, a7, a8⟩ := gAt_put h T
  refine Ct_of (by decide) (Nat.le_of_ble_eq_true rfl) ?_
  refine E_aload_n dX0_comeTo_0 (by rfl) ?_
  refine E_iload_n dX0_comeTo_1 (by rfl) ?_
  refine cs_X0_comeTo_2 (by assumption) (Nat.le_of_ble_eq_true rfl) (c_isBelowTop (gAt_put h T) _) ?_
  refine E_if_ne (tgt := 28) dX0_comeTo_5 (by decide) (fun q5 => ?_) (fun q5 => ?_)
  · rw [b2i_T0] at q5; have q5 := Classical.not_not.mp q5
    refine E_aload_n dX0_comeTo_28 (by rfl) ?_
    refine gf_X0_9 dX0_comeTo_29 rfl (by assumption) (by rfl) ?_
    refine E_iload_n dX0_comeTo_32 (by rfl) ?_
    refine E_iald dX0_comeTo_33 (by assumption) (i_in (by omega) (by omega)) ?_
    refine E_bipush (v := (-6)) dX0_comeTo_34 (by decide) ?_
    refine E_icmp_eq (n := (-6)) (by decide) (tgt := 64) dX0_comeTo_36 (by decide) (fun q36 => ?_) (fun q36 => ?_)
    · refine E_aload_n dX0_comeTo_64 (by rfl) ?_
      refine gf_X0_19 dX0_comeTo_65 rfl (by assumption) (by rfl) ?_
      refine E_iload_n dX0_comeTo_68 (by rfl) ?_
      refine E_iload_n dX0_comeTo_69 (by rfl) ?_
      refine E_iast dX0_comeTo_70 (by assumption) (i_in (by omega) (by omega)) ?_
      refine E_mem (gSetP h (g_wPl T (upd (g_pl T) y.toNatClampNeg x)) 3 (by decide) (by rfl)) ?_
      obtain ⟨a0, a1, a2, a3, a4, a5, a6, a7, a8⟩ := gAt_put h (g_wPl T (upd (g_pl T) y.toNatClampNeg x))
      refine E_vret dX0_comeTo_71 rfl (Nat.zero_le _) (Nat.zero_le _) ?_
      refine ⟨rfl, ?_⟩
      unfold gCome
      rw [if_pos q5, if_pos q5, if_pos q5, if_pos q36, if_pos q36]
    · refine E_aload_n dX0_comeTo_39 (by rfl) ?_
      refine gf_X0_34 dX0_comeTo_40 rfl (by assumption) (by rfl) ?_
      refine E_iload_n dX0_comeTo_43 (by rfl) ?_
      refine E_dup2 dX0_comeTo_44 rfl rfl ?_
      refine E_iald dX0_comeTo_45 (by assumption) (i_in (by omega) (by omega)) ?_
      refine E_iconst (v := 1) dX0_comeTo_46 (by decide) ?_
      refine E_iadd dX0_comeTo_47 ?_
      refine E_iast dX0_comeTo_48 (by assumption) (i_in (by omega) (by omega)) ?_
      refine E_mem (gSetP h (g_wSl T (upd (g_sl T) y.toNatClampNeg (g_sl T y.toNatClampNeg + 1))) 8 (by decide) (by rfl)) ?_
      obtain ⟨a0, a1, a2, a3, a4, a5, a6, a7, a8⟩ := gAt_put h (g_wSl T (upd (g_sl T) y.toNatClampNeg (g_sl T y.toNatClampNeg + 1)))
      refine E_aload_n dX0_comeTo_49 (by rfl) ?_
      refine gf_X0_19 dX0_comeTo_50 rfl (by assumption) (by rfl) ?_
      refine E_iload_n dX0_comeTo_53 (by rfl) ?_
      refine E_aload_n dX0_comeTo_54 (by rfl) ?_
      refine gf_X0_9 dX0_comeTo_55 rfl (by assumption) (by rfl) ?_
      refine E_iload_n dX0_comeTo_58 (by rfl) ?_
      refine E_iald dX0_comeTo_59 (by assumption) (i_in (by omega) (by omega)) ?_
      refine E_iast dX0_comeTo_60 (by assumption) (i_in (by omega) (by omega)) ?_
      refine E_mem (gSetP h (g_wPl (g_wSl T (upd (g_sl T) y.toNatClampNeg (g_sl T y.toNatClampNeg + 1))) (upd (g_pl T) y.toNatClampNeg (g_le T x.toNatClampNeg))) 3 (by decide) (by rfl)) ?_
      obtain ⟨a0, a1, a2, a3, a4, a5, a6, a7, a8⟩ := gAt_put h (g_wPl (g_wSl T (upd (g_sl T) y.toNatClampNeg (g_sl T y.toNatClampNeg + 1))) (upd (g_pl T) y.toNatClampNeg (g_le T x.toNatClampNeg)))
      refine E_goto (tgt := 71) dX0_comeTo_61 (by decide) ?_
      refine E_vret dX0_comeTo_71 rfl (Nat.zero_le _) (Nat.zero_le _) ?_
      refine ⟨rfl, ?_⟩
      unfold gCome
      rw [if_pos q5, if_pos q5, if_pos q5, if_neg q36, if_neg q36]
  · rw [b2i_T0] at q5
    refine E_aload_n dX0_comeTo_8 (by rfl) ?_
    refine gf_X0_22 dX0_comeTo_9 rfl (by assumption) (by rfl) ?_
    refine E_iload_n dX0_comeTo_12 (by rfl) ?_
    refine E_dup2 dX0_comeTo_13 rfl rfl ?_
    refine E_iald dX0_comeTo_14 (by assumption) (i_in (by omega) (by omega)) ?_
    refine E_iconst (v := 1) dX0_comeTo_15 (by decide) ?_
    refine E_iadd dX0_comeTo_16 ?_
    refine E_iast dX0_comeTo_17 (by assumption) (i_in (by omega) (by omega)) ?_
    refine E_mem (gSetP h (g_wTp T (upd (g_tp T) y.toNatClampNeg (g_tp T y.toNatClampNeg + 1))) 4 (by decide) (by rfl)) ?_
    obtain ⟨a0, a1, a2, a3, a4, a5, a6, a7, a8⟩ := gAt_put h (g_wTp T (upd (g_tp T) y.toNatClampNeg (g_tp T y.toNatClampNeg + 1)))
    refine E_aload_n dX0_comeTo_18 (by rfl) ?_
    refine gf_X0_19 dX0_comeTo_19 rfl (by assumption) (by rfl) ?_
    refine E_iload_n dX0_comeTo_22 (by rfl) ?_
    refine E_iconst (v := 0) dX0_comeTo_23 (by decide) ?_
    refine E_iast dX0_comeTo_24 (by assumption) (i_in (by omega) (by omega)) ?_
    refine E_mem (gSetP h (g_wPl (g_wTp T (upd (g_tp T) y.toNatClampNeg (g_tp T y.toNatClampNeg + 1))) (upd (g_pl T) y.toNatClampNeg 0)) 3 (by decide) (by rfl)) ?_
    obtain ⟨a0, a1, a2, a3, a4, a5, a6, a7, a8⟩ := gAt_put h (g_wPl (g_wTp T (upd (g_tp T) y.toNatClampNeg (g_tp T y.toNatClampNeg + 1))) (upd (g_pl T) y.toNatClampNeg 0))
    refine E_goto (tgt := 71) dX0_comeTo_25 (by decide) ?_
    refine E_vret dX0_comeTo_71 rfl (Nat.zero_le _) (Nat.zero_le _) ?_
    refine ⟨rfl, ?_⟩
    unfold gCome
    rw [if_neg q5, if_neg q5, if_neg q5]
def gLiftTo (T : gS) (u : Int32) : Nat → gS
  | 0 => T
  | i + 1 =>
    if g_psd (gLiftTo T u i) i u then
      gCome (g_wLm (g_wTl (gLiftTo T u i) (upd (g_tl (gLiftTo T u i)) i (g_tl (gLiftTo T u i) i + 1))) (upd (g_lm (gLiftTo T u i)) (g_mv (gLiftTo T u i)).toNatClampNeg (g_lm (gLiftTo T u i) (g_mv (gLiftTo T u i)).toNatClampNeg + 1))) i (g_pl (gLiftTo T u i) i + 1)
    else gLiftTo T u i
theorem gLiftTo_fix (T : gS) (u : Int32) (i : Nat) : g_le (gLiftTo T u i) = g_le T ∧ g_la (gLiftTo T u i) = g_la T ∧ g_rs (gLiftTo T u i) = g_rs T ∧ (gLiftTo T u i).2.2.2.2.2.2.2.2 = T.2.2.2.2.2.2.2.2 := by
  induction i with
  | zero => exact ⟨rfl, rfl, rfl, rfl⟩
  | succ i ih =>
    rw [gLiftTo]
    by_cases hp : g_psd (gLiftTo T u i) i u
    · rw [if_pos hp]; exact ih
    · rw [if_neg hp]; exact ih
theorem c_liftThosePassed (h : gAt mem g S) (ht : (g_top T).toInt ≤ 60) (hc : g_cl T = nI n) (hn : n ≤ 6) (hm : 0 ≤ (g_mv T).toInt ∧ (g_mv T).toInt < 6) (u : Int32) : Dt G kX0_liftThosePassed [.ref g, .int u] (gPut mem g T) none (gPut mem g (gLiftTo T u n)) := by
  have hfix : ∀ i, g_top (gLiftTo T u i) = g_top T ∧ g_cl (gLiftTo T u i) = g_cl T ∧ g_mv (gLiftTo T u i) = g_mv T := fun i => by
    have e := (gLiftTo_fix T u i).2.2.2
    exact ⟨congrArg (fun z => z.1) e, congrArg (fun z => z.2.1) e, congrArg (fun z => z.2.2.1) e⟩
  have hc' : (g_cl T).toInt = (n : Int) := by rw [hc]; exact nI_toInt (by omega)
  refine Ct_of (by decide) (Nat.le_of_ble_eq_true rfl) ?_
  have loop : ∀ di i : Nat, n < i + di → i ≤ n → E G kX0_liftThosePassed (x_R (none) (gPut mem g (gLiftTo T u n))) 0 0 ((gPut mem g (gLiftTo T u i))) 2 (x_L [(0, .ref g), (1, .int u), (2, .int (nI i))]) [] := by
    intro di
    induction di with
    | zero => intro i hi1 hi2; exact absurd hi1 (by omega)
    | succ di ihi =>
      intro i hi1 hi2
      have ei : (nI i).toInt = (i : Int) := nI_toInt (by omega)
      have eci : (nI i).toNatClampNeg = i := nI_clamp (by omega)
      obtain ⟨f1, f2, f3⟩ := hfix i
      obtain ⟨a0, a1, a2, a3, a4, a5, a6, a7, a8⟩ := gAt_put h (gLiftTo T u i)
      have hm' : 0 ≤ (g_mv (gLiftTo T u i)).toInt ∧ (g_mv (gLiftTo T u i)).toInt < 6 := by rw [f3]; exact hm
      have hc2 : (g_cl (gLiftTo T u i)).toInt = (n : Int) := by rw [f2]; exact hc'
      have ht2 : (g_top (gLiftTo T u i)).toInt ≤ 60 := by rw [f1]; exact ht
      refine E_iload_n dX0_liftThosePassed_2 (by rfl) ?_
      refine E_aload_n dX0_liftThosePassed_3 (by rfl) ?_
      refine gf_X0_41 dX0_liftThosePassed_4 rfl (by assumption) (by rfl) ?_
      refine E_icmp_ge (n := _) rfl (tgt := 61) dX0_liftThosePassed_7 (by decide) (fun q7 => ?_) (fun q7 => ?_)
      · refine E_vret dX0_liftThosePassed_61 rfl (Nat.zero_le _) (Nat.zero_le _) ?_
        exact ⟨rfl, by rw [show i = n by omega]⟩
      · refine E_aload_n dX0_liftThosePassed_10 (by rfl) ?_
        refine E_iload_n dX0_liftThosePassed_11 (by rfl) ?_
        refine E_iload_n dX0_liftThosePassed_12 (by rfl) ?_
        refine cs_X0_liftThosePassed_13 (by assumption) (Nat.le_of_ble_eq_true rfl) (c_isPassed (gAt_put h _) ht2 hm' (by omega) u) ?_
        refine E_if_eq (tgt := 55) dX0_liftThosePassed_16 (by decide) (fun q16 => ?_) (fun q16 => ?_)
        · rw [b2i_T0, eci] at q16
          refine E_iinc (d := 1) dX0_liftThosePassed_55 (by rfl) (by decide) (Nat.le_of_ble_eq_true rfl) (by rfl) ?_
          refine E_goto (tgt := 2) dX0_liftThosePassed_58 (by decide) ?_
          refine E_mem (mem' := gPut mem g (gLiftTo T u (i + 1))) (congrArg (gPut mem g) ?_) ?_
          · rw [gLiftTo]; first | rw [if_neg q16] | (rw [if_pos q16]; simp only [eci])
          exact E_loc [(0, .ref g), (1, .int u), (2, .int (nI (i + 1)))] ⟨rfl, rfl, x_i (by first | exact nI_1 _ | decide), trivial⟩ (ihi (i + 1) (by omega) (by omega))
        · rw [b2i_T0, eci] at q16; have q16 := Classical.not_not.mp q16
          refine E_aload_n dX0_liftThosePassed_19 (by rfl) ?_
          refine gf_X0_28 dX0_liftThosePassed_20 rfl (by assumption) (by rfl) ?_
          refine E_iload_n dX0_liftThosePassed_23 (by rfl) ?_
          refine E_dup2 dX0_liftThosePassed_24 rfl rfl ?_
          refine E_iald dX0_liftThosePassed_25 (by assumption) (i_in (by omega) (by omega)) ?_
          refine E_iconst (v := 1) dX0_liftThosePassed_26 (by decide) ?_
          refine E_iadd dX0_liftThosePassed_27 ?_
          refine E_iast dX0_liftThosePassed_28 (by assumption) (i_in (by omega) (by omega)) ?_
          refine E_mem (gSetP h (g_wTl (gLiftTo T u i) (upd (g_tl (gLiftTo T u i)) (nI i).toNatClampNeg (g_tl (gLiftTo T u i) (nI i).toNatClampNeg + 1))) 6 (by decide) (by rfl)) ?_
          obtain ⟨a0, a1, a2, a3, a4, a5, a6, a7, a8⟩ := gAt_put h (g_wTl (gLiftTo T u i) (upd (g_tl (gLiftTo T u i)) (nI i).toNatClampNeg (g_tl (gLiftTo T u i) (nI i).toNatClampNeg + 1)))
          refine E_aload_n dX0_liftThosePassed_29 (by rfl) ?_
          refine gf_X0_31 dX0_liftThosePassed_30 rfl (by assumption) (by rfl) ?_
          refine E_aload_n dX0_liftThosePassed_33 (by rfl) ?_
          refine gf_X0_44 dX0_liftThosePassed_34 rfl (by assumption) (by rfl) ?_
          refine E_dup2 dX0_liftThosePassed_37 rfl rfl ?_
          refine E_iald dX0_liftThosePassed_38 (by assumption) (i_in hm'.1 hm'.2) ?_
          refine E_iconst (v := 1) dX0_liftThosePassed_39 (by decide) ?_
          refine E_iadd dX0_liftThosePassed_40 ?_
          refine E_iast dX0_liftThosePassed_41 (by assumption) (i_in hm'.1 hm'.2) ?_
          refine E_mem (gSetP h (g_wLm (g_wTl (gLiftTo T u i) (upd (g_tl (gLiftTo T u i)) (nI i).toNatClampNeg (g_tl (gLiftTo T u i) (nI i).toNatClampNeg + 1))) (upd (g_lm (gLiftTo T u i)) (g_mv (gLiftTo T u i)).toNatClampNeg (g_lm (gLiftTo T u i) (g_mv (gLiftTo T u i)).toNatClampNeg + 1))) 7 (by decide) (by rfl)) ?_
          obtain ⟨a0, a1, a2, a3, a4, a5, a6, a7, a8⟩ := gAt_put h (g_wLm (g_wTl (gLiftTo T u i) (upd (g_tl (gLiftTo T u i)) (nI i).toNatClampNeg (g_tl (gLiftTo T u i) (nI i).toNatClampNeg + 1))) (upd (g_lm (gLiftTo T u i)) (g_mv (gLiftTo T u i)).toNatClampNeg (g_lm (gLiftTo T u i) (g_mv (gLiftTo T u i)).toNatClampNeg + 1)))
          refine E_aload_n dX0_liftThosePassed_42 (by rfl) ?_
          refine E_iload_n dX0_liftThosePassed_43 (by rfl) ?_
          refine E_aload_n dX0_liftThosePassed_44 (by rfl) ?_
          refine gf_X0_19 dX0_liftThosePassed_45 rfl (by assumption) (by rfl) ?_
          refine E_iload_n dX0_liftThosePassed_48 (by rfl) ?_
          refine E_iald dX0_liftThosePassed_49 (by assumption) (i_in (by omega) (by omega)) ?_
          refine E_iconst (v := 1) dX0_liftThosePassed_50 (by decide) ?_
          refine E_iadd dX0_liftThosePassed_51 ?_
          refine cs_X0_liftThosePassed_52 (by assumption) (Nat.le_of_ble_eq_true rfl) (c_comeTo (T := g_wLm (g_wTl (gLiftTo T u i) (upd (g_tl (gLiftTo T u i)) (nI i).toNatClampNeg (g_tl (gLiftTo T u i) (nI i).toNatClampNeg + 1))) (upd (g_lm (gLiftTo T u i)) (g_mv (gLiftTo T u i)).toNatClampNeg (g_lm (gLiftTo T u i) (g_mv (gLiftTo T u i)).toNatClampNeg + 1))) (y := nI i) h ht2 (by omega) _) ?_
          refine E_iinc (d := 1) dX0_liftThosePassed_55 (by rfl) (by decide) (Nat.le_of_ble_eq_true rfl) (by rfl) ?_
          refine E_goto (tgt := 2) dX0_liftThosePassed_58 (by decide) ?_
          refine E_mem (mem' := gPut mem g (gLiftTo T u (i + 1))) (congrArg (gPut mem g) ?_) ?_
          · rw [gLiftTo]; first | rw [if_neg q16] | (rw [if_pos q16]; simp only [eci])
          exact E_loc [(0, .ref g), (1, .int u), (2, .int (nI (i + 1)))] ⟨rfl, rfl, x_i (by first | exact nI_1 _ | decide), trivial⟩ (ihi (i + 1) (by omega) (by omega))
  refine E_iconst (v := 0) dX0_liftThosePassed_0 (by decide) ?_
  refine E_istore_n dX0_liftThosePassed_1 (Nat.le_of_ble_eq_true rfl) (by rfl) ?_
  exact E_loc [(0, .ref g), (1, .int u), (2, .int (nI 0))] ⟨rfl, rfl, x_i (by first | rfl | decide), trivial⟩ (loop (n + 1) 0 (by omega) (by omega))
def gBeh (T : gS) (x : Int32) : Int32 := if g_isCl T (x + 1) then x + 1 else 0
theorem gBeh_rng (T : gS) (x : Int32) (hc : (g_cl T).toInt ≤ 6) : 0 ≤ (gBeh T x).toInt ∧ (gBeh T x).toInt < 6 := by
  unfold gBeh
  by_cases h : g_isCl T (x + 1)
  · rw [if_pos h]; omega
  · rw [if_neg h]; decide
def gSkF : Nat → gS → Int32 → gS
  | 0, T, x => g_wO T (g_top T) (g_cl T) x (g_ro T) (g_lo T)
  | f + 1, T, x => if 0 < (g_rs T x.toNatClampNeg).toInt then gSkF f (g_wO (g_wRs T (upd (g_rs T) x.toNatClampNeg (g_rs T x.toNatClampNeg - 1))) (g_top T) (g_cl T) (g_mv T) (g_ro T) (g_lo T + 1)) (gBeh T x) else g_wO T (g_top T) (g_cl T) x (g_ro T) (g_lo T)
def gNext (T : gS) : gS := gSkF 12 T (gBeh T (g_mv T))
theorem c_goToNextMover (h : gAt mem g S) (hc : (g_cl T).toInt ≤ 6) : Dt G kX0_goToNextMover [.ref g] (gPut mem g T) none (gPut mem g (gNext T)) := by
  refine Ct_of (by decide) (Nat.le_of_ble_eq_true rfl) ?_
  have loop : ∀ (f : Nat) (T : gS) (x : Int32) (R : Option Value → xM → Prop), R none (gPut mem g (gSkF f T x)) → f ≤ 12 → (g_cl T).toInt ≤ 6 → (0 ≤ x.toInt ∧ x.toInt < 6) → E G kX0_goToNextMover R 0 0 (gPut mem g T) 11 (x_L [(0, .ref g), (1, .int x), (2, .int (nI (12 - f)))]) [] := by
    intro f
    induction f with
    | zero =>
      intro T x R hR hf hc hx
      obtain ⟨a0, a1, a2, a3, a4, a5, a6, a7, a8⟩ := gAt_put h T
      have e12 : (nI (12 - 0)).toInt = 12 := by decide
      refine E_iload_n dX0_goToNextMover_11 (by rfl) ?_
      refine E_bipush (v := 12) dX0_goToNextMover_12 (by decide) ?_
      refine E_icmp_ge (n := 12) (by decide) (tgt := 58) dX0_goToNextMover_14 (by decide) (fun q14 => ?_) (fun q14 => ?_)
      · refine E_aload_n dX0_goToNextMover_58 (by rfl) ?_
        refine E_iload_n dX0_goToNextMover_59 (by rfl) ?_
        refine pf_X0_44 dX0_goToNextMover_60 rfl (by assumption) (Nat.le_of_ble_eq_true rfl) ?_
        refine E_mem (gSetP0 h (g_wO T (g_top T) (g_cl T) x (g_ro T) (g_lo T)) (by rfl)) ?_
        obtain ⟨a0, a1, a2, a3, a4, a5, a6, a7, a8⟩ := gAt_put h (g_wO T (g_top T) (g_cl T) x (g_ro T) (g_lo T))
        refine E_vret dX0_goToNextMover_63 rfl (Nat.zero_le _) (Nat.zero_le _) ?_
        exact hR
      · exact absurd e12 (by omega)
    | succ f ih =>
      intro T x R hR hf hc hx
      obtain ⟨a0, a1, a2, a3, a4, a5, a6, a7, a8⟩ := gAt_put h T
      have e12 : (nI (12 - (f + 1))).toInt = ((12 - (f + 1) : Nat) : Int) := nI_toInt (by omega)
      refine E_iload_n dX0_goToNextMover_11 (by rfl) ?_
      refine E_bipush (v := 12) dX0_goToNextMover_12 (by decide) ?_
      refine E_icmp_ge (n := 12) (by decide) (tgt := 58) dX0_goToNextMover_14 (by decide) (fun q14 => ?_) (fun q14 => ?_)
      · exact absurd q14 (by omega)
      · refine E_aload_n dX0_goToNextMover_17 (by rfl) ?_
        refine gf_X0_25 dX0_goToNextMover_18 rfl (by assumption) (by rfl) ?_
        refine E_iload_n dX0_goToNextMover_21 (by rfl) ?_
        refine E_iald dX0_goToNextMover_22 (by assumption) (i_in (by omega) (by omega)) ?_
        refine E_if_le (tgt := 58) dX0_goToNextMover_23 (by decide) (fun q23 => ?_) (fun q23 => ?_)
        · refine E_aload_n dX0_goToNextMover_58 (by rfl) ?_
          refine E_iload_n dX0_goToNextMover_59 (by rfl) ?_
          refine pf_X0_44 dX0_goToNextMover_60 rfl (by assumption) (Nat.le_of_ble_eq_true rfl) ?_
          refine E_mem (gSetP0 h (g_wO T (g_top T) (g_cl T) x (g_ro T) (g_lo T)) (by rfl)) ?_
          obtain ⟨a0, a1, a2, a3, a4, a5, a6, a7, a8⟩ := gAt_put h (g_wO T (g_top T) (g_cl T) x (g_ro T) (g_lo T))
          refine E_vret dX0_goToNextMover_63 rfl (Nat.zero_le _) (Nat.zero_le _) ?_
          rw [gSkF, if_neg (by omega)] at hR; exact hR
        · refine E_aload_n dX0_goToNextMover_26 (by rfl) ?_
          refine gf_X0_25 dX0_goToNextMover_27 rfl (by assumption) (by rfl) ?_
          refine E_iload_n dX0_goToNextMover_30 (by rfl) ?_
          refine E_dup2 dX0_goToNextMover_31 rfl rfl ?_
          refine E_iald dX0_goToNextMover_32 (by assumption) (i_in (by omega) (by omega)) ?_
          refine E_iconst (v := 1) dX0_goToNextMover_33 (by decide) ?_
          refine E_isub dX0_goToNextMover_34 ?_
          refine E_iast dX0_goToNextMover_35 (by assumption) (i_in (by omega) (by omega)) ?_
          refine E_mem (gSetP h (g_wRs T (upd (g_rs T) x.toNatClampNeg (g_rs T x.toNatClampNeg - 1))) 5 (by decide) (by rfl)) ?_
          obtain ⟨a0, a1, a2, a3, a4, a5, a6, a7, a8⟩ := gAt_put h (g_wRs T (upd (g_rs T) x.toNatClampNeg (g_rs T x.toNatClampNeg - 1)))
          refine E_aload_n dX0_goToNextMover_36 (by rfl) ?_
          refine E_dup dX0_goToNextMover_37 rfl ?_
          refine gf_X0_50 dX0_goToNextMover_38 rfl (by assumption) (by rfl) ?_
          refine E_iconst (v := 1) dX0_goToNextMover_41 (by decide) ?_
          refine E_iadd dX0_goToNextMover_42 ?_
          refine pf_X0_50 dX0_goToNextMover_43 rfl (by assumption) (Nat.le_of_ble_eq_true rfl) ?_
          refine E_mem (gSetP0 h (g_wO (g_wRs T (upd (g_rs T) x.toNatClampNeg (g_rs T x.toNatClampNeg - 1))) (g_top T) (g_cl T) (g_mv T) (g_ro T) (g_lo T + 1)) (by rfl)) ?_
          obtain ⟨a0, a1, a2, a3, a4, a5, a6, a7, a8⟩ := gAt_put h (g_wO (g_wRs T (upd (g_rs T) x.toNatClampNeg (g_rs T x.toNatClampNeg - 1))) (g_top T) (g_cl T) (g_mv T) (g_ro T) (g_lo T + 1))
          refine E_aload_n dX0_goToNextMover_46 (by rfl) ?_
          refine E_iload_n dX0_goToNextMover_47 (by rfl) ?_
          refine cs_X0_goToNextMover_48 (by assumption) (Nat.le_of_ble_eq_true rfl) (c_behind (gAt_put h (g_wO (g_wRs T (upd (g_rs T) x.toNatClampNeg (g_rs T x.toNatClampNeg - 1))) (g_top T) (g_cl T) (g_mv T) (g_ro T) (g_lo T + 1))) x) ?_
          refine E_istore_n dX0_goToNextMover_51 (Nat.le_of_ble_eq_true rfl) (by rfl) ?_
          refine E_iinc (d := 1) dX0_goToNextMover_52 (by rfl) (by decide) (Nat.le_of_ble_eq_true rfl) (by rfl) ?_
          refine E_goto (tgt := 11) dX0_goToNextMover_55 (by decide) ?_
          exact E_loc [(0, .ref g), (1, .int (gBeh T x)), (2, .int (nI (12 - f)))] ⟨rfl, rfl, x_i ((nI_1 _).trans (congrArg nI (by omega))), trivial⟩ (ih _ _ R (by rw [gSkF, if_pos (by omega)] at hR; exact hR) (by omega) hc (gBeh_rng T x hc))
  obtain ⟨a0, a1, a2, a3, a4, a5, a6, a7, a8⟩ := gAt_put h T
  refine E_aload_n dX0_goToNextMover_0 (by rfl) ?_
  refine E_aload_n dX0_goToNextMover_1 (by rfl) ?_
  refine gf_X0_44 dX0_goToNextMover_2 rfl (by assumption) (by rfl) ?_
  refine cs_X0_goToNextMover_5 (by assumption) (Nat.le_of_ble_eq_true rfl) (c_behind (gAt_put h T) (g_mv T)) ?_
  refine E_istore_n dX0_goToNextMover_8 (Nat.le_of_ble_eq_true rfl) (by rfl) ?_
  refine E_iconst (v := 0) dX0_goToNextMover_9 (by decide) ?_
  refine E_istore_n dX0_goToNextMover_10 (Nat.le_of_ble_eq_true rfl) (by rfl) ?_
  exact E_loc [(0, .ref g), (1, .int (gBeh T (g_mv T))), (2, .int (nI (12 - 12)))] ⟨rfl, rfl, rfl, trivial⟩ (loop 12 T _ _ (x_leaf rfl) (Nat.le_refl _) hc (gBeh_rng T _ hc))
/-- a roll -/
def gRoll1 (T : gS) (u : Int32) (n : Nat) : gS := gCome (gLiftTo (g_wO T (g_top T) (g_cl T) (g_mv T) (g_ro T + 1) (g_lo T)) u n) (g_mv T).toNatClampNeg (g_pl T (g_mv T).toNatClampNeg + u)
def gRoll2 (T : gS) (u : Int32) (n : Nat) : gS := g_wRs (gRoll1 T u n) (if g_isLa (gRoll1 T u n) (g_pl T (g_mv T).toNatClampNeg + u) then upd (g_rs (gRoll1 T u n)) (g_mv T).toNatClampNeg (g_rs (gRoll1 T u n) (g_mv T).toNatClampNeg + 1) else g_rs (gRoll1 T u n))
def gRoll (T : gS) (u : Int32) (n : Nat) : gS := gNext (gRoll2 T u n)
theorem gRoll1_fix (T : gS) (u : Int32) (n : Nat) : g_le (gRoll1 T u n) = g_le T ∧ g_la (gRoll1 T u n) = g_la T ∧ g_rs (gRoll1 T u n) = g_rs T ∧ (gRoll1 T u n).2.2.2.2.2.2.2.2 = (g_top T, g_cl T, g_mv T, g_ro T + 1, g_lo T) := gLiftTo_fix (g_wO T (g_top T) (g_cl T) (g_mv T) (g_ro T + 1) (g_lo T)) u n
theorem c_makeRoll_no1 (h : gAt mem g S) (u : Int32) (hu : ¬ (1 ≤ u.toInt ∧ u.toInt ≤ 6)) : Dt G kX0_makeRoll [.ref g, .int u] mem (some (.int (-2))) mem := by
  refine Ct_of (by decide) (Nat.le_of_ble_eq_true rfl) ?_
  refine E_iload_n dX0_makeRoll_0 (by rfl) ?_
  refine cs_X0_makeRoll_1 (Nat.le_of_ble_eq_true rfl) (c_isRoll u) ?_
  refine E_if_ne (tgt := 10) dX0_makeRoll_4 (by decide) (fun q4 => ?_) (fun q4 => ?_)
  · rw [b2i_T0] at q4; exact absurd hu q4
  · refine E_bipush (v := (-2)) dX0_makeRoll_7 (by decide) ?_
    refine E_iret dX0_makeRoll_9 rfl rfl (Nat.zero_le _) (Nat.zero_le _) ?_
    exact x_leaf rfl
theorem c_makeRoll_no2 (h : gAt mem g S) (u : Int32) (hu : 1 ≤ u.toInt ∧ u.toInt ≤ 6) (hm : ¬ g_isCl S (g_mv S)) : Dt G kX0_makeRoll [.ref g, .int u] mem (some (.int (-3))) mem := by
  refine Ct_of (by decide) (Nat.le_of_ble_eq_true rfl) ?_
  refine E_iload_n dX0_makeRoll_0 (by rfl) ?_
  refine cs_X0_makeRoll_1 (Nat.le_of_ble_eq_true rfl) (c_isRoll u) ?_
  refine E_if_ne (tgt := 10) dX0_makeRoll_4 (by decide) (fun q4 => ?_) (fun q4 => ?_)
  · refine E_aload_n dX0_makeRoll_10 (by rfl) ?_
    refine cs_X0_makeRoll_11 h.1 (Nat.le_of_ble_eq_true rfl) (c_hasMover h) ?_
    refine E_if_ne (tgt := 20) dX0_makeRoll_14 (by decide) (fun q14 => ?_) (fun q14 => ?_)
    · rw [b2i_T0] at q14; exact absurd hm q14
    · refine E_bipush (v := (-3)) dX0_makeRoll_17 (by decide) ?_
      refine E_iret dX0_makeRoll_19 rfl rfl (Nat.zero_le _) (Nat.zero_le _) ?_
      exact x_leaf rfl
  · rw [b2i_T0] at q4; exact absurd hu q4
theorem c_makeRoll_ok (h : gAt mem g S) (ht : (g_top T).toInt ≤ 60) (hc : g_cl T = nI n) (hn : n ≤ 6) (hm : g_isCl T (g_mv T)) (u : Int32) (hu : 1 ≤ u.toInt ∧ u.toInt ≤ 6) : Dt G kX0_makeRoll [.ref g, .int u] (gPut mem g T) (some (.int (g_pl (gRoll T u n) (g_mv T).toNatClampNeg))) (gPut mem g (gRoll T u n)) := by
  have hc' : (g_cl T).toInt = (n : Int) := by rw [hc]; exact nI_toInt (by omega)
  have hm6 : 0 ≤ (g_mv T).toInt ∧ (g_mv T).toInt < 6 := by omega
  obtain ⟨r1, r2, r3, r4⟩ := gRoll1_fix T u n
  have r5 : g_top (gRoll1 T u n) = g_top T := congrArg (fun z => z.1) r4
  have r6 : g_cl (gRoll1 T u n) = g_cl T := congrArg (fun z => z.2.1) r4
  have ht1 : (g_top (gRoll1 T u n)).toInt ≤ 60 := by rw [r5]; exact ht
  have hc1 : (g_cl (gRoll1 T u n)).toInt ≤ 6 := by rw [r6]; omega
  obtain ⟨a0, a1, a2, a3, a4, a5, a6, a7, a8⟩ := gAt_put h T
  refine Ct_of (by decide) (Nat.le_of_ble_eq_true rfl) ?_
  refine E_iload_n dX0_makeRoll_0 (by rfl) ?_
  refine cs_X0_makeRoll_1 (Nat.le_of_ble_eq_true rfl) (c_isRoll u) ?_
  refine E_if_ne (tgt := 10) dX0_makeRoll_4 (by decide) (fun q4 => ?_) (fun q4 => ?_)
  · refine E_aload_n dX0_makeRoll_10 (by rfl) ?_
    refine cs_X0_makeRoll_11 (by assumption) (Nat.le_of_ble_eq_true rfl) (c_hasMover (gAt_put h T)) ?_
    refine E_if_ne (tgt := 20) dX0_makeRoll_14 (by decide) (fun q14 => ?_) (fun q14 => ?_)
    · refine E_aload_n dX0_makeRoll_20 (by rfl) ?_
      refine gf_X0_44 dX0_makeRoll_21 rfl (by assumption) (by rfl) ?_
      refine E_istore_n dX0_makeRoll_24 (Nat.le_of_ble_eq_true rfl) (by rfl) ?_
      refine E_aload_n dX0_makeRoll_25 (by rfl) ?_
      refine gf_X0_19 dX0_makeRoll_26 rfl (by assumption) (by rfl) ?_
      refine E_iload_n dX0_makeRoll_29 (by rfl) ?_
      refine E_iald dX0_makeRoll_30 (by assumption) (i_in (by omega) (by omega)) ?_
      refine E_iload_n dX0_makeRoll_31 (by rfl) ?_
      refine E_iadd dX0_makeRoll_32 ?_
      refine E_istore_n dX0_makeRoll_33 (Nat.le_of_ble_eq_true rfl) (by rfl) ?_
      refine E_aload_n dX0_makeRoll_34 (by rfl) ?_
      refine E_dup dX0_makeRoll_35 rfl ?_
      refine gf_X0_47 dX0_makeRoll_36 rfl (by assumption) (by rfl) ?_
      refine E_iconst (v := 1) dX0_makeRoll_39 (by decide) ?_
      refine E_iadd dX0_makeRoll_40 ?_
      refine pf_X0_47 dX0_makeRoll_41 rfl (by assumption) (Nat.le_of_ble_eq_true rfl) ?_
      refine E_mem (gSetP0 h (g_wO T (g_top T) (g_cl T) (g_mv T) (g_ro T + 1) (g_lo T)) (by rfl)) ?_
      obtain ⟨a0, a1, a2, a3, a4, a5, a6, a7, a8⟩ := gAt_put h (g_wO T (g_top T) (g_cl T) (g_mv T) (g_ro T + 1) (g_lo T))
      refine E_aload_n dX0_makeRoll_44 (by rfl) ?_
      refine E_iload_n dX0_makeRoll_45 (by rfl) ?_
      refine cs_X0_makeRoll_46 (by assumption) (Nat.le_of_ble_eq_true rfl) (c_liftThosePassed (T := g_wO T (g_top T) (g_cl T) (g_mv T) (g_ro T + 1) (g_lo T)) h ht hc hn hm6 u) ?_
      obtain ⟨a0, a1, a2, a3, a4, a5, a6, a7, a8⟩ := gAt_put h (gLiftTo (g_wO T (g_top T) (g_cl T) (g_mv T) (g_ro T + 1) (g_lo T)) u n)
      refine E_aload_n dX0_makeRoll_49 (by rfl) ?_
      refine E_iload_n dX0_makeRoll_50 (by rfl) ?_
      refine E_iload_n dX0_makeRoll_51 (by rfl) ?_
      refine cs_X0_makeRoll_52 (by assumption) (Nat.le_of_ble_eq_true rfl) (c_comeTo h (by rw [show g_top (gLiftTo (g_wO T (g_top T) (g_cl T) (g_mv T) (g_ro T + 1) (g_lo T)) u n) = g_top T from r5]; exact ht) hm6 _) ?_
      obtain ⟨a0, a1, a2, a3, a4, a5, a6, a7, a8⟩ := gAt_put h (gRoll1 T u n)
      refine E_aload_n dX0_makeRoll_55 (by rfl) ?_
      refine E_iload_n dX0_makeRoll_56 (by rfl) ?_
      refine cs_X0_makeRoll_57 a0 (Nat.le_of_ble_eq_true rfl) (c_isLanding (gAt_put h (gRoll1 T u n)) ht1 _) ?_
      refine E_if_eq (tgt := 73) dX0_makeRoll_60 (by decide) (fun q60 => ?_) (fun q60 => ?_)
      · rw [b2i_T0] at q60; have e2 : gRoll2 T u n = gRoll1 T u n := by unfold gRoll2; rw [if_neg q60]
        refine E_mem (mem' := gPut mem g (gRoll2 T u n)) (by rw [e2]; try rfl) ?_
        obtain ⟨a0, a1, a2, a3, a4, a5, a6, a7, a8⟩ := gAt_put h (gRoll2 T u n)
        refine E_aload_n dX0_makeRoll_73 (by rfl) ?_
        refine cs_X0_makeRoll_74 (by assumption) (Nat.le_of_ble_eq_true rfl) (c_goToNextMover h (by rw [show g_cl (gRoll2 T u n) = g_cl T from r6]; omega)) ?_
        obtain ⟨a0, a1, a2, a3, a4, a5, a6, a7, a8⟩ := gAt_put h (gNext (gRoll2 T u n))
        refine E_aload_n dX0_makeRoll_77 (by rfl) ?_
        refine gf_X0_19 dX0_makeRoll_78 rfl (by assumption) (by rfl) ?_
        refine E_iload_n dX0_makeRoll_81 (by rfl) ?_
        refine E_iald dX0_makeRoll_82 (by assumption) (i_in (by omega) (by omega)) ?_
        refine E_iret dX0_makeRoll_83 rfl rfl (Nat.zero_le _) (Nat.zero_le _) ?_
        exact x_leaf rfl
      · rw [b2i_T0] at q60; have q60 := Classical.not_not.mp q60; have e2 : gRoll2 T u n = g_wRs (gRoll1 T u n) (upd (g_rs (gRoll1 T u n)) (g_mv T).toNatClampNeg (g_rs (gRoll1 T u n) (g_mv T).toNatClampNeg + 1)) := by unfold gRoll2; rw [if_pos q60]
        refine E_aload_n dX0_makeRoll_63 (by rfl) ?_
        refine gf_X0_25 dX0_makeRoll_64 rfl (by assumption) (by rfl) ?_
        refine E_iload_n dX0_makeRoll_67 (by rfl) ?_
        refine E_dup2 dX0_makeRoll_68 rfl rfl ?_
        refine E_iald dX0_makeRoll_69 (by assumption) (i_in (by omega) (by omega)) ?_
        refine E_iconst (v := 1) dX0_makeRoll_70 (by decide) ?_
        refine E_iadd dX0_makeRoll_71 ?_
        refine E_iast dX0_makeRoll_72 (by assumption) (i_in (by omega) (by omega)) ?_
        refine E_mem (gSetP h (g_wRs (gRoll1 T u n) (upd (g_rs (gRoll1 T u n)) (g_mv T).toNatClampNeg (g_rs (gRoll1 T u n) (g_mv T).toNatClampNeg + 1))) 5 (by decide) (by rfl)) ?_
        obtain ⟨a0, a1, a2, a3, a4, a5, a6, a7, a8⟩ := gAt_put h (g_wRs (gRoll1 T u n) (upd (g_rs (gRoll1 T u n)) (g_mv T).toNatClampNeg (g_rs (gRoll1 T u n) (g_mv T).toNatClampNeg + 1)))
        refine E_mem (mem' := gPut mem g (gRoll2 T u n)) (by rw [e2]; try rfl) ?_
        obtain ⟨a0, a1, a2, a3, a4, a5, a6, a7, a8⟩ := gAt_put h (gRoll2 T u n)
        refine E_aload_n dX0_makeRoll_73 (by rfl) ?_
        refine cs_X0_makeRoll_74 (by assumption) (Nat.le_of_ble_eq_true rfl) (c_goToNextMover h (by rw [show g_cl (gRoll2 T u n) = g_cl T from r6]; omega)) ?_
        obtain ⟨a0, a1, a2, a3, a4, a5, a6, a7, a8⟩ := gAt_put h (gNext (gRoll2 T u n))
        refine E_aload_n dX0_makeRoll_77 (by rfl) ?_
        refine gf_X0_19 dX0_makeRoll_78 rfl (by assumption) (by rfl) ?_
        refine E_iload_n dX0_makeRoll_81 (by rfl) ?_
        refine E_iald dX0_makeRoll_82 (by assumption) (i_in (by omega) (by omega)) ?_
        refine E_iret dX0_makeRoll_83 rfl rfl (Nat.zero_le _) (Nat.zero_le _) ?_
        exact x_leaf rfl
    · rw [b2i_T0] at q14; exact absurd hm q14
  · rw [b2i_T0] at q4; exact absurd hu q4
theorem c_makePass_no (h : gAt mem g S) (hm : ¬ g_isCl S (g_mv S)) : Dt G kX0_makePass [.ref g] mem (some (.int (-3))) mem := by
  refine Ct_of (by decide) (Nat.le_of_ble_eq_true rfl) ?_
  refine E_aload_n dX0_makePass_0 (by rfl) ?_
  refine cs_X0_makePass_1 h.1 (Nat.le_of_ble_eq_true rfl) (c_hasMover h) ?_
  refine E_if_ne (tgt := 10) dX0_makePass_4 (by decide) (fun q4 => ?_) (fun q4 => ?_)
  · rw [b2i_T0] at q4; exact absurd hm q4
  · refine E_bipush (v := (-3)) dX0_makePass_7 (by decide) ?_
    refine E_iret dX0_makePass_9 rfl rfl (Nat.zero_le _) (Nat.zero_le _) ?_
    exact x_leaf rfl
theorem c_makePass_ok (h : gAt mem g S) (hc : (g_cl T).toInt ≤ 6) (hm : g_isCl T (g_mv T)) : Dt G kX0_makePass [.ref g] (gPut mem g T) (some (.int (g_mv (gNext T)))) (gPut mem g (gNext T)) := by
  obtain ⟨a0, a1, a2, a3, a4, a5, a6, a7, a8⟩ := gAt_put h T
  refine Ct_of (by decide) (Nat.le_of_ble_eq_true rfl) ?_
  refine E_aload_n dX0_makePass_0 (by rfl) ?_
  refine cs_X0_makePass_1 (by assumption) (Nat.le_of_ble_eq_true rfl) (c_hasMover (gAt_put h T)) ?_
  refine E_if_ne (tgt := 10) dX0_makePass_4 (by decide) (fun q4 => ?_) (fun q4 => ?_)
  · refine E_aload_n dX0_makePass_10 (by rfl) ?_
    refine cs_X0_makePass_11 (by assumption) (Nat.le_of_ble_eq_true rfl) (c_goToNextMover h hc) ?_
    obtain ⟨a0, a1, a2, a3, a4, a5, a6, a7, a8⟩ := gAt_put h (gNext T)
    refine E_aload_n dX0_makePass_14 (by rfl) ?_
    refine gf_X0_44 dX0_makePass_15 rfl (by assumption) (by rfl) ?_
    refine E_iret dX0_makePass_18 rfl rfl (Nat.zero_le _) (Nat.zero_le _) ?_
    exact x_leaf rfl
  · rw [b2i_T0] at q4; exact absurd hm q4
end G5
end
section
/-! Game: parts, totals, the fewest rolls, copies -/
theorem lg_cmp0 {x y : Int64} : (lg_cmp x y).toInt = 0 ↔ x = y := by
  unfold lg_cmp
  by_cases h1 : y < x
  · rw [if_pos h1]
    constructor
    · intro h; exact absurd h (by decide)
    · intro h; rw [h, Int64.lt_iff_toInt_lt] at h1; omega
  · rw [if_neg h1]
    by_cases h2 : x = y
    · rw [if_pos h2]
      exact ⟨fun _ => h2, fun _ => by decide⟩
    · rw [if_neg h2]
      exact ⟨fun h => absurd h (by decide), fun h => absurd h h2⟩
section G6
variable {G : xG} {mem : xM} {g : Nat} {S T : gS} {t n : Nat}
def gPS (S : gS) (t : Nat) (x p : Int32) : Int32 :=
  if ¬ (x.toInt = (g_top S).toInt ∨ g_below S x) then -1 else if p = 0 then b2i (g_isLa S x) else if p = 1 then (if g_isUp S x then g_le S x.toNatClampNeg else -6) else if p = 2 then sCn (fun s => (g_le S s).toInt = x.toInt) t else -2
theorem c_partOfStep (h : gAt mem g S) (ht : g_top S = nI t) (ht60 : t ≤ 60) (x p : Int32) : Dt G kX0_partOfStep [.ref g, .int x, .int p] mem (some (.int (gPS S t x p))) mem := by
  obtain ⟨a0, a1, a2, a3, a4, a5, a6, a7, a8⟩ := id h
  have ht' : (g_top S).toInt = (t : Int) := by rw [ht]; exact nI_toInt (by omega)
  have rest : (x.toInt = (g_top S).toInt ∨ g_below S x) → E G kX0_partOfStep (x_R (some (.int (gPS S t x p))) mem) 0 0 mem 18 (x_L [(0, .ref g), (1, .int x), (2, .int p)]) [] := by
    intro hok
    unfold gPS
    rw [if_neg (fun z => z hok)]
    refine E_iload_n dX0_partOfStep_18 (by rfl) ?_
    by_cases c19_0 : p = 0
    · rw [c19_0]
      refine E_tableIn (off := 25) (tgt := 44) dX0_partOfStep_19 (by decide) (by decide) (by decide) (by decide) ?_
      refine E_aload_n dX0_partOfStep_44 (by rfl) ?_
      refine E_iload_n dX0_partOfStep_45 (by rfl) ?_
      refine cs_X0_partOfStep_46 (by assumption) (Nat.le_of_ble_eq_true rfl) (c_isLanding h (by omega) _) ?_
      refine E_if_eq (tgt := 56) dX0_partOfStep_49 (by decide) (fun q49 => ?_) (fun q49 => ?_)
      · rw [b2i_T0] at q49
        refine E_iconst (v := 0) dX0_partOfStep_56 (by decide) ?_
        refine E_iret dX0_partOfStep_57 rfl rfl (Nat.zero_le _) (Nat.zero_le _) ?_
        exact x_leaf (by rw [if_pos rfl, b2i_f q49])
      · rw [b2i_T0] at q49; have q49 := Classical.not_not.mp q49
        refine E_iconst (v := 1) dX0_partOfStep_52 (by decide) ?_
        refine E_goto (tgt := 57) dX0_partOfStep_53 (by decide) ?_
        refine E_iret dX0_partOfStep_57 rfl rfl (Nat.zero_le _) (Nat.zero_le _) ?_
        exact x_leaf (by rw [if_pos rfl, b2i_t q49])
    by_cases c19_1 : p = 1
    · rw [c19_1]
      refine E_tableIn (off := 39) (tgt := 58) dX0_partOfStep_19 (by decide) (by decide) (by decide) (by decide) ?_
      refine E_aload_n dX0_partOfStep_58 (by rfl) ?_
      refine E_iload_n dX0_partOfStep_59 (by rfl) ?_
      refine cs_X0_partOfStep_60 (by assumption) (Nat.le_of_ble_eq_true rfl) (c_isUpperEnd h (by omega) _) ?_
      refine E_if_eq (tgt := 75) dX0_partOfStep_63 (by decide) (fun q63 => ?_) (fun q63 => ?_)
      · rw [b2i_T0] at q63
        refine E_bipush (v := (-6)) dX0_partOfStep_75 (by decide) ?_
        refine E_iret dX0_partOfStep_77 rfl rfl (Nat.zero_le _) (Nat.zero_le _) ?_
        exact x_leaf (by rw [if_neg (by decide), if_pos rfl, if_neg q63])
      · rw [b2i_T0] at q63; have q63 := Classical.not_not.mp q63; have q63' := q63.1
        refine E_aload_n dX0_partOfStep_66 (by rfl) ?_
        refine gf_X0_9 dX0_partOfStep_67 rfl (by assumption) (by rfl) ?_
        refine E_iload_n dX0_partOfStep_70 (by rfl) ?_
        refine E_iald dX0_partOfStep_71 (by assumption) (i_in (by omega) (by omega)) ?_
        refine E_goto (tgt := 77) dX0_partOfStep_72 (by decide) ?_
        refine E_iret dX0_partOfStep_77 rfl rfl (Nat.zero_le _) (Nat.zero_le _) ?_
        exact x_leaf (by rw [if_neg (by decide), if_pos rfl, if_pos q63])
    by_cases c19_2 : p = 2
    · rw [c19_2]
      refine E_tableIn (off := 59) (tgt := 78) dX0_partOfStep_19 (by decide) (by decide) (by decide) (by decide) ?_
      refine E_aload_n dX0_partOfStep_78 (by rfl) ?_
      refine E_iload_n dX0_partOfStep_79 (by rfl) ?_
      refine cs_X0_partOfStep_80 (by assumption) (Nat.le_of_ble_eq_true rfl) (c_lowerEndsAt h ht ht60 _) ?_
      refine E_iret dX0_partOfStep_83 rfl rfl (Nat.zero_le _) (Nat.zero_le _) ?_
      exact x_leaf (by rw [if_neg (by decide), if_neg (by decide), if_pos rfl])
    have n19_0 : (p).toInt ≠ 0 := fun e => c19_0 (Int32.toInt_inj.mp (e.trans (by decide)))
    have n19_1 : (p).toInt ≠ 1 := fun e => c19_1 (Int32.toInt_inj.mp (e.trans (by decide)))
    have n19_2 : (p).toInt ≠ 2 := fun e => c19_2 (Int32.toInt_inj.mp (e.trans (by decide)))
    refine E_tableOut (tgt := 84) dX0_partOfStep_19 (by omega) (by decide) ?_
    refine E_bipush (v := (-2)) dX0_partOfStep_84 (by decide) ?_
    refine E_iret dX0_partOfStep_86 rfl rfl (Nat.zero_le _) (Nat.zero_le _) ?_
    exact x_leaf (by rw [if_neg c19_0, if_neg c19_1, if_neg c19_2])
  refine Ct_of (by decide) (Nat.le_of_ble_eq_true rfl) ?_
  refine E_iload_n dX0_partOfStep_0 (by rfl) ?_
  refine E_aload_n dX0_partOfStep_1 (by rfl) ?_
  refine gf_X0_37 dX0_partOfStep_2 rfl (by assumption) (by rfl) ?_
  refine E_icmp_eq (n := _) rfl (tgt := 18) dX0_partOfStep_5 (by decide) (fun q5 => ?_) (fun q5 => ?_)
  · exact E_loc [(0, .ref g), (1, .int x), (2, .int p)] ⟨rfl, rfl, rfl, trivial⟩ (rest (by first | exact Or.inl q5 | exact Or.inr q13))
  · refine E_aload_n dX0_partOfStep_8 (by rfl) ?_
    refine E_iload_n dX0_partOfStep_9 (by rfl) ?_
    refine cs_X0_partOfStep_10 (by assumption) (Nat.le_of_ble_eq_true rfl) (c_isBelowTop h _) ?_
    refine E_if_ne (tgt := 18) dX0_partOfStep_13 (by decide) (fun q13 => ?_) (fun q13 => ?_)
    · rw [b2i_T0] at q13; have q13 := Classical.not_not.mp q13
      exact E_loc [(0, .ref g), (1, .int x), (2, .int p)] ⟨rfl, rfl, rfl, trivial⟩ (rest (by first | exact Or.inl q5 | exact Or.inr q13))
    · rw [b2i_T0] at q13
      refine E_iconst (v := (-1)) dX0_partOfStep_16 (by decide) ?_
      refine E_iret dX0_partOfStep_17 rfl rfl (Nat.zero_le _) (Nat.zero_le _) ?_
      exact x_leaf (by unfold gPS; rw [if_pos (fun z => z.elim q5 q13)])
def gPC (S : gS) (x p : Int32) : Int32 :=
  if ¬ g_isCl S x then -1 else if p = 0 then g_pl S x.toNatClampNeg else if p = 1 then g_tp S x.toNatClampNeg else if p = 2 then g_rs S x.toNatClampNeg else if p = 3 then g_tl S x.toNatClampNeg else if p = 4 then g_lm S x.toNatClampNeg else if p = 5 then g_sl S x.toNatClampNeg else if p = 6 then gPr S x else -2
theorem c_partOfClimber (h : gAt mem g S) (hc : (g_cl S).toInt ≤ 6) (x p : Int32) : Dt G kX0_partOfClimber [.ref g, .int x, .int p] mem (some (.int (gPC S x p))) mem := by
  obtain ⟨a0, a1, a2, a3, a4, a5, a6, a7, a8⟩ := id h
  refine Ct_of (by decide) (Nat.le_of_ble_eq_true rfl) ?_
  unfold gPC
  refine E_aload_n dX0_partOfClimber_0 (by rfl) ?_
  refine E_iload_n dX0_partOfClimber_1 (by rfl) ?_
  refine cs_X0_partOfClimber_2 (by assumption) (Nat.le_of_ble_eq_true rfl) (c_isClimber h _) ?_
  refine E_if_ne (tgt := 10) dX0_partOfClimber_5 (by decide) (fun q5 => ?_) (fun q5 => ?_)
  · rw [b2i_T0] at q5; have q5 := Classical.not_not.mp q5; rw [if_neg (fun z => z q5)]
    refine E_iload_n dX0_partOfClimber_10 (by rfl) ?_
    by_cases c11_0 : p = 0
    · rw [c11_0]
      refine E_tableIn (off := 41) (tgt := 52) dX0_partOfClimber_11 (by decide) (by decide) (by decide) (by decide) ?_
      refine E_aload_n dX0_partOfClimber_52 (by rfl) ?_
      refine gf_X0_19 dX0_partOfClimber_53 rfl (by assumption) (by rfl) ?_
      refine E_iload_n dX0_partOfClimber_56 (by rfl) ?_
      refine E_iald dX0_partOfClimber_57 (by assumption) (i_in (by omega) (by omega)) ?_
      refine E_iret dX0_partOfClimber_58 rfl rfl (Nat.zero_le _) (Nat.zero_le _) ?_
      exact x_leaf (by rw [if_pos rfl])
    by_cases c11_1 : p = 1
    · rw [c11_1]
      refine E_tableIn (off := 48) (tgt := 59) dX0_partOfClimber_11 (by decide) (by decide) (by decide) (by decide) ?_
      refine E_aload_n dX0_partOfClimber_59 (by rfl) ?_
      refine gf_X0_22 dX0_partOfClimber_60 rfl (by assumption) (by rfl) ?_
      refine E_iload_n dX0_partOfClimber_63 (by rfl) ?_
      refine E_iald dX0_partOfClimber_64 (by assumption) (i_in (by omega) (by omega)) ?_
      refine E_iret dX0_partOfClimber_65 rfl rfl (Nat.zero_le _) (Nat.zero_le _) ?_
      exact x_leaf (by rw [if_neg (by decide), if_pos rfl])
    by_cases c11_2 : p = 2
    · rw [c11_2]
      refine E_tableIn (off := 55) (tgt := 66) dX0_partOfClimber_11 (by decide) (by decide) (by decide) (by decide) ?_
      refine E_aload_n dX0_partOfClimber_66 (by rfl) ?_
      refine gf_X0_25 dX0_partOfClimber_67 rfl (by assumption) (by rfl) ?_
      refine E_iload_n dX0_partOfClimber_70 (by rfl) ?_
      refine E_iald dX0_partOfClimber_71 (by assumption) (i_in (by omega) (by omega)) ?_
      refine E_iret dX0_partOfClimber_72 rfl rfl (Nat.zero_le _) (Nat.zero_le _) ?_
      exact x_leaf (by rw [if_neg (by decide), if_neg (by decide), if_pos rfl])
    by_cases c11_3 : p = 3
    · rw [c11_3]
      refine E_tableIn (off := 62) (tgt := 73) dX0_partOfClimber_11 (by decide) (by decide) (by decide) (by decide) ?_
      refine E_aload_n dX0_partOfClimber_73 (by rfl) ?_
      refine gf_X0_28 dX0_partOfClimber_74 rfl (by assumption) (by rfl) ?_
      refine E_iload_n dX0_partOfClimber_77 (by rfl) ?_
      refine E_iald dX0_partOfClimber_78 (by assumption) (i_in (by omega) (by omega)) ?_
      refine E_iret dX0_partOfClimber_79 rfl rfl (Nat.zero_le _) (Nat.zero_le _) ?_
      exact x_leaf (by rw [if_neg (by decide), if_neg (by decide), if_neg (by decide), if_pos rfl])
    by_cases c11_4 : p = 4
    · rw [c11_4]
      refine E_tableIn (off := 69) (tgt := 80) dX0_partOfClimber_11 (by decide) (by decide) (by decide) (by decide) ?_
      refine E_aload_n dX0_partOfClimber_80 (by rfl) ?_
      refine gf_X0_31 dX0_partOfClimber_81 rfl (by assumption) (by rfl) ?_
      refine E_iload_n dX0_partOfClimber_84 (by rfl) ?_
      refine E_iald dX0_partOfClimber_85 (by assumption) (i_in (by omega) (by omega)) ?_
      refine E_iret dX0_partOfClimber_86 rfl rfl (Nat.zero_le _) (Nat.zero_le _) ?_
      exact x_leaf (by rw [if_neg (by decide), if_neg (by decide), if_neg (by decide), if_neg (by decide), if_pos rfl])
    by_cases c11_5 : p = 5
    · rw [c11_5]
      refine E_tableIn (off := 76) (tgt := 87) dX0_partOfClimber_11 (by decide) (by decide) (by decide) (by decide) ?_
      refine E_aload_n dX0_partOfClimber_87 (by rfl) ?_
      refine gf_X0_34 dX0_partOfClimber_88 rfl (by assumption) (by rfl) ?_
      refine E_iload_n dX0_partOfClimber_91 (by rfl) ?_
      refine E_iald dX0_partOfClimber_92 (by assumption) (i_in (by omega) (by omega)) ?_
      refine E_iret dX0_partOfClimber_93 rfl rfl (Nat.zero_le _) (Nat.zero_le _) ?_
      exact x_leaf (by rw [if_neg (by decide), if_neg (by decide), if_neg (by decide), if_neg (by decide), if_neg (by decide), if_pos rfl])
    by_cases c11_6 : p = 6
    · rw [c11_6]
      refine E_tableIn (off := 83) (tgt := 94) dX0_partOfClimber_11 (by decide) (by decide) (by decide) (by decide) ?_
      refine E_aload_n dX0_partOfClimber_94 (by rfl) ?_
      refine E_iload_n dX0_partOfClimber_95 (by rfl) ?_
      refine cs_X0_partOfClimber_96 (by assumption) (Nat.le_of_ble_eq_true rfl) (c_progressOf h hc _) ?_
      refine E_iret dX0_partOfClimber_99 rfl rfl (Nat.zero_le _) (Nat.zero_le _) ?_
      exact x_leaf (by rw [if_neg (by decide), if_neg (by decide), if_neg (by decide), if_neg (by decide), if_neg (by decide), if_neg (by decide), if_pos rfl])
    have n11_0 : (p).toInt ≠ 0 := fun e => c11_0 (Int32.toInt_inj.mp (e.trans (by decide)))
    have n11_1 : (p).toInt ≠ 1 := fun e => c11_1 (Int32.toInt_inj.mp (e.trans (by decide)))
    have n11_2 : (p).toInt ≠ 2 := fun e => c11_2 (Int32.toInt_inj.mp (e.trans (by decide)))
    have n11_3 : (p).toInt ≠ 3 := fun e => c11_3 (Int32.toInt_inj.mp (e.trans (by decide)))
    have n11_4 : (p).toInt ≠ 4 := fun e => c11_4 (Int32.toInt_inj.mp (e.trans (by decide)))
    have n11_5 : (p).toInt ≠ 5 := fun e => c11_5 (Int32.toInt_inj.mp (e.trans (by decide)))
    have n11_6 : (p).toInt ≠ 6 := fun e => c11_6 (Int32.toInt_inj.mp (e.trans (by decide)))
    refine E_tableOut (tgt := 100) dX0_partOfClimber_11 (by omega) (by decide) ?_
    refine E_bipush (v := (-2)) dX0_partOfClimber_100 (by decide) ?_
    refine E_iret dX0_partOfClimber_102 rfl rfl (Nat.zero_le _) (Nat.zero_le _) ?_
    exact x_leaf (by rw [if_neg c11_0, if_neg c11_1, if_neg c11_2, if_neg c11_3, if_neg c11_4, if_neg c11_5, if_neg c11_6])
  · rw [b2i_T0] at q5; rw [if_pos q5]
    refine E_iconst (v := (-1)) dX0_partOfClimber_8 (by decide) ?_
    refine E_iret dX0_partOfClimber_9 rfl rfl (Nat.zero_le _) (Nat.zero_le _) ?_
    exact x_leaf rfl
def gTo (S : gS) (t : Nat) (p : Int32) : Int32 :=
  if p = 0 then g_top S else if p = 1 then g_cl S else if p = 2 then sCn (g_up (g_le S)) t else if p = 3 then sCn (g_lan (g_la S)) t else if p = 4 then g_ro S else if p = 5 then sSm (g_tl S) 6 else if p = 6 then sSm (g_sl S) 6 else if p = 7 then sSm (g_tp S) 6 else if p = 8 then g_lo S else -2
theorem c_totalOf (h : gAt mem g S) (ht : g_top S = nI t) (ht60 : t ≤ 60) (p : Int32) : Dt G kX0_totalOf [.ref g, .int p] mem (some (.int (gTo S t p))) mem := by
  obtain ⟨a0, a1, a2, a3, a4, a5, a6, a7, a8⟩ := id h
  refine Ct_of (by decide) (Nat.le_of_ble_eq_true rfl) ?_
  unfold gTo
  refine E_iload_n dX0_totalOf_0 (by rfl) ?_
  by_cases c1_0 : p = 0
  · rw [c1_0]
    refine E_tableIn (off := 51) (tgt := 52) dX0_totalOf_1 (by decide) (by decide) (by decide) (by decide) ?_
    refine E_aload_n dX0_totalOf_52 (by rfl) ?_
    refine gf_X0_37 dX0_totalOf_53 rfl (by assumption) (by rfl) ?_
    refine E_iret dX0_totalOf_56 rfl rfl (Nat.zero_le _) (Nat.zero_le _) ?_
    exact x_leaf (by rw [if_pos rfl])
  by_cases c1_1 : p = 1
  · rw [c1_1]
    refine E_tableIn (off := 56) (tgt := 57) dX0_totalOf_1 (by decide) (by decide) (by decide) (by decide) ?_
    refine E_aload_n dX0_totalOf_57 (by rfl) ?_
    refine gf_X0_41 dX0_totalOf_58 rfl (by assumption) (by rfl) ?_
    refine E_iret dX0_totalOf_61 rfl rfl (Nat.zero_le _) (Nat.zero_le _) ?_
    exact x_leaf (by rw [if_neg (by decide), if_pos rfl])
  by_cases c1_2 : p = 2
  · rw [c1_2]
    refine E_tableIn (off := 61) (tgt := 62) dX0_totalOf_1 (by decide) (by decide) (by decide) (by decide) ?_
    refine E_aload_n dX0_totalOf_62 (by rfl) ?_
    refine cs_X0_totalOf_63 (by assumption) (Nat.le_of_ble_eq_true rfl) (c_countCarpets h ht ht60) ?_
    refine E_iret dX0_totalOf_66 rfl rfl (Nat.zero_le _) (Nat.zero_le _) ?_
    exact x_leaf (by rw [if_neg (by decide), if_neg (by decide), if_pos rfl])
  by_cases c1_3 : p = 3
  · rw [c1_3]
    refine E_tableIn (off := 66) (tgt := 67) dX0_totalOf_1 (by decide) (by decide) (by decide) (by decide) ?_
    refine E_aload_n dX0_totalOf_67 (by rfl) ?_
    refine cs_X0_totalOf_68 (by assumption) (Nat.le_of_ble_eq_true rfl) (c_countLandings h ht ht60) ?_
    refine E_iret dX0_totalOf_71 rfl rfl (Nat.zero_le _) (Nat.zero_le _) ?_
    exact x_leaf (by rw [if_neg (by decide), if_neg (by decide), if_neg (by decide), if_pos rfl])
  by_cases c1_4 : p = 4
  · rw [c1_4]
    refine E_tableIn (off := 71) (tgt := 72) dX0_totalOf_1 (by decide) (by decide) (by decide) (by decide) ?_
    refine E_aload_n dX0_totalOf_72 (by rfl) ?_
    refine gf_X0_47 dX0_totalOf_73 rfl (by assumption) (by rfl) ?_
    refine E_iret dX0_totalOf_76 rfl rfl (Nat.zero_le _) (Nat.zero_le _) ?_
    exact x_leaf (by rw [if_neg (by decide), if_neg (by decide), if_neg (by decide), if_neg (by decide), if_pos rfl])
  by_cases c1_5 : p = 5
  · rw [c1_5]
    refine E_tableIn (off := 76) (tgt := 77) dX0_totalOf_1 (by decide) (by decide) (by decide) (by decide) ?_
    refine E_aload_n dX0_totalOf_77 (by rfl) ?_
    refine cs_X0_totalOf_78 (by assumption) (Nat.le_of_ble_eq_true rfl) (c_liftsOfAll h) ?_
    refine E_iret dX0_totalOf_81 rfl rfl (Nat.zero_le _) (Nat.zero_le _) ?_
    exact x_leaf (by rw [if_neg (by decide), if_neg (by decide), if_neg (by decide), if_neg (by decide), if_neg (by decide), if_pos rfl])
  by_cases c1_6 : p = 6
  · rw [c1_6]
    refine E_tableIn (off := 81) (tgt := 82) dX0_totalOf_1 (by decide) (by decide) (by decide) (by decide) ?_
    refine E_aload_n dX0_totalOf_82 (by rfl) ?_
    refine cs_X0_totalOf_83 (by assumption) (Nat.le_of_ble_eq_true rfl) (c_slipsOfAll h) ?_
    refine E_iret dX0_totalOf_86 rfl rfl (Nat.zero_le _) (Nat.zero_le _) ?_
    exact x_leaf (by rw [if_neg (by decide), if_neg (by decide), if_neg (by decide), if_neg (by decide), if_neg (by decide), if_neg (by decide), if_pos rfl])
  by_cases c1_7 : p = 7
  · rw [c1_7]
    refine E_tableIn (off := 86) (tgt := 87) dX0_totalOf_1 (by decide) (by decide) (by decide) (by decide) ?_
    refine E_aload_n dX0_totalOf_87 (by rfl) ?_
    refine cs_X0_totalOf_88 (by assumption) (Nat.le_of_ble_eq_true rfl) (c_topsOfAll h) ?_
    refine E_iret dX0_totalOf_91 rfl rfl (Nat.zero_le _) (Nat.zero_le _) ?_
    exact x_leaf (by rw [if_neg (by decide), if_neg (by decide), if_neg (by decide), if_neg (by decide), if_neg (by decide), if_neg (by decide), if_neg (by decide), if_pos rfl])
  by_cases c1_8 : p = 8
  · rw [c1_8]
    refine E_tableIn (off := 91) (tgt := 92) dX0_totalOf_1 (by decide) (by decide) (by decide) (by decide) ?_
    refine E_aload_n dX0_totalOf_92 (by rfl) ?_
    refine gf_X0_50 dX0_totalOf_93 rfl (by assumption) (by rfl) ?_
    refine E_iret dX0_totalOf_96 rfl rfl (Nat.zero_le _) (Nat.zero_le _) ?_
    exact x_leaf (by rw [if_neg (by decide), if_neg (by decide), if_neg (by decide), if_neg (by decide), if_neg (by decide), if_neg (by decide), if_neg (by decide), if_neg (by decide), if_pos rfl])
  have n1_0 : (p).toInt ≠ 0 := fun e => c1_0 (Int32.toInt_inj.mp (e.trans (by decide)))
  have n1_1 : (p).toInt ≠ 1 := fun e => c1_1 (Int32.toInt_inj.mp (e.trans (by decide)))
  have n1_2 : (p).toInt ≠ 2 := fun e => c1_2 (Int32.toInt_inj.mp (e.trans (by decide)))
  have n1_3 : (p).toInt ≠ 3 := fun e => c1_3 (Int32.toInt_inj.mp (e.trans (by decide)))
  have n1_4 : (p).toInt ≠ 4 := fun e => c1_4 (Int32.toInt_inj.mp (e.trans (by decide)))
  have n1_5 : (p).toInt ≠ 5 := fun e => c1_5 (Int32.toInt_inj.mp (e.trans (by decide)))
  have n1_6 : (p).toInt ≠ 6 := fun e => c1_6 (Int32.toInt_inj.mp (e.trans (by decide)))
  have n1_7 : (p).toInt ≠ 7 := fun e => c1_7 (Int32.toInt_inj.mp (e.trans (by decide)))
  have n1_8 : (p).toInt ≠ 8 := fun e => c1_8 (Int32.toInt_inj.mp (e.trans (by decide)))
  refine E_tableOut (tgt := 97) dX0_totalOf_1 (by omega) (by decide) ?_
  refine E_bipush (v := (-2)) dX0_totalOf_97 (by decide) ?_
  refine E_iret dX0_totalOf_99 rfl rfl (Nat.zero_le _) (Nat.zero_le _) ?_
  exact x_leaf (by rw [if_neg c1_0, if_neg c1_1, if_neg c1_2, if_neg c1_3, if_neg c1_4, if_neg c1_5, if_neg c1_6, if_neg c1_7, if_neg c1_8])
/-! the fewest rolls -/
def lB (d : Int32) : Int64 := 1 <<< (d.toInt64 &&& 63)
def gDst (S : gS) (s : Nat) : Int32 := if g_isUp S (nI s) then g_le S s else nI s
def sRF (d : Nat → Int32) (a : Nat) : Nat → Int64
  | 0 => 0
  | s + 1 => if a < s then sRF d a s ||| lB (d s) else 0
theorem c_reachedFrom (h : gAt mem g S) (ht : g_top S = nI t) (ht60 : t ≤ 60) {a : Nat} (ha : a < t) : Dt G kX0_reachedFrom [.ref g, .int (nI a)] mem (some (.long (sRF (gDst S) a (min (a + 7) t)))) mem := by
  obtain ⟨a0, a1, a2, a3, a4, a5, a6, a7, a8⟩ := id h
  have ht' : (g_top S).toInt = (t : Int) := by rw [ht]; exact nI_toInt (by omega)
  have ea7 : (nI a + 6).toInt = (a : Int) + 6 := by rw [show nI a + 6 = nI (a + 6) from nI_add a 6, nI_toInt (by omega)]; omega
  have hz : sRF (gDst S) a (a + 1) = 0 := by rw [sRF, if_neg (by omega)]
  refine Ct_of (by decide) (Nat.le_of_ble_eq_true rfl) ?_
  have loop : ∀ di i : Nat, (min (a + 7) t) < i + di → i ≤ (min (a + 7) t) → (a + 1 ≤ i) → E G kX0_reachedFrom (x_R (some (.long (sRF (gDst S) a (min (a + 7) t)))) mem) 0 0 (mem) 7 (x_L [(0, .ref g), (1, .int (nI a)), (2, .long (sRF (gDst S) a i)), (4, .int (nI i))]) [] := by
    intro di
    induction di with
    | zero => intro i hi1 hi2 _; exact absurd hi1 (by omega)
    | succ di ihi =>
      intro i hi1 hi2 hinv
      have ei : (nI i).toInt = (i : Int) := nI_toInt (by omega)
      have eci : (nI i).toNatClampNeg = i := nI_clamp (by omega)
      refine E_iload dX0_reachedFrom_7 (by rfl) ?_
      refine E_iload_n dX0_reachedFrom_9 (by rfl) ?_
      refine E_bipush (v := 6) dX0_reachedFrom_10 (by decide) ?_
      refine E_iadd dX0_reachedFrom_12 ?_
      refine E_icmp_gt (n := _) rfl (tgt := 57) dX0_reachedFrom_13 (by decide) (fun q13 => ?_) (fun q13 => ?_)
      · refine E_lload_n dX0_reachedFrom_57 (by rfl) ?_
        refine E_lret dX0_reachedFrom_58 rfl (Nat.zero_le _) (Nat.zero_le _) ?_
        exact x_leaf (by rw [show i = min (a + 7) t by omega])
      · refine E_iload dX0_reachedFrom_16 (by rfl) ?_
        refine E_aload_n dX0_reachedFrom_18 (by rfl) ?_
        refine gf_X0_37 dX0_reachedFrom_19 rfl (by assumption) (by rfl) ?_
        refine E_icmp_ge (n := _) rfl (tgt := 57) dX0_reachedFrom_22 (by decide) (fun q22 => ?_) (fun q22 => ?_)
        · refine E_lload_n dX0_reachedFrom_57 (by rfl) ?_
          refine E_lret dX0_reachedFrom_58 rfl (Nat.zero_le _) (Nat.zero_le _) ?_
          exact x_leaf (by rw [show i = min (a + 7) t by omega])
        · refine E_lload_n dX0_reachedFrom_25 (by rfl) ?_
          refine E_lconst (v := 1) dX0_reachedFrom_26 (by decide) ?_
          refine E_aload_n dX0_reachedFrom_27 (by rfl) ?_
          refine E_iload dX0_reachedFrom_28 (by rfl) ?_
          refine cs_X0_reachedFrom_30 (by assumption) (Nat.le_of_ble_eq_true rfl) (c_isUpperEnd h (by omega) _) ?_
          refine E_if_eq (tgt := 46) dX0_reachedFrom_33 (by decide) (fun q33 => ?_) (fun q33 => ?_)
          · rw [b2i_T0] at q33; have hd : gDst S i = nI i := by unfold gDst; rw [if_neg q33]
            refine E_iload dX0_reachedFrom_46 (by rfl) ?_
            refine E_lshl dX0_reachedFrom_48 rfl ?_
            refine E_lor dX0_reachedFrom_49 ?_
            refine E_lstore_n dX0_reachedFrom_50 (Nat.le_of_ble_eq_true rfl) (by rfl) ?_
            refine E_iinc (d := 1) dX0_reachedFrom_51 (by rfl) (by decide) (Nat.le_of_ble_eq_true rfl) (by rfl) ?_
            refine E_goto (tgt := 7) dX0_reachedFrom_54 (by decide) ?_
            exact E_loc [(0, .ref g), (1, .int (nI a)), (2, .long (sRF (gDst S) a (i + 1))), (4, .int (nI (i + 1)))] ⟨rfl, rfl, x_l (by simp only [sRF, lB]; rw [if_pos (by omega), hd]; try rw [eci]), x_i (by first | exact nI_1 _ | decide), trivial⟩ (ihi (i + 1) (by omega) (by omega) (by omega))
          · rw [b2i_T0] at q33; have q33 := Classical.not_not.mp q33; have hd : gDst S i = g_le S i := by unfold gDst; rw [if_pos q33]
            refine E_aload_n dX0_reachedFrom_36 (by rfl) ?_
            refine gf_X0_9 dX0_reachedFrom_37 rfl (by assumption) (by rfl) ?_
            refine E_iload dX0_reachedFrom_40 (by rfl) ?_
            refine E_iald dX0_reachedFrom_42 (by assumption) (i_in (by omega) (by omega)) ?_
            refine E_goto (tgt := 48) dX0_reachedFrom_43 (by decide) ?_
            refine E_lshl dX0_reachedFrom_48 rfl ?_
            refine E_lor dX0_reachedFrom_49 ?_
            refine E_lstore_n dX0_reachedFrom_50 (Nat.le_of_ble_eq_true rfl) (by rfl) ?_
            refine E_iinc (d := 1) dX0_reachedFrom_51 (by rfl) (by decide) (Nat.le_of_ble_eq_true rfl) (by rfl) ?_
            refine E_goto (tgt := 7) dX0_reachedFrom_54 (by decide) ?_
            exact E_loc [(0, .ref g), (1, .int (nI a)), (2, .long (sRF (gDst S) a (i + 1))), (4, .int (nI (i + 1)))] ⟨rfl, rfl, x_l (by simp only [sRF, lB]; rw [if_pos (by omega), hd]; try rw [eci]), x_i (by first | exact nI_1 _ | decide), trivial⟩ (ihi (i + 1) (by omega) (by omega) (by omega))
  refine E_lconst (v := 0) dX0_reachedFrom_0 (by decide) ?_
  refine E_lstore_n dX0_reachedFrom_1 (Nat.le_of_ble_eq_true rfl) (by rfl) ?_
  refine E_iload_n dX0_reachedFrom_2 (by rfl) ?_
  refine E_iconst (v := 1) dX0_reachedFrom_3 (by decide) ?_
  refine E_iadd dX0_reachedFrom_4 ?_
  refine E_istore dX0_reachedFrom_5 (Nat.le_of_ble_eq_true rfl) (by rfl) ?_
  exact E_loc [(0, .ref g), (1, .int (nI a)), (2, .long (sRF (gDst S) a (a + 1))), (4, .int (nI (a + 1)))] ⟨rfl, rfl, x_l (by exact hz.symm), x_i (nI_1 a), trivial⟩ (loop ((min (a + 7) t) + 1) (a + 1) (by omega) (by omega) (Nat.le_refl _))
abbrev lT (r : Int64) (s : Nat) : Prop := (r.toUInt64 >>> ((nI s).toInt64.toUInt64 &&& Int64.toUInt64 63)).toInt64 &&& 1 ≠ 0
def sRM (S : gS) (t : Nat) (r : Int64) : Nat → Int64
  | 0 => r
  | s + 1 => if lT r s then sRM S t r s ||| sRF (gDst S) s (min (s + 7) t) else sRM S t r s
theorem c_reachedWithOneMore (h : gAt mem g S) (ht : g_top S = nI t) (ht60 : t ≤ 60) (r : Int64) : Dt G kX0_reachedWithOneMore [.ref g, .long r] mem (some (.long (sRM S t r t))) mem := by
  obtain ⟨a0, a1, a2, a3, a4, a5, a6, a7, a8⟩ := id h
  have ht' : (g_top S).toInt = (t : Int) := by rw [ht]; exact nI_toInt (by omega)
  refine Ct_of (by decide) (Nat.le_of_ble_eq_true rfl) ?_
  have loop : ∀ di i : Nat, t < i + di → i ≤ t → E G kX0_reachedWithOneMore (x_R (some (.long (sRM S t r t))) mem) 0 0 (mem) 5 (x_L [(0, .ref g), (1, .long r), (3, .long (sRM S t r i)), (5, .int (nI i))]) [] := by
    intro di
    induction di with
    | zero => intro i hi1 hi2; exact absurd hi1 (by omega)
    | succ di ihi =>
      intro i hi1 hi2
      have ei : (nI i).toInt = (i : Int) := nI_toInt (by omega)
      have eci : (nI i).toNatClampNeg = i := nI_clamp (by omega)
      refine E_iload dX0_reachedWithOneMore_5 (by rfl) ?_
      refine E_aload_n dX0_reachedWithOneMore_7 (by rfl) ?_
      refine gf_X0_37 dX0_reachedWithOneMore_8 rfl (by assumption) (by rfl) ?_
      refine E_icmp_ge (n := _) rfl (tgt := 40) dX0_reachedWithOneMore_11 (by decide) (fun q11 => ?_) (fun q11 => ?_)
      · refine E_lload_n dX0_reachedWithOneMore_40 (by rfl) ?_
        refine E_lret dX0_reachedWithOneMore_41 rfl (Nat.zero_le _) (Nat.zero_le _) ?_
        exact x_leaf (by rw [show i = t by omega])
      · refine E_lload_n dX0_reachedWithOneMore_14 (by rfl) ?_
        refine E_iload dX0_reachedWithOneMore_15 (by rfl) ?_
        refine E_lushr dX0_reachedWithOneMore_17 rfl ?_
        refine E_lconst (v := 1) dX0_reachedWithOneMore_18 (by decide) ?_
        refine E_land dX0_reachedWithOneMore_19 ?_
        refine E_lconst (v := 0) dX0_reachedWithOneMore_20 (by decide) ?_
        refine E_lcmp dX0_reachedWithOneMore_21 ?_
        refine E_if_eq (tgt := 34) dX0_reachedWithOneMore_22 (by decide) (fun q22 => ?_) (fun q22 => ?_)
        · rw [lg_cmp0] at q22
          refine E_iinc (d := 1) dX0_reachedWithOneMore_34 (by rfl) (by decide) (Nat.le_of_ble_eq_true rfl) (by rfl) ?_
          refine E_goto (tgt := 5) dX0_reachedWithOneMore_37 (by decide) ?_
          exact E_loc [(0, .ref g), (1, .long r), (3, .long (sRM S t r (i + 1))), (5, .int (nI (i + 1)))] ⟨rfl, rfl, x_l (by simp only [sRM]; first | rw [if_pos q22] | rw [if_neg (fun z => z q22)]), x_i (by first | exact nI_1 _ | decide), trivial⟩ (ihi (i + 1) (by omega) (by omega))
        · rw [lg_cmp0] at q22
          refine E_lload_n dX0_reachedWithOneMore_25 (by rfl) ?_
          refine E_aload_n dX0_reachedWithOneMore_26 (by rfl) ?_
          refine E_iload dX0_reachedWithOneMore_27 (by rfl) ?_
          refine cs_X0_reachedWithOneMore_29 (by assumption) (Nat.le_of_ble_eq_true rfl) (c_reachedFrom h ht ht60 (by omega)) ?_
          refine E_lor dX0_reachedWithOneMore_32 ?_
          refine E_lstore_n dX0_reachedWithOneMore_33 (Nat.le_of_ble_eq_true rfl) (by rfl) ?_
          refine E_iinc (d := 1) dX0_reachedWithOneMore_34 (by rfl) (by decide) (Nat.le_of_ble_eq_true rfl) (by rfl) ?_
          refine E_goto (tgt := 5) dX0_reachedWithOneMore_37 (by decide) ?_
          exact E_loc [(0, .ref g), (1, .long r), (3, .long (sRM S t r (i + 1))), (5, .int (nI (i + 1)))] ⟨rfl, rfl, x_l (by simp only [sRM]; first | rw [if_pos q22] | rw [if_neg (fun z => z q22)]), x_i (by first | exact nI_1 _ | decide), trivial⟩ (ihi (i + 1) (by omega) (by omega))
  refine E_lload_n dX0_reachedWithOneMore_0 (by rfl) ?_
  refine E_lstore_n dX0_reachedWithOneMore_1 (Nat.le_of_ble_eq_true rfl) (by rfl) ?_
  refine E_iconst (v := 0) dX0_reachedWithOneMore_2 (by decide) ?_
  refine E_istore dX0_reachedWithOneMore_3 (Nat.le_of_ble_eq_true rfl) (by rfl) ?_
  exact E_loc [(0, .ref g), (1, .long r), (3, .long (sRM S t r 0)), (5, .int (nI 0))] ⟨rfl, rfl, x_l (by rfl), x_i (by first | rfl | decide), trivial⟩ (loop (t + 1) 0 (by omega) (by omega))
abbrev lTop (r : Int64) (t : Nat) : Prop := (r.toUInt64 >>> ((nI t - 6).toInt64.toUInt64 &&& Int64.toUInt64 63)).toInt64 ≠ 0
def sFew (S : gS) (t : Nat) : Nat → Nat → Int64 → Int32
  | 0, _, _ => -6
  | f + 1, c, r => if lTop r t then nI c else sFew S t f (c + 1) (sRM S t r t)
theorem c_fewestRollsOf (h : gAt mem g S) (ht : g_top S = nI t) (ht60 : t ≤ 60) {x : Int32} (hx : 0 ≤ x.toInt ∧ x.toInt < 6) : Dt G kX0_fewestRollsOf [.ref g, .int x] mem (some (.int (sFew S t t 1 (lB (g_pl S x.toNatClampNeg))))) mem := by
  obtain ⟨a0, a1, a2, a3, a4, a5, a6, a7, a8⟩ := id h
  have ht' : (g_top S).toInt = (t : Int) := by rw [ht]; exact nI_toInt (by omega)
  refine Ct_of (by decide) (Nat.le_of_ble_eq_true rfl) ?_
  have loop : ∀ (f : Nat) (r : Int64) (R : Option Value → xM → Prop), R (some (.int (sFew S t f (t - f + 1) r))) mem → f ≤ t → E G kX0_fewestRollsOf R 0 0 mem 12 (x_L [(0, .ref g), (2, .long r), (4, .int (nI (t - f + 1)))]) [] := by
    intro f
    induction f with
    | zero =>
      intro r R hR hf
      have e1 : (nI (t - 0 + 1)).toInt = (t : Int) + 1 := by rw [nI_toInt (by omega)]; omega
      refine E_iload dX0_fewestRollsOf_12 (by rfl) ?_
      refine E_aload_n dX0_fewestRollsOf_14 (by rfl) ?_
      refine gf_X0_37 dX0_fewestRollsOf_15 rfl (by assumption) (by rfl) ?_
      refine E_icmp_gt (n := _) rfl (tgt := 50) dX0_fewestRollsOf_18 (by decide) (fun q18 => ?_) (fun q18 => ?_)
      · refine E_bipush (v := (-6)) dX0_fewestRollsOf_50 (by decide) ?_
        refine E_iret dX0_fewestRollsOf_52 rfl rfl (Nat.zero_le _) (Nat.zero_le _) ?_
        exact hR
      · exact absurd e1 (by omega)
    | succ f ih =>
      intro r R hR hf
      have e1 : (nI (t - (f + 1) + 1)).toInt = ((t - (f + 1) + 1 : Nat) : Int) := nI_toInt (by omega)
      refine E_iload dX0_fewestRollsOf_12 (by rfl) ?_
      refine E_aload_n dX0_fewestRollsOf_14 (by rfl) ?_
      refine gf_X0_37 dX0_fewestRollsOf_15 rfl (by assumption) (by rfl) ?_
      refine E_icmp_gt (n := _) rfl (tgt := 50) dX0_fewestRollsOf_18 (by decide) (fun q18 => ?_) (fun q18 => ?_)
      · exact absurd e1 (by omega)
      · refine E_lload_n dX0_fewestRollsOf_21 (by rfl) ?_
        refine E_aload_n dX0_fewestRollsOf_22 (by rfl) ?_
        refine gf_X0_37 dX0_fewestRollsOf_23 rfl (by assumption) (by rfl) ?_
        refine E_bipush (v := 6) dX0_fewestRollsOf_26 (by decide) ?_
        refine E_isub dX0_fewestRollsOf_28 ?_
        refine E_lushr dX0_fewestRollsOf_29 rfl ?_
        refine E_lconst (v := 0) dX0_fewestRollsOf_30 (by decide) ?_
        refine E_lcmp dX0_fewestRollsOf_31 ?_
        refine E_if_eq (tgt := 38) dX0_fewestRollsOf_32 (by decide) (fun q32 => ?_) (fun q32 => ?_)
        · rw [lg_cmp0, ht] at q32
          refine E_aload_n dX0_fewestRollsOf_38 (by rfl) ?_
          refine E_lload_n dX0_fewestRollsOf_39 (by rfl) ?_
          refine cs_X0_fewestRollsOf_40 (by assumption) (Nat.le_of_ble_eq_true rfl) (c_reachedWithOneMore h ht ht60 _) ?_
          refine E_lstore_n dX0_fewestRollsOf_43 (Nat.le_of_ble_eq_true rfl) (by rfl) ?_
          refine E_iinc (d := 1) dX0_fewestRollsOf_44 (by rfl) (by decide) (Nat.le_of_ble_eq_true rfl) (by rfl) ?_
          refine E_goto (tgt := 12) dX0_fewestRollsOf_47 (by decide) ?_
          exact E_loc [(0, .ref g), (2, .long (sRM S t r t)), (4, .int (nI (t - f + 1)))] ⟨rfl, rfl, x_i ((nI_1 _).trans (congrArg nI (by omega))), trivial⟩ (ih _ R (by rw [sFew, if_neg (fun z => z q32), show t - (f + 1) + 1 + 1 = t - f + 1 by omega] at hR; exact hR) (by omega))
        · rw [lg_cmp0, ht] at q32
          refine E_iload dX0_fewestRollsOf_35 (by rfl) ?_
          refine E_iret dX0_fewestRollsOf_37 rfl rfl (Nat.zero_le _) (Nat.zero_le _) ?_
          rw [sFew, if_pos q32] at hR; exact hR
  refine E_lconst (v := 1) dX0_fewestRollsOf_0 (by decide) ?_
  refine E_aload_n dX0_fewestRollsOf_1 (by rfl) ?_
  refine gf_X0_19 dX0_fewestRollsOf_2 rfl (by assumption) (by rfl) ?_
  refine E_iload_n dX0_fewestRollsOf_5 (by rfl) ?_
  refine E_iald dX0_fewestRollsOf_6 (by assumption) (i_in (by omega) (by omega)) ?_
  refine E_lshl dX0_fewestRollsOf_7 rfl ?_
  refine E_lstore_n dX0_fewestRollsOf_8 (Nat.le_of_ble_eq_true rfl) (by rfl) ?_
  refine E_iconst (v := 1) dX0_fewestRollsOf_9 (by decide) ?_
  refine E_istore dX0_fewestRollsOf_10 (Nat.le_of_ble_eq_true rfl) (by rfl) ?_
  exact E_loc [(0, .ref g), (2, .long (lB (g_pl S x.toNatClampNeg))), (4, .int (nI (t - t + 1)))] ⟨rfl, rfl, x_i (by rw [Nat.sub_self]; decide), trivial⟩ (loop t _ _ (x_leaf (by rw [Nat.sub_self])) (Nat.le_refl _))
/-! copies -/
theorem gAt_other {g2 : Nat} {S2 : gS} (h : gAt mem g S) (h2 : gAt mem g2 S2) (hd : g2 + 9 ≤ g ∨ g + 9 ≤ g2) (T : gS) : gAt (gPut mem g T) g2 S2 := by
  obtain ⟨b0, b1, b2, b3, b4, b5, b6, b7, b8⟩ := h2
  have ho : ∀ i, i < 9 → (gPut mem g T)[g2 + i]? = mem[g2 + i]? := fun i hi => gPut_other h T (by omega)
  exact ⟨(ho 0 (by decide)).trans b0, (ho 1 (by decide)).trans b1, (ho 2 (by decide)).trans b2, (ho 3 (by decide)).trans b3, (ho 4 (by decide)).trans b4, (ho 5 (by decide)).trans b5, (ho 6 (by decide)).trans b6, (ho 7 (by decide)).trans b7, (ho 8 (by decide)).trans b8⟩
abbrev g_la01 (S : gS) : Prop := ∀ i, i < 60 → g_la S i = 0 ∨ g_la S i = 1
theorem c_copyFrom {g2 : Nat} {S2 : gS} (h : gAt mem g S) (h2 : gAt mem g2 S2) (hd : g2 + 9 ≤ g ∨ g + 9 ≤ g2) (hla : g_la01 S2) : Dt G kX0_copyFrom [.ref g, .ref g2] (gPut mem g T) none (gPut mem g S2) := by
  have hf : ∀ i, i < 60 → fits .boolean (.int (g_la S2 i)) = true := fun i hi => by rcases hla i hi with e | e <;> rw [e] <;> rfl
  obtain ⟨a0, a1, a2, a3, a4, a5, a6, a7, a8⟩ := gAt_put h T
  obtain ⟨b0, b1, b2, b3, b4, b5, b6, b7, b8⟩ := gAt_other h h2 hd T
  refine Ct_of (by decide) (Nat.le_of_ble_eq_true rfl) ?_
  refine E_aload_n dX0_copyFrom_0 (by rfl) ?_
  refine E_ifnonnull (tgt := 5) dX0_copyFrom_1 (by decide) ?_
  refine E_aload_n dX0_copyFrom_5 (by rfl) ?_
  refine gf_X0_9 dX0_copyFrom_6 rfl (by assumption) (by rfl) ?_
  refine E_iconst (v := 0) dX0_copyFrom_9 (by decide) ?_
  refine E_aload_n dX0_copyFrom_10 (by rfl) ?_
  refine gf_X0_9 dX0_copyFrom_11 rfl (by assumption) (by rfl) ?_
  refine E_iconst (v := 0) dX0_copyFrom_14 (by decide) ?_
  refine E_bipush (v := 60) dX0_copyFrom_15 (by decide) ?_
  refine E_copyA (t := 0) dX0_copyFrom_17 rfl wl_X0_53 w_native w_acstat wn_RJ10 rfl rfl (by assumption) (by assumption) (by decide) (by decide) (fun _ _ => rfl) (Nat.le_of_ble_eq_true rfl) (Nat.le_of_ble_eq_true rfl) ?_
  refine E_mem (gSetP h ((S2.1, T.2)) 1 (by decide) (by rfl)) ?_
  obtain ⟨a0, a1, a2, a3, a4, a5, a6, a7, a8⟩ := gAt_put h ((S2.1, T.2))
  obtain ⟨b0, b1, b2, b3, b4, b5, b6, b7, b8⟩ := gAt_other h h2 hd ((S2.1, T.2))
  refine E_aload_n dX0_copyFrom_20 (by rfl) ?_
  refine gf_X0_15 dX0_copyFrom_21 rfl (by assumption) (by rfl) ?_
  refine E_iconst (v := 0) dX0_copyFrom_24 (by decide) ?_
  refine E_aload_n dX0_copyFrom_25 (by rfl) ?_
  refine gf_X0_15 dX0_copyFrom_26 rfl (by assumption) (by rfl) ?_
  refine E_iconst (v := 0) dX0_copyFrom_29 (by decide) ?_
  refine E_bipush (v := 60) dX0_copyFrom_30 (by decide) ?_
  refine E_copyA (t := 1) dX0_copyFrom_32 rfl wl_X0_53 w_native w_acstat wn_RJ10 rfl rfl (by assumption) (by assumption) (by decide) (by decide) hf (Nat.le_of_ble_eq_true rfl) (Nat.le_of_ble_eq_true rfl) ?_
  refine E_mem (gSetP h ((S2.1, S2.2.1, T.2.2)) 2 (by decide) (by rfl)) ?_
  obtain ⟨a0, a1, a2, a3, a4, a5, a6, a7, a8⟩ := gAt_put h ((S2.1, S2.2.1, T.2.2))
  obtain ⟨b0, b1, b2, b3, b4, b5, b6, b7, b8⟩ := gAt_other h h2 hd ((S2.1, S2.2.1, T.2.2))
  refine E_aload_n dX0_copyFrom_35 (by rfl) ?_
  refine gf_X0_19 dX0_copyFrom_36 rfl (by assumption) (by rfl) ?_
  refine E_iconst (v := 0) dX0_copyFrom_39 (by decide) ?_
  refine E_aload_n dX0_copyFrom_40 (by rfl) ?_
  refine gf_X0_19 dX0_copyFrom_41 rfl (by assumption) (by rfl) ?_
  refine E_iconst (v := 0) dX0_copyFrom_44 (by decide) ?_
  refine E_bipush (v := 6) dX0_copyFrom_45 (by decide) ?_
  refine E_copyA (t := 0) dX0_copyFrom_47 rfl wl_X0_53 w_native w_acstat wn_RJ10 rfl rfl (by assumption) (by assumption) (by decide) (by decide) (fun _ _ => rfl) (Nat.le_of_ble_eq_true rfl) (Nat.le_of_ble_eq_true rfl) ?_
  refine E_mem (gSetP h ((S2.1, S2.2.1, S2.2.2.1, T.2.2.2)) 3 (by decide) (by rfl)) ?_
  obtain ⟨a0, a1, a2, a3, a4, a5, a6, a7, a8⟩ := gAt_put h ((S2.1, S2.2.1, S2.2.2.1, T.2.2.2))
  obtain ⟨b0, b1, b2, b3, b4, b5, b6, b7, b8⟩ := gAt_other h h2 hd ((S2.1, S2.2.1, S2.2.2.1, T.2.2.2))
  refine E_aload_n dX0_copyFrom_50 (by rfl) ?_
  refine gf_X0_22 dX0_copyFrom_51 rfl (by assumption) (by rfl) ?_
  refine E_iconst (v := 0) dX0_copyFrom_54 (by decide) ?_
  refine E_aload_n dX0_copyFrom_55 (by rfl) ?_
  refine gf_X0_22 dX0_copyFrom_56 rfl (by assumption) (by rfl) ?_
  refine E_iconst (v := 0) dX0_copyFrom_59 (by decide) ?_
  refine E_bipush (v := 6) dX0_copyFrom_60 (by decide) ?_
  refine E_copyA (t := 0) dX0_copyFrom_62 rfl wl_X0_53 w_native w_acstat wn_RJ10 rfl rfl (by assumption) (by assumption) (by decide) (by decide) (fun _ _ => rfl) (Nat.le_of_ble_eq_true rfl) (Nat.le_of_ble_eq_true rfl) ?_
  refine E_mem (gSetP h ((S2.1, S2.2.1, S2.2.2.1, S2.2.2.2.1, T.2.2.2.2)) 4 (by decide) (by rfl)) ?_
  obtain ⟨a0, a1, a2, a3, a4, a5, a6, a7, a8⟩ := gAt_put h ((S2.1, S2.2.1, S2.2.2.1, S2.2.2.2.1, T.2.2.2.2))
  obtain ⟨b0, b1, b2, b3, b4, b5, b6, b7, b8⟩ := gAt_other h h2 hd ((S2.1, S2.2.1, S2.2.2.1, S2.2.2.2.1, T.2.2.2.2))
  refine E_aload_n dX0_copyFrom_65 (by rfl) ?_
  refine gf_X0_25 dX0_copyFrom_66 rfl (by assumption) (by rfl) ?_
  refine E_iconst (v := 0) dX0_copyFrom_69 (by decide) ?_
  refine E_aload_n dX0_copyFrom_70 (by rfl) ?_
  refine gf_X0_25 dX0_copyFrom_71 rfl (by assumption) (by rfl) ?_
  refine E_iconst (v := 0) dX0_copyFrom_74 (by decide) ?_
  refine E_bipush (v := 6) dX0_copyFrom_75 (by decide) ?_
  refine E_copyA (t := 0) dX0_copyFrom_77 rfl wl_X0_53 w_native w_acstat wn_RJ10 rfl rfl (by assumption) (by assumption) (by decide) (by decide) (fun _ _ => rfl) (Nat.le_of_ble_eq_true rfl) (Nat.le_of_ble_eq_true rfl) ?_
  refine E_mem (gSetP h ((S2.1, S2.2.1, S2.2.2.1, S2.2.2.2.1, S2.2.2.2.2.1, T.2.2.2.2.2)) 5 (by decide) (by rfl)) ?_
  obtain ⟨a0, a1, a2, a3, a4, a5, a6, a7, a8⟩ := gAt_put h ((S2.1, S2.2.1, S2.2.2.1, S2.2.2.2.1, S2.2.2.2.2.1, T.2.2.2.2.2))
  obtain ⟨b0, b1, b2, b3, b4, b5, b6, b7, b8⟩ := gAt_other h h2 hd ((S2.1, S2.2.1, S2.2.2.1, S2.2.2.2.1, S2.2.2.2.2.1, T.2.2.2.2.2))
  refine E_aload_n dX0_copyFrom_80 (by rfl) ?_
  refine gf_X0_28 dX0_copyFrom_81 rfl (by assumption) (by rfl) ?_
  refine E_iconst (v := 0) dX0_copyFrom_84 (by decide) ?_
  refine E_aload_n dX0_copyFrom_85 (by rfl) ?_
  refine gf_X0_28 dX0_copyFrom_86 rfl (by assumption) (by rfl) ?_
  refine E_iconst (v := 0) dX0_copyFrom_89 (by decide) ?_
  refine E_bipush (v := 6) dX0_copyFrom_90 (by decide) ?_
  refine E_copyA (t := 0) dX0_copyFrom_92 rfl wl_X0_53 w_native w_acstat wn_RJ10 rfl rfl (by assumption) (by assumption) (by decide) (by decide) (fun _ _ => rfl) (Nat.le_of_ble_eq_true rfl) (Nat.le_of_ble_eq_true rfl) ?_
  refine E_mem (gSetP h ((S2.1, S2.2.1, S2.2.2.1, S2.2.2.2.1, S2.2.2.2.2.1, S2.2.2.2.2.2.1, T.2.2.2.2.2.2)) 6 (by decide) (by rfl)) ?_
  obtain ⟨a0, a1, a2, a3, a4, a5, a6, a7, a8⟩ := gAt_put h ((S2.1, S2.2.1, S2.2.2.1, S2.2.2.2.1, S2.2.2.2.2.1, S2.2.2.2.2.2.1, T.2.2.2.2.2.2))
  obtain ⟨b0, b1, b2, b3, b4, b5, b6, b7, b8⟩ := gAt_other h h2 hd ((S2.1, S2.2.1, S2.2.2.1, S2.2.2.2.1, S2.2.2.2.2.1, S2.2.2.2.2.2.1, T.2.2.2.2.2.2))
  refine E_aload_n dX0_copyFrom_95 (by rfl) ?_
  refine gf_X0_31 dX0_copyFrom_96 rfl (by assumption) (by rfl) ?_
  refine E_iconst (v := 0) dX0_copyFrom_99 (by decide) ?_
  refine E_aload_n dX0_copyFrom_100 (by rfl) ?_
  refine gf_X0_31 dX0_copyFrom_101 rfl (by assumption) (by rfl) ?_
  refine E_iconst (v := 0) dX0_copyFrom_104 (by decide) ?_
  refine E_bipush (v := 6) dX0_copyFrom_105 (by decide) ?_
  refine E_copyA (t := 0) dX0_copyFrom_107 rfl wl_X0_53 w_native w_acstat wn_RJ10 rfl rfl (by assumption) (by assumption) (by decide) (by decide) (fun _ _ => rfl) (Nat.le_of_ble_eq_true rfl) (Nat.le_of_ble_eq_true rfl) ?_
  refine E_mem (gSetP h ((S2.1, S2.2.1, S2.2.2.1, S2.2.2.2.1, S2.2.2.2.2.1, S2.2.2.2.2.2.1, S2.2.2.2.2.2.2.1, T.2.2.2.2.2.2.2)) 7 (by decide) (by rfl)) ?_
  obtain ⟨a0, a1, a2, a3, a4, a5, a6, a7, a8⟩ := gAt_put h ((S2.1, S2.2.1, S2.2.2.1, S2.2.2.2.1, S2.2.2.2.2.1, S2.2.2.2.2.2.1, S2.2.2.2.2.2.2.1, T.2.2.2.2.2.2.2))
  obtain ⟨b0, b1, b2, b3, b4, b5, b6, b7, b8⟩ := gAt_other h h2 hd ((S2.1, S2.2.1, S2.2.2.1, S2.2.2.2.1, S2.2.2.2.2.1, S2.2.2.2.2.2.1, S2.2.2.2.2.2.2.1, T.2.2.2.2.2.2.2))
  refine E_aload_n dX0_copyFrom_110 (by rfl) ?_
  refine gf_X0_34 dX0_copyFrom_111 rfl (by assumption) (by rfl) ?_
  refine E_iconst (v := 0) dX0_copyFrom_114 (by decide) ?_
  refine E_aload_n dX0_copyFrom_115 (by rfl) ?_
  refine gf_X0_34 dX0_copyFrom_116 rfl (by assumption) (by rfl) ?_
  refine E_iconst (v := 0) dX0_copyFrom_119 (by decide) ?_
  refine E_bipush (v := 6) dX0_copyFrom_120 (by decide) ?_
  refine E_copyA (t := 0) dX0_copyFrom_122 rfl wl_X0_53 w_native w_acstat wn_RJ10 rfl rfl (by assumption) (by assumption) (by decide) (by decide) (fun _ _ => rfl) (Nat.le_of_ble_eq_true rfl) (Nat.le_of_ble_eq_true rfl) ?_
  refine E_mem (gSetP h (g_wO S2 (g_top T) (g_cl T) (g_mv T) (g_ro T) (g_lo T)) 8 (by decide) (by rfl)) ?_
  obtain ⟨a0, a1, a2, a3, a4, a5, a6, a7, a8⟩ := gAt_put h (g_wO S2 (g_top T) (g_cl T) (g_mv T) (g_ro T) (g_lo T))
  obtain ⟨b0, b1, b2, b3, b4, b5, b6, b7, b8⟩ := gAt_other h h2 hd (g_wO S2 (g_top T) (g_cl T) (g_mv T) (g_ro T) (g_lo T))
  refine E_aload_n dX0_copyFrom_125 (by rfl) ?_
  refine E_aload_n dX0_copyFrom_126 (by rfl) ?_
  refine gf_X0_37 dX0_copyFrom_127 rfl (by assumption) (by rfl) ?_
  refine pf_X0_37 dX0_copyFrom_130 rfl (by assumption) (Nat.le_of_ble_eq_true rfl) ?_
  refine E_mem (gSetP0 h (g_wO S2 (g_top S2) (g_cl T) (g_mv T) (g_ro T) (g_lo T)) (by rfl)) ?_
  obtain ⟨a0, a1, a2, a3, a4, a5, a6, a7, a8⟩ := gAt_put h (g_wO S2 (g_top S2) (g_cl T) (g_mv T) (g_ro T) (g_lo T))
  obtain ⟨b0, b1, b2, b3, b4, b5, b6, b7, b8⟩ := gAt_other h h2 hd (g_wO S2 (g_top S2) (g_cl T) (g_mv T) (g_ro T) (g_lo T))
  refine E_aload_n dX0_copyFrom_133 (by rfl) ?_
  refine E_aload_n dX0_copyFrom_134 (by rfl) ?_
  refine gf_X0_41 dX0_copyFrom_135 rfl (by assumption) (by rfl) ?_
  refine pf_X0_41 dX0_copyFrom_138 rfl (by assumption) (Nat.le_of_ble_eq_true rfl) ?_
  refine E_mem (gSetP0 h (g_wO S2 (g_top S2) (g_cl S2) (g_mv T) (g_ro T) (g_lo T)) (by rfl)) ?_
  obtain ⟨a0, a1, a2, a3, a4, a5, a6, a7, a8⟩ := gAt_put h (g_wO S2 (g_top S2) (g_cl S2) (g_mv T) (g_ro T) (g_lo T))
  obtain ⟨b0, b1, b2, b3, b4, b5, b6, b7, b8⟩ := gAt_other h h2 hd (g_wO S2 (g_top S2) (g_cl S2) (g_mv T) (g_ro T) (g_lo T))
  refine E_aload_n dX0_copyFrom_141 (by rfl) ?_
  refine E_aload_n dX0_copyFrom_142 (by rfl) ?_
  refine gf_X0_44 dX0_copyFrom_143 rfl (by assumption) (by rfl) ?_
  refine pf_X0_44 dX0_copyFrom_146 rfl (by assumption) (Nat.le_of_ble_eq_true rfl) ?_
  refine E_mem (gSetP0 h (g_wO S2 (g_top S2) (g_cl S2) (g_mv S2) (g_ro T) (g_lo T)) (by rfl)) ?_
  obtain ⟨a0, a1, a2, a3, a4, a5, a6, a7, a8⟩ := gAt_put h (g_wO S2 (g_top S2) (g_cl S2) (g_mv S2) (g_ro T) (g_lo T))
  obtain ⟨b0, b1, b2, b3, b4, b5, b6, b7, b8⟩ := gAt_other h h2 hd (g_wO S2 (g_top S2) (g_cl S2) (g_mv S2) (g_ro T) (g_lo T))
  refine E_aload_n dX0_copyFrom_149 (by rfl) ?_
  refine E_aload_n dX0_copyFrom_150 (by rfl) ?_
  refine gf_X0_47 dX0_copyFrom_151 rfl (by assumption) (by rfl) ?_
  refine pf_X0_47 dX0_copyFrom_154 rfl (by assumption) (Nat.le_of_ble_eq_true rfl) ?_
  refine E_mem (gSetP0 h (g_wO S2 (g_top S2) (g_cl S2) (g_mv S2) (g_ro S2) (g_lo T)) (by rfl)) ?_
  obtain ⟨a0, a1, a2, a3, a4, a5, a6, a7, a8⟩ := gAt_put h (g_wO S2 (g_top S2) (g_cl S2) (g_mv S2) (g_ro S2) (g_lo T))
  obtain ⟨b0, b1, b2, b3, b4, b5, b6, b7, b8⟩ := gAt_other h h2 hd (g_wO S2 (g_top S2) (g_cl S2) (g_mv S2) (g_ro S2) (g_lo T))
  refine E_aload_n dX0_copyFrom_157 (by rfl) ?_
  refine E_aload_n dX0_copyFrom_158 (by rfl) ?_
  refine gf_X0_50 dX0_copyFrom_159 rfl (by assumption) (by rfl) ?_
  refine pf_X0_50 dX0_copyFrom_162 rfl (by assumption) (Nat.le_of_ble_eq_true rfl) ?_
  refine E_mem (gSetP0 h (S2) (by rfl)) ?_
  obtain ⟨a0, a1, a2, a3, a4, a5, a6, a7, a8⟩ := gAt_put h (S2)
  obtain ⟨b0, b1, b2, b3, b4, b5, b6, b7, b8⟩ := gAt_other h h2 hd (S2)
  refine E_vret dX0_copyFrom_165 rfl (Nat.zero_le _) (Nat.zero_le _) ?_
  exact ⟨rfl, rfl⟩
end G6
end
section
/-! History -/
section H1
variable {G : xG} {mem : xM} {g : Nat} {S T A : gS} {t n : Nat}
theorem x_set_self {mem : xM} {i : Nat} {c : va_E} (h : mem[i]? = some c) : mem.set i c = mem := by
  apply List.ext_getElem?
  intro j
  by_cases e : i = j
  · subst e
    rw [List.getElem?_set_self (List.getElem?_eq_some_iff.mp h).1, h]
  · rw [List.getElem?_set_ne e]
theorem x_get_set {mem : xM} {i j : Nat} {c d : va_E} (h : mem[j]? = some d) (hne : i ≠ j) : (mem.set i c)[j]? = some d := by
  rw [List.getElem?_set_ne hne]; exact h
theorem x_get_same {mem : xM} {i : Nat} {c d : va_E} (h : mem[i]? = some d) : (mem.set i c)[i]? = some c := List.getElem?_set_self (List.getElem?_eq_some_iff.mp h).1
theorem gAt_set {i : Nat} {c : va_E} (h : gAt mem g S) (hi : i < g ∨ g + 9 ≤ i) : gAt (mem.set i c) g S := by
  obtain ⟨b0, b1, b2, b3, b4, b5, b6, b7, b8⟩ := h
  exact ⟨x_get_set b0 (by omega), x_get_set b1 (by omega), x_get_set b2 (by omega), x_get_set b3 (by omega), x_get_set b4 (by omega), x_get_set b5 (by omega), x_get_set b6 (by omega), x_get_set b7 (by omega), x_get_set b8 (by omega)⟩
abbrev h_o (c : Int32) : va_E := .inr (1, [.ref 38, .int c])
abbrev h_r (f : Nat → Option Nat) : va_E := .inl (3, 5, .inr (.inr (.inr (.inr f))))
def fSh (f : Nat → Option Nat) (i : Nat) : Nat → Option Nat := fun j => if j + 1 < i then f (j + 1) else f j
def fRot (f : Nat → Option Nat) : Nat → Option Nat := va_up (fSh f 5) 4 (f 0)
theorem fSh_step {f : Nat → Option Nat} {i a : Nat} (hi : 1 ≤ i) (hf : f i = some a) : va_up (fSh f i) (i - 1) (some a) = fSh f (i + 1) := by
  funext j
  unfold va_up fSh
  by_cases e : j = i - 1
  · subst e
    rw [if_pos rfl, if_pos (by omega), show i - 1 + 1 = i by omega]
    exact hf.symm
  · rw [if_neg e]
    by_cases e2 : j + 1 < i
    · rw [if_pos e2, if_pos (by omega)]
    · rw [if_neg e2, if_neg (by omega)]
theorem c_makeOldestLast {c : Int32} {f : Nat → Option Nat} {p : Nat → Nat} {h : Nat → gS} (h0 : mem[37]? = some (h_o c)) (h1 : mem[38]? = some (h_r f)) (hf : ∀ j, j < 5 → f j = some (p j)) (hg : ∀ j, j < 5 → gAt mem (p j) (h j)) (hp : ∀ j, j < 5 → 39 ≤ p j) : Dt G kX1_makeOldestLast [.ref 37] mem none (mem.set 38 (h_r (fRot f))) := by
  have e5 : (5 : Int32).toInt = 5 := by decide
  refine Ct_of (by decide) (Nat.le_of_ble_eq_true rfl) ?_
  have loop : ∀ di i : Nat, 5 < i + di → i ≤ 5 → (1 ≤ i) → E G kX1_makeOldestLast (x_R (none) (mem.set 38 (h_r (fRot f)))) 0 0 ((mem.set 38 (h_r (fSh f i)))) 9 (x_L [(0, .ref 37), (1, .ref (p 0)), (2, .int (nI i))]) [] := by
    intro di
    induction di with
    | zero => intro i hi1 hi2 _; exact absurd hi1 (by omega)
    | succ di ihi =>
      intro i hi1 hi2 hinv
      have ei : (nI i).toInt = (i : Int) := nI_toInt (by omega)
      have eci : (nI i).toNatClampNeg = i := nI_clamp (by omega)
      have l0 : (mem.set 38 (h_r (fSh f i)))[37]? = some (h_o c) := x_get_set h0 (by decide)
      have l1 : (mem.set 38 (h_r (fSh f i)))[38]? = some (h_r (fSh f i)) := x_get_same h1
      refine E_iload_n dX1_makeOldestLast_9 (by rfl) ?_
      refine E_iconst (v := 5) dX1_makeOldestLast_10 (by decide) ?_
      refine E_icmp_ge (n := 5) (by decide) (tgt := 34) dX1_makeOldestLast_11 (by decide) (fun q11 => ?_) (fun q11 => ?_)
      · obtain rfl : i = 5 := by omega
        have l2 : (mem.set 38 (h_r (fSh f 5)))[p 0]? = some (g_o (p 0) (h 0)) := x_get_set (hg 0 (by decide)).1 (by have := hp 0 (by decide); omega)
        refine E_aload_n dX1_makeOldestLast_34 (by rfl) ?_
        refine gf_X1_11 dX1_makeOldestLast_35 rfl (by assumption) (by rfl) ?_
        refine E_iconst (v := 4) dX1_makeOldestLast_38 (by decide) ?_
        refine E_aload_n dX1_makeOldestLast_39 (by rfl) ?_
        refine E_aast dX1_makeOldestLast_40 (by assumption) l2 (i_in (by decide) (by decide)) ?_
        refine E_vret dX1_makeOldestLast_41 rfl (Nat.zero_le _) (Nat.zero_le _) ?_
        refine ⟨rfl, ?_⟩
        rw [List.set_set, fRot, hf 0 (by decide)]
        rfl
      · refine E_aload_n dX1_makeOldestLast_14 (by rfl) ?_
        refine gf_X1_11 dX1_makeOldestLast_15 rfl (by assumption) (by rfl) ?_
        refine E_iload_n dX1_makeOldestLast_18 (by rfl) ?_
        have es : (nI i - 1).toInt = (i : Int) - 1 := by rw [show nI i - 1 = nI (i - 1) from pk_sub hinv, nI_toInt (by omega)]; omega
        refine E_iconst (v := 1) dX1_makeOldestLast_19 (by decide) ?_
        refine E_isub dX1_makeOldestLast_20 ?_
        refine E_aload_n dX1_makeOldestLast_21 (by rfl) ?_
        refine gf_X1_11 dX1_makeOldestLast_22 rfl (by assumption) (by rfl) ?_
        refine E_iload_n dX1_makeOldestLast_25 (by rfl) ?_
        have h5 : i < 5 := by omega
        have l2 : (mem.set 38 (h_r (fSh f i)))[p i]? = some (g_o (p i) (h i)) := x_get_set (hg i h5).1 (by have := hp i h5; omega)
        refine E_aald dX1_makeOldestLast_26 (by assumption) (i_in (by omega) (by omega)) (by rw [eci, fSh, if_neg (by omega)]; exact hf i h5) ?_
        refine E_aast dX1_makeOldestLast_27 (by assumption) l2 (i_in (by omega) (by omega)) ?_
        refine E_iinc (d := 1) dX1_makeOldestLast_28 (by rfl) (by decide) (Nat.le_of_ble_eq_true rfl) (by rfl) ?_
        refine E_goto (tgt := 9) dX1_makeOldestLast_31 (by decide) ?_
        refine E_mem (mem' := mem.set 38 (h_r (fSh f (i + 1)))) ?_ ?_
        · rw [List.set_set, show nI i - 1 = nI (i - 1) from pk_sub hinv, nI_clamp (by omega), fSh_step hinv (hf i h5)]
        exact E_loc [(0, .ref 37), (1, .ref (p 0)), (2, .int (nI (i + 1)))] ⟨rfl, rfl, x_i (by first | exact nI_1 _ | decide), trivial⟩ (ihi (i + 1) (by omega) (by omega) (by omega))
  have z1 : fSh f 1 = f := by funext j; unfold fSh; rw [if_neg (by omega)]
  have z2 : mem.set 38 (h_r (fSh f 1)) = mem := by rw [z1]; exact x_set_self h1
  refine E_aload_n dX1_makeOldestLast_0 (by rfl) ?_
  refine gf_X1_11 dX1_makeOldestLast_1 rfl (by assumption) (by rfl) ?_
  refine E_iconst (v := 0) dX1_makeOldestLast_4 (by decide) ?_
  refine E_aald dX1_makeOldestLast_5 (by assumption) (i_in (by decide) (by decide)) (hf 0 (by decide)) ?_
  refine E_astore_n dX1_makeOldestLast_6 (Nat.le_of_ble_eq_true rfl) (by rfl) ?_
  refine E_iconst (v := 1) dX1_makeOldestLast_7 (by decide) ?_
  refine E_istore_n dX1_makeOldestLast_8 (Nat.le_of_ble_eq_true rfl) (by rfl) ?_
  refine E_mem z2.symm ?_
  exact E_loc [(0, .ref 37), (1, .ref (p 0)), (2, .int (nI 1))] ⟨rfl, rfl, x_i (by decide), trivial⟩ (loop (5 + 1) 1 (by omega) (by omega) (Nat.le_refl _))
/-- the recorded states: at p 0 .. p 4 in the order of the row; apart, and away from the rest -/
def hAt (mem : xM) (c : Nat) (p : Nat → Nat) (h : Nat → gS) : Prop := mem[37]? = some (h_o (nI c)) ∧ (∃ f, mem[38]? = some (h_r f) ∧ ∀ j, j < 5 → f j = some (p j)) ∧ (∀ j, j < 5 → gAt mem (p j) (h j)) ∧ (∀ j, j < 5 → 39 ≤ p j ∧ p j + 9 ≤ 84) ∧ ∀ i j, i < 5 → j < 5 → i ≠ j → p i + 9 ≤ p j ∨ p j + 9 ≤ p i
theorem c_keep_lo {c a : Nat} {p : Nat → Nat} {h : Nat → gS} (hh : hAt mem c p h) (hc : c < 5) (ha : gAt mem a A) (ha37 : a + 9 ≤ 37) (hla : g_la01 A) : Dt G kX1_keep [.ref 37, .ref a] mem none ((gPut mem (p c) A).set 37 (h_o (nI (c + 1)))) := by
  obtain ⟨h0, ⟨f, h1, hf⟩, hg, hp, hap⟩ := hh
  have ec : (nI c).toInt = (c : Int) := nI_toInt (by omega)
  have ecl : (nI c).toNatClampNeg = c := nI_clamp (by omega)
  have e5 : (5 : Int32).toInt = 5 := by decide
  have hpc := hp c hc
  have hgc := hg c hc
  have hcopy := c_copyFrom (G := G) (T := h c) hgc ha (Or.inl (by omega)) hla
  rw [gPut_self hgc] at hcopy
  have l0 : (gPut mem (p c) A)[37]? = some (h_o (nI c)) := (gPut_other hgc A (by omega)).trans h0
  have m0 := hgc.1
  refine Ct_of (by decide) (Nat.le_of_ble_eq_true rfl) ?_
  refine E_aload_n dX1_keep_0 (by rfl) ?_
  refine gf_X1_17 dX1_keep_1 rfl (by assumption) (by rfl) ?_
  refine E_iconst (v := 5) dX1_keep_4 (by decide) ?_
  refine E_icmp_lt (n := 5) (by decide) (tgt := 17) dX1_keep_5 (by decide) (fun q5 => ?_) (fun q5 => ?_)
  · refine E_aload_n dX1_keep_17 (by rfl) ?_
    refine gf_X1_11 dX1_keep_18 rfl (by assumption) (by rfl) ?_
    refine E_aload_n dX1_keep_21 (by rfl) ?_
    refine gf_X1_17 dX1_keep_22 rfl (by assumption) (by rfl) ?_
    refine E_aald dX1_keep_25 (by assumption) (i_in (by omega) (by omega)) (by rw [ecl]; exact hf c hc) ?_
    refine E_astore_n dX1_keep_26 (Nat.le_of_ble_eq_true rfl) (by rfl) ?_
    refine E_aload_n dX1_keep_27 (by rfl) ?_
    refine E_ifnull dX1_keep_28 ?_
    refine E_aload_n dX1_keep_31 (by rfl) ?_
    refine E_aload_n dX1_keep_32 (by rfl) ?_
    refine cs_X1_keep_33 (by assumption) (Nat.le_of_ble_eq_true rfl) hcopy ?_
    refine E_aload_n dX1_keep_36 (by rfl) ?_
    refine E_dup dX1_keep_37 rfl ?_
    refine gf_X1_17 dX1_keep_38 rfl (by assumption) (by rfl) ?_
    refine E_iconst (v := 1) dX1_keep_41 (by decide) ?_
    refine E_iadd dX1_keep_42 ?_
    refine pf_X1_17 dX1_keep_43 rfl (by assumption) (Nat.le_of_ble_eq_true rfl) ?_
    refine E_vret dX1_keep_46 rfl (Nat.zero_le _) (Nat.zero_le _) ?_
    refine ⟨rfl, ?_⟩
    rw [show nI c + 1 = nI (c + 1) from nI_1 c]
    rfl
  · exact absurd q5 (by omega)
theorem c_keep_hi {a : Nat} {p : Nat → Nat} {h : Nat → gS} (hh : hAt mem 5 p h) (ha : gAt mem a A) (ha37 : a + 9 ≤ 37) (hla : g_la01 A) : ∃ f : Nat → Option Nat, (∀ j, j < 4 → f j = some (p (j + 1))) ∧ f 4 = some (p 0) ∧ Dt G kX1_keep [.ref 37, .ref a] mem none ((gPut ((mem.set 38 (h_r f)).set 37 (h_o 4)) (p 0) A).set 37 (h_o 5)) := by
  obtain ⟨h0, ⟨f, h1, hf⟩, hg, hp, hap⟩ := hh
  have k4 : fRot f 4 = some (p 0) := by unfold fRot va_up; rw [if_pos rfl]; exact hf 0 (by decide)
  refine ⟨fRot f, fun j hj => ?_, k4, ?_⟩
  · unfold fRot va_up fSh
    rw [if_neg (by omega), if_pos (by omega)]
    exact hf (j + 1) (by omega)
  have e5 : (5 : Int32).toInt = 5 := by decide
  have hp0 := hp 0 (by decide)
  have hg0 : gAt ((mem.set 38 (h_r (fRot f))).set 37 (h_o 4)) (p 0) (h 0) := gAt_set (gAt_set (hg 0 (by decide)) (by omega)) (by omega)
  have ha0 : gAt ((mem.set 38 (h_r (fRot f))).set 37 (h_o 4)) a A := gAt_set (gAt_set ha (by omega)) (by omega)
  have hcopy := c_copyFrom (G := G) (T := h 0) hg0 ha0 (Or.inl (by omega)) hla
  rw [gPut_self hg0] at hcopy
  have k0 : (mem.set 38 (h_r (fRot f)))[37]? = some (h_o (nI 5)) := x_get_set h0 (by decide)
  have k1 : ((mem.set 38 (h_r (fRot f))).set 37 (h_o 4))[37]? = some (h_o 4) := x_get_same k0
  have k2 : ((mem.set 38 (h_r (fRot f))).set 37 (h_o 4))[38]? = some (h_r (fRot f)) := x_get_set (x_get_same h1) (by decide)
  have m0 := hg0.1
  have l0 : (gPut ((mem.set 38 (h_r (fRot f))).set 37 (h_o 4)) (p 0) A)[37]? = some (h_o 4) := (gPut_other hg0 A (by omega)).trans k1
  refine Ct_of (by decide) (Nat.le_of_ble_eq_true rfl) ?_
  refine E_aload_n dX1_keep_0 (by rfl) ?_
  refine gf_X1_17 dX1_keep_1 rfl (by assumption) (by rfl) ?_
  refine E_iconst (v := 5) dX1_keep_4 (by decide) ?_
  refine E_icmp_lt (n := 5) (by decide) (tgt := 17) dX1_keep_5 (by decide) (fun q5 => ?_) (fun q5 => ?_)
  · exact absurd q5 (by decide)
  · refine E_aload_n dX1_keep_8 (by rfl) ?_
    refine cs_X1_keep_9 (by assumption) (Nat.le_of_ble_eq_true rfl) (c_makeOldestLast h0 h1 hf hg (fun j hj => (hp j hj).1)) ?_
    refine E_aload_n dX1_keep_12 (by rfl) ?_
    refine E_iconst (v := 4) dX1_keep_13 (by decide) ?_
    refine pf_X1_17 dX1_keep_14 rfl (by assumption) (Nat.le_of_ble_eq_true rfl) ?_
    refine E_mem (mem' := (mem.set 38 (h_r (fRot f))).set 37 (h_o 4)) rfl ?_
    refine E_aload_n dX1_keep_17 (by rfl) ?_
    refine gf_X1_11 dX1_keep_18 rfl (by assumption) (by rfl) ?_
    refine E_aload_n dX1_keep_21 (by rfl) ?_
    refine gf_X1_17 dX1_keep_22 rfl (by assumption) (by rfl) ?_
    refine E_aald dX1_keep_25 (by assumption) (i_in (by decide) (by decide)) k4 ?_
    refine E_astore_n dX1_keep_26 (Nat.le_of_ble_eq_true rfl) (by rfl) ?_
    refine E_aload_n dX1_keep_27 (by rfl) ?_
    refine E_ifnull dX1_keep_28 ?_
    refine E_aload_n dX1_keep_31 (by rfl) ?_
    refine E_aload_n dX1_keep_32 (by rfl) ?_
    refine cs_X1_keep_33 (by assumption) (Nat.le_of_ble_eq_true rfl) hcopy ?_
    refine E_aload_n dX1_keep_36 (by rfl) ?_
    refine E_dup dX1_keep_37 rfl ?_
    refine gf_X1_17 dX1_keep_38 rfl (by assumption) (by rfl) ?_
    refine E_iconst (v := 1) dX1_keep_41 (by decide) ?_
    refine E_iadd dX1_keep_42 ?_
    refine pf_X1_17 dX1_keep_43 rfl (by assumption) (Nat.le_of_ble_eq_true rfl) ?_
    refine E_vret dX1_keep_46 rfl (Nat.zero_le _) (Nat.zero_le _) ?_
    exact ⟨rfl, rfl⟩
end H1
end
section
/-! LiftingStairs: its state; what reads and what records -/
abbrev t_o (len : Int32) : va_E := .inr (2, [.ref 85, .int len])
abbrev t_s (f : Nat → Int32) : va_E := .inl (2, 60, .inl f)
section K1
variable {G : xG} {mem m' : xM} {g : Nat} {S T A : gS} {t n : Nat}
/-- game, ahead, trial, saved; hasSaved; how many are recorded, and which; how many signs, and which -/
abbrev cS : Type := gS × gS × gS × gS × Int32 × Nat × (Nat → gS) × Nat × (Nat → Int32)
abbrev k_gm (C : cS) : gS := C.1
abbrev k_ah (C : cS) : gS := C.2.1
abbrev k_tr (C : cS) : gS := C.2.2.1
abbrev k_sv (C : cS) : gS := C.2.2.2.1
abbrev k_hs (C : cS) : Int32 := C.2.2.2.2.1
abbrev k_c (C : cS) : Nat := C.2.2.2.2.2.1
abbrev k_h (C : cS) : Nat → gS := C.2.2.2.2.2.2.1
abbrev k_n (C : cS) : Nat := C.2.2.2.2.2.2.2.1
abbrev k_f (C : cS) : Nat → Int32 := C.2.2.2.2.2.2.2.2
abbrev k_o (hs : Int32) : va_E := .inr (3, [.ref 1, .ref 10, .ref 19, .ref 28, .ref 37, .ref 84, .int hs])
def cAt (mem : xM) (C : cS) : Prop := mem[0]? = some (k_o (k_hs C)) ∧ gAt mem 1 (k_gm C) ∧ gAt mem 10 (k_ah C) ∧ gAt mem 19 (k_tr C) ∧ gAt mem 28 (k_sv C) ∧ (∃ p, hAt mem (k_c C) p (k_h C)) ∧ mem[84]? = some (t_o (nI (k_n C))) ∧ mem[85]? = some (t_s (k_f C))
/-- the other cells stay -/
def xS86 (mem m' : xM) : Prop := ∀ i, 86 ≤ i → m'[i]? = mem[i]?
theorem xS86.rf : xS86 mem mem := fun _ _ => rfl
theorem xS86.tr {m2 : xM} (h : xS86 mem m') (h2 : xS86 m' m2) : xS86 mem m2 := fun i hi => (h2 i hi).trans (h i hi)
theorem xS86.put (h : gAt mem g S) (hg : g + 9 ≤ 86) : xS86 mem (gPut mem g T) := fun i hi => gPut_other h T (by omega)
theorem xS86.set {i : Nat} {c : va_E} (hi : i < 86) : xS86 mem (mem.set i c) := fun j hj => List.getElem?_set_ne (by omega)
theorem hAt_put {c : Nat} {p : Nat → Nat} {h : Nat → gS} (hg : gAt mem g S) (hg37 : g + 9 ≤ 37) (hh : hAt mem c p h) : hAt (gPut mem g T) c p h := by
  obtain ⟨h0, ⟨f, h1, hf⟩, h2, h3, h4⟩ := hh
  exact ⟨(gPut_other hg T (by omega)).trans h0, ⟨f, (gPut_other hg T (by omega)).trans h1, hf⟩, fun j hj => gAt_other hg (h2 j hj) (Or.inr (by have := h3 j hj; omega)) T, h3, h4⟩
theorem hAt_set {c i : Nat} {p : Nat → Nat} {h : Nat → gS} {x : va_E} (hi : i < 37 ∨ 84 ≤ i) (hh : hAt mem c p h) : hAt (mem.set i x) c p h := by
  obtain ⟨h0, ⟨f, h1, hf⟩, h2, h3, h4⟩ := hh
  exact ⟨x_get_set h0 (by omega), ⟨f, x_get_set h1 (by omega), hf⟩, fun j hj => gAt_set (h2 j hj) (by have := h3 j hj; omega), h3, h4⟩
theorem x_get_put {i : Nat} {d : va_E} (hg : gAt mem g S) (h : mem[i]? = some d) (hi : i < g ∨ g + 9 ≤ i) : (gPut mem g T)[i]? = some d := (gPut_other hg T hi).trans h
theorem cAt_gm {C : cS} (h : cAt mem C) (T : gS) : cAt (gPut mem 1 T) (T, C.2) := by
  obtain ⟨h0, h1, h2, h3, h4, ⟨p, h5⟩, h6, h7⟩ := h
  exact ⟨x_get_put h1 h0 (by decide), gAt_put h1 T, gAt_other h1 h2 (by decide) T, gAt_other h1 h3 (by decide) T, gAt_other h1 h4 (by decide) T, ⟨p, hAt_put h1 (by decide) h5⟩, x_get_put h1 h6 (by decide), x_get_put h1 h7 (by decide)⟩
theorem cAt_ah {C : cS} (h : cAt mem C) (T : gS) : cAt (gPut mem 10 T) (C.1, T, C.2.2) := by
  obtain ⟨h0, h1, h2, h3, h4, ⟨p, h5⟩, h6, h7⟩ := h
  exact ⟨x_get_put h2 h0 (by decide), gAt_other h2 h1 (by decide) T, gAt_put h2 T, gAt_other h2 h3 (by decide) T, gAt_other h2 h4 (by decide) T, ⟨p, hAt_put h2 (by decide) h5⟩, x_get_put h2 h6 (by decide), x_get_put h2 h7 (by decide)⟩
theorem cAt_tr {C : cS} (h : cAt mem C) (T : gS) : cAt (gPut mem 19 T) (C.1, C.2.1, T, C.2.2.2) := by
  obtain ⟨h0, h1, h2, h3, h4, ⟨p, h5⟩, h6, h7⟩ := h
  exact ⟨x_get_put h3 h0 (by decide), gAt_other h3 h1 (by decide) T, gAt_other h3 h2 (by decide) T, gAt_put h3 T, gAt_other h3 h4 (by decide) T, ⟨p, hAt_put h3 (by decide) h5⟩, x_get_put h3 h6 (by decide), x_get_put h3 h7 (by decide)⟩
theorem cAt_sv {C : cS} (h : cAt mem C) (T : gS) : cAt (gPut mem 28 T) (C.1, C.2.1, C.2.2.1, T, C.2.2.2.2) := by
  obtain ⟨h0, h1, h2, h3, h4, ⟨p, h5⟩, h6, h7⟩ := h
  exact ⟨x_get_put h4 h0 (by decide), gAt_other h4 h1 (by decide) T, gAt_other h4 h2 (by decide) T, gAt_other h4 h3 (by decide) T, gAt_put h4 T, ⟨p, hAt_put h4 (by decide) h5⟩, x_get_put h4 h6 (by decide), x_get_put h4 h7 (by decide)⟩
theorem cAt_hs {C : cS} (h : cAt mem C) (x : Int32) : cAt (mem.set 0 (k_o x)) (C.1, C.2.1, C.2.2.1, C.2.2.2.1, x, C.2.2.2.2.2) := by
  obtain ⟨h0, h1, h2, h3, h4, ⟨p, h5⟩, h6, h7⟩ := h
  exact ⟨x_get_same h0, gAt_set h1 (by decide), gAt_set h2 (by decide), gAt_set h3 (by decide), gAt_set h4 (by decide), ⟨p, hAt_set (by decide) h5⟩, x_get_set h6 (by decide), x_get_set h7 (by decide)⟩
theorem cAt_t {C : cS} (h : cAt mem C) (n : Nat) : cAt (mem.set 84 (t_o (nI n))) (C.1, C.2.1, C.2.2.1, C.2.2.2.1, C.2.2.2.2.1, C.2.2.2.2.2.1, C.2.2.2.2.2.2.1, n, C.2.2.2.2.2.2.2.2) := by
  obtain ⟨h0, h1, h2, h3, h4, ⟨p, h5⟩, h6, h7⟩ := h
  exact ⟨x_get_set h0 (by decide), gAt_set h1 (by decide), gAt_set h2 (by decide), gAt_set h3 (by decide), gAt_set h4 (by decide), ⟨p, hAt_set (by decide) h5⟩, x_get_same h6, x_get_set h7 (by decide)⟩
theorem cAt_s {C : cS} (h : cAt mem C) (f : Nat → Int32) : cAt (mem.set 85 (t_s f)) (C.1, C.2.1, C.2.2.1, C.2.2.2.1, C.2.2.2.2.1, C.2.2.2.2.2.1, C.2.2.2.2.2.2.1, C.2.2.2.2.2.2.2.1, f) := by
  obtain ⟨h0, h1, h2, h3, h4, ⟨p, h5⟩, h6, h7⟩ := h
  exact ⟨x_get_set h0 (by decide), gAt_set h1 (by decide), gAt_set h2 (by decide), gAt_set h3 (by decide), gAt_set h4 (by decide), ⟨p, hAt_set (by decide) h5⟩, x_get_set h6 (by decide), x_get_same h7⟩
def hPush (c : Nat) (h : Nat → gS) (A : gS) : Nat → gS := if c < 5 then fun j => if j = c then A else h j else fun j => if j < 4 then h (j + 1) else A
abbrev cRec (C : cS) : cS := (C.1, C.2.1, C.2.2.1, C.2.2.2.1, C.2.2.2.2.1, min (k_c C + 1) 5, hPush (k_c C) (k_h C) (k_ah C), C.2.2.2.2.2.2.2)
abbrev cDone (mem : xM) (C' : cS) : xM → Prop := fun m => cAt m C' ∧ xS86 mem m
def pRot (p : Nat → Nat) : Nat → Nat := fun j => if j < 4 then p (j + 1) else p 0
theorem pRot_lo {p : Nat → Nat} {j : Nat} (h : j < 4) : pRot p j = p (j + 1) := if_pos h
theorem pRot_hi {p : Nat → Nat} {j : Nat} (h : ¬ j < 4) : pRot p j = p 0 := if_neg h
theorem c_keep {C : cS} (h : cAt mem C) (hc : k_c C ≤ 5) (hla : g_la01 (k_ah C)) : Pt G kX1_keep [.ref 37, .ref 10] mem none (cDone mem (cRec C)) := by
  obtain ⟨h0, h1, h2, h3, h4, ⟨p, h5⟩, h6, h7⟩ := h
  by_cases h5c : k_c C < 5
  · refine (c_keep_lo h5 h5c h2 (by decide) hla).pt ?_
    obtain ⟨e0, ⟨f, e1, hf⟩, e2, e3, e4⟩ := h5
    have hpc := e3 _ h5c
    have hgc := e2 _ h5c
    have hmin : min (k_c C + 1) 5 = k_c C + 1 := by omega
    refine ⟨⟨x_get_set (x_get_put hgc h0 (by omega)) (by decide), gAt_set (gAt_other hgc h1 (by omega) _) (by decide), gAt_set (gAt_other hgc h2 (by omega) _) (by decide), gAt_set (gAt_other hgc h3 (by omega) _) (by decide), gAt_set (gAt_other hgc h4 (by omega) _) (by decide), ⟨p, ?_, ⟨f, x_get_set (x_get_put hgc e1 (by omega)) (by decide), hf⟩, fun j hj => ?_, e3, e4⟩, x_get_set (x_get_put hgc h6 (by omega)) (by decide), x_get_set (x_get_put hgc h7 (by omega)) (by decide)⟩, xS86.tr (xS86.put hgc (by omega)) (xS86.set (by decide))⟩
    · show _ = some (h_o (nI (min (k_c C + 1) 5)))
      rw [hmin]
      exact x_get_same (x_get_put hgc e0 (by omega))
    · show gAt _ _ (hPush (k_c C) (k_h C) (k_ah C) j)
      rw [hPush, if_pos h5c]
      by_cases e : j = k_c C
      · subst e
        rw [if_pos rfl]
        exact gAt_set (gAt_put hgc _) (by omega)
      · rw [if_neg e]
        have := e3 j hj
        exact gAt_set (gAt_other hgc (e2 j hj) (e4 _ _ hj h5c e) _) (by omega)
  · have hc5 : k_c C = 5 := by omega
    rw [hc5] at h5
    obtain ⟨f, hf1, hf2, hd⟩ := c_keep_hi (G := G) h5 h2 (by decide) hla
    refine hd.pt ?_
    obtain ⟨e0, ⟨f0, e1, hf⟩, e2, e3, e4⟩ := h5
    have hp0 := e3 0 (by decide)
    have hg0 : gAt ((mem.set 38 (h_r f)).set 37 (h_o 4)) (p 0) (k_h C 0) := gAt_set (gAt_set (e2 0 (by decide)) (by omega)) (by omega)
    have ss : ∀ {i : Nat} {d : va_E}, mem[i]? = some d → i ≠ 37 → i ≠ 38 → (i < p 0 ∨ p 0 + 9 ≤ i) → ((gPut ((mem.set 38 (h_r f)).set 37 (h_o 4)) (p 0) (k_ah C)).set 37 (h_o 5))[i]? = some d := fun hd h1 h2 h3 => x_get_set (x_get_put hg0 (x_get_set (x_get_set hd (Ne.symm h2)) (Ne.symm h1)) h3) (Ne.symm h1)
    have gs : ∀ {g2 : Nat} {S2 : gS}, gAt mem g2 S2 → (37 < g2 ∨ g2 + 9 ≤ 37) → (38 < g2 ∨ g2 + 9 ≤ 38) → (g2 + 9 ≤ p 0 ∨ p 0 + 9 ≤ g2) → gAt ((gPut ((mem.set 38 (h_r f)).set 37 (h_o 4)) (p 0) (k_ah C)).set 37 (h_o 5)) g2 S2 := fun hd h1 h2 h3 => gAt_set (gAt_other hg0 (gAt_set (gAt_set hd (by omega)) (by omega)) h3 _) (by omega)
    refine ⟨⟨ss h0 (by decide) (by decide) (by omega), gs h1 (by decide) (by decide) (by omega), gs h2 (by decide) (by decide) (by omega), gs h3 (by decide) (by decide) (by omega), gs h4 (by decide) (by decide) (by omega), ⟨pRot p, ?_, ⟨f, ?_, fun j hj => ?_⟩, fun j hj => ?_, fun j hj => ?_, fun i j hi hj hij => ?_⟩, ss h6 (by decide) (by decide) (by omega), ss h7 (by decide) (by decide) (by omega)⟩, xS86.tr (xS86.tr (xS86.tr (xS86.set (by decide)) (xS86.set (by decide))) (xS86.put hg0 (by omega))) (xS86.set (by decide))⟩
    · show _ = some (h_o (nI (min (k_c C + 1) 5)))
      rw [hc5]
      exact x_get_same (x_get_put hg0 (x_get_same (x_get_set e0 (by decide))) (by omega))
    · exact x_get_set (x_get_put hg0 (x_get_set (x_get_same e1) (by decide)) (by omega)) (by decide)
    · by_cases h4j : j < 4
      · rw [pRot_lo h4j]; exact hf1 j h4j
      · rw [pRot_hi h4j, show j = 4 by omega]; exact hf2
    · show gAt _ _ (hPush (k_c C) (k_h C) (k_ah C) j)
      rw [hPush, if_neg h5c]
      by_cases h4j : j < 4
      · rw [if_pos h4j, pRot_lo h4j]
        have := e3 (j + 1) (by omega)
        exact gs (e2 (j + 1) (by omega)) (by omega) (by omega) (e4 _ _ (by omega) (by decide) (by omega))
      · rw [if_neg h4j, pRot_hi h4j]
        exact gAt_set (gAt_put hg0 _) (by omega)
    · by_cases h4j : j < 4
      · rw [pRot_lo h4j]; exact e3 _ (by omega)
      · rw [pRot_hi h4j]; exact hp0
    · by_cases h4i : i < 4
      · rw [pRot_lo h4i]
        by_cases h4j : j < 4
        · rw [pRot_lo h4j]; exact e4 _ _ (by omega) (by omega) (by omega)
        · rw [pRot_hi h4j]; exact e4 _ _ (by omega) (by decide) (by omega)
      · rw [pRot_hi h4i]
        by_cases h4j : j < 4
        · rw [pRot_lo h4j]; exact e4 _ _ (by decide) (by omega) (by omega)
        · exact absurd (show i = j by omega) hij
theorem c_rec_no {C : cS} (h : cAt mem C) (x : Int32) (hx : x.toInt < 0) : Dt G kX3_recordUnlessError [.ref 0, .int x] mem (some (.int x)) mem := by
  refine Ct_of (by decide) (Nat.le_of_ble_eq_true rfl) ?_
  refine E_iload_n dX3_recordUnlessError_0 (by rfl) ?_
  refine E_if_lt (tgt := 15) dX3_recordUnlessError_1 (by decide) (fun q1 => ?_) (fun q1 => ?_)
  · refine E_iload_n dX3_recordUnlessError_15 (by rfl) ?_
    refine E_iret dX3_recordUnlessError_16 rfl rfl (Nat.zero_le _) (Nat.zero_le _) ?_
    exact x_leaf rfl
  · exact absurd hx q1
theorem c_rec_ok {C : cS} (h : cAt mem C) (hc : k_c C ≤ 5) (hla : g_la01 (k_ah C)) (x : Int32) (hx : 0 ≤ x.toInt) : Pt G kX3_recordUnlessError [.ref 0, .int x] mem (some (.int x)) (cDone mem (cRec C)) := by
  obtain ⟨h0, h1, h2, h3, h4, ⟨p, h5⟩, h6, h7⟩ := id h
  have h50 := h5.1
  refine Ct_of (by decide) (Nat.le_of_ble_eq_true rfl) ?_
  refine E_iload_n dX3_recordUnlessError_0 (by rfl) ?_
  refine E_if_lt (tgt := 15) dX3_recordUnlessError_1 (by decide) (fun q1 => ?_) (fun q1 => ?_)
  · exact absurd q1 (by omega)
  · refine E_aload_n dX3_recordUnlessError_4 (by rfl) ?_
    refine gf_X3_28 dX3_recordUnlessError_5 rfl (by assumption) (by rfl) ?_
    refine E_aload_n dX3_recordUnlessError_8 (by rfl) ?_
    refine gf_X3_16 dX3_recordUnlessError_9 rfl (by assumption) (by rfl) ?_
    refine cp_X3_recordUnlessError_12 (by assumption) (Nat.le_of_ble_eq_true rfl) (c_keep h hc hla) (fun m12 h12 => ?_)
    refine E_iload_n dX3_recordUnlessError_15 (by rfl) ?_
    refine E_iret dX3_recordUnlessError_16 rfl rfl (Nat.zero_le _) (Nat.zero_le _) ?_
    exact ⟨rfl, h12⟩
end K1
end
section
/-! LiftingStairs: the methods of the face, but play -/
section K2
variable {G : xG} {mem : xM} {C : cS} {S T : gS} {t n : Nat}
abbrev cAh (C : cS) : cS := (C.1, C.1, C.2.2)
theorem c_toAhead (h : cAt mem C) (hla : g_la01 (k_gm C)) : Dt G kX0_copyFrom [.ref 10, .ref 1] mem none (gPut mem 10 (k_gm C)) := by
  have z := c_copyFrom (G := G) (T := k_ah C) h.2.2.1 h.2.1 (by decide) hla
  rw [gPut_self h.2.2.1] at z
  exact z
theorem k_setTop_no (h : cAt mem C) (hla : g_la01 (k_gm C)) {a1 : Int32} {r : Int32} (hop : Dt G kX0_changeTop [.ref 1, .int a1] (gPut mem 10 (k_gm C)) (some (.int r)) (gPut mem 10 (k_gm C))) (hr : r.toInt < 0) : Pt G kX3_setTop [.ref 0, .int a1] mem (some (.int r)) (cDone mem (cAh C)) := by
  have hA := cAt_ah h (k_gm C)
  have a0 := h.1
  have g0 := h.2.1.1
  have g1 := h.2.2.1.1
  have b0 := hA.1
  have b1 := hA.2.1.1
  refine Ct_of (by decide) (Nat.le_of_ble_eq_true rfl) ?_
  refine E_aload_n dX3_setTop_0 (by rfl) ?_
  refine gf_X3_16 dX3_setTop_1 rfl (by assumption) (by rfl) ?_
  refine E_aload_n dX3_setTop_4 (by rfl) ?_
  refine gf_X3_10 dX3_setTop_5 rfl (by assumption) (by rfl) ?_
  refine cs_X3_setTop_8 (by assumption) (Nat.le_of_ble_eq_true rfl) (c_toAhead h hla) ?_
  refine E_aload_n dX3_setTop_11 (by rfl) ?_
  refine E_aload_n dX3_setTop_12 (by rfl) ?_
  refine gf_X3_10 dX3_setTop_13 rfl (by assumption) (by rfl) ?_
  refine E_iload_n dX3_setTop_16 (by rfl) ?_
  refine cs_X3_setTop_17 (by assumption) (Nat.le_of_ble_eq_true rfl) hop ?_
  refine cs_X3_setTop_20 (by assumption) (Nat.le_of_ble_eq_true rfl) (c_rec_no hA r hr) ?_
  refine E_iret dX3_setTop_23 rfl rfl (Nat.zero_le _) (Nat.zero_le _) ?_
  exact ⟨rfl, hA, xS86.put h.2.2.1 (by decide)⟩
theorem k_setTop_ok (h : cAt mem C) (hc : k_c C ≤ 5) (hla : g_la01 (k_gm C)) {a1 : Int32} {r : Int32} (hop : Dt G kX0_changeTop [.ref 1, .int a1] (gPut mem 10 (k_gm C)) (some (.int r)) (gPut (gPut mem 10 (k_gm C)) 1 T)) (hr : 0 ≤ r.toInt) : Pt G kX3_setTop [.ref 0, .int a1] mem (some (.int r)) (cDone mem (cRec (T, C.1, C.2.2))) := by
  have hA := cAt_ah h (k_gm C)
  have hB := cAt_gm hA T
  have a0 := h.1
  have g0 := h.2.1.1
  have g1 := h.2.2.1.1
  have b0 := hA.1
  have b1 := hA.2.1.1
  have d0 := hB.1
  refine Ct_of (by decide) (Nat.le_of_ble_eq_true rfl) ?_
  refine E_aload_n dX3_setTop_0 (by rfl) ?_
  refine gf_X3_16 dX3_setTop_1 rfl (by assumption) (by rfl) ?_
  refine E_aload_n dX3_setTop_4 (by rfl) ?_
  refine gf_X3_10 dX3_setTop_5 rfl (by assumption) (by rfl) ?_
  refine cs_X3_setTop_8 (by assumption) (Nat.le_of_ble_eq_true rfl) (c_toAhead h hla) ?_
  refine E_aload_n dX3_setTop_11 (by rfl) ?_
  refine E_aload_n dX3_setTop_12 (by rfl) ?_
  refine gf_X3_10 dX3_setTop_13 rfl (by assumption) (by rfl) ?_
  refine E_iload_n dX3_setTop_16 (by rfl) ?_
  refine cs_X3_setTop_17 (by assumption) (Nat.le_of_ble_eq_true rfl) hop ?_
  refine cp_X3_setTop_20 (by assumption) (Nat.le_of_ble_eq_true rfl) (c_rec_ok hB hc hla r hr) (fun m20 h20 => ?_)
  refine E_iret dX3_setTop_23 rfl rfl (Nat.zero_le _) (Nat.zero_le _) ?_
  exact ⟨rfl, h20.1, xS86.tr (xS86.tr (xS86.put h.2.2.1 (by decide)) (xS86.put hA.2.1 (by decide))) h20.2⟩
theorem k_lay_no (h : cAt mem C) (hla : g_la01 (k_gm C)) {a1 a2 : Int32} {r : Int32} (hop : Dt G kX0_layCarpet [.ref 1, .int a1, .int a2] (gPut mem 10 (k_gm C)) (some (.int r)) (gPut mem 10 (k_gm C))) (hr : r.toInt < 0) : Pt G kX3_lay [.ref 0, .int a1, .int a2] mem (some (.int r)) (cDone mem (cAh C)) := by
  have hA := cAt_ah h (k_gm C)
  have a0 := h.1
  have g0 := h.2.1.1
  have g1 := h.2.2.1.1
  have b0 := hA.1
  have b1 := hA.2.1.1
  refine Ct_of (by decide) (Nat.le_of_ble_eq_true rfl) ?_
  refine E_aload_n dX3_lay_0 (by rfl) ?_
  refine gf_X3_16 dX3_lay_1 rfl (by assumption) (by rfl) ?_
  refine E_aload_n dX3_lay_4 (by rfl) ?_
  refine gf_X3_10 dX3_lay_5 rfl (by assumption) (by rfl) ?_
  refine cs_X3_lay_8 (by assumption) (Nat.le_of_ble_eq_true rfl) (c_toAhead h hla) ?_
  refine E_aload_n dX3_lay_11 (by rfl) ?_
  refine E_aload_n dX3_lay_12 (by rfl) ?_
  refine gf_X3_10 dX3_lay_13 rfl (by assumption) (by rfl) ?_
  refine E_iload_n dX3_lay_16 (by rfl) ?_
  refine E_iload_n dX3_lay_17 (by rfl) ?_
  refine cs_X3_lay_18 (by assumption) (Nat.le_of_ble_eq_true rfl) hop ?_
  refine cs_X3_lay_21 (by assumption) (Nat.le_of_ble_eq_true rfl) (c_rec_no hA r hr) ?_
  refine E_iret dX3_lay_24 rfl rfl (Nat.zero_le _) (Nat.zero_le _) ?_
  exact ⟨rfl, hA, xS86.put h.2.2.1 (by decide)⟩
theorem k_lay_ok (h : cAt mem C) (hc : k_c C ≤ 5) (hla : g_la01 (k_gm C)) {a1 a2 : Int32} {r : Int32} (hop : Dt G kX0_layCarpet [.ref 1, .int a1, .int a2] (gPut mem 10 (k_gm C)) (some (.int r)) (gPut (gPut mem 10 (k_gm C)) 1 T)) (hr : 0 ≤ r.toInt) : Pt G kX3_lay [.ref 0, .int a1, .int a2] mem (some (.int r)) (cDone mem (cRec (T, C.1, C.2.2))) := by
  have hA := cAt_ah h (k_gm C)
  have hB := cAt_gm hA T
  have a0 := h.1
  have g0 := h.2.1.1
  have g1 := h.2.2.1.1
  have b0 := hA.1
  have b1 := hA.2.1.1
  have d0 := hB.1
  refine Ct_of (by decide) (Nat.le_of_ble_eq_true rfl) ?_
  refine E_aload_n dX3_lay_0 (by rfl) ?_
  refine gf_X3_16 dX3_lay_1 rfl (by assumption) (by rfl) ?_
  refine E_aload_n dX3_lay_4 (by rfl) ?_
  refine gf_X3_10 dX3_lay_5 rfl (by assumption) (by rfl) ?_
  refine cs_X3_lay_8 (by assumption) (Nat.le_of_ble_eq_true rfl) (c_toAhead h hla) ?_
  refine E_aload_n dX3_lay_11 (by rfl) ?_
  refine E_aload_n dX3_lay_12 (by rfl) ?_
  refine gf_X3_10 dX3_lay_13 rfl (by assumption) (by rfl) ?_
  refine E_iload_n dX3_lay_16 (by rfl) ?_
  refine E_iload_n dX3_lay_17 (by rfl) ?_
  refine cs_X3_lay_18 (by assumption) (Nat.le_of_ble_eq_true rfl) hop ?_
  refine cp_X3_lay_21 (by assumption) (Nat.le_of_ble_eq_true rfl) (c_rec_ok hB hc hla r hr) (fun m21 h21 => ?_)
  refine E_iret dX3_lay_24 rfl rfl (Nat.zero_le _) (Nat.zero_le _) ?_
  exact ⟨rfl, h21.1, xS86.tr (xS86.tr (xS86.put h.2.2.1 (by decide)) (xS86.put hA.2.1 (by decide))) h21.2⟩
theorem k_take_no (h : cAt mem C) (hla : g_la01 (k_gm C)) {a1 : Int32} {r : Int32} (hop : Dt G kX0_takeCarpet [.ref 1, .int a1] (gPut mem 10 (k_gm C)) (some (.int r)) (gPut mem 10 (k_gm C))) (hr : r.toInt < 0) : Pt G kX3_take [.ref 0, .int a1] mem (some (.int r)) (cDone mem (cAh C)) := by
  have hA := cAt_ah h (k_gm C)
  have a0 := h.1
  have g0 := h.2.1.1
  have g1 := h.2.2.1.1
  have b0 := hA.1
  have b1 := hA.2.1.1
  refine Ct_of (by decide) (Nat.le_of_ble_eq_true rfl) ?_
  refine E_aload_n dX3_take_0 (by rfl) ?_
  refine gf_X3_16 dX3_take_1 rfl (by assumption) (by rfl) ?_
  refine E_aload_n dX3_take_4 (by rfl) ?_
  refine gf_X3_10 dX3_take_5 rfl (by assumption) (by rfl) ?_
  refine cs_X3_take_8 (by assumption) (Nat.le_of_ble_eq_true rfl) (c_toAhead h hla) ?_
  refine E_aload_n dX3_take_11 (by rfl) ?_
  refine E_aload_n dX3_take_12 (by rfl) ?_
  refine gf_X3_10 dX3_take_13 rfl (by assumption) (by rfl) ?_
  refine E_iload_n dX3_take_16 (by rfl) ?_
  refine cs_X3_take_17 (by assumption) (Nat.le_of_ble_eq_true rfl) hop ?_
  refine cs_X3_take_20 (by assumption) (Nat.le_of_ble_eq_true rfl) (c_rec_no hA r hr) ?_
  refine E_iret dX3_take_23 rfl rfl (Nat.zero_le _) (Nat.zero_le _) ?_
  exact ⟨rfl, hA, xS86.put h.2.2.1 (by decide)⟩
theorem k_take_ok (h : cAt mem C) (hc : k_c C ≤ 5) (hla : g_la01 (k_gm C)) {a1 : Int32} {r : Int32} (hop : Dt G kX0_takeCarpet [.ref 1, .int a1] (gPut mem 10 (k_gm C)) (some (.int r)) (gPut (gPut mem 10 (k_gm C)) 1 T)) (hr : 0 ≤ r.toInt) : Pt G kX3_take [.ref 0, .int a1] mem (some (.int r)) (cDone mem (cRec (T, C.1, C.2.2))) := by
  have hA := cAt_ah h (k_gm C)
  have hB := cAt_gm hA T
  have a0 := h.1
  have g0 := h.2.1.1
  have g1 := h.2.2.1.1
  have b0 := hA.1
  have b1 := hA.2.1.1
  have d0 := hB.1
  refine Ct_of (by decide) (Nat.le_of_ble_eq_true rfl) ?_
  refine E_aload_n dX3_take_0 (by rfl) ?_
  refine gf_X3_16 dX3_take_1 rfl (by assumption) (by rfl) ?_
  refine E_aload_n dX3_take_4 (by rfl) ?_
  refine gf_X3_10 dX3_take_5 rfl (by assumption) (by rfl) ?_
  refine cs_X3_take_8 (by assumption) (Nat.le_of_ble_eq_true rfl) (c_toAhead h hla) ?_
  refine E_aload_n dX3_take_11 (by rfl) ?_
  refine E_aload_n dX3_take_12 (by rfl) ?_
  refine gf_X3_10 dX3_take_13 rfl (by assumption) (by rfl) ?_
  refine E_iload_n dX3_take_16 (by rfl) ?_
  refine cs_X3_take_17 (by assumption) (Nat.le_of_ble_eq_true rfl) hop ?_
  refine cp_X3_take_20 (by assumption) (Nat.le_of_ble_eq_true rfl) (c_rec_ok hB hc hla r hr) (fun m20 h20 => ?_)
  refine E_iret dX3_take_23 rfl rfl (Nat.zero_le _) (Nat.zero_le _) ?_
  exact ⟨rfl, h20.1, xS86.tr (xS86.tr (xS86.put h.2.2.1 (by decide)) (xS86.put hA.2.1 (by decide))) h20.2⟩
theorem k_put_no (h : cAt mem C) (hla : g_la01 (k_gm C)) {a1 : Int32} {r : Int32} (hop : Dt G kX0_putLanding [.ref 1, .int a1] (gPut mem 10 (k_gm C)) (some (.int r)) (gPut mem 10 (k_gm C))) (hr : r.toInt < 0) : Pt G kX3_put [.ref 0, .int a1] mem (some (.int r)) (cDone mem (cAh C)) := by
  have hA := cAt_ah h (k_gm C)
  have a0 := h.1
  have g0 := h.2.1.1
  have g1 := h.2.2.1.1
  have b0 := hA.1
  have b1 := hA.2.1.1
  refine Ct_of (by decide) (Nat.le_of_ble_eq_true rfl) ?_
  refine E_aload_n dX3_put_0 (by rfl) ?_
  refine gf_X3_16 dX3_put_1 rfl (by assumption) (by rfl) ?_
  refine E_aload_n dX3_put_4 (by rfl) ?_
  refine gf_X3_10 dX3_put_5 rfl (by assumption) (by rfl) ?_
  refine cs_X3_put_8 (by assumption) (Nat.le_of_ble_eq_true rfl) (c_toAhead h hla) ?_
  refine E_aload_n dX3_put_11 (by rfl) ?_
  refine E_aload_n dX3_put_12 (by rfl) ?_
  refine gf_X3_10 dX3_put_13 rfl (by assumption) (by rfl) ?_
  refine E_iload_n dX3_put_16 (by rfl) ?_
  refine cs_X3_put_17 (by assumption) (Nat.le_of_ble_eq_true rfl) hop ?_
  refine cs_X3_put_20 (by assumption) (Nat.le_of_ble_eq_true rfl) (c_rec_no hA r hr) ?_
  refine E_iret dX3_put_23 rfl rfl (Nat.zero_le _) (Nat.zero_le _) ?_
  exact ⟨rfl, hA, xS86.put h.2.2.1 (by decide)⟩
theorem k_put_ok (h : cAt mem C) (hc : k_c C ≤ 5) (hla : g_la01 (k_gm C)) {a1 : Int32} {r : Int32} (hop : Dt G kX0_putLanding [.ref 1, .int a1] (gPut mem 10 (k_gm C)) (some (.int r)) (gPut (gPut mem 10 (k_gm C)) 1 T)) (hr : 0 ≤ r.toInt) : Pt G kX3_put [.ref 0, .int a1] mem (some (.int r)) (cDone mem (cRec (T, C.1, C.2.2))) := by
  have hA := cAt_ah h (k_gm C)
  have hB := cAt_gm hA T
  have a0 := h.1
  have g0 := h.2.1.1
  have g1 := h.2.2.1.1
  have b0 := hA.1
  have b1 := hA.2.1.1
  have d0 := hB.1
  refine Ct_of (by decide) (Nat.le_of_ble_eq_true rfl) ?_
  refine E_aload_n dX3_put_0 (by rfl) ?_
  refine gf_X3_16 dX3_put_1 rfl (by assumption) (by rfl) ?_
  refine E_aload_n dX3_put_4 (by rfl) ?_
  refine gf_X3_10 dX3_put_5 rfl (by assumption) (by rfl) ?_
  refine cs_X3_put_8 (by assumption) (Nat.le_of_ble_eq_true rfl) (c_toAhead h hla) ?_
  refine E_aload_n dX3_put_11 (by rfl) ?_
  refine E_aload_n dX3_put_12 (by rfl) ?_
  refine gf_X3_10 dX3_put_13 rfl (by assumption) (by rfl) ?_
  refine E_iload_n dX3_put_16 (by rfl) ?_
  refine cs_X3_put_17 (by assumption) (Nat.le_of_ble_eq_true rfl) hop ?_
  refine cp_X3_put_20 (by assumption) (Nat.le_of_ble_eq_true rfl) (c_rec_ok hB hc hla r hr) (fun m20 h20 => ?_)
  refine E_iret dX3_put_23 rfl rfl (Nat.zero_le _) (Nat.zero_le _) ?_
  exact ⟨rfl, h20.1, xS86.tr (xS86.tr (xS86.put h.2.2.1 (by decide)) (xS86.put hA.2.1 (by decide))) h20.2⟩
theorem k_remove_no (h : cAt mem C) (hla : g_la01 (k_gm C)) {a1 : Int32} {r : Int32} (hop : Dt G kX0_removeLanding [.ref 1, .int a1] (gPut mem 10 (k_gm C)) (some (.int r)) (gPut mem 10 (k_gm C))) (hr : r.toInt < 0) : Pt G kX3_remove [.ref 0, .int a1] mem (some (.int r)) (cDone mem (cAh C)) := by
  have hA := cAt_ah h (k_gm C)
  have a0 := h.1
  have g0 := h.2.1.1
  have g1 := h.2.2.1.1
  have b0 := hA.1
  have b1 := hA.2.1.1
  refine Ct_of (by decide) (Nat.le_of_ble_eq_true rfl) ?_
  refine E_aload_n dX3_remove_0 (by rfl) ?_
  refine gf_X3_16 dX3_remove_1 rfl (by assumption) (by rfl) ?_
  refine E_aload_n dX3_remove_4 (by rfl) ?_
  refine gf_X3_10 dX3_remove_5 rfl (by assumption) (by rfl) ?_
  refine cs_X3_remove_8 (by assumption) (Nat.le_of_ble_eq_true rfl) (c_toAhead h hla) ?_
  refine E_aload_n dX3_remove_11 (by rfl) ?_
  refine E_aload_n dX3_remove_12 (by rfl) ?_
  refine gf_X3_10 dX3_remove_13 rfl (by assumption) (by rfl) ?_
  refine E_iload_n dX3_remove_16 (by rfl) ?_
  refine cs_X3_remove_17 (by assumption) (Nat.le_of_ble_eq_true rfl) hop ?_
  refine cs_X3_remove_20 (by assumption) (Nat.le_of_ble_eq_true rfl) (c_rec_no hA r hr) ?_
  refine E_iret dX3_remove_23 rfl rfl (Nat.zero_le _) (Nat.zero_le _) ?_
  exact ⟨rfl, hA, xS86.put h.2.2.1 (by decide)⟩
theorem k_remove_ok (h : cAt mem C) (hc : k_c C ≤ 5) (hla : g_la01 (k_gm C)) {a1 : Int32} {r : Int32} (hop : Dt G kX0_removeLanding [.ref 1, .int a1] (gPut mem 10 (k_gm C)) (some (.int r)) (gPut (gPut mem 10 (k_gm C)) 1 T)) (hr : 0 ≤ r.toInt) : Pt G kX3_remove [.ref 0, .int a1] mem (some (.int r)) (cDone mem (cRec (T, C.1, C.2.2))) := by
  have hA := cAt_ah h (k_gm C)
  have hB := cAt_gm hA T
  have a0 := h.1
  have g0 := h.2.1.1
  have g1 := h.2.2.1.1
  have b0 := hA.1
  have b1 := hA.2.1.1
  have d0 := hB.1
  refine Ct_of (by decide) (Nat.le_of_ble_eq_true rfl) ?_
  refine E_aload_n dX3_remove_0 (by rfl) ?_
  refine gf_X3_16 dX3_remove_1 rfl (by assumption) (by rfl) ?_
  refine E_aload_n dX3_remove_4 (by rfl) ?_
  refine gf_X3_10 dX3_remove_5 rfl (by assumption) (by rfl) ?_
  refine cs_X3_remove_8 (by assumption) (Nat.le_of_ble_eq_true rfl) (c_toAhead h hla) ?_
  refine E_aload_n dX3_remove_11 (by rfl) ?_
  refine E_aload_n dX3_remove_12 (by rfl) ?_
  refine gf_X3_10 dX3_remove_13 rfl (by assumption) (by rfl) ?_
  refine E_iload_n dX3_remove_16 (by rfl) ?_
  refine cs_X3_remove_17 (by assumption) (Nat.le_of_ble_eq_true rfl) hop ?_
  refine cp_X3_remove_20 (by assumption) (Nat.le_of_ble_eq_true rfl) (c_rec_ok hB hc hla r hr) (fun m20 h20 => ?_)
  refine E_iret dX3_remove_23 rfl rfl (Nat.zero_le _) (Nat.zero_le _) ?_
  exact ⟨rfl, h20.1, xS86.tr (xS86.tr (xS86.put h.2.2.1 (by decide)) (xS86.put hA.2.1 (by decide))) h20.2⟩
theorem k_join_no (h : cAt mem C) (hla : g_la01 (k_gm C)) {r : Int32} (hop : Dt G kX0_addClimber [.ref 1] (gPut mem 10 (k_gm C)) (some (.int r)) (gPut mem 10 (k_gm C))) (hr : r.toInt < 0) : Pt G kX3_join [.ref 0] mem (some (.int r)) (cDone mem (cAh C)) := by
  have hA := cAt_ah h (k_gm C)
  have a0 := h.1
  have g0 := h.2.1.1
  have g1 := h.2.2.1.1
  have b0 := hA.1
  have b1 := hA.2.1.1
  refine Ct_of (by decide) (Nat.le_of_ble_eq_true rfl) ?_
  refine E_aload_n dX3_join_0 (by rfl) ?_
  refine gf_X3_16 dX3_join_1 rfl (by assumption) (by rfl) ?_
  refine E_aload_n dX3_join_4 (by rfl) ?_
  refine gf_X3_10 dX3_join_5 rfl (by assumption) (by rfl) ?_
  refine cs_X3_join_8 (by assumption) (Nat.le_of_ble_eq_true rfl) (c_toAhead h hla) ?_
  refine E_aload_n dX3_join_11 (by rfl) ?_
  refine E_aload_n dX3_join_12 (by rfl) ?_
  refine gf_X3_10 dX3_join_13 rfl (by assumption) (by rfl) ?_
  refine cs_X3_join_16 (by assumption) (Nat.le_of_ble_eq_true rfl) hop ?_
  refine cs_X3_join_19 (by assumption) (Nat.le_of_ble_eq_true rfl) (c_rec_no hA r hr) ?_
  refine E_iret dX3_join_22 rfl rfl (Nat.zero_le _) (Nat.zero_le _) ?_
  exact ⟨rfl, hA, xS86.put h.2.2.1 (by decide)⟩
theorem k_join_ok (h : cAt mem C) (hc : k_c C ≤ 5) (hla : g_la01 (k_gm C)) {r : Int32} (hop : Dt G kX0_addClimber [.ref 1] (gPut mem 10 (k_gm C)) (some (.int r)) (gPut (gPut mem 10 (k_gm C)) 1 T)) (hr : 0 ≤ r.toInt) : Pt G kX3_join [.ref 0] mem (some (.int r)) (cDone mem (cRec (T, C.1, C.2.2))) := by
  have hA := cAt_ah h (k_gm C)
  have hB := cAt_gm hA T
  have a0 := h.1
  have g0 := h.2.1.1
  have g1 := h.2.2.1.1
  have b0 := hA.1
  have b1 := hA.2.1.1
  have d0 := hB.1
  refine Ct_of (by decide) (Nat.le_of_ble_eq_true rfl) ?_
  refine E_aload_n dX3_join_0 (by rfl) ?_
  refine gf_X3_16 dX3_join_1 rfl (by assumption) (by rfl) ?_
  refine E_aload_n dX3_join_4 (by rfl) ?_
  refine gf_X3_10 dX3_join_5 rfl (by assumption) (by rfl) ?_
  refine cs_X3_join_8 (by assumption) (Nat.le_of_ble_eq_true rfl) (c_toAhead h hla) ?_
  refine E_aload_n dX3_join_11 (by rfl) ?_
  refine E_aload_n dX3_join_12 (by rfl) ?_
  refine gf_X3_10 dX3_join_13 rfl (by assumption) (by rfl) ?_
  refine cs_X3_join_16 (by assumption) (Nat.le_of_ble_eq_true rfl) hop ?_
  refine cp_X3_join_19 (by assumption) (Nat.le_of_ble_eq_true rfl) (c_rec_ok hB hc hla r hr) (fun m19 h19 => ?_)
  refine E_iret dX3_join_22 rfl rfl (Nat.zero_le _) (Nat.zero_le _) ?_
  exact ⟨rfl, h19.1, xS86.tr (xS86.tr (xS86.put h.2.2.1 (by decide)) (xS86.put hA.2.1 (by decide))) h19.2⟩
theorem k_roll_no (h : cAt mem C) (hla : g_la01 (k_gm C)) {a1 : Int32} {r : Int32} (hop : Dt G kX0_makeRoll [.ref 1, .int a1] (gPut mem 10 (k_gm C)) (some (.int r)) (gPut mem 10 (k_gm C))) (hr : r.toInt < 0) : Pt G kX3_roll [.ref 0, .int a1] mem (some (.int r)) (cDone mem (cAh C)) := by
  have hA := cAt_ah h (k_gm C)
  have a0 := h.1
  have g0 := h.2.1.1
  have g1 := h.2.2.1.1
  have b0 := hA.1
  have b1 := hA.2.1.1
  refine Ct_of (by decide) (Nat.le_of_ble_eq_true rfl) ?_
  refine E_aload_n dX3_roll_0 (by rfl) ?_
  refine gf_X3_16 dX3_roll_1 rfl (by assumption) (by rfl) ?_
  refine E_aload_n dX3_roll_4 (by rfl) ?_
  refine gf_X3_10 dX3_roll_5 rfl (by assumption) (by rfl) ?_
  refine cs_X3_roll_8 (by assumption) (Nat.le_of_ble_eq_true rfl) (c_toAhead h hla) ?_
  refine E_aload_n dX3_roll_11 (by rfl) ?_
  refine E_aload_n dX3_roll_12 (by rfl) ?_
  refine gf_X3_10 dX3_roll_13 rfl (by assumption) (by rfl) ?_
  refine E_iload_n dX3_roll_16 (by rfl) ?_
  refine cs_X3_roll_17 (by assumption) (Nat.le_of_ble_eq_true rfl) hop ?_
  refine cs_X3_roll_20 (by assumption) (Nat.le_of_ble_eq_true rfl) (c_rec_no hA r hr) ?_
  refine E_iret dX3_roll_23 rfl rfl (Nat.zero_le _) (Nat.zero_le _) ?_
  exact ⟨rfl, hA, xS86.put h.2.2.1 (by decide)⟩
theorem k_roll_ok (h : cAt mem C) (hc : k_c C ≤ 5) (hla : g_la01 (k_gm C)) {a1 : Int32} {r : Int32} (hop : Dt G kX0_makeRoll [.ref 1, .int a1] (gPut mem 10 (k_gm C)) (some (.int r)) (gPut (gPut mem 10 (k_gm C)) 1 T)) (hr : 0 ≤ r.toInt) : Pt G kX3_roll [.ref 0, .int a1] mem (some (.int r)) (cDone mem (cRec (T, C.1, C.2.2))) := by
  have hA := cAt_ah h (k_gm C)
  have hB := cAt_gm hA T
  have a0 := h.1
  have g0 := h.2.1.1
  have g1 := h.2.2.1.1
  have b0 := hA.1
  have b1 := hA.2.1.1
  have d0 := hB.1
  refine Ct_of (by decide) (Nat.le_of_ble_eq_true rfl) ?_
  refine E_aload_n dX3_roll_0 (by rfl) ?_
  refine gf_X3_16 dX3_roll_1 rfl (by assumption) (by rfl) ?_
  refine E_aload_n dX3_roll_4 (by rfl) ?_
  refine gf_X3_10 dX3_roll_5 rfl (by assumption) (by rfl) ?_
  refine cs_X3_roll_8 (by assumption) (Nat.le_of_ble_eq_true rfl) (c_toAhead h hla) ?_
  refine E_aload_n dX3_roll_11 (by rfl) ?_
  refine E_aload_n dX3_roll_12 (by rfl) ?_
  refine gf_X3_10 dX3_roll_13 rfl (by assumption) (by rfl) ?_
  refine E_iload_n dX3_roll_16 (by rfl) ?_
  refine cs_X3_roll_17 (by assumption) (Nat.le_of_ble_eq_true rfl) hop ?_
  refine cp_X3_roll_20 (by assumption) (Nat.le_of_ble_eq_true rfl) (c_rec_ok hB hc hla r hr) (fun m20 h20 => ?_)
  refine E_iret dX3_roll_23 rfl rfl (Nat.zero_le _) (Nat.zero_le _) ?_
  exact ⟨rfl, h20.1, xS86.tr (xS86.tr (xS86.put h.2.2.1 (by decide)) (xS86.put hA.2.1 (by decide))) h20.2⟩
theorem k_pass_no (h : cAt mem C) (hla : g_la01 (k_gm C)) {r : Int32} (hop : Dt G kX0_makePass [.ref 1] (gPut mem 10 (k_gm C)) (some (.int r)) (gPut mem 10 (k_gm C))) (hr : r.toInt < 0) : Pt G kX3_pass [.ref 0] mem (some (.int r)) (cDone mem (cAh C)) := by
  have hA := cAt_ah h (k_gm C)
  have a0 := h.1
  have g0 := h.2.1.1
  have g1 := h.2.2.1.1
  have b0 := hA.1
  have b1 := hA.2.1.1
  refine Ct_of (by decide) (Nat.le_of_ble_eq_true rfl) ?_
  refine E_aload_n dX3_pass_0 (by rfl) ?_
  refine gf_X3_16 dX3_pass_1 rfl (by assumption) (by rfl) ?_
  refine E_aload_n dX3_pass_4 (by rfl) ?_
  refine gf_X3_10 dX3_pass_5 rfl (by assumption) (by rfl) ?_
  refine cs_X3_pass_8 (by assumption) (Nat.le_of_ble_eq_true rfl) (c_toAhead h hla) ?_
  refine E_aload_n dX3_pass_11 (by rfl) ?_
  refine E_aload_n dX3_pass_12 (by rfl) ?_
  refine gf_X3_10 dX3_pass_13 rfl (by assumption) (by rfl) ?_
  refine cs_X3_pass_16 (by assumption) (Nat.le_of_ble_eq_true rfl) hop ?_
  refine cs_X3_pass_19 (by assumption) (Nat.le_of_ble_eq_true rfl) (c_rec_no hA r hr) ?_
  refine E_iret dX3_pass_22 rfl rfl (Nat.zero_le _) (Nat.zero_le _) ?_
  exact ⟨rfl, hA, xS86.put h.2.2.1 (by decide)⟩
theorem k_pass_ok (h : cAt mem C) (hc : k_c C ≤ 5) (hla : g_la01 (k_gm C)) {r : Int32} (hop : Dt G kX0_makePass [.ref 1] (gPut mem 10 (k_gm C)) (some (.int r)) (gPut (gPut mem 10 (k_gm C)) 1 T)) (hr : 0 ≤ r.toInt) : Pt G kX3_pass [.ref 0] mem (some (.int r)) (cDone mem (cRec (T, C.1, C.2.2))) := by
  have hA := cAt_ah h (k_gm C)
  have hB := cAt_gm hA T
  have a0 := h.1
  have g0 := h.2.1.1
  have g1 := h.2.2.1.1
  have b0 := hA.1
  have b1 := hA.2.1.1
  have d0 := hB.1
  refine Ct_of (by decide) (Nat.le_of_ble_eq_true rfl) ?_
  refine E_aload_n dX3_pass_0 (by rfl) ?_
  refine gf_X3_16 dX3_pass_1 rfl (by assumption) (by rfl) ?_
  refine E_aload_n dX3_pass_4 (by rfl) ?_
  refine gf_X3_10 dX3_pass_5 rfl (by assumption) (by rfl) ?_
  refine cs_X3_pass_8 (by assumption) (Nat.le_of_ble_eq_true rfl) (c_toAhead h hla) ?_
  refine E_aload_n dX3_pass_11 (by rfl) ?_
  refine E_aload_n dX3_pass_12 (by rfl) ?_
  refine gf_X3_10 dX3_pass_13 rfl (by assumption) (by rfl) ?_
  refine cs_X3_pass_16 (by assumption) (Nat.le_of_ble_eq_true rfl) hop ?_
  refine cp_X3_pass_19 (by assumption) (Nat.le_of_ble_eq_true rfl) (c_rec_ok hB hc hla r hr) (fun m19 h19 => ?_)
  refine E_iret dX3_pass_22 rfl rfl (Nat.zero_le _) (Nat.zero_le _) ?_
  exact ⟨rfl, h19.1, xS86.tr (xS86.tr (xS86.put h.2.2.1 (by decide)) (xS86.put hA.2.1 (by decide))) h19.2⟩
/-! what there is -/
theorem k_climber (h : cAt mem C) (hc : (g_cl (k_gm C)).toInt ≤ 6) (x p : Int32) : Dt G kX3_climber [.ref 0, .int x, .int p] mem (some (.int (gPC (k_gm C) x p))) mem := by
  have a0 := h.1
  have g0 := h.2.1.1
  refine Ct_of (by decide) (Nat.le_of_ble_eq_true rfl) ?_
  refine E_aload_n dX3_climber_0 (by rfl) ?_
  refine gf_X3_10 dX3_climber_1 rfl (by assumption) (by rfl) ?_
  refine E_iload_n dX3_climber_4 (by rfl) ?_
  refine E_iload_n dX3_climber_5 (by rfl) ?_
  refine cs_X3_climber_6 (by assumption) (Nat.le_of_ble_eq_true rfl) (c_partOfClimber h.2.1 hc x p) ?_
  refine E_iret dX3_climber_9 rfl rfl (Nat.zero_le _) (Nat.zero_le _) ?_
  exact x_leaf rfl
theorem k_turn (h : cAt mem C) : Dt G kX3_turn [.ref 0] mem (some (.int (if g_isCl (k_gm C) (g_mv (k_gm C)) then g_mv (k_gm C) else -6))) mem := by
  have a0 := h.1
  have g0 := h.2.1.1
  refine Ct_of (by decide) (Nat.le_of_ble_eq_true rfl) ?_
  refine E_aload_n dX3_turn_0 (by rfl) ?_
  refine gf_X3_10 dX3_turn_1 rfl (by assumption) (by rfl) ?_
  refine cs_X3_turn_4 (by assumption) (Nat.le_of_ble_eq_true rfl) (c_hasMover h.2.1) ?_
  refine E_if_eq (tgt := 20) dX3_turn_7 (by decide) (fun q7 => ?_) (fun q7 => ?_)
  · rw [b2i_T0] at q7
    refine E_bipush (v := (-6)) dX3_turn_20 (by decide) ?_
    refine E_iret dX3_turn_22 rfl rfl (Nat.zero_le _) (Nat.zero_le _) ?_
    exact x_leaf (by rw [if_neg q7])
  · rw [b2i_T0] at q7; have q7 := Classical.not_not.mp q7
    refine E_aload_n dX3_turn_10 (by rfl) ?_
    refine gf_X3_10 dX3_turn_11 rfl (by assumption) (by rfl) ?_
    refine gf_X3_84 dX3_turn_14 rfl (by assumption) (by rfl) ?_
    refine E_goto (tgt := 22) dX3_turn_17 (by decide) ?_
    refine E_iret dX3_turn_22 rfl rfl (Nat.zero_le _) (Nat.zero_le _) ?_
    exact x_leaf (by rw [if_pos q7])
theorem k_on (h : cAt mem C) (hc : g_cl (k_gm C) = nI n) (hn : n ≤ 6) (x : Int32) : Dt G kX3_on [.ref 0, .int x] mem (some (.int (if g_below (k_gm C) x then sOn (g_pl (k_gm C)) x n else -1))) mem := by
  have a0 := h.1
  have g0 := h.2.1.1
  refine Ct_of (by decide) (Nat.le_of_ble_eq_true rfl) ?_
  refine E_aload_n dX3_on_0 (by rfl) ?_
  refine gf_X3_10 dX3_on_1 rfl (by assumption) (by rfl) ?_
  refine E_iload_n dX3_on_4 (by rfl) ?_
  refine cs_X3_on_5 (by assumption) (Nat.le_of_ble_eq_true rfl) (c_isBelowTop h.2.1 x) ?_
  refine E_if_eq (tgt := 22) dX3_on_8 (by decide) (fun q8 => ?_) (fun q8 => ?_)
  · rw [b2i_T0] at q8
    refine E_iconst (v := (-1)) dX3_on_22 (by decide) ?_
    refine E_iret dX3_on_23 rfl rfl (Nat.zero_le _) (Nat.zero_le _) ?_
    exact x_leaf (by rw [if_neg q8])
  · rw [b2i_T0] at q8; have q8 := Classical.not_not.mp q8
    refine E_aload_n dX3_on_11 (by rfl) ?_
    refine gf_X3_10 dX3_on_12 rfl (by assumption) (by rfl) ?_
    refine E_iload_n dX3_on_15 (by rfl) ?_
    refine cs_X3_on_16 (by assumption) (Nat.le_of_ble_eq_true rfl) (c_climbersOn h.2.1 hc hn x) ?_
    refine E_goto (tgt := 23) dX3_on_19 (by decide) ?_
    refine E_iret dX3_on_23 rfl rfl (Nat.zero_le _) (Nat.zero_le _) ?_
    exact x_leaf (by rw [if_pos q8])
theorem k_step (h : cAt mem C) (ht : g_top (k_gm C) = nI t) (ht60 : t ≤ 60) (x p : Int32) : Dt G kX3_step [.ref 0, .int x, .int p] mem (some (.int (gPS (k_gm C) t x p))) mem := by
  have a0 := h.1
  have g0 := h.2.1.1
  refine Ct_of (by decide) (Nat.le_of_ble_eq_true rfl) ?_
  refine E_aload_n dX3_step_0 (by rfl) ?_
  refine gf_X3_10 dX3_step_1 rfl (by assumption) (by rfl) ?_
  refine E_iload_n dX3_step_4 (by rfl) ?_
  refine E_iload_n dX3_step_5 (by rfl) ?_
  refine cs_X3_step_6 (by assumption) (Nat.le_of_ble_eq_true rfl) (c_partOfStep h.2.1 ht ht60 x p) ?_
  refine E_iret dX3_step_9 rfl rfl (Nat.zero_le _) (Nat.zero_le _) ?_
  exact x_leaf rfl
theorem k_total (h : cAt mem C) (ht : g_top (k_gm C) = nI t) (ht60 : t ≤ 60) (p : Int32) : Dt G kX3_total [.ref 0, .int p] mem (some (.int (gTo (k_gm C) t p))) mem := by
  have a0 := h.1
  have g0 := h.2.1.1
  refine Ct_of (by decide) (Nat.le_of_ble_eq_true rfl) ?_
  refine E_aload_n dX3_total_0 (by rfl) ?_
  refine gf_X3_10 dX3_total_1 rfl (by assumption) (by rfl) ?_
  refine E_iload_n dX3_total_4 (by rfl) ?_
  refine cs_X3_total_5 (by assumption) (Nat.le_of_ble_eq_true rfl) (c_totalOf h.2.1 ht ht60 p) ?_
  refine E_iret dX3_total_8 rfl rfl (Nat.zero_le _) (Nat.zero_le _) ?_
  exact x_leaf rfl
theorem k_rank (h : cAt mem C) (hc : g_cl (k_gm C) = nI n) (hn : n ≤ 6) (x : Int32) : Dt G kX3_rank [.ref 0, .int x] mem (some (.int (if x.toInt < 0 then -2 else sFst (fun c => (sCn (g_ahd (k_gm C) (nI c)) n).toInt = x.toInt) n 0))) mem := by
  have a0 := h.1
  have g0 := h.2.1.1
  refine Ct_of (by decide) (Nat.le_of_ble_eq_true rfl) ?_
  refine E_iload_n dX3_rank_0 (by rfl) ?_
  refine E_if_ge (tgt := 9) dX3_rank_1 (by decide) (fun q1 => ?_) (fun q1 => ?_)
  · refine E_aload_n dX3_rank_9 (by rfl) ?_
    refine gf_X3_10 dX3_rank_10 rfl (by assumption) (by rfl) ?_
    refine E_iload_n dX3_rank_13 (by rfl) ?_
    refine cs_X3_rank_14 (by assumption) (Nat.le_of_ble_eq_true rfl) (c_climberAtPlace h.2.1 hc hn x) ?_
    refine E_iret dX3_rank_17 rfl rfl (Nat.zero_le _) (Nat.zero_le _) ?_
    exact x_leaf (by rw [if_neg (by omega)])
  · refine E_bipush (v := (-2)) dX3_rank_4 (by decide) ?_
    refine E_goto (tgt := 17) dX3_rank_6 (by decide) ?_
    refine E_iret dX3_rank_17 rfl rfl (Nat.zero_le _) (Nat.zero_le _) ?_
    exact x_leaf (by rw [if_pos (by omega)])
theorem k_rollsToTop (h : cAt mem C) (ht : g_top (k_gm C) = nI t) (ht60 : t ≤ 60) (hc : (g_cl (k_gm C)).toInt ≤ 6) (x : Int32) : Dt G kX3_rollsToTop [.ref 0, .int x] mem (some (.int (if g_isCl (k_gm C) x then sFew (k_gm C) t t 1 (lB (g_pl (k_gm C) x.toNatClampNeg)) else -1))) mem := by
  have a0 := h.1
  have g0 := h.2.1.1
  refine Ct_of (by decide) (Nat.le_of_ble_eq_true rfl) ?_
  refine E_aload_n dX3_rollsToTop_0 (by rfl) ?_
  refine gf_X3_10 dX3_rollsToTop_1 rfl (by assumption) (by rfl) ?_
  refine E_iload_n dX3_rollsToTop_4 (by rfl) ?_
  refine cs_X3_rollsToTop_5 (by assumption) (Nat.le_of_ble_eq_true rfl) (c_isClimber h.2.1 x) ?_
  refine E_if_eq (tgt := 22) dX3_rollsToTop_8 (by decide) (fun q8 => ?_) (fun q8 => ?_)
  · rw [b2i_T0] at q8
    refine E_iconst (v := (-1)) dX3_rollsToTop_22 (by decide) ?_
    refine E_iret dX3_rollsToTop_23 rfl rfl (Nat.zero_le _) (Nat.zero_le _) ?_
    exact x_leaf (by rw [if_neg q8])
  · rw [b2i_T0] at q8; have q8 := Classical.not_not.mp q8
    refine E_aload_n dX3_rollsToTop_11 (by rfl) ?_
    refine gf_X3_10 dX3_rollsToTop_12 rfl (by assumption) (by rfl) ?_
    refine E_iload_n dX3_rollsToTop_15 (by rfl) ?_
    refine cs_X3_rollsToTop_16 (by assumption) (Nat.le_of_ble_eq_true rfl) (c_fewestRollsOf h.2.1 ht ht60 (by omega)) ?_
    refine E_goto (tgt := 23) dX3_rollsToTop_19 (by decide) ?_
    refine E_iret dX3_rollsToTop_23 rfl rfl (Nat.zero_le _) (Nat.zero_le _) ?_
    exact x_leaf (by rw [if_pos q8])
/-! predictions -/
theorem c_rollInTrial (h : cAt mem C) (X : gS) (hla : g_la01 (k_gm C)) (ht : (g_top (k_gm C)).toInt ≤ 60) (hc : g_cl (k_gm C) = nI n) (hn : n ≤ 6) (hm : g_isCl (k_gm C) (g_mv (k_gm C))) (u : Int32) (hu : 1 ≤ u.toInt ∧ u.toInt ≤ 6) : Dt G kX3_rollInTrial [.ref 0, .int u] (gPut mem 19 X) (some (.int (g_pl (gRoll (k_gm C) u n) (g_mv (k_gm C)).toNatClampNeg))) (gPut mem 19 (gRoll (k_gm C) u n)) := by
  have hX := cAt_tr h X
  have hY := cAt_tr h (k_gm C)
  have a0 := hX.1
  have g0 := hX.2.1.1
  have g1 := hX.2.2.2.1.1
  have b0 := hY.1
  have b1 := hY.2.2.2.1.1
  have z := c_copyFrom (G := G) (T := X) h.2.2.2.1 h.2.1 (by decide) hla
  refine Ct_of (by decide) (Nat.le_of_ble_eq_true rfl) ?_
  refine E_aload_n dX3_rollInTrial_0 (by rfl) ?_
  refine gf_X3_19 dX3_rollInTrial_1 rfl (by assumption) (by rfl) ?_
  refine E_aload_n dX3_rollInTrial_4 (by rfl) ?_
  refine gf_X3_10 dX3_rollInTrial_5 rfl (by assumption) (by rfl) ?_
  refine cs_X3_rollInTrial_8 (by assumption) (Nat.le_of_ble_eq_true rfl) z ?_
  refine E_aload_n dX3_rollInTrial_11 (by rfl) ?_
  refine gf_X3_19 dX3_rollInTrial_12 rfl (by assumption) (by rfl) ?_
  refine E_iload_n dX3_rollInTrial_15 (by rfl) ?_
  refine cs_X3_rollInTrial_16 (by assumption) (Nat.le_of_ble_eq_true rfl) (c_makeRoll_ok h.2.2.2.1 ht hc hn hm u hu) ?_
  refine E_iret dX3_rollInTrial_19 rfl rfl (Nat.zero_le _) (Nat.zero_le _) ?_
  exact ⟨rfl, rfl⟩
/-- how much more, the mover's growth less that of the others -/
def sGn (S R : gS) : Nat → Int32
  | 0 => 0
  | c + 1 => sGn S R c + (if (nI c).toInt = (g_mv S).toInt then gPr R (nI c) - gPr S (nI c) else -(gPr R (nI c) - gPr S (nI c)))
theorem gNext_fix (T : gS) : g_le (gNext T) = g_le T ∧ g_la (gNext T) = g_la T ∧ g_pl (gNext T) = g_pl T ∧ g_tp (gNext T) = g_tp T ∧ g_tl (gNext T) = g_tl T ∧ g_lm (gNext T) = g_lm T ∧ g_sl (gNext T) = g_sl T ∧ g_top (gNext T) = g_top T ∧ g_cl (gNext T) = g_cl T ∧ g_ro (gNext T) = g_ro T := by
  have key : ∀ (f : Nat) (T : gS) (x : Int32), g_le (gSkF f T x) = g_le T ∧ g_la (gSkF f T x) = g_la T ∧ g_pl (gSkF f T x) = g_pl T ∧ g_tp (gSkF f T x) = g_tp T ∧ g_tl (gSkF f T x) = g_tl T ∧ g_lm (gSkF f T x) = g_lm T ∧ g_sl (gSkF f T x) = g_sl T ∧ g_top (gSkF f T x) = g_top T ∧ g_cl (gSkF f T x) = g_cl T ∧ g_ro (gSkF f T x) = g_ro T := by
    intro f
    induction f with
    | zero => intro T x; exact ⟨rfl, rfl, rfl, rfl, rfl, rfl, rfl, rfl, rfl, rfl⟩
    | succ f ih =>
      intro T x
      rw [gSkF]
      by_cases h : 0 < (g_rs T x.toNatClampNeg).toInt
      · rw [if_pos h]; exact ih _ _
      · rw [if_neg h]; exact ⟨rfl, rfl, rfl, rfl, rfl, rfl, rfl, rfl, rfl, rfl⟩
  exact key 12 T _
theorem gRoll_fix (T : gS) (u : Int32) (n : Nat) : g_le (gRoll T u n) = g_le T ∧ g_la (gRoll T u n) = g_la T ∧ g_top (gRoll T u n) = g_top T ∧ g_cl (gRoll T u n) = g_cl T ∧ g_ro (gRoll T u n) = g_ro T + 1 := by
  obtain ⟨r1, r2, r3, r4⟩ := gRoll1_fix T u n
  obtain ⟨s1, s2, s3, s4, s5, s6, s7, s8, s9, s10⟩ := gNext_fix (gRoll2 T u n)
  exact ⟨s1.trans r1, s2.trans r2, s8.trans (congrArg (fun z => z.1) r4), s9.trans (congrArg (fun z => z.2.1) r4), s10.trans (congrArg (fun z => z.2.2.2.1) r4)⟩
theorem c_gainOfRoll (h : cAt mem C) (X : gS) (hla : g_la01 (k_gm C)) (ht : (g_top (k_gm C)).toInt ≤ 60) (hc : g_cl (k_gm C) = nI n) (hn : n ≤ 6) (hm : g_isCl (k_gm C) (g_mv (k_gm C))) (u : Int32) (hu : 1 ≤ u.toInt ∧ u.toInt ≤ 6) : Dt G kX3_gainOfRoll [.ref 0, .int u] (gPut mem 19 X) (some (.int (sGn (k_gm C) (gRoll (k_gm C) u n) n))) (gPut mem 19 (gRoll (k_gm C) u n)) := by
  have hX := cAt_tr h X
  have hY := cAt_tr h (gRoll (k_gm C) u n)
  have a0 := hX.1
  have b0 := hY.1
  have b1 := hY.2.2.2.1.1
  have b2 : (gPut mem 19 (gRoll (k_gm C) u n))[1]? = some (g_o 1 (k_gm C)) := hY.2.1.1
  have hc' : (g_cl (k_gm C)).toInt = (n : Int) := by rw [hc]; exact nI_toInt (by omega)
  have hcr : (g_cl (gRoll (k_gm C) u n)).toInt ≤ 6 := by rw [(gRoll_fix (k_gm C) u n).2.2.2.1]; omega
  refine Ct_of (by decide) (Nat.le_of_ble_eq_true rfl) ?_
  have loop : ∀ di i : Nat, n < i + di → i ≤ n → E G kX3_gainOfRoll (x_R (some (.int (sGn (k_gm C) (gRoll (k_gm C) u n) n))) (gPut mem 19 (gRoll (k_gm C) u n))) 0 0 ((gPut mem 19 (gRoll (k_gm C) u n))) 10 (x_L [(0, .ref 0), (2, .int (sGn (k_gm C) (gRoll (k_gm C) u n) i)), (3, .int (nI i))]) [] := by
    intro di
    induction di with
    | zero => intro i hi1 hi2; exact absurd hi1 (by omega)
    | succ di ihi =>
      intro i hi1 hi2
      have ei : (nI i).toInt = (i : Int) := nI_toInt (by omega)
      have eci : (nI i).toNatClampNeg = i := nI_clamp (by omega)
      refine E_iload_n dX3_gainOfRoll_10 (by rfl) ?_
      refine E_aload_n dX3_gainOfRoll_11 (by rfl) ?_
      refine gf_X3_10 dX3_gainOfRoll_12 rfl (by assumption) (by rfl) ?_
      refine gf_X3_150 dX3_gainOfRoll_15 rfl (by assumption) (by rfl) ?_
      refine E_icmp_ge (n := _) rfl (tgt := 68) dX3_gainOfRoll_18 (by decide) (fun q18 => ?_) (fun q18 => ?_)
      · refine E_iload_n dX3_gainOfRoll_68 (by rfl) ?_
        refine E_iret dX3_gainOfRoll_69 rfl rfl (Nat.zero_le _) (Nat.zero_le _) ?_
        exact ⟨by rw [show i = n by omega], rfl⟩
      · refine E_aload_n dX3_gainOfRoll_21 (by rfl) ?_
        refine gf_X3_19 dX3_gainOfRoll_22 rfl (by assumption) (by rfl) ?_
        refine E_iload_n dX3_gainOfRoll_25 (by rfl) ?_
        refine cs_X3_gainOfRoll_26 (by assumption) (Nat.le_of_ble_eq_true rfl) (c_progressOf hY.2.2.2.1 hcr _) ?_
        refine E_aload_n dX3_gainOfRoll_29 (by rfl) ?_
        refine gf_X3_10 dX3_gainOfRoll_30 rfl (by assumption) (by rfl) ?_
        refine E_iload_n dX3_gainOfRoll_33 (by rfl) ?_
        refine cs_X3_gainOfRoll_34 (by assumption) (Nat.le_of_ble_eq_true rfl) (c_progressOf (S := k_gm C) hY.2.1 (by omega) _) ?_
        refine E_isub dX3_gainOfRoll_37 ?_
        refine E_istore dX3_gainOfRoll_38 (Nat.le_of_ble_eq_true rfl) (by rfl) ?_
        refine E_iload_n dX3_gainOfRoll_40 (by rfl) ?_
        refine E_iload_n dX3_gainOfRoll_41 (by rfl) ?_
        refine E_aload_n dX3_gainOfRoll_42 (by rfl) ?_
        refine gf_X3_10 dX3_gainOfRoll_43 rfl (by assumption) (by rfl) ?_
        refine gf_X3_84 dX3_gainOfRoll_46 rfl (by assumption) (by rfl) ?_
        refine E_icmp_ne (n := _) rfl (tgt := 57) dX3_gainOfRoll_49 (by decide) (fun q49 => ?_) (fun q49 => ?_)
        · refine E_iload dX3_gainOfRoll_57 (by rfl) ?_
          refine E_ineg dX3_gainOfRoll_59 ?_
          refine E_iadd dX3_gainOfRoll_60 ?_
          refine E_istore_n dX3_gainOfRoll_61 (Nat.le_of_ble_eq_true rfl) (by rfl) ?_
          refine E_iinc (d := 1) dX3_gainOfRoll_62 (by rfl) (by decide) (Nat.le_of_ble_eq_true rfl) (by rfl) ?_
          refine E_goto (tgt := 10) dX3_gainOfRoll_65 (by decide) ?_
          exact E_loc [(0, .ref 0), (2, .int (sGn (k_gm C) (gRoll (k_gm C) u n) (i + 1))), (3, .int (nI (i + 1)))] ⟨rfl, x_i (by simp only [sGn]; first | rw [if_pos q49] | rw [if_neg q49]), x_i (by first | exact nI_1 _ | decide), trivial⟩ (ihi (i + 1) (by omega) (by omega))
        · refine E_iload dX3_gainOfRoll_52 (by rfl) ?_
          refine E_goto (tgt := 60) dX3_gainOfRoll_54 (by decide) ?_
          refine E_iadd dX3_gainOfRoll_60 ?_
          refine E_istore_n dX3_gainOfRoll_61 (Nat.le_of_ble_eq_true rfl) (by rfl) ?_
          refine E_iinc (d := 1) dX3_gainOfRoll_62 (by rfl) (by decide) (Nat.le_of_ble_eq_true rfl) (by rfl) ?_
          refine E_goto (tgt := 10) dX3_gainOfRoll_65 (by decide) ?_
          exact E_loc [(0, .ref 0), (2, .int (sGn (k_gm C) (gRoll (k_gm C) u n) (i + 1))), (3, .int (nI (i + 1)))] ⟨rfl, x_i (by simp only [sGn]; first | rw [if_pos q49] | rw [if_neg q49]), x_i (by first | exact nI_1 _ | decide), trivial⟩ (ihi (i + 1) (by omega) (by omega))
  refine E_aload_n dX3_gainOfRoll_0 (by rfl) ?_
  refine E_iload_n dX3_gainOfRoll_1 (by rfl) ?_
  refine cs_X3_gainOfRoll_2 (by assumption) (Nat.le_of_ble_eq_true rfl) (c_rollInTrial h X hla ht hc hn hm u hu) ?_
  refine E_pop dX3_gainOfRoll_5 rfl ?_
  refine E_iconst (v := 0) dX3_gainOfRoll_6 (by decide) ?_
  refine E_istore_n dX3_gainOfRoll_7 (Nat.le_of_ble_eq_true rfl) (by rfl) ?_
  refine E_iconst (v := 0) dX3_gainOfRoll_8 (by decide) ?_
  refine E_istore_n dX3_gainOfRoll_9 (Nat.le_of_ble_eq_true rfl) (by rfl) ?_
  exact E_loc [(0, .ref 0), (2, .int (sGn (k_gm C) (gRoll (k_gm C) u n) 0)), (3, .int (nI 0))] ⟨rfl, x_i (by rfl), x_i (by first | rfl | decide), trivial⟩ (loop (n + 1) 0 (by omega) (by omega))
def gIf (S : gS) (n : Nat) (u p : Int32) : Int32 :=
  if p = 0 then g_pl (gRoll S u n) (g_mv S).toNatClampNeg else if p = 1 then sSm (g_tl (gRoll S u n)) 6 - sSm (g_tl S) 6 else if p = 2 then sSm (g_tp (gRoll S u n)) 6 - sSm (g_tp S) 6 else if p = 3 then sSm (g_sl (gRoll S u n)) 6 - sSm (g_sl S) 6 else g_mv (gRoll S u n)
theorem k_ifRolled_no1 (u p : Int32) (hu : ¬ ((1 ≤ u.toInt ∧ u.toInt ≤ 6) ∧ 0 ≤ p.toInt ∧ p.toInt ≤ 4)) : Dt G kX3_ifRolled [.ref 0, .int u, .int p] mem (some (.int (-2))) mem := by
  refine Ct_of (by decide) (Nat.le_of_ble_eq_true rfl) ?_
  refine E_iload_n dX3_ifRolled_0 (by rfl) ?_
  refine cs_X3_ifRolled_1 (Nat.le_of_ble_eq_true rfl) (c_isRoll u) ?_
  refine E_if_eq (tgt := 16) dX3_ifRolled_4 (by decide) (fun q4 => ?_) (fun q4 => ?_)
  · rw [b2i_T0] at q4
    refine E_bipush (v := (-2)) dX3_ifRolled_16 (by decide) ?_
    refine E_iret dX3_ifRolled_18 rfl rfl (Nat.zero_le _) (Nat.zero_le _) ?_
    exact x_leaf rfl
  · rw [b2i_T0] at q4; have q4 := Classical.not_not.mp q4
    refine E_iload_n dX3_ifRolled_7 (by rfl) ?_
    refine E_if_lt (tgt := 16) dX3_ifRolled_8 (by decide) (fun q8 => ?_) (fun q8 => ?_)
    · refine E_bipush (v := (-2)) dX3_ifRolled_16 (by decide) ?_
      refine E_iret dX3_ifRolled_18 rfl rfl (Nat.zero_le _) (Nat.zero_le _) ?_
      exact x_leaf rfl
    · refine E_iload_n dX3_ifRolled_11 (by rfl) ?_
      refine E_iconst (v := 4) dX3_ifRolled_12 (by decide) ?_
      refine E_icmp_le (n := 4) (by decide) (tgt := 19) dX3_ifRolled_13 (by decide) (fun q13 => ?_) (fun q13 => ?_)
      · exact absurd ⟨q4, by omega, by omega⟩ hu
      · refine E_bipush (v := (-2)) dX3_ifRolled_16 (by decide) ?_
        refine E_iret dX3_ifRolled_18 rfl rfl (Nat.zero_le _) (Nat.zero_le _) ?_
        exact x_leaf rfl
theorem k_ifRolled_no2 (h : cAt mem C) (u p : Int32) (hu : (1 ≤ u.toInt ∧ u.toInt ≤ 6) ∧ 0 ≤ p.toInt ∧ p.toInt ≤ 4) (hm : ¬ g_isCl (k_gm C) (g_mv (k_gm C))) : Dt G kX3_ifRolled [.ref 0, .int u, .int p] mem (some (.int (-3))) mem := by
  have a0 := h.1
  have g0 := h.2.1.1
  refine Ct_of (by decide) (Nat.le_of_ble_eq_true rfl) ?_
  refine E_iload_n dX3_ifRolled_0 (by rfl) ?_
  refine cs_X3_ifRolled_1 (Nat.le_of_ble_eq_true rfl) (c_isRoll u) ?_
  refine E_if_eq (tgt := 16) dX3_ifRolled_4 (by decide) (fun q4 => ?_) (fun q4 => ?_)
  · rw [b2i_T0] at q4; exact absurd hu.1 q4
  · refine E_iload_n dX3_ifRolled_7 (by rfl) ?_
    refine E_if_lt (tgt := 16) dX3_ifRolled_8 (by decide) (fun q8 => ?_) (fun q8 => ?_)
    · exact absurd hu (by omega)
    · refine E_iload_n dX3_ifRolled_11 (by rfl) ?_
      refine E_iconst (v := 4) dX3_ifRolled_12 (by decide) ?_
      refine E_icmp_le (n := 4) (by decide) (tgt := 19) dX3_ifRolled_13 (by decide) (fun q13 => ?_) (fun q13 => ?_)
      · refine E_aload_n dX3_ifRolled_19 (by rfl) ?_
        refine gf_X3_10 dX3_ifRolled_20 rfl (by assumption) (by rfl) ?_
        refine cs_X3_ifRolled_23 (by assumption) (Nat.le_of_ble_eq_true rfl) (c_hasMover h.2.1) ?_
        refine E_if_ne (tgt := 32) dX3_ifRolled_26 (by decide) (fun q26 => ?_) (fun q26 => ?_)
        · rw [b2i_T0] at q26; exact absurd hm q26
        · refine E_bipush (v := (-3)) dX3_ifRolled_29 (by decide) ?_
          refine E_iret dX3_ifRolled_31 rfl rfl (Nat.zero_le _) (Nat.zero_le _) ?_
          exact x_leaf rfl
      · exact absurd hu (by omega)
theorem k_ifRolled_ok (h : cAt mem C) (hla : g_la01 (k_gm C)) (ht : (g_top (k_gm C)).toInt ≤ 60) (hc : g_cl (k_gm C) = nI n) (hn : n ≤ 6) (hm : g_isCl (k_gm C) (g_mv (k_gm C))) (u p : Int32) (hu : (1 ≤ u.toInt ∧ u.toInt ≤ 6) ∧ 0 ≤ p.toInt ∧ p.toInt ≤ 4) : Dt G kX3_ifRolled [.ref 0, .int u, .int p] mem (some (.int (gIf (k_gm C) n u p))) (gPut mem 19 (gRoll (k_gm C) u n)) := by
  have a0 := h.1
  have g0 := h.2.1.1
  have hY := cAt_tr h (gRoll (k_gm C) u n)
  have b0 := hY.1
  have b1 := hY.2.2.2.1.1
  have b2 := hY.2.1.1
  have z := c_rollInTrial (G := G) h (k_tr C) hla ht hc hn hm u hu.1
  rw [gPut_self h.2.2.2.1] at z
  refine Ct_of (by decide) (Nat.le_of_ble_eq_true rfl) ?_
  unfold gIf
  refine E_iload_n dX3_ifRolled_0 (by rfl) ?_
  refine cs_X3_ifRolled_1 (Nat.le_of_ble_eq_true rfl) (c_isRoll u) ?_
  refine E_if_eq (tgt := 16) dX3_ifRolled_4 (by decide) (fun q4 => ?_) (fun q4 => ?_)
  · rw [b2i_T0] at q4; exact absurd hu.1 q4
  · refine E_iload_n dX3_ifRolled_7 (by rfl) ?_
    refine E_if_lt (tgt := 16) dX3_ifRolled_8 (by decide) (fun q8 => ?_) (fun q8 => ?_)
    · exact absurd hu (by omega)
    · refine E_iload_n dX3_ifRolled_11 (by rfl) ?_
      refine E_iconst (v := 4) dX3_ifRolled_12 (by decide) ?_
      refine E_icmp_le (n := 4) (by decide) (tgt := 19) dX3_ifRolled_13 (by decide) (fun q13 => ?_) (fun q13 => ?_)
      · refine E_aload_n dX3_ifRolled_19 (by rfl) ?_
        refine gf_X3_10 dX3_ifRolled_20 rfl (by assumption) (by rfl) ?_
        refine cs_X3_ifRolled_23 (by assumption) (Nat.le_of_ble_eq_true rfl) (c_hasMover h.2.1) ?_
        refine E_if_ne (tgt := 32) dX3_ifRolled_26 (by decide) (fun q26 => ?_) (fun q26 => ?_)
        · refine E_aload_n dX3_ifRolled_32 (by rfl) ?_
          refine E_iload_n dX3_ifRolled_33 (by rfl) ?_
          refine cs_X3_ifRolled_34 (by assumption) (Nat.le_of_ble_eq_true rfl) z ?_
          refine E_istore_n dX3_ifRolled_37 (Nat.le_of_ble_eq_true rfl) (by rfl) ?_
          refine E_iload_n dX3_ifRolled_38 (by rfl) ?_
          by_cases c39_0 : p = 0
          · rw [c39_0]
            refine E_tableIn (off := 29) (tgt := 68) dX3_ifRolled_39 (by decide) (by decide) (by decide) (by decide) ?_
            refine E_iload_n dX3_ifRolled_68 (by rfl) ?_
            refine E_iret dX3_ifRolled_69 rfl rfl (Nat.zero_le _) (Nat.zero_le _) ?_
            exact ⟨by rw [if_pos rfl], rfl⟩
          by_cases c39_1 : p = 1
          · rw [c39_1]
            refine E_tableIn (off := 31) (tgt := 70) dX3_ifRolled_39 (by decide) (by decide) (by decide) (by decide) ?_
            refine E_aload_n dX3_ifRolled_70 (by rfl) ?_
            refine gf_X3_19 dX3_ifRolled_71 rfl (by assumption) (by rfl) ?_
            refine cs_X3_ifRolled_74 (by assumption) (Nat.le_of_ble_eq_true rfl) (c_liftsOfAll hY.2.2.2.1) ?_
            refine E_aload_n dX3_ifRolled_77 (by rfl) ?_
            refine gf_X3_10 dX3_ifRolled_78 rfl (by assumption) (by rfl) ?_
            refine cs_X3_ifRolled_81 (by assumption) (Nat.le_of_ble_eq_true rfl) (c_liftsOfAll hY.2.1) ?_
            refine E_isub dX3_ifRolled_84 ?_
            refine E_iret dX3_ifRolled_85 rfl rfl (Nat.zero_le _) (Nat.zero_le _) ?_
            exact ⟨by rw [if_neg (by decide), if_pos rfl], rfl⟩
          by_cases c39_2 : p = 2
          · rw [c39_2]
            refine E_tableIn (off := 47) (tgt := 86) dX3_ifRolled_39 (by decide) (by decide) (by decide) (by decide) ?_
            refine E_aload_n dX3_ifRolled_86 (by rfl) ?_
            refine gf_X3_19 dX3_ifRolled_87 rfl (by assumption) (by rfl) ?_
            refine cs_X3_ifRolled_90 (by assumption) (Nat.le_of_ble_eq_true rfl) (c_topsOfAll hY.2.2.2.1) ?_
            refine E_aload_n dX3_ifRolled_93 (by rfl) ?_
            refine gf_X3_10 dX3_ifRolled_94 rfl (by assumption) (by rfl) ?_
            refine cs_X3_ifRolled_97 (by assumption) (Nat.le_of_ble_eq_true rfl) (c_topsOfAll hY.2.1) ?_
            refine E_isub dX3_ifRolled_100 ?_
            refine E_iret dX3_ifRolled_101 rfl rfl (Nat.zero_le _) (Nat.zero_le _) ?_
            exact ⟨by rw [if_neg (by decide), if_neg (by decide), if_pos rfl], rfl⟩
          by_cases c39_3 : p = 3
          · rw [c39_3]
            refine E_tableIn (off := 63) (tgt := 102) dX3_ifRolled_39 (by decide) (by decide) (by decide) (by decide) ?_
            refine E_aload_n dX3_ifRolled_102 (by rfl) ?_
            refine gf_X3_19 dX3_ifRolled_103 rfl (by assumption) (by rfl) ?_
            refine cs_X3_ifRolled_106 (by assumption) (Nat.le_of_ble_eq_true rfl) (c_slipsOfAll hY.2.2.2.1) ?_
            refine E_aload_n dX3_ifRolled_109 (by rfl) ?_
            refine gf_X3_10 dX3_ifRolled_110 rfl (by assumption) (by rfl) ?_
            refine cs_X3_ifRolled_113 (by assumption) (Nat.le_of_ble_eq_true rfl) (c_slipsOfAll hY.2.1) ?_
            refine E_isub dX3_ifRolled_116 ?_
            refine E_iret dX3_ifRolled_117 rfl rfl (Nat.zero_le _) (Nat.zero_le _) ?_
            exact ⟨by rw [if_neg (by decide), if_neg (by decide), if_neg (by decide), if_pos rfl], rfl⟩
          have n39_0 : (p).toInt ≠ 0 := fun e => c39_0 (Int32.toInt_inj.mp (e.trans (by decide)))
          have n39_1 : (p).toInt ≠ 1 := fun e => c39_1 (Int32.toInt_inj.mp (e.trans (by decide)))
          have n39_2 : (p).toInt ≠ 2 := fun e => c39_2 (Int32.toInt_inj.mp (e.trans (by decide)))
          have n39_3 : (p).toInt ≠ 3 := fun e => c39_3 (Int32.toInt_inj.mp (e.trans (by decide)))
          refine E_tableOut (tgt := 118) dX3_ifRolled_39 (by omega) (by decide) ?_
          refine E_aload_n dX3_ifRolled_118 (by rfl) ?_
          refine gf_X3_19 dX3_ifRolled_119 rfl (by assumption) (by rfl) ?_
          refine gf_X3_84 dX3_ifRolled_122 rfl (by assumption) (by rfl) ?_
          refine E_iret dX3_ifRolled_125 rfl rfl (Nat.zero_le _) (Nat.zero_le _) ?_
          exact ⟨by rw [if_neg c39_0, if_neg c39_1, if_neg c39_2, if_neg c39_3], rfl⟩
        · rw [b2i_T0] at q26; exact absurd hm q26
      · exact absurd hu (by omega)
/-- the best of the first k + 1 rolls, and its gain -/
def sBe (a : Nat → Int32) : Nat → Int32 × Int32
  | 0 => (1, a 1)
  | k + 1 => if (sBe a k).2.toInt < (a (k + 2)).toInt then (nI (k + 2), a (k + 2)) else sBe a k
theorem k_bestRoll_no (h : cAt mem C) (hm : ¬ g_isCl (k_gm C) (g_mv (k_gm C))) : Dt G kX3_bestRoll [.ref 0] mem (some (.int (-6))) mem := by
  have a0 := h.1
  have g0 := h.2.1.1
  refine Ct_of (by decide) (Nat.le_of_ble_eq_true rfl) ?_
  refine E_aload_n dX3_bestRoll_0 (by rfl) ?_
  refine gf_X3_10 dX3_bestRoll_1 rfl (by assumption) (by rfl) ?_
  refine cs_X3_bestRoll_4 (by assumption) (Nat.le_of_ble_eq_true rfl) (c_hasMover h.2.1) ?_
  refine E_if_ne (tgt := 13) dX3_bestRoll_7 (by decide) (fun q7 => ?_) (fun q7 => ?_)
  · rw [b2i_T0] at q7; exact absurd hm q7
  · refine E_bipush (v := (-6)) dX3_bestRoll_10 (by decide) ?_
    refine E_iret dX3_bestRoll_12 rfl rfl (Nat.zero_le _) (Nat.zero_le _) ?_
    exact x_leaf rfl
theorem k_bestRoll_ok (h : cAt mem C) (hla : g_la01 (k_gm C)) (ht : (g_top (k_gm C)).toInt ≤ 60) (hc : g_cl (k_gm C) = nI n) (hn : n ≤ 6) (hm : g_isCl (k_gm C) (g_mv (k_gm C))) : Dt G kX3_bestRoll [.ref 0] mem (some (.int (sBe (fun k => sGn (k_gm C) (gRoll (k_gm C) (nI k) n) n) 5).1)) (gPut mem 19 (gRoll (k_gm C) (nI 6) n)) := by
  have a0 := h.1
  have g0 := h.2.1.1
  have z := c_gainOfRoll (G := G) h (k_tr C) hla ht hc hn hm 1 (by decide)
  rw [gPut_self h.2.2.2.1] at z
  refine Ct_of (by decide) (Nat.le_of_ble_eq_true rfl) ?_
  have loop : ∀ di i : Nat, 7 < i + di → i ≤ 7 → (2 ≤ i) → E G kX3_bestRoll (x_R (some (.int (sBe (fun k => sGn (k_gm C) (gRoll (k_gm C) (nI k) n) n) 5).1)) (gPut mem 19 (gRoll (k_gm C) (nI 6) n))) 0 0 ((gPut mem 19 (gRoll (k_gm C) (nI (i - 1)) n))) 23 (x_L [(0, .ref 0), (1, .int (sBe (fun k => sGn (k_gm C) (gRoll (k_gm C) (nI k) n) n) (i - 2)).1), (2, .int (sBe (fun k => sGn (k_gm C) (gRoll (k_gm C) (nI k) n) n) (i - 2)).2), (3, .int (nI i))]) [] := by
    intro di
    induction di with
    | zero => intro i hi1 hi2 _; exact absurd hi1 (by omega)
    | succ di ihi =>
      intro i hi1 hi2 hinv
      have ei : (nI i).toInt = (i : Int) := nI_toInt (by omega)
      have eci : (nI i).toNatClampNeg = i := nI_clamp (by omega)
      have b0 := (cAt_tr h (gRoll (k_gm C) (nI (i - 1)) n)).1
      refine E_iload_n dX3_bestRoll_23 (by rfl) ?_
      refine E_bipush (v := 6) dX3_bestRoll_24 (by decide) ?_
      refine E_icmp_gt (n := 6) (by decide) (tgt := 53) dX3_bestRoll_26 (by decide) (fun q26 => ?_) (fun q26 => ?_)
      · refine E_iload_n dX3_bestRoll_53 (by rfl) ?_
        refine E_iret dX3_bestRoll_54 rfl rfl (Nat.zero_le _) (Nat.zero_le _) ?_
        exact ⟨by rw [show i - 2 = 5 by omega], by rw [show i - 1 = 6 by omega]⟩
      · refine E_aload_n dX3_bestRoll_29 (by rfl) ?_
        refine E_iload_n dX3_bestRoll_30 (by rfl) ?_
        refine cs_X3_bestRoll_31 (by assumption) (Nat.le_of_ble_eq_true rfl) (c_gainOfRoll h _ hla ht hc hn hm (nI i) (by omega)) ?_
        refine E_istore dX3_bestRoll_34 (Nat.le_of_ble_eq_true rfl) (by rfl) ?_
        refine E_iload dX3_bestRoll_36 (by rfl) ?_
        refine E_iload_n dX3_bestRoll_38 (by rfl) ?_
        refine E_icmp_le (n := _) rfl (tgt := 47) dX3_bestRoll_39 (by decide) (fun q39 => ?_) (fun q39 => ?_)
        · refine E_iinc (d := 1) dX3_bestRoll_47 (by rfl) (by decide) (Nat.le_of_ble_eq_true rfl) (by rfl) ?_
          refine E_goto (tgt := 23) dX3_bestRoll_50 (by decide) ?_
          refine E_mem (mem' := gPut mem 19 (gRoll (k_gm C) (nI (i + 1 - 1)) n)) rfl ?_
          exact E_loc [(0, .ref 0), (1, .int (sBe (fun k => sGn (k_gm C) (gRoll (k_gm C) (nI k) n) n) ((i + 1) - 2)).1), (2, .int (sBe (fun k => sGn (k_gm C) (gRoll (k_gm C) (nI k) n) n) ((i + 1) - 2)).2), (3, .int (nI (i + 1)))] ⟨rfl, x_i (by rw [show i + 1 - 2 = (i - 2) + 1 by omega, sBe, show i - 2 + 2 = i by omega]; first | rw [if_neg (show ¬ _ from fun z => absurd z (by omega))] | rw [if_pos (by omega)]), x_i (by rw [show i + 1 - 2 = (i - 2) + 1 by omega, sBe, show i - 2 + 2 = i by omega]; first | rw [if_neg (show ¬ _ from fun z => absurd z (by omega))] | rw [if_pos (by omega)]), x_i (by first | exact nI_1 _ | decide), trivial⟩ (ihi (i + 1) (by omega) (by omega) (by omega))
        · refine E_iload_n dX3_bestRoll_42 (by rfl) ?_
          refine E_istore_n dX3_bestRoll_43 (Nat.le_of_ble_eq_true rfl) (by rfl) ?_
          refine E_iload dX3_bestRoll_44 (by rfl) ?_
          refine E_istore_n dX3_bestRoll_46 (Nat.le_of_ble_eq_true rfl) (by rfl) ?_
          refine E_iinc (d := 1) dX3_bestRoll_47 (by rfl) (by decide) (Nat.le_of_ble_eq_true rfl) (by rfl) ?_
          refine E_goto (tgt := 23) dX3_bestRoll_50 (by decide) ?_
          refine E_mem (mem' := gPut mem 19 (gRoll (k_gm C) (nI (i + 1 - 1)) n)) rfl ?_
          exact E_loc [(0, .ref 0), (1, .int (sBe (fun k => sGn (k_gm C) (gRoll (k_gm C) (nI k) n) n) ((i + 1) - 2)).1), (2, .int (sBe (fun k => sGn (k_gm C) (gRoll (k_gm C) (nI k) n) n) ((i + 1) - 2)).2), (3, .int (nI (i + 1)))] ⟨rfl, x_i (by rw [show i + 1 - 2 = (i - 2) + 1 by omega, sBe, show i - 2 + 2 = i by omega]; first | rw [if_neg (show ¬ _ from fun z => absurd z (by omega))] | rw [if_pos (by omega)]), x_i (by rw [show i + 1 - 2 = (i - 2) + 1 by omega, sBe, show i - 2 + 2 = i by omega]; first | rw [if_neg (show ¬ _ from fun z => absurd z (by omega))] | rw [if_pos (by omega)]), x_i (by first | exact nI_1 _ | decide), trivial⟩ (ihi (i + 1) (by omega) (by omega) (by omega))
  refine E_aload_n dX3_bestRoll_0 (by rfl) ?_
  refine gf_X3_10 dX3_bestRoll_1 rfl (by assumption) (by rfl) ?_
  refine cs_X3_bestRoll_4 (by assumption) (Nat.le_of_ble_eq_true rfl) (c_hasMover h.2.1) ?_
  refine E_if_ne (tgt := 13) dX3_bestRoll_7 (by decide) (fun q7 => ?_) (fun q7 => ?_)
  · refine E_iconst (v := 1) dX3_bestRoll_13 (by decide) ?_
    refine E_istore_n dX3_bestRoll_14 (Nat.le_of_ble_eq_true rfl) (by rfl) ?_
    refine E_aload_n dX3_bestRoll_15 (by rfl) ?_
    refine E_iconst (v := 1) dX3_bestRoll_16 (by decide) ?_
    refine cs_X3_bestRoll_17 (by assumption) (Nat.le_of_ble_eq_true rfl) z ?_
    refine E_istore_n dX3_bestRoll_20 (Nat.le_of_ble_eq_true rfl) (by rfl) ?_
    refine E_iconst (v := 2) dX3_bestRoll_21 (by decide) ?_
    refine E_istore_n dX3_bestRoll_22 (Nat.le_of_ble_eq_true rfl) (by rfl) ?_
    exact E_loc [(0, .ref 0), (1, .int (sBe (fun k => sGn (k_gm C) (gRoll (k_gm C) (nI k) n) n) (2 - 2)).1), (2, .int (sBe (fun k => sGn (k_gm C) (gRoll (k_gm C) (nI k) n) n) (2 - 2)).2), (3, .int (nI 2))] ⟨rfl, x_i (by rfl), x_i (by rfl), x_i (by decide), trivial⟩ (loop (7 + 1) 2 (by omega) (by omega) (Nat.le_refl _))
  · rw [b2i_T0] at q7; exact absurd hm q7
/-- the bits of the rolls 1 .. k that lift nobody -/
def sQu (p : Nat → Prop) [DecidablePred p] : Nat → Int32
  | 0 => 0
  | k + 1 => if p (k + 1) then sQu p k ||| (1 <<< (nI (k + 1) &&& 31)) else sQu p k
abbrev g_qt (S : gS) (n k : Nat) : Prop := sNo (fun c => g_psd S c (nI k)) n = true
theorem k_quietRolls_no (h : cAt mem C) (hm : ¬ g_isCl (k_gm C) (g_mv (k_gm C))) : Dt G kX3_quietRolls [.ref 0] mem (some (.int (-6))) mem := by
  have a0 := h.1
  have g0 := h.2.1.1
  refine Ct_of (by decide) (Nat.le_of_ble_eq_true rfl) ?_
  refine E_aload_n dX3_quietRolls_0 (by rfl) ?_
  refine gf_X3_10 dX3_quietRolls_1 rfl (by assumption) (by rfl) ?_
  refine cs_X3_quietRolls_4 (by assumption) (Nat.le_of_ble_eq_true rfl) (c_hasMover h.2.1) ?_
  refine E_if_ne (tgt := 13) dX3_quietRolls_7 (by decide) (fun q7 => ?_) (fun q7 => ?_)
  · rw [b2i_T0] at q7; exact absurd hm q7
  · refine E_bipush (v := (-6)) dX3_quietRolls_10 (by decide) ?_
    refine E_iret dX3_quietRolls_12 rfl rfl (Nat.zero_le _) (Nat.zero_le _) ?_
    exact x_leaf rfl
theorem k_quietRolls_ok (h : cAt mem C) (ht : (g_top (k_gm C)).toInt ≤ 60) (hc : g_cl (k_gm C) = nI n) (hn : n ≤ 6) (hm : g_isCl (k_gm C) (g_mv (k_gm C))) : Dt G kX3_quietRolls [.ref 0] mem (some (.int (sQu (g_qt (k_gm C) n) 6))) mem := by
  have a0 := h.1
  have g0 := h.2.1.1
  have hc' : (g_cl (k_gm C)).toInt = (n : Int) := by rw [hc]; exact nI_toInt (by omega)
  have hm6 : 0 ≤ (g_mv (k_gm C)).toInt ∧ (g_mv (k_gm C)).toInt < 6 := by omega
  refine Ct_of (by decide) (Nat.le_of_ble_eq_true rfl) ?_
  have loop : ∀ di i : Nat, 7 < i + di → i ≤ 7 → (1 ≤ i) → E G kX3_quietRolls (x_R (some (.int (sQu (g_qt (k_gm C) n) 6))) mem) 0 0 (mem) 17 (x_L [(0, .ref 0), (1, .int (sQu (g_qt (k_gm C) n) (i - 1))), (2, .int (nI i))]) [] := by
    intro di
    induction di with
    | zero => intro i hi1 hi2 _; exact absurd hi1 (by omega)
    | succ di ihi =>
      intro i hi1 hi2 hinv
      have ei : (nI i).toInt = (i : Int) := nI_toInt (by omega)
      have eci : (nI i).toNatClampNeg = i := nI_clamp (by omega)
      refine E_iload_n dX3_quietRolls_17 (by rfl) ?_
      refine E_bipush (v := 6) dX3_quietRolls_18 (by decide) ?_
      refine E_icmp_gt (n := 6) (by decide) (tgt := 46) dX3_quietRolls_20 (by decide) (fun q20 => ?_) (fun q20 => ?_)
      · refine E_iload_n dX3_quietRolls_46 (by rfl) ?_
        refine E_iret dX3_quietRolls_47 rfl rfl (Nat.zero_le _) (Nat.zero_le _) ?_
        exact ⟨by rw [show i - 1 = 6 by omega], rfl⟩
      · refine E_aload_n dX3_quietRolls_23 (by rfl) ?_
        refine gf_X3_10 dX3_quietRolls_24 rfl (by assumption) (by rfl) ?_
        refine E_iload_n dX3_quietRolls_27 (by rfl) ?_
        refine cs_X3_quietRolls_28 (by assumption) (Nat.le_of_ble_eq_true rfl) (c_wouldLift h.2.1 ht hc hn hm6 (nI i)) ?_
        refine E_if_ne (tgt := 40) dX3_quietRolls_31 (by decide) (fun q31 => ?_) (fun q31 => ?_)
        · rw [b2i_T0] at q31; have q31 : ¬ g_qt (k_gm C) n i := fun z => q31 (fun w => Bool.false_ne_true (w.symm.trans z))
          refine E_iinc (d := 1) dX3_quietRolls_40 (by rfl) (by decide) (Nat.le_of_ble_eq_true rfl) (by rfl) ?_
          refine E_goto (tgt := 17) dX3_quietRolls_43 (by decide) ?_
          exact E_loc [(0, .ref 0), (1, .int (sQu (g_qt (k_gm C) n) ((i + 1) - 1))), (2, .int (nI (i + 1)))] ⟨rfl, x_i (by rw [show i + 1 - 1 = (i - 1) + 1 by omega, sQu, show i - 1 + 1 = i by omega]; first | rw [if_pos q31] | rw [if_neg q31]), x_i (by first | exact nI_1 _ | decide), trivial⟩ (ihi (i + 1) (by omega) (by omega) (by omega))
        · rw [b2i_T0] at q31; have q31 : g_qt (k_gm C) n i := by unfold g_qt; cases hz : sNo (fun c => g_psd (k_gm C) c (nI i)) n; exact absurd hz q31; rfl
          refine E_iload_n dX3_quietRolls_34 (by rfl) ?_
          refine E_iconst (v := 1) dX3_quietRolls_35 (by decide) ?_
          refine E_iload_n dX3_quietRolls_36 (by rfl) ?_
          refine E_ishl dX3_quietRolls_37 ?_
          refine E_ior dX3_quietRolls_38 ?_
          refine E_istore_n dX3_quietRolls_39 (Nat.le_of_ble_eq_true rfl) (by rfl) ?_
          refine E_iinc (d := 1) dX3_quietRolls_40 (by rfl) (by decide) (Nat.le_of_ble_eq_true rfl) (by rfl) ?_
          refine E_goto (tgt := 17) dX3_quietRolls_43 (by decide) ?_
          exact E_loc [(0, .ref 0), (1, .int (sQu (g_qt (k_gm C) n) ((i + 1) - 1))), (2, .int (nI (i + 1)))] ⟨rfl, x_i (by rw [show i + 1 - 1 = (i - 1) + 1 by omega, sQu, show i - 1 + 1 = i by omega]; first | rw [if_pos q31] | rw [if_neg q31]), x_i (by first | exact nI_1 _ | decide), trivial⟩ (ihi (i + 1) (by omega) (by omega) (by omega))
  refine E_aload_n dX3_quietRolls_0 (by rfl) ?_
  refine gf_X3_10 dX3_quietRolls_1 rfl (by assumption) (by rfl) ?_
  refine cs_X3_quietRolls_4 (by assumption) (Nat.le_of_ble_eq_true rfl) (c_hasMover h.2.1) ?_
  refine E_if_ne (tgt := 13) dX3_quietRolls_7 (by decide) (fun q7 => ?_) (fun q7 => ?_)
  · refine E_iconst (v := 0) dX3_quietRolls_13 (by decide) ?_
    refine E_istore_n dX3_quietRolls_14 (Nat.le_of_ble_eq_true rfl) (by rfl) ?_
    refine E_iconst (v := 1) dX3_quietRolls_15 (by decide) ?_
    refine E_istore_n dX3_quietRolls_16 (Nat.le_of_ble_eq_true rfl) (by rfl) ?_
    exact E_loc [(0, .ref 0), (1, .int (sQu (g_qt (k_gm C) n) (1 - 1))), (2, .int (nI 1))] ⟨rfl, x_i (by rfl), x_i (by decide), trivial⟩ (loop (7 + 1) 1 (by omega) (by omega) (Nat.le_refl _))
  · rw [b2i_T0] at q7; exact absurd hm q7
/-! texts; undo; what is saved -/
end K2
end
section
/-! the making of the objects -/
section M1
variable {G : xG} {k : xI} {R : Option Value → xM → Prop} {ce sl : Nat} {m0 mem cs : xM} {pc g : Nat} {loc : Nat → Option Value} {st : List Value}
theorem x_app_set {j : Nat} {c : va_E} (hg : m0.length = g) : (m0 ++ cs).set (g + j) c = m0 ++ cs.set j c := by
  rw [List.set_append, if_neg (by omega), show g + j - m0.length = j by omega]
theorem x_app_set0 {c : va_E} (hg : m0.length = g) : (m0 ++ cs).set g c = m0 ++ cs.set 0 c := x_app_set (j := 0) hg
theorem x_app_get {j : Nat} {c : va_E} (hg : m0.length = g) (h : cs[j]? = some c) : (m0 ++ cs)[g + j]? = some c := by
  rw [List.getElem?_append_right (by omega), show g + j - m0.length = j by omega]
  exact h
theorem x_app_get0 {c : va_E} (hg : m0.length = g) (h : cs[0]? = some c) : (m0 ++ cs)[g]? = some c := x_app_get (j := 0) hg h
theorem x_newi {n : Int32} {N j : Nat} (hg : m0.length = g) (hj : cs.length = j) (hd : decode k.2.1 pc = .ok (.newarray .int, 2)) (harr : Cond.arrayClass .int ∈ x_tbl) (hn : ¬ n < 0) (hN : n.toNatClampNeg = N) (hbytes : N * componentBytes .int ≤ 536870912) (hc : ce + 1 ≤ k.2.2.2.2.2.2.1) (hs : sl + N ≤ k.2.2.2.2.2.2.2) (kk : E G k R (ce + 1) (sl + N) (m0 ++ (cs ++ [.inl (0, N, .inl (fun _ => 0))])) (pc + 2) loc (.ref (g + j) :: st)) : E G k R ce sl (m0 ++ cs) pc loc (.int n :: st) := by
  refine E_newi hd harr hn hN hbytes hc hs ?_
  rw [List.append_assoc, List.length_append, hg, hj]
  exact kk
theorem x_newz {n : Int32} {N j : Nat} (hg : m0.length = g) (hj : cs.length = j) (hd : decode k.2.1 pc = .ok (.newarray .boolean, 2)) (harr : Cond.arrayClass .boolean ∈ x_tbl) (hn : ¬ n < 0) (hN : n.toNatClampNeg = N) (hbytes : N * componentBytes .boolean ≤ 536870912) (hc : ce + 1 ≤ k.2.2.2.2.2.2.1) (hs : sl + N ≤ k.2.2.2.2.2.2.2) (kk : E G k R (ce + 1) (sl + N) (m0 ++ (cs ++ [.inl (1, N, .inl (fun _ => 0))])) (pc + 2) loc (.ref (g + j) :: st)) : E G k R ce sl (m0 ++ cs) pc loc (.int n :: st) := by
  refine E_newz hd harr hn hN hbytes hc hs ?_
  rw [List.append_assoc, List.length_append, hg, hj]
  exact kk
theorem x_newc {n : Int32} {N j : Nat} (hg : m0.length = g) (hj : cs.length = j) (hd : decode k.2.1 pc = .ok (.newarray .char, 2)) (harr : Cond.arrayClass .char ∈ x_tbl) (hn : ¬ n < 0) (hN : n.toNatClampNeg = N) (hbytes : N * componentBytes .char ≤ 536870912) (hc : ce + 1 ≤ k.2.2.2.2.2.2.1) (hs : sl + N ≤ k.2.2.2.2.2.2.2) (kk : E G k R (ce + 1) (sl + N) (m0 ++ (cs ++ [.inl (2, N, .inl (fun _ => 0))])) (pc + 2) loc (.ref (g + j) :: st)) : E G k R ce sl (m0 ++ cs) pc loc (.int n :: st) := by
  refine E_newc hd harr hn hN hbytes hc hs ?_
  rw [List.append_assoc, List.length_append, hg, hj]
  exact kk
abbrev g_o0 : va_E := .inr (0, [.null, .null, .null, .null, .null, .null, .null, .null, .int 0, .int 0, .int 0, .int 0, .int 0])
def gI (i : Nat) : gS := (fun j => if j < i then -6 else 0, fun _ => 0, fun _ => 0, fun _ => 0, fun _ => 0, fun _ => 0, fun _ => 0, fun _ => 0, 30, 0, 0, 0, 0)
theorem gI_step (i : Nat) : upd (g_le (gI i)) i (-6) = g_le (gI (i + 1)) := by
  funext j
  show (if j = i then (-6 : Int32) else (if j < i then -6 else 0)) = (if j < i + 1 then -6 else 0)
  by_cases h : j = i
  · subst h; rw [if_pos rfl, if_pos (by omega)]
  · rw [if_neg h]
    by_cases h2 : j < i
    · rw [if_pos h2, if_pos (by omega)]
    · rw [if_neg h2, if_neg (by omega)]
theorem c_Game_init (hg : m0.length = g) : Dt G kX0_init [.ref g] (m0 ++ [g_o0]) none (m0 ++ gCells g (gI 60)) := by
  refine Ct_of (by decide) (Nat.le_of_ble_eq_true rfl) ?_
  have loop : ∀ di i : Nat, 60 < i + di → i ≤ 60 → E G kX0_init (x_R (none) (m0 ++ gCells g (gI 60))) 8 156 ((m0 ++ gCells g (gI i))) 96 (x_L [(0, .ref g), (1, .int (nI i))]) [] := by
    intro di
    induction di with
    | zero => intro i hi1 hi2; exact absurd hi1 (by omega)
    | succ di ihi =>
      intro i hi1 hi2
      have ei : (nI i).toInt = (i : Int) := nI_toInt (by omega)
      have eci : (nI i).toNatClampNeg = i := nI_clamp (by omega)
      have a0 : (m0 ++ gCells g (gI i))[g]? = some (g_o g (gI i)) := x_app_get0 hg rfl
      have a1 : (m0 ++ gCells g (gI i))[g + 1]? = some (g_a 0 60 (g_le (gI i))) := x_app_get hg rfl
      refine E_iload_n dX0_init_96 (by rfl) ?_
      refine E_bipush (v := 60) dX0_init_97 (by decide) ?_
      refine E_icmp_ge (n := 60) (by decide) (tgt := 116) dX0_init_99 (by decide) (fun q99 => ?_) (fun q99 => ?_)
      · refine E_vret dX0_init_116 rfl (by decide) (by decide) ?_
        exact ⟨rfl, by rw [show i = 60 by omega]⟩
      · refine E_aload_n dX0_init_102 (by rfl) ?_
        refine gf_X0_9 dX0_init_103 rfl (by assumption) (by rfl) ?_
        refine E_iload_n dX0_init_106 (by rfl) ?_
        refine E_bipush (v := (-6)) dX0_init_107 (by decide) ?_
        refine E_iast dX0_init_109 (by assumption) (i_in (by omega) (by omega)) ?_
        refine E_iinc (d := 1) dX0_init_110 (by rfl) (by decide) (Nat.le_of_ble_eq_true rfl) (by rfl) ?_
        refine E_goto (tgt := 96) dX0_init_113 (by decide) ?_
        refine E_mem (mem' := m0 ++ gCells g (gI (i + 1))) ((x_app_set hg).trans ?_) ?_
        · rw [eci, gI_step]; rfl
        exact E_loc [(0, .ref g), (1, .int (nI (i + 1)))] ⟨rfl, x_i (by first | exact nI_1 _ | decide), trivial⟩ (ihi (i + 1) (by omega) (by omega))
  refine E_aload_n dX0_init_0 (by rfl) ?_
  refine E_objInit dX0_init_1 rfl wl_X0_3 w_oin w_oco (Nat.le_of_ble_eq_true rfl) (Nat.le_of_ble_eq_true rfl) ?_
  refine E_aload_n dX0_init_4 (by rfl) ?_
  refine E_bipush (v := 60) dX0_init_5 (by decide) ?_
  refine x_newi (N := 60) (j := 1) hg rfl dX0_init_7 wa_int (by decide) (by decide) (by decide) (by decide) (by decide) ?_
  refine E_mem (mem' := m0 ++ [.inr (0, [.null, .null, .null, .null, .null, .null, .null, .null, .int 0, .int 0, .int 0, .int 0, .int 0]), .inl (0, 60, .inl (fun _ => 0))]) rfl ?_
  refine pf_X0_9 dX0_init_9 rfl rfl (x_app_get0 hg rfl) (Nat.le_of_ble_eq_true rfl) ?_
  refine E_mem (mem' := m0 ++ [.inr (0, [.ref (g + 1), .null, .null, .null, .null, .null, .null, .null, .int 0, .int 0, .int 0, .int 0, .int 0]), .inl (0, 60, .inl (fun _ => 0))]) (x_app_set0 hg) ?_
  refine E_aload_n dX0_init_12 (by rfl) ?_
  refine E_bipush (v := 60) dX0_init_13 (by decide) ?_
  refine x_newz (N := 60) (j := 2) hg rfl dX0_init_15 wa_boolean (by decide) (by decide) (by decide) (by decide) (by decide) ?_
  refine E_mem (mem' := m0 ++ [.inr (0, [.ref (g + 1), .null, .null, .null, .null, .null, .null, .null, .int 0, .int 0, .int 0, .int 0, .int 0]), .inl (0, 60, .inl (fun _ => 0)), .inl (1, 60, .inl (fun _ => 0))]) rfl ?_
  refine pf_X0_15 dX0_init_17 rfl rfl (x_app_get0 hg rfl) (Nat.le_of_ble_eq_true rfl) ?_
  refine E_mem (mem' := m0 ++ [.inr (0, [.ref (g + 1), .ref (g + 2), .null, .null, .null, .null, .null, .null, .int 0, .int 0, .int 0, .int 0, .int 0]), .inl (0, 60, .inl (fun _ => 0)), .inl (1, 60, .inl (fun _ => 0))]) (x_app_set0 hg) ?_
  refine E_aload_n dX0_init_20 (by rfl) ?_
  refine E_bipush (v := 6) dX0_init_21 (by decide) ?_
  refine x_newi (N := 6) (j := 3) hg rfl dX0_init_23 wa_int (by decide) (by decide) (by decide) (by decide) (by decide) ?_
  refine E_mem (mem' := m0 ++ [.inr (0, [.ref (g + 1), .ref (g + 2), .null, .null, .null, .null, .null, .null, .int 0, .int 0, .int 0, .int 0, .int 0]), .inl (0, 60, .inl (fun _ => 0)), .inl (1, 60, .inl (fun _ => 0)), .inl (0, 6, .inl (fun _ => 0))]) rfl ?_
  refine pf_X0_19 dX0_init_25 rfl rfl (x_app_get0 hg rfl) (Nat.le_of_ble_eq_true rfl) ?_
  refine E_mem (mem' := m0 ++ [.inr (0, [.ref (g + 1), .ref (g + 2), .ref (g + 3), .null, .null, .null, .null, .null, .int 0, .int 0, .int 0, .int 0, .int 0]), .inl (0, 60, .inl (fun _ => 0)), .inl (1, 60, .inl (fun _ => 0)), .inl (0, 6, .inl (fun _ => 0))]) (x_app_set0 hg) ?_
  refine E_aload_n dX0_init_28 (by rfl) ?_
  refine E_bipush (v := 6) dX0_init_29 (by decide) ?_
  refine x_newi (N := 6) (j := 4) hg rfl dX0_init_31 wa_int (by decide) (by decide) (by decide) (by decide) (by decide) ?_
  refine E_mem (mem' := m0 ++ [.inr (0, [.ref (g + 1), .ref (g + 2), .ref (g + 3), .null, .null, .null, .null, .null, .int 0, .int 0, .int 0, .int 0, .int 0]), .inl (0, 60, .inl (fun _ => 0)), .inl (1, 60, .inl (fun _ => 0)), .inl (0, 6, .inl (fun _ => 0)), .inl (0, 6, .inl (fun _ => 0))]) rfl ?_
  refine pf_X0_22 dX0_init_33 rfl rfl (x_app_get0 hg rfl) (Nat.le_of_ble_eq_true rfl) ?_
  refine E_mem (mem' := m0 ++ [.inr (0, [.ref (g + 1), .ref (g + 2), .ref (g + 3), .ref (g + 4), .null, .null, .null, .null, .int 0, .int 0, .int 0, .int 0, .int 0]), .inl (0, 60, .inl (fun _ => 0)), .inl (1, 60, .inl (fun _ => 0)), .inl (0, 6, .inl (fun _ => 0)), .inl (0, 6, .inl (fun _ => 0))]) (x_app_set0 hg) ?_
  refine E_aload_n dX0_init_36 (by rfl) ?_
  refine E_bipush (v := 6) dX0_init_37 (by decide) ?_
  refine x_newi (N := 6) (j := 5) hg rfl dX0_init_39 wa_int (by decide) (by decide) (by decide) (by decide) (by decide) ?_
  refine E_mem (mem' := m0 ++ [.inr (0, [.ref (g + 1), .ref (g + 2), .ref (g + 3), .ref (g + 4), .null, .null, .null, .null, .int 0, .int 0, .int 0, .int 0, .int 0]), .inl (0, 60, .inl (fun _ => 0)), .inl (1, 60, .inl (fun _ => 0)), .inl (0, 6, .inl (fun _ => 0)), .inl (0, 6, .inl (fun _ => 0)), .inl (0, 6, .inl (fun _ => 0))]) rfl ?_
  refine pf_X0_25 dX0_init_41 rfl rfl (x_app_get0 hg rfl) (Nat.le_of_ble_eq_true rfl) ?_
  refine E_mem (mem' := m0 ++ [.inr (0, [.ref (g + 1), .ref (g + 2), .ref (g + 3), .ref (g + 4), .ref (g + 5), .null, .null, .null, .int 0, .int 0, .int 0, .int 0, .int 0]), .inl (0, 60, .inl (fun _ => 0)), .inl (1, 60, .inl (fun _ => 0)), .inl (0, 6, .inl (fun _ => 0)), .inl (0, 6, .inl (fun _ => 0)), .inl (0, 6, .inl (fun _ => 0))]) (x_app_set0 hg) ?_
  refine E_aload_n dX0_init_44 (by rfl) ?_
  refine E_bipush (v := 6) dX0_init_45 (by decide) ?_
  refine x_newi (N := 6) (j := 6) hg rfl dX0_init_47 wa_int (by decide) (by decide) (by decide) (by decide) (by decide) ?_
  refine E_mem (mem' := m0 ++ [.inr (0, [.ref (g + 1), .ref (g + 2), .ref (g + 3), .ref (g + 4), .ref (g + 5), .null, .null, .null, .int 0, .int 0, .int 0, .int 0, .int 0]), .inl (0, 60, .inl (fun _ => 0)), .inl (1, 60, .inl (fun _ => 0)), .inl (0, 6, .inl (fun _ => 0)), .inl (0, 6, .inl (fun _ => 0)), .inl (0, 6, .inl (fun _ => 0)), .inl (0, 6, .inl (fun _ => 0))]) rfl ?_
  refine pf_X0_28 dX0_init_49 rfl rfl (x_app_get0 hg rfl) (Nat.le_of_ble_eq_true rfl) ?_
  refine E_mem (mem' := m0 ++ [.inr (0, [.ref (g + 1), .ref (g + 2), .ref (g + 3), .ref (g + 4), .ref (g + 5), .ref (g + 6), .null, .null, .int 0, .int 0, .int 0, .int 0, .int 0]), .inl (0, 60, .inl (fun _ => 0)), .inl (1, 60, .inl (fun _ => 0)), .inl (0, 6, .inl (fun _ => 0)), .inl (0, 6, .inl (fun _ => 0)), .inl (0, 6, .inl (fun _ => 0)), .inl (0, 6, .inl (fun _ => 0))]) (x_app_set0 hg) ?_
  refine E_aload_n dX0_init_52 (by rfl) ?_
  refine E_bipush (v := 6) dX0_init_53 (by decide) ?_
  refine x_newi (N := 6) (j := 7) hg rfl dX0_init_55 wa_int (by decide) (by decide) (by decide) (by decide) (by decide) ?_
  refine E_mem (mem' := m0 ++ [.inr (0, [.ref (g + 1), .ref (g + 2), .ref (g + 3), .ref (g + 4), .ref (g + 5), .ref (g + 6), .null, .null, .int 0, .int 0, .int 0, .int 0, .int 0]), .inl (0, 60, .inl (fun _ => 0)), .inl (1, 60, .inl (fun _ => 0)), .inl (0, 6, .inl (fun _ => 0)), .inl (0, 6, .inl (fun _ => 0)), .inl (0, 6, .inl (fun _ => 0)), .inl (0, 6, .inl (fun _ => 0)), .inl (0, 6, .inl (fun _ => 0))]) rfl ?_
  refine pf_X0_31 dX0_init_57 rfl rfl (x_app_get0 hg rfl) (Nat.le_of_ble_eq_true rfl) ?_
  refine E_mem (mem' := m0 ++ [.inr (0, [.ref (g + 1), .ref (g + 2), .ref (g + 3), .ref (g + 4), .ref (g + 5), .ref (g + 6), .ref (g + 7), .null, .int 0, .int 0, .int 0, .int 0, .int 0]), .inl (0, 60, .inl (fun _ => 0)), .inl (1, 60, .inl (fun _ => 0)), .inl (0, 6, .inl (fun _ => 0)), .inl (0, 6, .inl (fun _ => 0)), .inl (0, 6, .inl (fun _ => 0)), .inl (0, 6, .inl (fun _ => 0)), .inl (0, 6, .inl (fun _ => 0))]) (x_app_set0 hg) ?_
  refine E_aload_n dX0_init_60 (by rfl) ?_
  refine E_bipush (v := 6) dX0_init_61 (by decide) ?_
  refine x_newi (N := 6) (j := 8) hg rfl dX0_init_63 wa_int (by decide) (by decide) (by decide) (by decide) (by decide) ?_
  refine E_mem (mem' := m0 ++ [.inr (0, [.ref (g + 1), .ref (g + 2), .ref (g + 3), .ref (g + 4), .ref (g + 5), .ref (g + 6), .ref (g + 7), .null, .int 0, .int 0, .int 0, .int 0, .int 0]), .inl (0, 60, .inl (fun _ => 0)), .inl (1, 60, .inl (fun _ => 0)), .inl (0, 6, .inl (fun _ => 0)), .inl (0, 6, .inl (fun _ => 0)), .inl (0, 6, .inl (fun _ => 0)), .inl (0, 6, .inl (fun _ => 0)), .inl (0, 6, .inl (fun _ => 0)), .inl (0, 6, .inl (fun _ => 0))]) rfl ?_
  refine pf_X0_34 dX0_init_65 rfl rfl (x_app_get0 hg rfl) (Nat.le_of_ble_eq_true rfl) ?_
  refine E_mem (mem' := m0 ++ [.inr (0, [.ref (g + 1), .ref (g + 2), .ref (g + 3), .ref (g + 4), .ref (g + 5), .ref (g + 6), .ref (g + 7), .ref (g + 8), .int 0, .int 0, .int 0, .int 0, .int 0]), .inl (0, 60, .inl (fun _ => 0)), .inl (1, 60, .inl (fun _ => 0)), .inl (0, 6, .inl (fun _ => 0)), .inl (0, 6, .inl (fun _ => 0)), .inl (0, 6, .inl (fun _ => 0)), .inl (0, 6, .inl (fun _ => 0)), .inl (0, 6, .inl (fun _ => 0)), .inl (0, 6, .inl (fun _ => 0))]) (x_app_set0 hg) ?_
  refine E_aload_n dX0_init_68 (by rfl) ?_
  refine E_bipush (v := 30) dX0_init_69 (by decide) ?_
  refine pf_X0_37 dX0_init_71 rfl (x_app_get0 hg rfl) (Nat.le_of_ble_eq_true rfl) ?_
  refine E_mem (mem' := m0 ++ [.inr (0, [.ref (g + 1), .ref (g + 2), .ref (g + 3), .ref (g + 4), .ref (g + 5), .ref (g + 6), .ref (g + 7), .ref (g + 8), .int 30, .int 0, .int 0, .int 0, .int 0]), .inl (0, 60, .inl (fun _ => 0)), .inl (1, 60, .inl (fun _ => 0)), .inl (0, 6, .inl (fun _ => 0)), .inl (0, 6, .inl (fun _ => 0)), .inl (0, 6, .inl (fun _ => 0)), .inl (0, 6, .inl (fun _ => 0)), .inl (0, 6, .inl (fun _ => 0)), .inl (0, 6, .inl (fun _ => 0))]) (x_app_set0 hg) ?_
  refine E_aload_n dX0_init_74 (by rfl) ?_
  refine E_iconst (v := 0) dX0_init_75 (by decide) ?_
  refine pf_X0_41 dX0_init_76 rfl (x_app_get0 hg rfl) (Nat.le_of_ble_eq_true rfl) ?_
  refine E_mem (mem' := m0 ++ [.inr (0, [.ref (g + 1), .ref (g + 2), .ref (g + 3), .ref (g + 4), .ref (g + 5), .ref (g + 6), .ref (g + 7), .ref (g + 8), .int 30, .int 0, .int 0, .int 0, .int 0]), .inl (0, 60, .inl (fun _ => 0)), .inl (1, 60, .inl (fun _ => 0)), .inl (0, 6, .inl (fun _ => 0)), .inl (0, 6, .inl (fun _ => 0)), .inl (0, 6, .inl (fun _ => 0)), .inl (0, 6, .inl (fun _ => 0)), .inl (0, 6, .inl (fun _ => 0)), .inl (0, 6, .inl (fun _ => 0))]) (x_app_set0 hg) ?_
  refine E_aload_n dX0_init_79 (by rfl) ?_
  refine E_iconst (v := 0) dX0_init_80 (by decide) ?_
  refine pf_X0_44 dX0_init_81 rfl (x_app_get0 hg rfl) (Nat.le_of_ble_eq_true rfl) ?_
  refine E_mem (mem' := m0 ++ [.inr (0, [.ref (g + 1), .ref (g + 2), .ref (g + 3), .ref (g + 4), .ref (g + 5), .ref (g + 6), .ref (g + 7), .ref (g + 8), .int 30, .int 0, .int 0, .int 0, .int 0]), .inl (0, 60, .inl (fun _ => 0)), .inl (1, 60, .inl (fun _ => 0)), .inl (0, 6, .inl (fun _ => 0)), .inl (0, 6, .inl (fun _ => 0)), .inl (0, 6, .inl (fun _ => 0)), .inl (0, 6, .inl (fun _ => 0)), .inl (0, 6, .inl (fun _ => 0)), .inl (0, 6, .inl (fun _ => 0))]) (x_app_set0 hg) ?_
  refine E_aload_n dX0_init_84 (by rfl) ?_
  refine E_iconst (v := 0) dX0_init_85 (by decide) ?_
  refine pf_X0_47 dX0_init_86 rfl (x_app_get0 hg rfl) (Nat.le_of_ble_eq_true rfl) ?_
  refine E_mem (mem' := m0 ++ [.inr (0, [.ref (g + 1), .ref (g + 2), .ref (g + 3), .ref (g + 4), .ref (g + 5), .ref (g + 6), .ref (g + 7), .ref (g + 8), .int 30, .int 0, .int 0, .int 0, .int 0]), .inl (0, 60, .inl (fun _ => 0)), .inl (1, 60, .inl (fun _ => 0)), .inl (0, 6, .inl (fun _ => 0)), .inl (0, 6, .inl (fun _ => 0)), .inl (0, 6, .inl (fun _ => 0)), .inl (0, 6, .inl (fun _ => 0)), .inl (0, 6, .inl (fun _ => 0)), .inl (0, 6, .inl (fun _ => 0))]) (x_app_set0 hg) ?_
  refine E_aload_n dX0_init_89 (by rfl) ?_
  refine E_iconst (v := 0) dX0_init_90 (by decide) ?_
  refine pf_X0_50 dX0_init_91 rfl (x_app_get0 hg rfl) (Nat.le_of_ble_eq_true rfl) ?_
  refine E_mem (mem' := m0 ++ [.inr (0, [.ref (g + 1), .ref (g + 2), .ref (g + 3), .ref (g + 4), .ref (g + 5), .ref (g + 6), .ref (g + 7), .ref (g + 8), .int 30, .int 0, .int 0, .int 0, .int 0]), .inl (0, 60, .inl (fun _ => 0)), .inl (1, 60, .inl (fun _ => 0)), .inl (0, 6, .inl (fun _ => 0)), .inl (0, 6, .inl (fun _ => 0)), .inl (0, 6, .inl (fun _ => 0)), .inl (0, 6, .inl (fun _ => 0)), .inl (0, 6, .inl (fun _ => 0)), .inl (0, 6, .inl (fun _ => 0))]) (x_app_set0 hg) ?_
  refine E_iconst (v := 0) dX0_init_94 (by decide) ?_
  refine E_istore_n dX0_init_95 (Nat.le_of_ble_eq_true rfl) (by rfl) ?_
  exact E_loc [(0, .ref g), (1, .int (nI 0))] ⟨rfl, x_i (by first | rfl | decide), trivial⟩ (loop (60 + 1) 0 (by omega) (by omega))
/-! History: five games -/
abbrev h_rN : va_E := .inl (3, 5, .inr (.inr (.inr (.inr (fun _ => none)))))
theorem E_newL {L ci index N : Nat} {own C : String} {T : u_T} {ty0 : Nat → FieldType} {fs : List Value} (hL : mem.length = L) (hd : decode k.2.1 pc = .ok (.new index, 3)) (hin : ∀ w ∈ u_ws C T N, w ∈ x_tbl) (hty : ∀ k, k < N → parseFieldDescriptor (T k).2.2.1 = some (ty0 k)) (hown : k.1.cls = own) (hcl : Cond.classLink own index C ∈ x_tbl) (hinst : Cond.instantiable C N ∈ x_tbl) (hini : Cond.initialized C ∈ x_tbl) (hc : vwCl[ci]? = some (C, T, N)) (hfs : ∀ j, j < N → defaultValue (ty0 j) = vp_V (fs.map (x_v G)) j) (hcc : ce + 1 ≤ k.2.2.2.2.2.2.1) (hs : sl + N ≤ k.2.2.2.2.2.2.2) (kk : E G k R (ce + 1) (sl + N) (mem ++ [.inr (ci, fs)]) (pc + 3) loc (.ref L :: st)) : E G k R ce sl mem pc loc st := by
  refine E_new hd hin hty hown hcl hinst hini hc hfs hcc hs ?_
  rw [hL]
  exact kk
theorem E_anewL {L index : Nat} {own : String} {n : Int32} {N : Nat} (hL : mem.length = L) (hd : decode k.2.1 pc = .ok (.anewarray index, 3)) (hown : k.1.cls = own) (hcl : Cond.classLink own index RX0 ∈ x_tbl) (hn : ¬ n < 0) (hN : n.toNatClampNeg = N) (hbytes : N * 4 ≤ 536870912) (hcc : ce + 1 ≤ k.2.2.2.2.2.2.1) (hs : sl + N ≤ k.2.2.2.2.2.2.2) (kk : E G k R (ce + 1) (sl + N) (mem ++ [.inl (3, N, .inr (.inr (.inr (.inr (fun _ => none)))))]) (pc + 3) loc (.ref L :: st)) : E G k R ce sl mem pc loc (.int n :: st) := by
  refine E_anew hd hown hcl hn hN hbytes hcc hs ?_
  rw [hL]
  exact kk
theorem x_dv0 : ∀ j, j < 13 → defaultValue (tyX0 j) = vp_V (([.null, .null, .null, .null, .null, .null, .null, .null, .int 0, .int 0, .int 0, .int 0, .int 0] : List Value).map (x_v G)) j := by
  intro j hj
  match j, hj with
  | 0, _ => rfl
  | 1, _ => rfl
  | 2, _ => rfl
  | 3, _ => rfl
  | 4, _ => rfl
  | 5, _ => rfl
  | 6, _ => rfl
  | 7, _ => rfl
  | 8, _ => rfl
  | 9, _ => rfl
  | 10, _ => rfl
  | 11, _ => rfl
  | 12, _ => rfl
def gms : Nat → xM
  | 0 => []
  | i + 1 => gms i ++ gCells (39 + 9 * i) (gI 60)
theorem gms_len : ∀ i, (gms i).length = 9 * i
  | 0 => rfl
  | i + 1 => by
    rw [gms, List.length_append, gms_len i]
    show 9 * i + 9 = _
    omega
def h_f (i : Nat) : Nat → Option Nat := fun j => if j < i then some (39 + 9 * j) else none
theorem h_f_step (i : Nat) : va_up (h_f i) i (some (39 + 9 * i)) = h_f (i + 1) := by
  funext j
  unfold va_up h_f
  by_cases h : j = i
  · subst h; rw [if_pos rfl, if_pos (by omega)]
  · rw [if_neg h]
    by_cases h2 : j < i
    · rw [if_pos h2, if_pos (by omega)]
    · rw [if_neg h2, if_neg (by omega)]
theorem c_History_init (hg : m0.length = 37) : Dt G kX1_init [.ref 37] (m0 ++ [.inr (1, [.null, .int 0])]) none (m0 ++ [h_o 0, h_r (h_f 5)] ++ gms 5) := by
  have hl : ∀ i, (m0 ++ [h_o 0, h_r (h_f i)] ++ gms i).length = 39 + 9 * i := fun i => by
    rw [List.length_append, List.length_append, gms_len, hg]
    show 37 + 2 + 9 * i = _
    omega
  refine Ct_of (by decide) (Nat.le_of_ble_eq_true rfl) ?_
  have loop : ∀ d i : Nat, 5 < i + d → i ≤ 5 → E G kX1_init (x_R none (m0 ++ [h_o 0, h_r (h_f 5)] ++ gms 5)) (1 + 9 * i) (5 + 169 * i) (m0 ++ [h_o 0, h_r (h_f i)] ++ gms i) 19 (x_L [(0, .ref 37), (1, .int (nI i))]) [] := by
    intro d
    induction d with
    | zero => intro i h1 h2; exact absurd h1 (by omega)
    | succ d ih =>
      intro i hd hi
      have ei : (nI i).toInt = (i : Int) := nI_toInt (by omega)
      have eci : (nI i).toNatClampNeg = i := nI_clamp (by omega)
      have a0 : (m0 ++ [h_o 0, h_r (h_f i)] ++ gms i)[37]? = some (h_o 0) := by rw [List.append_assoc]; exact x_app_get0 hg rfl
      have hN : (m0 ++ [h_o 0, h_r (h_f i)] ++ gms i) ++ gCells (39 + 9 * i) (gI 60) = m0 ++ ([h_o 0, h_r (h_f i)] ++ gms (i + 1)) := by rw [gms, List.append_assoc, List.append_assoc]
      have b1 : (m0 ++ ([h_o 0, h_r (h_f i)] ++ gms (i + 1)))[38]? = some (h_r (h_f i)) := x_app_get (j := 1) hg rfl
      have b2 : (m0 ++ ([h_o 0, h_r (h_f i)] ++ gms (i + 1)))[39 + 9 * i]? = some (g_o (39 + 9 * i) (gI 60)) := by
        rw [← hN]
        exact x_app_get0 (hl i) rfl
      refine E_iload_n dX1_init_19 (by rfl) ?_
      refine E_iconst (v := 5) dX1_init_20 (by decide) ?_
      refine E_icmp_ge (n := 5) (by decide) (tgt := 43) dX1_init_21 (by decide) (fun q21 => ?_) (fun q21 => ?_)
      · obtain rfl : i = 5 := by omega
        refine E_vret dX1_init_43 rfl (by decide) (by decide) ?_
        exact ⟨rfl, rfl⟩
      · refine E_aload_n dX1_init_24 (by rfl) ?_
        refine gf_X1_11 dX1_init_25 rfl (by assumption) (by rfl) ?_
        refine E_iload_n dX1_init_28 (by rfl) ?_
        refine E_newL (L := 39 + 9 * i) (T := TX0) (N := 13) (ci := 0) (hl i) dX1_init_29 xin_X0 tyX0_ok rfl wk_X1_9 wt_X0 wn_RX0 rfl x_dv0 (by show _ + 1 ≤ 46; omega) (by show _ + 13 ≤ 850; omega) ?_
        refine E_dup dX1_init_32 rfl ?_
        refine cs_X1_init_33 (Nat.le_of_ble_eq_true rfl) ⟨by omega, by omega⟩ (c_Game_init (hl i)) ?_
        rw [hN]
        refine E_aast dX1_init_36 b1 b2 (i_in (by omega) (by omega)) ?_
        rw [eci, h_f_step, show (38 : Nat) = 37 + 1 from rfl, x_app_set hg]
        refine E_iinc (d := 1) dX1_init_37 (by rfl) (by decide) (Nat.le_of_ble_eq_true rfl) (by rfl) ?_
        refine E_goto (tgt := 19) dX1_init_40 (by decide) ?_
        refine E_mem (mem' := m0 ++ [h_o 0, h_r (h_f (i + 1))] ++ gms (i + 1)) (by rw [List.append_assoc]; rfl) ?_
        have z := ih (i + 1) (by omega) (by omega)
        rw [show 1 + 9 * (i + 1) = 1 + 9 * i + 1 + 8 by omega, show 5 + 169 * (i + 1) = 5 + 169 * i + 13 + 156 by omega] at z
        exact E_loc [(0, .ref 37), (1, .int (nI (i + 1)))] ⟨rfl, x_i (nI_1 i), trivial⟩ z
  have hz : h_r (h_f 0) = h_rN := by
    have e : h_f 0 = fun _ => none := by funext j; unfold h_f; rw [if_neg (by omega)]
    rw [e]
  have z := loop 6 0 (by omega) (by omega)
  rw [hz] at z
  have hl1 : (m0 ++ [(.inr (1, [.null, .int 0]) : va_E)]).length = 38 := by rw [List.length_append, hg]; rfl
  refine E_aload_n dX1_init_0 (by rfl) ?_
  refine E_objInit dX1_init_1 rfl wl_X1_3 w_oin w_oco (Nat.le_of_ble_eq_true rfl) (Nat.le_of_ble_eq_true rfl) ?_
  refine E_aload_n dX1_init_4 (by rfl) ?_
  refine E_iconst (v := 5) dX1_init_5 (by decide) ?_
  refine E_anewL (L := 38) (N := 5) hl1 dX1_init_6 rfl wk_X1_9 (by decide) (by decide) (by decide) (by decide) (by decide) ?_
  refine E_mem (mem' := m0 ++ [.inr (1, [.null, .int 0]), h_rN]) (by rw [List.append_assoc]; rfl) ?_
  refine pf_X1_11 dX1_init_9 rfl rfl (x_app_get0 hg rfl) (Nat.le_of_ble_eq_true rfl) ?_
  refine E_mem (x_app_set0 hg) ?_
  refine E_mem (mem' := m0 ++ [.inr (1, [.ref 38, .int 0]), h_rN]) rfl ?_
  refine E_aload_n dX1_init_12 (by rfl) ?_
  refine E_iconst (v := 0) dX1_init_13 (by decide) ?_
  refine pf_X1_17 dX1_init_14 rfl (x_app_get0 hg rfl) (Nat.le_of_ble_eq_true rfl) ?_
  refine E_mem (x_app_set0 hg) ?_
  refine E_mem (mem' := m0 ++ [h_o 0, h_rN] ++ gms 0) (by rw [gms, List.append_nil]; rfl) ?_
  refine E_iconst (v := 0) dX1_init_17 (by decide) ?_
  refine E_istore_n dX1_init_18 (Nat.le_of_ble_eq_true rfl) (by rfl) ?_
  exact E_loc [(0, .ref 37), (1, .int (nI 0))] ⟨rfl, rfl, trivial⟩ z
theorem x_dv1 : ∀ j, j < 2 → defaultValue (tyX1 j) = vp_V (([.null, .int 0] : List Value).map (x_v G)) j := by
  intro j hj
  match j, hj with
  | 0, _ => rfl
  | 1, _ => rfl
theorem x_dv2 : ∀ j, j < 2 → defaultValue (tyX2 j) = vp_V (([.null, .int 0] : List Value).map (x_v G)) j := by
  intro j hj
  match j, hj with
  | 0, _ => rfl
  | 1, _ => rfl
theorem c_Text_init (hg : m0.length = 84) : Dt G kX2_init [.ref 84] (m0 ++ [.inr (2, [.null, .int 0])]) none (m0 ++ [t_o 0, t_s (fun _ => 0)]) := by
  have hg : m0.length = 84 := hg
  refine Ct_of (by decide) (Nat.le_of_ble_eq_true rfl) ?_
  refine E_aload_n dX2_init_0 (by rfl) ?_
  refine E_objInit dX2_init_1 rfl wl_X2_3 w_oin w_oco (Nat.le_of_ble_eq_true rfl) (Nat.le_of_ble_eq_true rfl) ?_
  refine E_aload_n dX2_init_4 (by rfl) ?_
  refine E_bipush (v := 60) dX2_init_5 (by decide) ?_
  refine x_newc (g := 84) (N := 60) (j := 1) hg rfl dX2_init_7 wa_char (by decide) (by decide) (by decide) (by decide) (by decide) ?_
  refine E_mem (mem' := m0 ++ [.inr (2, [.null, .int 0]), t_s (fun _ => 0)]) rfl ?_
  refine pf_X2_9 dX2_init_9 rfl rfl (x_app_get0 hg rfl) (Nat.le_of_ble_eq_true rfl) ?_
  refine E_mem (x_app_set0 hg) ?_
  refine E_aload_n dX2_init_12 (by rfl) ?_
  refine E_iconst (v := 0) dX2_init_13 (by decide) ?_
  refine pf_X2_15 dX2_init_14 rfl (x_app_get0 hg rfl) (Nat.le_of_ble_eq_true rfl) ?_
  refine E_mem (x_app_set0 hg) ?_
  refine E_vret dX2_init_17 rfl (by decide) (by decide) ?_
  exact ⟨rfl, rfl⟩
/-! LiftingStairs -/
abbrev k_oN : va_E := .inr (3, [.null, .null, .null, .null, .null, .null, .int 0])
def cM0 : xM := ([k_o 0] ++ gCells 1 (gI 60) ++ gCells 10 (gI 60) ++ gCells 19 (gI 60) ++ gCells 28 (gI 60) ++ [h_o 0, h_r (h_f 5)] ++ gms 5) ++ [t_o 0, t_s (fun _ => 0)]
theorem c_Class_init : Dt G kX3_init [.ref 0] [k_oN] none cM0 := by
  refine Ct_of (by decide) (Nat.le_of_ble_eq_true rfl) ?_
  refine E_aload_n dX3_init_0 (by rfl) ?_
  refine E_objInit dX3_init_1 rfl wl_X3_1 w_oin w_oco (Nat.le_of_ble_eq_true rfl) (Nat.le_of_ble_eq_true rfl) ?_
  refine E_aload_n dX3_init_4 (by rfl) ?_
  refine E_newL (L := 1) (T := TX0) (N := 13) (ci := 0) rfl dX3_init_5 xin_X0 tyX0_ok rfl wk_X3_7 wt_X0 wn_RX0 rfl x_dv0 (by decide) (by decide) ?_
  refine E_dup dX3_init_8 rfl ?_
  refine cs_X3_init_9 (Nat.le_of_ble_eq_true rfl) (by decide) (c_Game_init (m0 := [k_oN]) rfl) ?_
  refine pf_X3_10 dX3_init_12 rfl rfl rfl (Nat.le_of_ble_eq_true rfl) ?_
  refine E_mem (mem' := [.inr (3, [.ref 1, .null, .null, .null, .null, .null, .int 0])] ++ gCells 1 (gI 60)) rfl ?_
  refine E_aload_n dX3_init_15 (by rfl) ?_
  refine E_newL (L := 10) (T := TX0) (N := 13) (ci := 0) rfl dX3_init_16 xin_X0 tyX0_ok rfl wk_X3_7 wt_X0 wn_RX0 rfl x_dv0 (by decide) (by decide) ?_
  refine E_dup dX3_init_19 rfl ?_
  refine cs_X3_init_20 (Nat.le_of_ble_eq_true rfl) (by decide) (c_Game_init (m0 := [.inr (3, [.ref 1, .null, .null, .null, .null, .null, .int 0])] ++ gCells 1 (gI 60)) rfl) ?_
  refine pf_X3_16 dX3_init_23 rfl rfl rfl (Nat.le_of_ble_eq_true rfl) ?_
  refine E_mem (mem' := [.inr (3, [.ref 1, .ref 10, .null, .null, .null, .null, .int 0])] ++ gCells 1 (gI 60) ++ gCells 10 (gI 60)) rfl ?_
  refine E_aload_n dX3_init_26 (by rfl) ?_
  refine E_newL (L := 19) (T := TX0) (N := 13) (ci := 0) rfl dX3_init_27 xin_X0 tyX0_ok rfl wk_X3_7 wt_X0 wn_RX0 rfl x_dv0 (by decide) (by decide) ?_
  refine E_dup dX3_init_30 rfl ?_
  refine cs_X3_init_31 (Nat.le_of_ble_eq_true rfl) (by decide) (c_Game_init (m0 := [.inr (3, [.ref 1, .ref 10, .null, .null, .null, .null, .int 0])] ++ gCells 1 (gI 60) ++ gCells 10 (gI 60)) rfl) ?_
  refine pf_X3_19 dX3_init_34 rfl rfl rfl (Nat.le_of_ble_eq_true rfl) ?_
  refine E_mem (mem' := [.inr (3, [.ref 1, .ref 10, .ref 19, .null, .null, .null, .int 0])] ++ gCells 1 (gI 60) ++ gCells 10 (gI 60) ++ gCells 19 (gI 60)) rfl ?_
  refine E_aload_n dX3_init_37 (by rfl) ?_
  refine E_newL (L := 28) (T := TX0) (N := 13) (ci := 0) rfl dX3_init_38 xin_X0 tyX0_ok rfl wk_X3_7 wt_X0 wn_RX0 rfl x_dv0 (by decide) (by decide) ?_
  refine E_dup dX3_init_41 rfl ?_
  refine cs_X3_init_42 (Nat.le_of_ble_eq_true rfl) (by decide) (c_Game_init (m0 := [.inr (3, [.ref 1, .ref 10, .ref 19, .null, .null, .null, .int 0])] ++ gCells 1 (gI 60) ++ gCells 10 (gI 60) ++ gCells 19 (gI 60)) rfl) ?_
  refine pf_X3_22 dX3_init_45 rfl rfl rfl (Nat.le_of_ble_eq_true rfl) ?_
  refine E_mem (mem' := [.inr (3, [.ref 1, .ref 10, .ref 19, .ref 28, .null, .null, .int 0])] ++ gCells 1 (gI 60) ++ gCells 10 (gI 60) ++ gCells 19 (gI 60) ++ gCells 28 (gI 60)) rfl ?_
  refine E_aload_n dX3_init_48 (by rfl) ?_
  refine E_newL (L := 37) (T := TX1) (N := 2) (ci := 1) rfl dX3_init_49 xin_X1 tyX1_ok rfl wk_X3_25 wt_X1 wn_RX1 rfl x_dv1 (by decide) (by decide) ?_
  refine E_dup dX3_init_52 rfl ?_
  refine cs_X3_init_53 (Nat.le_of_ble_eq_true rfl) (by decide) (c_History_init (m0 := [.inr (3, [.ref 1, .ref 10, .ref 19, .ref 28, .null, .null, .int 0])] ++ gCells 1 (gI 60) ++ gCells 10 (gI 60) ++ gCells 19 (gI 60) ++ gCells 28 (gI 60)) rfl) ?_
  refine pf_X3_28 dX3_init_56 rfl rfl rfl (Nat.le_of_ble_eq_true rfl) ?_
  refine E_mem (mem' := [.inr (3, [.ref 1, .ref 10, .ref 19, .ref 28, .ref 37, .null, .int 0])] ++ gCells 1 (gI 60) ++ gCells 10 (gI 60) ++ gCells 19 (gI 60) ++ gCells 28 (gI 60) ++ [h_o 0, h_r (h_f 5)] ++ gms 5) rfl ?_
  refine E_aload_n dX3_init_59 (by rfl) ?_
  refine E_newL (L := 84) (T := TX2) (N := 2) (ci := 2) rfl dX3_init_60 xin_X2 tyX2_ok rfl wk_X3_32 wt_X2 wn_RX2 rfl x_dv2 (by decide) (by decide) ?_
  refine E_dup dX3_init_63 rfl ?_
  refine cs_X3_init_64 (Nat.le_of_ble_eq_true rfl) (by decide) (c_Text_init (m0 := [.inr (3, [.ref 1, .ref 10, .ref 19, .ref 28, .ref 37, .null, .int 0])] ++ gCells 1 (gI 60) ++ gCells 10 (gI 60) ++ gCells 19 (gI 60) ++ gCells 28 (gI 60) ++ [h_o 0, h_r (h_f 5)] ++ gms 5) rfl) ?_
  refine pf_X3_35 dX3_init_67 rfl rfl rfl (Nat.le_of_ble_eq_true rfl) ?_
  refine E_mem (mem' := cM0) rfl ?_
  refine E_aload_n dX3_init_70 (by rfl) ?_
  refine E_iconst (v := 0) dX3_init_71 (by decide) ?_
  refine pf_X3_39 dX3_init_72 rfl (by decide) rfl (Nat.le_of_ble_eq_true rfl) ?_
  refine E_vret dX3_init_75 rfl (by decide) (by decide) ?_
  exact ⟨rfl, rfl⟩
abbrev cS0 : cS := (gI 60, gI 60, gI 60, gI 60, 0, 0, fun _ => gI 60, 0, fun _ => 0)
theorem cAt_0 (X : xM) : cAt (cM0 ++ X) cS0 := by
  refine ⟨rfl, ⟨rfl, rfl, rfl, rfl, rfl, rfl, rfl, rfl, rfl⟩, ⟨rfl, rfl, rfl, rfl, rfl, rfl, rfl, rfl, rfl⟩, ⟨rfl, rfl, rfl, rfl, rfl, rfl, rfl, rfl, rfl⟩, ⟨rfl, rfl, rfl, rfl, rfl, rfl, rfl, rfl, rfl⟩, ⟨fun j => 39 + 9 * j, rfl, ⟨h_f 5, rfl, fun j hj => if_pos hj⟩, fun j hj => ?_, fun j hj => by show 39 ≤ 39 + 9 * j ∧ 39 + 9 * j + 9 ≤ 84; omega, fun i j hi hj hij => by show 39 + 9 * i + 9 ≤ 39 + 9 * j ∨ 39 + 9 * j + 9 ≤ 39 + 9 * i; omega⟩, rfl, rfl⟩
  match j, hj with
  | 0, _ => exact ⟨rfl, rfl, rfl, rfl, rfl, rfl, rfl, rfl, rfl⟩
  | 1, _ => exact ⟨rfl, rfl, rfl, rfl, rfl, rfl, rfl, rfl, rfl⟩
  | 2, _ => exact ⟨rfl, rfl, rfl, rfl, rfl, rfl, rfl, rfl, rfl⟩
  | 3, _ => exact ⟨rfl, rfl, rfl, rfl, rfl, rfl, rfl, rfl, rfl⟩
  | 4, _ => exact ⟨rfl, rfl, rfl, rfl, rfl, rfl, rfl, rfl, rfl⟩
/-! the reference -/
abbrev m_oN : va_E := .inr (4, [.null, .null, .int 0, .null, .int 0, .null, .null, .int 0, .null, .null, .int 0, .int 0, .int 0])
abbrev m_o (pm ik ty tm sp wr : Int32) : va_E := .inr (4, [.ref 87, .ref 88, .int pm, .ref 89, .int ik, .ref 90, .ref 91, .int ty, .ref 92, .ref 93, .int tm, .int sp, .int wr])
end M1
end
