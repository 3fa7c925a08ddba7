section
-- ===== PART A: goes FIRST, ahead of the names: the tables' words, and 'selects' of the private methods out of them =====
/-- a private method of a class that the tables say can be made, by its rows of tables_1 -/
def lw_okq (q : MethodName × Nat) : Prop := (q.1.cls ≠ "java/lang/invoke/MethodHandle" ∧ q.1.cls ≠ "java/lang/invoke/VarHandle") ∧ Cond.instantiable q.1.cls q.2 ∈ tables_1 ∧ Cond.privateMethod q.1 ∈ tables_1 ∧ Cond.instanceMethod q.1 ∈ tables_1
theorem lw_p0 : lw_okq (⟨"LiftingStairs", "recordUnlessError", "(I)I"⟩, 7) := ⟨⟨by decide +kernel, by decide +kernel⟩, List.mem_of_getElem? (i := 9) (by decide +kernel), List.mem_of_getElem? (i := 143) (by decide +kernel), List.mem_of_getElem? (i := 144) (by decide +kernel)⟩
theorem lw_p1 : lw_okq (⟨"LiftingStairs$History", "makeOldestLast", "()V"⟩, 2) := ⟨⟨by decide +kernel, by decide +kernel⟩, List.mem_of_getElem? (i := 67) (by decide +kernel), List.mem_of_getElem? (i := 151) (by decide +kernel), List.mem_of_getElem? (i := 152) (by decide +kernel)⟩
theorem lw_p2 : lw_okq (⟨"LiftingStairs$Game", "liftThosePassed", "(I)V"⟩, 13) := ⟨⟨by decide +kernel, by decide +kernel⟩, List.mem_of_getElem? (i := 17) (by decide +kernel), List.mem_of_getElem? (i := 241) (by decide +kernel), List.mem_of_getElem? (i := 242) (by decide +kernel)⟩
theorem lw_p3 : lw_okq (⟨"LiftingStairs$Game", "isPassed", "(II)Z"⟩, 13) := ⟨⟨by decide +kernel, by decide +kernel⟩, List.mem_of_getElem? (i := 17) (by decide +kernel), List.mem_of_getElem? (i := 245) (by decide +kernel), List.mem_of_getElem? (i := 246) (by decide +kernel)⟩
theorem lw_p4 : lw_okq (⟨"LiftingStairs$Game", "comeTo", "(II)V"⟩, 13) := ⟨⟨by decide +kernel, by decide +kernel⟩, List.mem_of_getElem? (i := 17) (by decide +kernel), List.mem_of_getElem? (i := 249) (by decide +kernel), List.mem_of_getElem? (i := 250) (by decide +kernel)⟩
theorem lw_p5 : lw_okq (⟨"LiftingStairs$Game", "goToNextMover", "()V"⟩, 13) := ⟨⟨by decide +kernel, by decide +kernel⟩, List.mem_of_getElem? (i := 17) (by decide +kernel), List.mem_of_getElem? (i := 253) (by decide +kernel), List.mem_of_getElem? (i := 254) (by decide +kernel)⟩
theorem lw_p6 : lw_okq (⟨"LiftingStairs$Game", "behind", "(I)I"⟩, 13) := ⟨⟨by decide +kernel, by decide +kernel⟩, List.mem_of_getElem? (i := 17) (by decide +kernel), List.mem_of_getElem? (i := 257) (by decide +kernel), List.mem_of_getElem? (i := 258) (by decide +kernel)⟩
theorem lw_p7 : lw_okq (⟨"LiftingStairs$Game", "climbersAheadOf", "(I)I"⟩, 13) := ⟨⟨by decide +kernel, by decide +kernel⟩, List.mem_of_getElem? (i := 17) (by decide +kernel), List.mem_of_getElem? (i := 331) (by decide +kernel), List.mem_of_getElem? (i := 332) (by decide +kernel)⟩
theorem lw_p8 : lw_okq (⟨"LiftingStairs", "rollInTrial", "(I)I"⟩, 7) := ⟨⟨by decide +kernel, by decide +kernel⟩, List.mem_of_getElem? (i := 9) (by decide +kernel), List.mem_of_getElem? (i := 340) (by decide +kernel), List.mem_of_getElem? (i := 341) (by decide +kernel)⟩
theorem lw_p9 : lw_okq (⟨"LiftingStairs", "gainOfRoll", "(I)I"⟩, 7) := ⟨⟨by decide +kernel, by decide +kernel⟩, List.mem_of_getElem? (i := 9) (by decide +kernel), List.mem_of_getElem? (i := 351) (by decide +kernel), List.mem_of_getElem? (i := 352) (by decide +kernel)⟩
theorem lw_p10 : lw_okq (⟨"LiftingStairs$Game", "reachedWithOneMore", "(J)J"⟩, 13) := ⟨⟨by decide +kernel, by decide +kernel⟩, List.mem_of_getElem? (i := 17) (by decide +kernel), List.mem_of_getElem? (i := 373) (by decide +kernel), List.mem_of_getElem? (i := 374) (by decide +kernel)⟩
theorem lw_p11 : lw_okq (⟨"LiftingStairs$Game", "reachedFrom", "(I)J"⟩, 13) := ⟨⟨by decide +kernel, by decide +kernel⟩, List.mem_of_getElem? (i := 17) (by decide +kernel), List.mem_of_getElem? (i := 377) (by decide +kernel), List.mem_of_getElem? (i := 378) (by decide +kernel)⟩
theorem lw_p12 : lw_okq (⟨"LiftingStairs", "makeMovesOfText", "()I"⟩, 7) := ⟨⟨by decide +kernel, by decide +kernel⟩, List.mem_of_getElem? (i := 9) (by decide +kernel), List.mem_of_getElem? (i := 428) (by decide +kernel), List.mem_of_getElem? (i := 429) (by decide +kernel)⟩
theorem lw_p13 : lw_okq (⟨"LiftingStairs", "makeMoveAt", "(I)I"⟩, 7) := ⟨⟨by decide +kernel, by decide +kernel⟩, List.mem_of_getElem? (i := 9) (by decide +kernel), List.mem_of_getElem? (i := 440) (by decide +kernel), List.mem_of_getElem? (i := 441) (by decide +kernel)⟩
theorem lw_p14 : lw_okq (⟨"LiftingStairsModel", "record", "()V"⟩, 13) := ⟨⟨by decide +kernel, by decide +kernel⟩, List.mem_of_getElem? (i := 473) (by decide +kernel), List.mem_of_getElem? (i := 531) (by decide +kernel), List.mem_of_getElem? (i := 532) (by decide +kernel)⟩
theorem lw_p15 : lw_okq (⟨"LiftingStairsModel", "climbersOn", "(I)I"⟩, 13) := ⟨⟨by decide +kernel, by decide +kernel⟩, List.mem_of_getElem? (i := 473) (by decide +kernel), List.mem_of_getElem? (i := 542) (by decide +kernel), List.mem_of_getElem? (i := 543) (by decide +kernel)⟩
def lw_privs_1 : List (MethodName × Nat) := [(⟨"LiftingStairs", "recordUnlessError", "(I)I"⟩, 7), (⟨"LiftingStairs$History", "makeOldestLast", "()V"⟩, 2), (⟨"LiftingStairs$Game", "liftThosePassed", "(I)V"⟩, 13), (⟨"LiftingStairs$Game", "isPassed", "(II)Z"⟩, 13), (⟨"LiftingStairs$Game", "comeTo", "(II)V"⟩, 13), (⟨"LiftingStairs$Game", "goToNextMover", "()V"⟩, 13), (⟨"LiftingStairs$Game", "behind", "(I)I"⟩, 13), (⟨"LiftingStairs$Game", "climbersAheadOf", "(I)I"⟩, 13), (⟨"LiftingStairs", "rollInTrial", "(I)I"⟩, 7), (⟨"LiftingStairs", "gainOfRoll", "(I)I"⟩, 7), (⟨"LiftingStairs$Game", "reachedWithOneMore", "(J)J"⟩, 13), (⟨"LiftingStairs$Game", "reachedFrom", "(I)J"⟩, 13), (⟨"LiftingStairs", "makeMovesOfText", "()I"⟩, 7), (⟨"LiftingStairs", "makeMoveAt", "(I)I"⟩, 7), (⟨"LiftingStairsModel", "record", "()V"⟩, 13), (⟨"LiftingStairsModel", "climbersOn", "(I)I"⟩, 13)]
theorem lw_r1 : ∀ q ∈ lw_privs_1, lw_okq q := List.forall_mem_cons.mpr ⟨lw_p0, List.forall_mem_cons.mpr ⟨lw_p1, List.forall_mem_cons.mpr ⟨lw_p2, List.forall_mem_cons.mpr ⟨lw_p3, List.forall_mem_cons.mpr ⟨lw_p4, List.forall_mem_cons.mpr ⟨lw_p5, List.forall_mem_cons.mpr ⟨lw_p6, List.forall_mem_cons.mpr ⟨lw_p7, List.forall_mem_cons.mpr ⟨lw_p8, List.forall_mem_cons.mpr ⟨lw_p9, List.forall_mem_cons.mpr ⟨lw_p10, List.forall_mem_cons.mpr ⟨lw_p11, List.forall_mem_cons.mpr ⟨lw_p12, List.forall_mem_cons.mpr ⟨lw_p13, List.forall_mem_cons.mpr ⟨lw_p14, List.forall_mem_cons.mpr ⟨lw_p15, fun _ h => absurd h List.not_mem_nil⟩⟩⟩⟩⟩⟩⟩⟩⟩⟩⟩⟩⟩⟩⟩⟩
theorem lw_p16 : lw_okq (⟨"LiftingStairsModel", "of", "(II)I"⟩, 13) := ⟨⟨by decide +kernel, by decide +kernel⟩, List.mem_of_getElem? (i := 473) (by decide +kernel), List.mem_of_getElem? (i := 546) (by decide +kernel), List.mem_of_getElem? (i := 547) (by decide +kernel)⟩
theorem lw_p17 : lw_okq (⟨"LiftingStairsModel", "isLanding", "(I)Z"⟩, 13) := ⟨⟨by decide +kernel, by decide +kernel⟩, List.mem_of_getElem? (i := 473) (by decide +kernel), List.mem_of_getElem? (i := 550) (by decide +kernel), List.mem_of_getElem? (i := 551) (by decide +kernel)⟩
theorem lw_p18 : lw_okq (⟨"LiftingStairsModel", "carpetFrom", "(I)I"⟩, 13) := ⟨⟨by decide +kernel, by decide +kernel⟩, List.mem_of_getElem? (i := 473) (by decide +kernel), List.mem_of_getElem? (i := 554) (by decide +kernel), List.mem_of_getElem? (i := 555) (by decide +kernel)⟩
theorem lw_p19 : lw_okq (⟨"LiftingStairsModel", "upper", "(I)I"⟩, 13) := ⟨⟨by decide +kernel, by decide +kernel⟩, List.mem_of_getElem? (i := 473) (by decide +kernel), List.mem_of_getElem? (i := 558) (by decide +kernel), List.mem_of_getElem? (i := 559) (by decide +kernel)⟩
theorem lw_p20 : lw_okq (⟨"LiftingStairsModel", "whyNotLay", "(II)I"⟩, 13) := ⟨⟨by decide +kernel, by decide +kernel⟩, List.mem_of_getElem? (i := 473) (by decide +kernel), List.mem_of_getElem? (i := 566) (by decide +kernel), List.mem_of_getElem? (i := 567) (by decide +kernel)⟩
theorem lw_p21 : lw_okq (⟨"LiftingStairsModel", "isStep", "(I)Z"⟩, 13) := ⟨⟨by decide +kernel, by decide +kernel⟩, List.mem_of_getElem? (i := 473) (by decide +kernel), List.mem_of_getElem? (i := 570) (by decide +kernel), List.mem_of_getElem? (i := 571) (by decide +kernel)⟩
theorem lw_p22 : lw_okq (⟨"LiftingStairsModel", "carpetsTo", "(I)I"⟩, 13) := ⟨⟨by decide +kernel, by decide +kernel⟩, List.mem_of_getElem? (i := 473) (by decide +kernel), List.mem_of_getElem? (i := 574) (by decide +kernel), List.mem_of_getElem? (i := 575) (by decide +kernel)⟩
theorem lw_p23 : lw_okq (⟨"LiftingStairsModel", "lower", "(I)I"⟩, 13) := ⟨⟨by decide +kernel, by decide +kernel⟩, List.mem_of_getElem? (i := 473) (by decide +kernel), List.mem_of_getElem? (i := 578) (by decide +kernel), List.mem_of_getElem? (i := 579) (by decide +kernel)⟩
theorem lw_p24 : lw_okq (⟨"LiftingStairsModel", "laysCarpet", "(II)I"⟩, 13) := ⟨⟨by decide +kernel, by decide +kernel⟩, List.mem_of_getElem? (i := 473) (by decide +kernel), List.mem_of_getElem? (i := 582) (by decide +kernel), List.mem_of_getElem? (i := 583) (by decide +kernel)⟩
theorem lw_p25 : lw_okq (⟨"LiftingStairsModel", "whyNotPut", "(I)I"⟩, 13) := ⟨⟨by decide +kernel, by decide +kernel⟩, List.mem_of_getElem? (i := 473) (by decide +kernel), List.mem_of_getElem? (i := 594) (by decide +kernel), List.mem_of_getElem? (i := 595) (by decide +kernel)⟩
theorem lw_p26 : lw_okq (⟨"LiftingStairsModel", "puts", "(I)I"⟩, 13) := ⟨⟨by decide +kernel, by decide +kernel⟩, List.mem_of_getElem? (i := 473) (by decide +kernel), List.mem_of_getElem? (i := 598) (by decide +kernel), List.mem_of_getElem? (i := 599) (by decide +kernel)⟩
theorem lw_p27 : lw_okq (⟨"LiftingStairsModel", "landings", "()I"⟩, 13) := ⟨⟨by decide +kernel, by decide +kernel⟩, List.mem_of_getElem? (i := 473) (by decide +kernel), List.mem_of_getElem? (i := 602) (by decide +kernel), List.mem_of_getElem? (i := 603) (by decide +kernel)⟩
theorem lw_p28 : lw_okq (⟨"LiftingStairsModel", "joins", "()I"⟩, 13) := ⟨⟨by decide +kernel, by decide +kernel⟩, List.mem_of_getElem? (i := 473) (by decide +kernel), List.mem_of_getElem? (i := 617) (by decide +kernel), List.mem_of_getElem? (i := 618) (by decide +kernel)⟩
theorem lw_p29 : lw_okq (⟨"LiftingStairsModel", "lays", "(III)V"⟩, 13) := ⟨⟨by decide +kernel, by decide +kernel⟩, List.mem_of_getElem? (i := 473) (by decide +kernel), List.mem_of_getElem? (i := 621) (by decide +kernel), List.mem_of_getElem? (i := 622) (by decide +kernel)⟩
theorem lw_p30 : lw_okq (⟨"LiftingStairsModel", "whyNotRoll", "(I)I"⟩, 13) := ⟨⟨by decide +kernel, by decide +kernel⟩, List.mem_of_getElem? (i := 473) (by decide +kernel), List.mem_of_getElem? (i := 629) (by decide +kernel), List.mem_of_getElem? (i := 630) (by decide +kernel)⟩
theorem lw_p31 : lw_okq (⟨"LiftingStairsModel", "rolls", "(I)I"⟩, 13) := ⟨⟨by decide +kernel, by decide +kernel⟩, List.mem_of_getElem? (i := 473) (by decide +kernel), List.mem_of_getElem? (i := 633) (by decide +kernel), List.mem_of_getElem? (i := 634) (by decide +kernel)⟩
def lw_privs_2 : List (MethodName × Nat) := [(⟨"LiftingStairsModel", "of", "(II)I"⟩, 13), (⟨"LiftingStairsModel", "isLanding", "(I)Z"⟩, 13), (⟨"LiftingStairsModel", "carpetFrom", "(I)I"⟩, 13), (⟨"LiftingStairsModel", "upper", "(I)I"⟩, 13), (⟨"LiftingStairsModel", "whyNotLay", "(II)I"⟩, 13), (⟨"LiftingStairsModel", "isStep", "(I)Z"⟩, 13), (⟨"LiftingStairsModel", "carpetsTo", "(I)I"⟩, 13), (⟨"LiftingStairsModel", "lower", "(I)I"⟩, 13), (⟨"LiftingStairsModel", "laysCarpet", "(II)I"⟩, 13), (⟨"LiftingStairsModel", "whyNotPut", "(I)I"⟩, 13), (⟨"LiftingStairsModel", "puts", "(I)I"⟩, 13), (⟨"LiftingStairsModel", "landings", "()I"⟩, 13), (⟨"LiftingStairsModel", "joins", "()I"⟩, 13), (⟨"LiftingStairsModel", "lays", "(III)V"⟩, 13), (⟨"LiftingStairsModel", "whyNotRoll", "(I)I"⟩, 13), (⟨"LiftingStairsModel", "rolls", "(I)I"⟩, 13)]
theorem lw_r2 : ∀ q ∈ lw_privs_2, lw_okq q := List.forall_mem_cons.mpr ⟨lw_p16, List.forall_mem_cons.mpr ⟨lw_p17, List.forall_mem_cons.mpr ⟨lw_p18, List.forall_mem_cons.mpr ⟨lw_p19, List.forall_mem_cons.mpr ⟨lw_p20, List.forall_mem_cons.mpr ⟨lw_p21, List.forall_mem_cons.mpr ⟨lw_p22, List.forall_mem_cons.mpr ⟨lw_p23, List.forall_mem_cons.mpr ⟨lw_p24, List.forall_mem_cons.mpr ⟨lw_p25, List.forall_mem_cons.mpr ⟨lw_p26, List.forall_mem_cons.mpr ⟨lw_p27, List.forall_mem_cons.mpr ⟨lw_p28, List.forall_mem_cons.mpr ⟨lw_p29, List.forall_mem_cons.mpr ⟨lw_p30, List.forall_mem_cons.mpr ⟨lw_p31, fun _ h => absurd h List.not_mem_nil⟩⟩⟩⟩⟩⟩⟩⟩⟩⟩⟩⟩⟩⟩⟩⟩
theorem lw_p32 : lw_okq (⟨"LiftingStairsModel", "passedBy", "(I)I"⟩, 13) := ⟨⟨by decide +kernel, by decide +kernel⟩, List.mem_of_getElem? (i := 473) (by decide +kernel), List.mem_of_getElem? (i := 637) (by decide +kernel), List.mem_of_getElem? (i := 638) (by decide +kernel)⟩
theorem lw_p33 : lw_okq (⟨"LiftingStairsModel", "isPassed", "(II)Z"⟩, 13) := ⟨⟨by decide +kernel, by decide +kernel⟩, List.mem_of_getElem? (i := 473) (by decide +kernel), List.mem_of_getElem? (i := 641) (by decide +kernel), List.mem_of_getElem? (i := 642) (by decide +kernel)⟩
theorem lw_p34 : lw_okq (⟨"LiftingStairsModel", "highest", "(I)I"⟩, 13) := ⟨⟨by decide +kernel, by decide +kernel⟩, List.mem_of_getElem? (i := 473) (by decide +kernel), List.mem_of_getElem? (i := 645) (by decide +kernel), List.mem_of_getElem? (i := 646) (by decide +kernel)⟩
theorem lw_p35 : lw_okq (⟨"LiftingStairsModel", "comes", "(II)V"⟩, 13) := ⟨⟨by decide +kernel, by decide +kernel⟩, List.mem_of_getElem? (i := 473) (by decide +kernel), List.mem_of_getElem? (i := 649) (by decide +kernel), List.mem_of_getElem? (i := 650) (by decide +kernel)⟩
theorem lw_p36 : lw_okq (⟨"LiftingStairsModel", "nextMover", "()V"⟩, 13) := ⟨⟨by decide +kernel, by decide +kernel⟩, List.mem_of_getElem? (i := 473) (by decide +kernel), List.mem_of_getElem? (i := 653) (by decide +kernel), List.mem_of_getElem? (i := 654) (by decide +kernel)⟩
theorem lw_p37 : lw_okq (⟨"LiftingStairsModel", "isClimber", "(I)Z"⟩, 13) := ⟨⟨by decide +kernel, by decide +kernel⟩, List.mem_of_getElem? (i := 473) (by decide +kernel), List.mem_of_getElem? (i := 665) (by decide +kernel), List.mem_of_getElem? (i := 666) (by decide +kernel)⟩
theorem lw_p38 : lw_okq (⟨"LiftingStairsModel", "progress", "(I)I"⟩, 13) := ⟨⟨by decide +kernel, by decide +kernel⟩, List.mem_of_getElem? (i := 473) (by decide +kernel), List.mem_of_getElem? (i := 669) (by decide +kernel), List.mem_of_getElem? (i := 670) (by decide +kernel)⟩
theorem lw_p39 : lw_okq (⟨"LiftingStairsModel", "allTops", "()I"⟩, 13) := ⟨⟨by decide +kernel, by decide +kernel⟩, List.mem_of_getElem? (i := 473) (by decide +kernel), List.mem_of_getElem? (i := 689) (by decide +kernel), List.mem_of_getElem? (i := 690) (by decide +kernel)⟩
theorem lw_p40 : lw_okq (⟨"LiftingStairsModel", "ahead", "(I)I"⟩, 13) := ⟨⟨by decide +kernel, by decide +kernel⟩, List.mem_of_getElem? (i := 473) (by decide +kernel), List.mem_of_getElem? (i := 697) (by decide +kernel), List.mem_of_getElem? (i := 698) (by decide +kernel)⟩
theorem lw_p41 : lw_okq (⟨"LiftingStairsModel", "putAside", "()V"⟩, 13) := ⟨⟨by decide +kernel, by decide +kernel⟩, List.mem_of_getElem? (i := 473) (by decide +kernel), List.mem_of_getElem? (i := 705) (by decide +kernel), List.mem_of_getElem? (i := 706) (by decide +kernel)⟩
theorem lw_p42 : lw_okq (⟨"LiftingStairsModel", "takeBack", "()V"⟩, 13) := ⟨⟨by decide +kernel, by decide +kernel⟩, List.mem_of_getElem? (i := 473) (by decide +kernel), List.mem_of_getElem? (i := 709) (by decide +kernel), List.mem_of_getElem? (i := 710) (by decide +kernel)⟩
theorem lw_p43 : lw_okq (⟨"LiftingStairsModel", "worth", "(I)I"⟩, 13) := ⟨⟨by decide +kernel, by decide +kernel⟩, List.mem_of_getElem? (i := 473) (by decide +kernel), List.mem_of_getElem? (i := 717) (by decide +kernel), List.mem_of_getElem? (i := 718) (by decide +kernel)⟩
theorem lw_p44 : lw_okq (⟨"LiftingStairsModel", "readMove", "()V"⟩, 13) := ⟨⟨by decide +kernel, by decide +kernel⟩, List.mem_of_getElem? (i := 473) (by decide +kernel), List.mem_of_getElem? (i := 741) (by decide +kernel), List.mem_of_getElem? (i := 742) (by decide +kernel)⟩
theorem lw_p45 : lw_okq (⟨"LiftingStairsModel", "letter", "()I"⟩, 13) := ⟨⟨by decide +kernel, by decide +kernel⟩, List.mem_of_getElem? (i := 473) (by decide +kernel), List.mem_of_getElem? (i := 745) (by decide +kernel), List.mem_of_getElem? (i := 746) (by decide +kernel)⟩
theorem lw_p46 : lw_okq (⟨"LiftingStairsModel", "wants", "(Z)V"⟩, 13) := ⟨⟨by decide +kernel, by decide +kernel⟩, List.mem_of_getElem? (i := 473) (by decide +kernel), List.mem_of_getElem? (i := 749) (by decide +kernel), List.mem_of_getElem? (i := 750) (by decide +kernel)⟩
theorem lw_p47 : lw_okq (⟨"LiftingStairsModel", "number", "()I"⟩, 13) := ⟨⟨by decide +kernel, by decide +kernel⟩, List.mem_of_getElem? (i := 473) (by decide +kernel), List.mem_of_getElem? (i := 753) (by decide +kernel), List.mem_of_getElem? (i := 754) (by decide +kernel)⟩
def lw_privs_3 : List (MethodName × Nat) := [(⟨"LiftingStairsModel", "passedBy", "(I)I"⟩, 13), (⟨"LiftingStairsModel", "isPassed", "(II)Z"⟩, 13), (⟨"LiftingStairsModel", "highest", "(I)I"⟩, 13), (⟨"LiftingStairsModel", "comes", "(II)V"⟩, 13), (⟨"LiftingStairsModel", "nextMover", "()V"⟩, 13), (⟨"LiftingStairsModel", "isClimber", "(I)Z"⟩, 13), (⟨"LiftingStairsModel", "progress", "(I)I"⟩, 13), (⟨"LiftingStairsModel", "allTops", "()I"⟩, 13), (⟨"LiftingStairsModel", "ahead", "(I)I"⟩, 13), (⟨"LiftingStairsModel", "putAside", "()V"⟩, 13), (⟨"LiftingStairsModel", "takeBack", "()V"⟩, 13), (⟨"LiftingStairsModel", "worth", "(I)I"⟩, 13), (⟨"LiftingStairsModel", "readMove", "()V"⟩, 13), (⟨"LiftingStairsModel", "letter", "()I"⟩, 13), (⟨"LiftingStairsModel", "wants", "(Z)V"⟩, 13), (⟨"LiftingStairsModel", "number", "()I"⟩, 13)]
theorem lw_r3 : ∀ q ∈ lw_privs_3, lw_okq q := List.forall_mem_cons.mpr ⟨lw_p32, List.forall_mem_cons.mpr ⟨lw_p33, List.forall_mem_cons.mpr ⟨lw_p34, List.forall_mem_cons.mpr ⟨lw_p35, List.forall_mem_cons.mpr ⟨lw_p36, List.forall_mem_cons.mpr ⟨lw_p37, List.forall_mem_cons.mpr ⟨lw_p38, List.forall_mem_cons.mpr ⟨lw_p39, List.forall_mem_cons.mpr ⟨lw_p40, List.forall_mem_cons.mpr ⟨lw_p41, List.forall_mem_cons.mpr ⟨lw_p42, List.forall_mem_cons.mpr ⟨lw_p43, List.forall_mem_cons.mpr ⟨lw_p44, List.forall_mem_cons.mpr ⟨lw_p45, List.forall_mem_cons.mpr ⟨lw_p46, List.forall_mem_cons.mpr ⟨lw_p47, fun _ h => absurd h List.not_mem_nil⟩⟩⟩⟩⟩⟩⟩⟩⟩⟩⟩⟩⟩⟩⟩⟩
theorem lw_p48 : lw_okq (⟨"LiftingStairsModel", "makeOne", "(I)I"⟩, 13) := ⟨⟨by decide +kernel, by decide +kernel⟩, List.mem_of_getElem? (i := 473) (by decide +kernel), List.mem_of_getElem? (i := 762) (by decide +kernel), List.mem_of_getElem? (i := 763) (by decide +kernel)⟩
def lw_privs_4 : List (MethodName × Nat) := [(⟨"LiftingStairsModel", "makeOne", "(I)I"⟩, 13)]
theorem lw_r4 : ∀ q ∈ lw_privs_4, lw_okq q := List.forall_mem_cons.mpr ⟨lw_p48, fun _ h => absurd h List.not_mem_nil⟩
def lw_privs : List (MethodName × Nat) := lw_privs_1 ++ (lw_privs_2 ++ (lw_privs_3 ++ (lw_privs_4)))
def lw_tbl : List Cond := k2_sels lw_privs ++ tables_1
theorem lw_privs_ok : ∀ q ∈ lw_privs, lw_okq q := by
  show ∀ q ∈ lw_privs_1 ++ (lw_privs_2 ++ (lw_privs_3 ++ (lw_privs_4))), lw_okq q
  exact List.forall_mem_append.mpr ⟨lw_r1, List.forall_mem_append.mpr ⟨lw_r2, List.forall_mem_append.mpr ⟨lw_r3, lw_r4⟩⟩⟩
end
section
theorem goodIn_r {big : List Cond} (ws : List Cond) (ps : List Nat) (hp : ws = ps.filterMap (fun i => big[i]?)) (h : ws.all goodWord = true) : GoodIn big ws := by
  intro w hw
  have h1 := List.all_eq_true.mp h w hw
  rw [hp] at hw
  obtain ⟨i, -, hi⟩ := List.mem_filterMap.mp hw
  have hm : w ∈ big := by first | exact List.mem_of_getElem? hi | exact List.getElem?_mem hi
  exact ⟨hm, good_of_word h1⟩
theorem goodIn_app {big a b : List Cond} (ha : GoodIn big a) (hb : GoodIn big b) : GoodIn big (a ++ b) := fun w h => (List.mem_append.mp h).elim (ha w) (hb w)
theorem goodIn_ca {big a b : List Cond} {c : Cond} (ha : GoodIn big (c :: a)) (hb : GoodIn big b) : GoodIn big (c :: (a ++ b)) := fun w h => (List.mem_cons.mp h).elim (fun e => ha w (List.mem_cons.mpr (Or.inl e))) (fun h => (List.mem_append.mp h).elim (fun h => ha w (List.mem_cons.mpr (Or.inr h))) (hb w))
theorem goodIn_sub {big ws : List Cond} (hm : ∀ w ∈ ws, w ∈ big) (h : ws.all goodWord = true) : GoodIn big ws := fun w hw => ⟨hm w hw, good_of_word (List.all_eq_true.mp h w hw)⟩
def RX0 : String := "LiftingStairs$Game"
def TX0 : u_T := fun k => match k with
  | 0 => ("LiftingStairs$Game", "lowerEnds", "[I", true)
  | 1 => ("LiftingStairs$Game", "landings", "[Z", true)
  | 2 => ("LiftingStairs$Game", "places", "[I", true)
  | 3 => ("LiftingStairs$Game", "tops", "[I", true)
  | 4 => ("LiftingStairs$Game", "rests", "[I", true)
  | 5 => ("LiftingStairs$Game", "timesLifted", "[I", true)
  | 6 => ("LiftingStairs$Game", "liftsMade", "[I", true)
  | 7 => ("LiftingStairs$Game", "slips", "[I", true)
  | 8 => ("LiftingStairs$Game", "top", "I", false)
  | 9 => ("LiftingStairs$Game", "climbers", "I", false)
  | 10 => ("LiftingStairs$Game", "mover", "I", false)
  | 11 => ("LiftingStairs$Game", "rolls", "I", false)
  | _ => ("LiftingStairs$Game", "turnsLeftOut", "I", false)
def tyX0 : Nat → FieldType := fun k => match k with
  | 0 => .array .int
  | 1 => .array .boolean
  | 2 => .array .int
  | 3 => .array .int
  | 4 => .array .int
  | 5 => .array .int
  | 6 => .array .int
  | 7 => .array .int
  | 8 => .int
  | 9 => .int
  | 10 => .int
  | 11 => .int
  | _ => .int
abbrev wsX00 : List Cond := u_ws RX0 TX0 13
theorem nmX0 : ∀ a, a < 13 → ∀ b, b < 13 → a ≠ b → (TX0 a).2.1 ≠ (TX0 b).2.1 := by decide +kernel
theorem tyX0_ok : ∀ k, k < 13 → parseFieldDescriptor (TX0 k).2.2.1 = some (tyX0 k) := by decide +kernel
abbrev cX0_init : ByteArray := prog_2_method_1_code
def yX0_init : MethodName := ⟨RX0, "<init>", "()V"⟩
abbrev cX0_copyFrom : ByteArray := prog_2_method_2_code
def yX0_copyFrom : MethodName := ⟨RX0, "copyFrom", "(LLiftingStairs$Game;)V"⟩
abbrev cX0_isBelowTop : ByteArray := prog_2_method_3_code
def yX0_isBelowTop : MethodName := ⟨RX0, "isBelowTop", "(I)Z"⟩
abbrev cX0_isClimber : ByteArray := prog_2_method_4_code
def yX0_isClimber : MethodName := ⟨RX0, "isClimber", "(I)Z"⟩
abbrev cX0_hasMover : ByteArray := prog_2_method_5_code
def yX0_hasMover : MethodName := ⟨RX0, "hasMover", "()Z"⟩
abbrev cX0_changeTop : ByteArray := prog_2_method_6_code
def yX0_changeTop : MethodName := ⟨RX0, "changeTop", "(I)I"⟩
abbrev cX0_layCarpet : ByteArray := prog_2_method_7_code
def yX0_layCarpet : MethodName := ⟨RX0, "layCarpet", "(II)I"⟩
abbrev cX0_takeCarpet : ByteArray := prog_2_method_8_code
def yX0_takeCarpet : MethodName := ⟨RX0, "takeCarpet", "(I)I"⟩
abbrev cX0_putLanding : ByteArray := prog_2_method_9_code
def yX0_putLanding : MethodName := ⟨RX0, "putLanding", "(I)I"⟩
abbrev cX0_removeLanding : ByteArray := prog_2_method_10_code
def yX0_removeLanding : MethodName := ⟨RX0, "removeLanding", "(I)I"⟩
abbrev cX0_addClimber : ByteArray := prog_2_method_11_code
def yX0_addClimber : MethodName := ⟨RX0, "addClimber", "()I"⟩
abbrev cX0_makeRoll : ByteArray := prog_2_method_12_code
def yX0_makeRoll : MethodName := ⟨RX0, "makeRoll", "(I)I"⟩
abbrev cX0_makePass : ByteArray := prog_2_method_13_code
def yX0_makePass : MethodName := ⟨RX0, "makePass", "()I"⟩
abbrev cX0_wouldLift : ByteArray := prog_2_method_14_code
def yX0_wouldLift : MethodName := ⟨RX0, "wouldLift", "(I)Z"⟩
abbrev cX0_isPassed : ByteArray := prog_2_method_15_code
def yX0_isPassed : MethodName := ⟨RX0, "isPassed", "(II)Z"⟩
abbrev cX0_liftThosePassed : ByteArray := prog_2_method_16_code
def yX0_liftThosePassed : MethodName := ⟨RX0, "liftThosePassed", "(I)V"⟩
abbrev cX0_comeTo : ByteArray := prog_2_method_17_code
def yX0_comeTo : MethodName := ⟨RX0, "comeTo", "(II)V"⟩
abbrev cX0_goToNextMover : ByteArray := prog_2_method_18_code
def yX0_goToNextMover : MethodName := ⟨RX0, "goToNextMover", "()V"⟩
abbrev cX0_behind : ByteArray := prog_2_method_19_code
def yX0_behind : MethodName := ⟨RX0, "behind", "(I)I"⟩
abbrev cX0_isLanding : ByteArray := prog_2_method_20_code
def yX0_isLanding : MethodName := ⟨RX0, "isLanding", "(I)Z"⟩
abbrev cX0_isUpperEnd : ByteArray := prog_2_method_21_code
def yX0_isUpperEnd : MethodName := ⟨RX0, "isUpperEnd", "(I)Z"⟩
abbrev cX0_climbersOn : ByteArray := prog_2_method_22_code
def yX0_climbersOn : MethodName := ⟨RX0, "climbersOn", "(I)I"⟩
abbrev cX0_countCarpets : ByteArray := prog_2_method_23_code
def yX0_countCarpets : MethodName := ⟨RX0, "countCarpets", "()I"⟩
abbrev cX0_countLandings : ByteArray := prog_2_method_24_code
def yX0_countLandings : MethodName := ⟨RX0, "countLandings", "()I"⟩
abbrev cX0_lowerEndsAt : ByteArray := prog_2_method_25_code
def yX0_lowerEndsAt : MethodName := ⟨RX0, "lowerEndsAt", "(I)I"⟩
abbrev cX0_partOfStep : ByteArray := prog_2_method_26_code
def yX0_partOfStep : MethodName := ⟨RX0, "partOfStep", "(II)I"⟩
abbrev cX0_partOfClimber : ByteArray := prog_2_method_27_code
def yX0_partOfClimber : MethodName := ⟨RX0, "partOfClimber", "(II)I"⟩
abbrev cX0_progressOf : ByteArray := prog_2_method_28_code
def yX0_progressOf : MethodName := ⟨RX0, "progressOf", "(I)I"⟩
abbrev cX0_totalOf : ByteArray := prog_2_method_29_code
def yX0_totalOf : MethodName := ⟨RX0, "totalOf", "(I)I"⟩
abbrev cX0_liftsOfAll : ByteArray := prog_2_method_30_code
def yX0_liftsOfAll : MethodName := ⟨RX0, "liftsOfAll", "()I"⟩
abbrev cX0_slipsOfAll : ByteArray := prog_2_method_31_code
def yX0_slipsOfAll : MethodName := ⟨RX0, "slipsOfAll", "()I"⟩
abbrev cX0_topsOfAll : ByteArray := prog_2_method_32_code
def yX0_topsOfAll : MethodName := ⟨RX0, "topsOfAll", "()I"⟩
abbrev cX0_sumOf : ByteArray := prog_2_method_33_code
def yX0_sumOf : MethodName := ⟨RX0, "sumOf", "([I)I"⟩
abbrev cX0_climberAtPlace : ByteArray := prog_2_method_34_code
def yX0_climberAtPlace : MethodName := ⟨RX0, "climberAtPlace", "(I)I"⟩
abbrev cX0_climbersAheadOf : ByteArray := prog_2_method_35_code
def yX0_climbersAheadOf : MethodName := ⟨RX0, "climbersAheadOf", "(I)I"⟩
abbrev cX0_fewestRollsOf : ByteArray := prog_2_method_36_code
def yX0_fewestRollsOf : MethodName := ⟨RX0, "fewestRollsOf", "(I)I"⟩
abbrev cX0_reachedWithOneMore : ByteArray := prog_2_method_37_code
def yX0_reachedWithOneMore : MethodName := ⟨RX0, "reachedWithOneMore", "(J)J"⟩
abbrev cX0_reachedFrom : ByteArray := prog_2_method_38_code
def yX0_reachedFrom : MethodName := ⟨RX0, "reachedFrom", "(I)J"⟩
def RX1 : String := "LiftingStairs$History"
def TX1 : u_T := fun k => match k with
  | 0 => ("LiftingStairs$History", "games", "[LLiftingStairs$Game;", true)
  | _ => ("LiftingStairs$History", "count", "I", false)
def tyX1 : Nat → FieldType := fun k => match k with
  | 0 => .array (.object "LiftingStairs$Game")
  | _ => .int
abbrev wsX10 : List Cond := u_ws RX1 TX1 2
theorem nmX1 : ∀ a, a < 2 → ∀ b, b < 2 → a ≠ b → (TX1 a).2.1 ≠ (TX1 b).2.1 := by decide +kernel
theorem tyX1_ok : ∀ k, k < 2 → parseFieldDescriptor (TX1 k).2.2.1 = some (tyX1 k) := by decide +kernel
abbrev cX1_init : ByteArray := prog_3_method_1_code
def yX1_init : MethodName := ⟨RX1, "<init>", "()V"⟩
abbrev cX1_isEmpty : ByteArray := prog_3_method_2_code
def yX1_isEmpty : MethodName := ⟨RX1, "isEmpty", "()Z"⟩
abbrev cX1_keep : ByteArray := prog_3_method_3_code
def yX1_keep : MethodName := ⟨RX1, "keep", "(LLiftingStairs$Game;)V"⟩
abbrev cX1_moveLatestTo : ByteArray := prog_3_method_4_code
def yX1_moveLatestTo : MethodName := ⟨RX1, "moveLatestTo", "(LLiftingStairs$Game;)I"⟩
abbrev cX1_makeOldestLast : ByteArray := prog_3_method_5_code
def yX1_makeOldestLast : MethodName := ⟨RX1, "makeOldestLast", "()V"⟩
def RX2 : String := "LiftingStairs$MoveText"
def TX2 : u_T := fun k => match k with
  | 0 => ("LiftingStairs$MoveText", "signs", "[C", true)
  | _ => ("LiftingStairs$MoveText", "length", "I", false)
def tyX2 : Nat → FieldType := fun k => match k with
  | 0 => .array .char
  | _ => .int
abbrev wsX20 : List Cond := u_ws RX2 TX2 2
theorem nmX2 : ∀ a, a < 2 → ∀ b, b < 2 → a ≠ b → (TX2 a).2.1 ≠ (TX2 b).2.1 := by decide +kernel
theorem tyX2_ok : ∀ k, k < 2 → parseFieldDescriptor (TX2 k).2.2.1 = some (tyX2 k) := by decide +kernel
abbrev cX2_init : ByteArray := prog_4_method_1_code
def yX2_init : MethodName := ⟨RX2, "<init>", "()V"⟩
abbrev cX2_addSign : ByteArray := prog_4_method_2_code
def yX2_addSign : MethodName := ⟨RX2, "addSign", "(I)I"⟩
abbrev cX2_dropAll : ByteArray := prog_4_method_3_code
def yX2_dropAll : MethodName := ⟨RX2, "dropAll", "()I"⟩
abbrev cX2_firstError : ByteArray := prog_4_method_4_code
def yX2_firstError : MethodName := ⟨RX2, "firstError", "()I"⟩
abbrev cX2_wantedBehind : ByteArray := prog_4_method_5_code
def yX2_wantedBehind : MethodName := ⟨RX2, "wantedBehind", "(IC)I"⟩
abbrev cX2_wantedBehindMoveStart : ByteArray := prog_4_method_6_code
def yX2_wantedBehindMoveStart : MethodName := ⟨RX2, "wantedBehindMoveStart", "(C)I"⟩
abbrev cX2_wantedBehindComma : ByteArray := prog_4_method_7_code
def yX2_wantedBehindComma : MethodName := ⟨RX2, "wantedBehindComma", "(C)I"⟩
abbrev cX2_wantedBehindArrow : ByteArray := prog_4_method_8_code
def yX2_wantedBehindArrow : MethodName := ⟨RX2, "wantedBehindArrow", "(C)I"⟩
abbrev cX2_wantedBehindNumberStart : ByteArray := prog_4_method_9_code
def yX2_wantedBehindNumberStart : MethodName := ⟨RX2, "wantedBehindNumberStart", "(CII)I"⟩
abbrev cX2_isDigit : ByteArray := prog_4_method_10_code
def yX2_isDigit : MethodName := ⟨RX2, "isDigit", "(C)Z"⟩
abbrev cX2_signAt : ByteArray := prog_4_method_11_code
def yX2_signAt : MethodName := ⟨RX2, "signAt", "(I)C"⟩
abbrev cX2_isMoveStart : ByteArray := prog_4_method_12_code
def yX2_isMoveStart : MethodName := ⟨RX2, "isMoveStart", "(I)Z"⟩
abbrev cX2_numberAt : ByteArray := prog_4_method_13_code
def yX2_numberAt : MethodName := ⟨RX2, "numberAt", "(I)I"⟩
abbrev cX2_behindArrow : ByteArray := prog_4_method_14_code
def yX2_behindArrow : MethodName := ⟨RX2, "behindArrow", "(I)I"⟩
def RX3 : String := "LiftingStairs"
def TX3 : u_T := fun k => match k with
  | 0 => ("LiftingStairs", "game", "LLiftingStairs$Game;", true)
  | 1 => ("LiftingStairs", "ahead", "LLiftingStairs$Game;", true)
  | 2 => ("LiftingStairs", "trial", "LLiftingStairs$Game;", true)
  | 3 => ("LiftingStairs", "saved", "LLiftingStairs$Game;", true)
  | 4 => ("LiftingStairs", "history", "LLiftingStairs$History;", true)
  | 5 => ("LiftingStairs", "text", "LLiftingStairs$MoveText;", true)
  | _ => ("LiftingStairs", "hasSaved", "Z", false)
def tyX3 : Nat → FieldType := fun k => match k with
  | 0 => .object "LiftingStairs$Game"
  | 1 => .object "LiftingStairs$Game"
  | 2 => .object "LiftingStairs$Game"
  | 3 => .object "LiftingStairs$Game"
  | 4 => .object "LiftingStairs$History"
  | 5 => .object "LiftingStairs$MoveText"
  | _ => .boolean
abbrev wsX30 : List Cond := u_ws RX3 TX3 7
theorem nmX3 : ∀ a, a < 7 → ∀ b, b < 7 → a ≠ b → (TX3 a).2.1 ≠ (TX3 b).2.1 := by decide +kernel
theorem tyX3_ok : ∀ k, k < 7 → parseFieldDescriptor (TX3 k).2.2.1 = some (tyX3 k) := by decide +kernel
abbrev cX3_init : ByteArray := prog_1_method_1_code
def yX3_init : MethodName := ⟨RX3, "<init>", "()V"⟩
abbrev cX3_setTop : ByteArray := prog_1_method_2_code
def yX3_setTop : MethodName := ⟨RX3, "setTop", "(I)I"⟩
abbrev cX3_lay : ByteArray := prog_1_method_3_code
def yX3_lay : MethodName := ⟨RX3, "lay", "(II)I"⟩
abbrev cX3_take : ByteArray := prog_1_method_4_code
def yX3_take : MethodName := ⟨RX3, "take", "(I)I"⟩
abbrev cX3_put : ByteArray := prog_1_method_5_code
def yX3_put : MethodName := ⟨RX3, "put", "(I)I"⟩
abbrev cX3_remove : ByteArray := prog_1_method_6_code
def yX3_remove : MethodName := ⟨RX3, "remove", "(I)I"⟩
abbrev cX3_join : ByteArray := prog_1_method_7_code
def yX3_join : MethodName := ⟨RX3, "join", "()I"⟩
abbrev cX3_roll : ByteArray := prog_1_method_8_code
def yX3_roll : MethodName := ⟨RX3, "roll", "(I)I"⟩
abbrev cX3_pass : ByteArray := prog_1_method_9_code
def yX3_pass : MethodName := ⟨RX3, "pass", "()I"⟩
abbrev cX3_climber : ByteArray := prog_1_method_10_code
def yX3_climber : MethodName := ⟨RX3, "climber", "(II)I"⟩
abbrev cX3_turn : ByteArray := prog_1_method_11_code
def yX3_turn : MethodName := ⟨RX3, "turn", "()I"⟩
abbrev cX3_on : ByteArray := prog_1_method_12_code
def yX3_on : MethodName := ⟨RX3, "on", "(I)I"⟩
abbrev cX3_step : ByteArray := prog_1_method_13_code
def yX3_step : MethodName := ⟨RX3, "step", "(II)I"⟩
abbrev cX3_total : ByteArray := prog_1_method_14_code
def yX3_total : MethodName := ⟨RX3, "total", "(I)I"⟩
abbrev cX3_rank : ByteArray := prog_1_method_15_code
def yX3_rank : MethodName := ⟨RX3, "rank", "(I)I"⟩
abbrev cX3_ifRolled : ByteArray := prog_1_method_16_code
def yX3_ifRolled : MethodName := ⟨RX3, "ifRolled", "(II)I"⟩
abbrev cX3_bestRoll : ByteArray := prog_1_method_17_code
def yX3_bestRoll : MethodName := ⟨RX3, "bestRoll", "()I"⟩
abbrev cX3_quietRolls : ByteArray := prog_1_method_18_code
def yX3_quietRolls : MethodName := ⟨RX3, "quietRolls", "()I"⟩
abbrev cX3_rollsToTop : ByteArray := prog_1_method_19_code
def yX3_rollsToTop : MethodName := ⟨RX3, "rollsToTop", "(I)I"⟩
abbrev cX3_append : ByteArray := prog_1_method_20_code
def yX3_append : MethodName := ⟨RX3, "append", "(I)I"⟩
abbrev cX3_clearText : ByteArray := prog_1_method_21_code
def yX3_clearText : MethodName := ⟨RX3, "clearText", "()I"⟩
abbrev cX3_errorPosition : ByteArray := prog_1_method_22_code
def yX3_errorPosition : MethodName := ⟨RX3, "errorPosition", "()I"⟩
abbrev cX3_play : ByteArray := prog_1_method_23_code
def yX3_play : MethodName := ⟨RX3, "play", "()I"⟩
abbrev cX3_undo : ByteArray := prog_1_method_24_code
def yX3_undo : MethodName := ⟨RX3, "undo", "()I"⟩
abbrev cX3_save : ByteArray := prog_1_method_25_code
def yX3_save : MethodName := ⟨RX3, "save", "()I"⟩
abbrev cX3_restore : ByteArray := prog_1_method_26_code
def yX3_restore : MethodName := ⟨RX3, "restore", "()I"⟩
abbrev cX3_recordUnlessError : ByteArray := prog_1_method_27_code
def yX3_recordUnlessError : MethodName := ⟨RX3, "recordUnlessError", "(I)I"⟩
abbrev cX3_rollInTrial : ByteArray := prog_1_method_28_code
def yX3_rollInTrial : MethodName := ⟨RX3, "rollInTrial", "(I)I"⟩
abbrev cX3_gainOfRoll : ByteArray := prog_1_method_29_code
def yX3_gainOfRoll : MethodName := ⟨RX3, "gainOfRoll", "(I)I"⟩
abbrev cX3_makeMovesOfText : ByteArray := prog_1_method_30_code
def yX3_makeMovesOfText : MethodName := ⟨RX3, "makeMovesOfText", "()I"⟩
abbrev cX3_makeMoveAt : ByteArray := prog_1_method_31_code
def yX3_makeMoveAt : MethodName := ⟨RX3, "makeMoveAt", "(I)I"⟩
abbrev cX3_isRoll : ByteArray := prog_1_method_32_code
def yX3_isRoll : MethodName := ⟨RX3, "isRoll", "(I)Z"⟩
def RX4 : String := "LiftingStairsModel"
def TX4 : u_T := fun k => match k with
  | 0 => ("LiftingStairsModel", "z", "[I", true)
  | 1 => ("LiftingStairsModel", "past", "[I", true)
  | 2 => ("LiftingStairsModel", "pastMany", "I", false)
  | 3 => ("LiftingStairsModel", "kept", "[I", true)
  | 4 => ("LiftingStairsModel", "isKept", "Z", false)
  | 5 => ("LiftingStairsModel", "aside", "[I", true)
  | 6 => ("LiftingStairsModel", "buffer", "[C", true)
  | 7 => ("LiftingStairsModel", "typed", "I", false)
  | 8 => ("LiftingStairsModel", "reached", "[I", true)
  | 9 => ("LiftingStairsModel", "told", "[I", true)
  | 10 => ("LiftingStairsModel", "toldMany", "I", false)
  | 11 => ("LiftingStairsModel", "spot", "I", false)
  | _ => ("LiftingStairsModel", "wrong", "I", false)
def tyX4 : Nat → FieldType := fun k => match k with
  | 0 => .array .int
  | 1 => .array .int
  | 2 => .int
  | 3 => .array .int
  | 4 => .boolean
  | 5 => .array .int
  | 6 => .array .char
  | 7 => .int
  | 8 => .array .int
  | 9 => .array .int
  | 10 => .int
  | 11 => .int
  | _ => .int
abbrev wsX40 : List Cond := u_ws RX4 TX4 13
theorem nmX4 : ∀ a, a < 13 → ∀ b, b < 13 → a ≠ b → (TX4 a).2.1 ≠ (TX4 b).2.1 := by decide +kernel
theorem tyX4_ok : ∀ k, k < 13 → parseFieldDescriptor (TX4 k).2.2.1 = some (tyX4 k) := by decide +kernel
abbrev cX4_init : ByteArray := prog_6_method_1_code
def yX4_init : MethodName := ⟨RX4, "<init>", "()V"⟩
abbrev cX4_in : ByteArray := prog_6_method_2_code
def yX4_in : MethodName := ⟨RX4, "in", "(III)Z"⟩
abbrev cX4_of : ByteArray := prog_6_method_3_code
def yX4_of : MethodName := ⟨RX4, "of", "(II)I"⟩
abbrev cX4_lays : ByteArray := prog_6_method_4_code
def yX4_lays : MethodName := ⟨RX4, "lays", "(III)V"⟩
abbrev cX4_upper : ByteArray := prog_6_method_5_code
def yX4_upper : MethodName := ⟨RX4, "upper", "(I)I"⟩
abbrev cX4_lower : ByteArray := prog_6_method_6_code
def yX4_lower : MethodName := ⟨RX4, "lower", "(I)I"⟩
abbrev cX4_record : ByteArray := prog_6_method_7_code
def yX4_record : MethodName := ⟨RX4, "record", "()V"⟩
abbrev cX4_undo : ByteArray := prog_6_method_8_code
def yX4_undo : MethodName := ⟨RX4, "undo", "()I"⟩
abbrev cX4_save : ByteArray := prog_6_method_9_code
def yX4_save : MethodName := ⟨RX4, "save", "()I"⟩
abbrev cX4_restore : ByteArray := prog_6_method_10_code
def yX4_restore : MethodName := ⟨RX4, "restore", "()I"⟩
abbrev cX4_isStep : ByteArray := prog_6_method_11_code
def yX4_isStep : MethodName := ⟨RX4, "isStep", "(I)Z"⟩
abbrev cX4_isLanding : ByteArray := prog_6_method_12_code
def yX4_isLanding : MethodName := ⟨RX4, "isLanding", "(I)Z"⟩
abbrev cX4_carpetFrom : ByteArray := prog_6_method_13_code
def yX4_carpetFrom : MethodName := ⟨RX4, "carpetFrom", "(I)I"⟩
abbrev cX4_carpetsTo : ByteArray := prog_6_method_14_code
def yX4_carpetsTo : MethodName := ⟨RX4, "carpetsTo", "(I)I"⟩
abbrev cX4_climbersOn : ByteArray := prog_6_method_15_code
def yX4_climbersOn : MethodName := ⟨RX4, "climbersOn", "(I)I"⟩
abbrev cX4_bits : ByteArray := prog_6_method_16_code
def yX4_bits : MethodName := ⟨RX4, "bits", "(I)I"⟩
abbrev cX4_setTop : ByteArray := prog_6_method_17_code
def yX4_setTop : MethodName := ⟨RX4, "setTop", "(I)I"⟩
abbrev cX4_whyNotLay : ByteArray := prog_6_method_18_code
def yX4_whyNotLay : MethodName := ⟨RX4, "whyNotLay", "(II)I"⟩
abbrev cX4_laysCarpet : ByteArray := prog_6_method_19_code
def yX4_laysCarpet : MethodName := ⟨RX4, "laysCarpet", "(II)I"⟩
abbrev cX4_lay : ByteArray := prog_6_method_20_code
def yX4_lay : MethodName := ⟨RX4, "lay", "(II)I"⟩
abbrev cX4_take : ByteArray := prog_6_method_21_code
def yX4_take : MethodName := ⟨RX4, "take", "(I)I"⟩
abbrev cX4_landings : ByteArray := prog_6_method_22_code
def yX4_landings : MethodName := ⟨RX4, "landings", "()I"⟩
abbrev cX4_whyNotPut : ByteArray := prog_6_method_23_code
def yX4_whyNotPut : MethodName := ⟨RX4, "whyNotPut", "(I)I"⟩
abbrev cX4_puts : ByteArray := prog_6_method_24_code
def yX4_puts : MethodName := ⟨RX4, "puts", "(I)I"⟩
abbrev cX4_put : ByteArray := prog_6_method_25_code
def yX4_put : MethodName := ⟨RX4, "put", "(I)I"⟩
abbrev cX4_remove : ByteArray := prog_6_method_26_code
def yX4_remove : MethodName := ⟨RX4, "remove", "(I)I"⟩
abbrev cX4_joins : ByteArray := prog_6_method_27_code
def yX4_joins : MethodName := ⟨RX4, "joins", "()I"⟩
abbrev cX4_join : ByteArray := prog_6_method_28_code
def yX4_join : MethodName := ⟨RX4, "join", "()I"⟩
abbrev cX4_comes : ByteArray := prog_6_method_29_code
def yX4_comes : MethodName := ⟨RX4, "comes", "(II)V"⟩
abbrev cX4_isPassed : ByteArray := prog_6_method_30_code
def yX4_isPassed : MethodName := ⟨RX4, "isPassed", "(II)Z"⟩
abbrev cX4_passedBy : ByteArray := prog_6_method_31_code
def yX4_passedBy : MethodName := ⟨RX4, "passedBy", "(I)I"⟩
abbrev cX4_highest : ByteArray := prog_6_method_32_code
def yX4_highest : MethodName := ⟨RX4, "highest", "(I)I"⟩
abbrev cX4_nextMover : ByteArray := prog_6_method_33_code
def yX4_nextMover : MethodName := ⟨RX4, "nextMover", "()V"⟩
abbrev cX4_rolls : ByteArray := prog_6_method_34_code
def yX4_rolls : MethodName := ⟨RX4, "rolls", "(I)I"⟩
abbrev cX4_whyNotRoll : ByteArray := prog_6_method_35_code
def yX4_whyNotRoll : MethodName := ⟨RX4, "whyNotRoll", "(I)I"⟩
abbrev cX4_roll : ByteArray := prog_6_method_36_code
def yX4_roll : MethodName := ⟨RX4, "roll", "(I)I"⟩
abbrev cX4_pass : ByteArray := prog_6_method_37_code
def yX4_pass : MethodName := ⟨RX4, "pass", "()I"⟩
abbrev cX4_progress : ByteArray := prog_6_method_38_code
def yX4_progress : MethodName := ⟨RX4, "progress", "(I)I"⟩
abbrev cX4_isClimber : ByteArray := prog_6_method_39_code
def yX4_isClimber : MethodName := ⟨RX4, "isClimber", "(I)Z"⟩
abbrev cX4_climber : ByteArray := prog_6_method_40_code
def yX4_climber : MethodName := ⟨RX4, "climber", "(II)I"⟩
abbrev cX4_turn : ByteArray := prog_6_method_41_code
def yX4_turn : MethodName := ⟨RX4, "turn", "()I"⟩
abbrev cX4_on : ByteArray := prog_6_method_42_code
def yX4_on : MethodName := ⟨RX4, "on", "(I)I"⟩
abbrev cX4_step : ByteArray := prog_6_method_43_code
def yX4_step : MethodName := ⟨RX4, "step", "(II)I"⟩
abbrev cX4_allTops : ByteArray := prog_6_method_44_code
def yX4_allTops : MethodName := ⟨RX4, "allTops", "()I"⟩
abbrev cX4_total : ByteArray := prog_6_method_45_code
def yX4_total : MethodName := ⟨RX4, "total", "(I)I"⟩
abbrev cX4_ahead : ByteArray := prog_6_method_46_code
def yX4_ahead : MethodName := ⟨RX4, "ahead", "(I)I"⟩
abbrev cX4_rank : ByteArray := prog_6_method_47_code
def yX4_rank : MethodName := ⟨RX4, "rank", "(I)I"⟩
abbrev cX4_putAside : ByteArray := prog_6_method_48_code
def yX4_putAside : MethodName := ⟨RX4, "putAside", "()V"⟩
abbrev cX4_takeBack : ByteArray := prog_6_method_49_code
def yX4_takeBack : MethodName := ⟨RX4, "takeBack", "()V"⟩
abbrev cX4_ifRolled : ByteArray := prog_6_method_50_code
def yX4_ifRolled : MethodName := ⟨RX4, "ifRolled", "(II)I"⟩
abbrev cX4_worth : ByteArray := prog_6_method_51_code
def yX4_worth : MethodName := ⟨RX4, "worth", "(I)I"⟩
abbrev cX4_bestRoll : ByteArray := prog_6_method_52_code
def yX4_bestRoll : MethodName := ⟨RX4, "bestRoll", "()I"⟩
abbrev cX4_quietRolls : ByteArray := prog_6_method_53_code
def yX4_quietRolls : MethodName := ⟨RX4, "quietRolls", "()I"⟩
abbrev cX4_rollsToTop : ByteArray := prog_6_method_54_code
def yX4_rollsToTop : MethodName := ⟨RX4, "rollsToTop", "(I)I"⟩
abbrev cX4_append : ByteArray := prog_6_method_55_code
def yX4_append : MethodName := ⟨RX4, "append", "(I)I"⟩
abbrev cX4_clearText : ByteArray := prog_6_method_56_code
def yX4_clearText : MethodName := ⟨RX4, "clearText", "()I"⟩
abbrev cX4_letter : ByteArray := prog_6_method_57_code
def yX4_letter : MethodName := ⟨RX4, "letter", "()I"⟩
abbrev cX4_wants : ByteArray := prog_6_method_58_code
def yX4_wants : MethodName := ⟨RX4, "wants", "(Z)V"⟩
abbrev cX4_number : ByteArray := prog_6_method_59_code
def yX4_number : MethodName := ⟨RX4, "number", "()I"⟩
abbrev cX4_readMove : ByteArray := prog_6_method_60_code
def yX4_readMove : MethodName := ⟨RX4, "readMove", "()V"⟩
abbrev cX4_errorPosition : ByteArray := prog_6_method_61_code
def yX4_errorPosition : MethodName := ⟨RX4, "errorPosition", "()I"⟩
abbrev cX4_makeOne : ByteArray := prog_6_method_62_code
def yX4_makeOne : MethodName := ⟨RX4, "makeOne", "(I)I"⟩
abbrev cX4_play : ByteArray := prog_6_method_63_code
def yX4_play : MethodName := ⟨RX4, "play", "()I"⟩
def RJ6 : String := "java/lang/Integer"
def TJ6 : u_T := fun k => match k with
  | _ => ("", "", "", false)
def tyJ6 : Nat → FieldType := fun k => match k with
  | _ => .int
abbrev wsJ60 : List Cond := u_ws RJ6 TJ6 0
theorem nmJ6 : ∀ a, a < 0 → ∀ b, b < 0 → a ≠ b → (TJ6 a).2.1 ≠ (TJ6 b).2.1 := by decide +kernel
theorem tyJ6_ok : ∀ k, k < 0 → parseFieldDescriptor (TJ6 k).2.2.1 = some (tyJ6 k) := by decide +kernel
abbrev cJ6_bitCount_0f7a4 : ByteArray := prog_7_method_49_code
def yJ6_bitCount_0f7a4 : MethodName := ⟨RJ6, "bitCount", "(I)I"⟩
def RJ10 : String := "java/lang/System"
def TJ10 : u_T := fun k => match k with
  | _ => ("", "", "", false)
def tyJ10 : Nat → FieldType := fun k => match k with
  | _ => .int
abbrev wsJ100 : List Cond := u_ws RJ10 TJ10 0
theorem nmJ10 : ∀ a, a < 0 → ∀ b, b < 0 → a ≠ b → (TJ10 a).2.1 ≠ (TJ10 b).2.1 := by decide +kernel
theorem tyJ10_ok : ∀ k, k < 0 → parseFieldDescriptor (TJ10 k).2.2.1 = some (tyJ10 k) := by decide +kernel
def RL : String := "LiftingStairsLaw"
abbrev cL_law : ByteArray := code
def yL_law : MethodName := ⟨RL, "law", "([I)Z"⟩
theorem dX0_init_0 : decode cX0_init 0 = .ok (.aload_n 0, 1) := by decide +kernel
theorem dX0_init_1 : decode cX0_init 1 = .ok (.invokespecial 3, 3) := by decide +kernel
theorem dX0_init_4 : decode cX0_init 4 = .ok (.aload_n 0, 1) := by decide +kernel
theorem dX0_init_5 : decode cX0_init 5 = .ok (.bipush 60, 2) := by decide +kernel
theorem dX0_init_7 : decode cX0_init 7 = .ok (.newarray .int, 2) := by decide +kernel
theorem dX0_init_9 : decode cX0_init 9 = .ok (.putfield 9, 3) := by decide +kernel
theorem dX0_init_12 : decode cX0_init 12 = .ok (.aload_n 0, 1) := by decide +kernel
theorem dX0_init_13 : decode cX0_init 13 = .ok (.bipush 60, 2) := by decide +kernel
theorem dX0_init_15 : decode cX0_init 15 = .ok (.newarray .boolean, 2) := by decide +kernel
theorem dX0_init_17 : decode cX0_init 17 = .ok (.putfield 15, 3) := by decide +kernel
theorem dX0_init_20 : decode cX0_init 20 = .ok (.aload_n 0, 1) := by decide +kernel
theorem dX0_init_21 : decode cX0_init 21 = .ok (.bipush 6, 2) := by decide +kernel
theorem dX0_init_23 : decode cX0_init 23 = .ok (.newarray .int, 2) := by decide +kernel
theorem dX0_init_25 : decode cX0_init 25 = .ok (.putfield 19, 3) := by decide +kernel
theorem dX0_init_28 : decode cX0_init 28 = .ok (.aload_n 0, 1) := by decide +kernel
theorem dX0_init_29 : decode cX0_init 29 = .ok (.bipush 6, 2) := by decide +kernel
theorem dX0_init_31 : decode cX0_init 31 = .ok (.newarray .int, 2) := by decide +kernel
theorem dX0_init_33 : decode cX0_init 33 = .ok (.putfield 22, 3) := by decide +kernel
theorem dX0_init_36 : decode cX0_init 36 = .ok (.aload_n 0, 1) := by decide +kernel
theorem dX0_init_37 : decode cX0_init 37 = .ok (.bipush 6, 2) := by decide +kernel
theorem dX0_init_39 : decode cX0_init 39 = .ok (.newarray .int, 2) := by decide +kernel
theorem dX0_init_41 : decode cX0_init 41 = .ok (.putfield 25, 3) := by decide +kernel
theorem dX0_init_44 : decode cX0_init 44 = .ok (.aload_n 0, 1) := by decide +kernel
theorem dX0_init_45 : decode cX0_init 45 = .ok (.bipush 6, 2) := by decide +kernel
theorem dX0_init_47 : decode cX0_init 47 = .ok (.newarray .int, 2) := by decide +kernel
theorem dX0_init_49 : decode cX0_init 49 = .ok (.putfield 28, 3) := by decide +kernel
theorem dX0_init_52 : decode cX0_init 52 = .ok (.aload_n 0, 1) := by decide +kernel
theorem dX0_init_53 : decode cX0_init 53 = .ok (.bipush 6, 2) := by decide +kernel
theorem dX0_init_55 : decode cX0_init 55 = .ok (.newarray .int, 2) := by decide +kernel
theorem dX0_init_57 : decode cX0_init 57 = .ok (.putfield 31, 3) := by decide +kernel
theorem dX0_init_60 : decode cX0_init 60 = .ok (.aload_n 0, 1) := by decide +kernel
theorem dX0_init_61 : decode cX0_init 61 = .ok (.bipush 6, 2) := by decide +kernel
theorem dX0_init_63 : decode cX0_init 63 = .ok (.newarray .int, 2) := by decide +kernel
theorem dX0_init_65 : decode cX0_init 65 = .ok (.putfield 34, 3) := by decide +kernel
theorem dX0_init_68 : decode cX0_init 68 = .ok (.aload_n 0, 1) := by decide +kernel
theorem dX0_init_69 : decode cX0_init 69 = .ok (.bipush 30, 2) := by decide +kernel
theorem dX0_init_71 : decode cX0_init 71 = .ok (.putfield 37, 3) := by decide +kernel
theorem dX0_init_74 : decode cX0_init 74 = .ok (.aload_n 0, 1) := by decide +kernel
theorem dX0_init_75 : decode cX0_init 75 = .ok (.iconst 0, 1) := by decide +kernel
theorem dX0_init_76 : decode cX0_init 76 = .ok (.putfield 41, 3) := by decide +kernel
theorem dX0_init_79 : decode cX0_init 79 = .ok (.aload_n 0, 1) := by decide +kernel
theorem dX0_init_80 : decode cX0_init 80 = .ok (.iconst 0, 1) := by decide +kernel
theorem dX0_init_81 : decode cX0_init 81 = .ok (.putfield 44, 3) := by decide +kernel
theorem dX0_init_84 : decode cX0_init 84 = .ok (.aload_n 0, 1) := by decide +kernel
theorem dX0_init_85 : decode cX0_init 85 = .ok (.iconst 0, 1) := by decide +kernel
theorem dX0_init_86 : decode cX0_init 86 = .ok (.putfield 47, 3) := by decide +kernel
theorem dX0_init_89 : decode cX0_init 89 = .ok (.aload_n 0, 1) := by decide +kernel
theorem dX0_init_90 : decode cX0_init 90 = .ok (.iconst 0, 1) := by decide +kernel
theorem dX0_init_91 : decode cX0_init 91 = .ok (.putfield 50, 3) := by decide +kernel
theorem dX0_init_94 : decode cX0_init 94 = .ok (.iconst 0, 1) := by decide +kernel
theorem dX0_init_95 : decode cX0_init 95 = .ok (.istore_n 1, 1) := by decide +kernel
theorem dX0_init_96 : decode cX0_init 96 = .ok (.iload_n 1, 1) := by decide +kernel
theorem dX0_init_97 : decode cX0_init 97 = .ok (.bipush 60, 2) := by decide +kernel
theorem dX0_init_99 : decode cX0_init 99 = .ok (.if_icmp .ge 17, 3) := by decide +kernel
theorem dX0_init_102 : decode cX0_init 102 = .ok (.aload_n 0, 1) := by decide +kernel
theorem dX0_init_103 : decode cX0_init 103 = .ok (.getfield 9, 3) := by decide +kernel
theorem dX0_init_106 : decode cX0_init 106 = .ok (.iload_n 1, 1) := by decide +kernel
theorem dX0_init_107 : decode cX0_init 107 = .ok (.bipush (-6), 2) := by decide +kernel
theorem dX0_init_109 : decode cX0_init 109 = .ok (.iastore, 1) := by decide +kernel
theorem dX0_init_110 : decode cX0_init 110 = .ok (.iinc 1 1, 3) := by decide +kernel
theorem dX0_init_113 : decode cX0_init 113 = .ok (.goto (-17), 3) := by decide +kernel
theorem dX0_init_116 : decode cX0_init 116 = .ok (.return_, 1) := by decide +kernel
theorem dX0_copyFrom_0 : decode cX0_copyFrom 0 = .ok (.aload_n 1, 1) := by decide +kernel
theorem dX0_copyFrom_1 : decode cX0_copyFrom 1 = .ok (.ifnonnull 4, 3) := by decide +kernel
theorem dX0_copyFrom_4 : decode cX0_copyFrom 4 = .ok (.return_, 1) := by decide +kernel
theorem dX0_copyFrom_5 : decode cX0_copyFrom 5 = .ok (.aload_n 1, 1) := by decide +kernel
theorem dX0_copyFrom_6 : decode cX0_copyFrom 6 = .ok (.getfield 9, 3) := by decide +kernel
theorem dX0_copyFrom_9 : decode cX0_copyFrom 9 = .ok (.iconst 0, 1) := by decide +kernel
theorem dX0_copyFrom_10 : decode cX0_copyFrom 10 = .ok (.aload_n 0, 1) := by decide +kernel
theorem dX0_copyFrom_11 : decode cX0_copyFrom 11 = .ok (.getfield 9, 3) := by decide +kernel
theorem dX0_copyFrom_14 : decode cX0_copyFrom 14 = .ok (.iconst 0, 1) := by decide +kernel
theorem dX0_copyFrom_15 : decode cX0_copyFrom 15 = .ok (.bipush 60, 2) := by decide +kernel
theorem dX0_copyFrom_17 : decode cX0_copyFrom 17 = .ok (.invokestatic 53, 3) := by decide +kernel
theorem dX0_copyFrom_20 : decode cX0_copyFrom 20 = .ok (.aload_n 1, 1) := by decide +kernel
theorem dX0_copyFrom_21 : decode cX0_copyFrom 21 = .ok (.getfield 15, 3) := by decide +kernel
theorem dX0_copyFrom_24 : decode cX0_copyFrom 24 = .ok (.iconst 0, 1) := by decide +kernel
theorem dX0_copyFrom_25 : decode cX0_copyFrom 25 = .ok (.aload_n 0, 1) := by decide +kernel
theorem dX0_copyFrom_26 : decode cX0_copyFrom 26 = .ok (.getfield 15, 3) := by decide +kernel
theorem dX0_copyFrom_29 : decode cX0_copyFrom 29 = .ok (.iconst 0, 1) := by decide +kernel
theorem dX0_copyFrom_30 : decode cX0_copyFrom 30 = .ok (.bipush 60, 2) := by decide +kernel
theorem dX0_copyFrom_32 : decode cX0_copyFrom 32 = .ok (.invokestatic 53, 3) := by decide +kernel
theorem dX0_copyFrom_35 : decode cX0_copyFrom 35 = .ok (.aload_n 1, 1) := by decide +kernel
theorem dX0_copyFrom_36 : decode cX0_copyFrom 36 = .ok (.getfield 19, 3) := by decide +kernel
theorem dX0_copyFrom_39 : decode cX0_copyFrom 39 = .ok (.iconst 0, 1) := by decide +kernel
theorem dX0_copyFrom_40 : decode cX0_copyFrom 40 = .ok (.aload_n 0, 1) := by decide +kernel
theorem dX0_copyFrom_41 : decode cX0_copyFrom 41 = .ok (.getfield 19, 3) := by decide +kernel
theorem dX0_copyFrom_44 : decode cX0_copyFrom 44 = .ok (.iconst 0, 1) := by decide +kernel
theorem dX0_copyFrom_45 : decode cX0_copyFrom 45 = .ok (.bipush 6, 2) := by decide +kernel
theorem dX0_copyFrom_47 : decode cX0_copyFrom 47 = .ok (.invokestatic 53, 3) := by decide +kernel
theorem dX0_copyFrom_50 : decode cX0_copyFrom 50 = .ok (.aload_n 1, 1) := by decide +kernel
theorem dX0_copyFrom_51 : decode cX0_copyFrom 51 = .ok (.getfield 22, 3) := by decide +kernel
theorem dX0_copyFrom_54 : decode cX0_copyFrom 54 = .ok (.iconst 0, 1) := by decide +kernel
theorem dX0_copyFrom_55 : decode cX0_copyFrom 55 = .ok (.aload_n 0, 1) := by decide +kernel
theorem dX0_copyFrom_56 : decode cX0_copyFrom 56 = .ok (.getfield 22, 3) := by decide +kernel
theorem dX0_copyFrom_59 : decode cX0_copyFrom 59 = .ok (.iconst 0, 1) := by decide +kernel
theorem dX0_copyFrom_60 : decode cX0_copyFrom 60 = .ok (.bipush 6, 2) := by decide +kernel
theorem dX0_copyFrom_62 : decode cX0_copyFrom 62 = .ok (.invokestatic 53, 3) := by decide +kernel
theorem dX0_copyFrom_65 : decode cX0_copyFrom 65 = .ok (.aload_n 1, 1) := by decide +kernel
theorem dX0_copyFrom_66 : decode cX0_copyFrom 66 = .ok (.getfield 25, 3) := by decide +kernel
theorem dX0_copyFrom_69 : decode cX0_copyFrom 69 = .ok (.iconst 0, 1) := by decide +kernel
theorem dX0_copyFrom_70 : decode cX0_copyFrom 70 = .ok (.aload_n 0, 1) := by decide +kernel
theorem dX0_copyFrom_71 : decode cX0_copyFrom 71 = .ok (.getfield 25, 3) := by decide +kernel
theorem dX0_copyFrom_74 : decode cX0_copyFrom 74 = .ok (.iconst 0, 1) := by decide +kernel
theorem dX0_copyFrom_75 : decode cX0_copyFrom 75 = .ok (.bipush 6, 2) := by decide +kernel
theorem dX0_copyFrom_77 : decode cX0_copyFrom 77 = .ok (.invokestatic 53, 3) := by decide +kernel
theorem dX0_copyFrom_80 : decode cX0_copyFrom 80 = .ok (.aload_n 1, 1) := by decide +kernel
theorem dX0_copyFrom_81 : decode cX0_copyFrom 81 = .ok (.getfield 28, 3) := by decide +kernel
theorem dX0_copyFrom_84 : decode cX0_copyFrom 84 = .ok (.iconst 0, 1) := by decide +kernel
theorem dX0_copyFrom_85 : decode cX0_copyFrom 85 = .ok (.aload_n 0, 1) := by decide +kernel
theorem dX0_copyFrom_86 : decode cX0_copyFrom 86 = .ok (.getfield 28, 3) := by decide +kernel
theorem dX0_copyFrom_89 : decode cX0_copyFrom 89 = .ok (.iconst 0, 1) := by decide +kernel
theorem dX0_copyFrom_90 : decode cX0_copyFrom 90 = .ok (.bipush 6, 2) := by decide +kernel
theorem dX0_copyFrom_92 : decode cX0_copyFrom 92 = .ok (.invokestatic 53, 3) := by decide +kernel
theorem dX0_copyFrom_95 : decode cX0_copyFrom 95 = .ok (.aload_n 1, 1) := by decide +kernel
theorem dX0_copyFrom_96 : decode cX0_copyFrom 96 = .ok (.getfield 31, 3) := by decide +kernel
theorem dX0_copyFrom_99 : decode cX0_copyFrom 99 = .ok (.iconst 0, 1) := by decide +kernel
theorem dX0_copyFrom_100 : decode cX0_copyFrom 100 = .ok (.aload_n 0, 1) := by decide +kernel
theorem dX0_copyFrom_101 : decode cX0_copyFrom 101 = .ok (.getfield 31, 3) := by decide +kernel
theorem dX0_copyFrom_104 : decode cX0_copyFrom 104 = .ok (.iconst 0, 1) := by decide +kernel
theorem dX0_copyFrom_105 : decode cX0_copyFrom 105 = .ok (.bipush 6, 2) := by decide +kernel
theorem dX0_copyFrom_107 : decode cX0_copyFrom 107 = .ok (.invokestatic 53, 3) := by decide +kernel
theorem dX0_copyFrom_110 : decode cX0_copyFrom 110 = .ok (.aload_n 1, 1) := by decide +kernel
theorem dX0_copyFrom_111 : decode cX0_copyFrom 111 = .ok (.getfield 34, 3) := by decide +kernel
theorem dX0_copyFrom_114 : decode cX0_copyFrom 114 = .ok (.iconst 0, 1) := by decide +kernel
theorem dX0_copyFrom_115 : decode cX0_copyFrom 115 = .ok (.aload_n 0, 1) := by decide +kernel
theorem dX0_copyFrom_116 : decode cX0_copyFrom 116 = .ok (.getfield 34, 3) := by decide +kernel
theorem dX0_copyFrom_119 : decode cX0_copyFrom 119 = .ok (.iconst 0, 1) := by decide +kernel
theorem dX0_copyFrom_120 : decode cX0_copyFrom 120 = .ok (.bipush 6, 2) := by decide +kernel
theorem dX0_copyFrom_122 : decode cX0_copyFrom 122 = .ok (.invokestatic 53, 3) := by decide +kernel
theorem dX0_copyFrom_125 : decode cX0_copyFrom 125 = .ok (.aload_n 0, 1) := by decide +kernel
theorem dX0_copyFrom_126 : decode cX0_copyFrom 126 = .ok (.aload_n 1, 1) := by decide +kernel
theorem dX0_copyFrom_127 : decode cX0_copyFrom 127 = .ok (.getfield 37, 3) := by decide +kernel
theorem dX0_copyFrom_130 : decode cX0_copyFrom 130 = .ok (.putfield 37, 3) := by decide +kernel
theorem dX0_copyFrom_133 : decode cX0_copyFrom 133 = .ok (.aload_n 0, 1) := by decide +kernel
theorem dX0_copyFrom_134 : decode cX0_copyFrom 134 = .ok (.aload_n 1, 1) := by decide +kernel
theorem dX0_copyFrom_135 : decode cX0_copyFrom 135 = .ok (.getfield 41, 3) := by decide +kernel
theorem dX0_copyFrom_138 : decode cX0_copyFrom 138 = .ok (.putfield 41, 3) := by decide +kernel
theorem dX0_copyFrom_141 : decode cX0_copyFrom 141 = .ok (.aload_n 0, 1) := by decide +kernel
theorem dX0_copyFrom_142 : decode cX0_copyFrom 142 = .ok (.aload_n 1, 1) := by decide +kernel
theorem dX0_copyFrom_143 : decode cX0_copyFrom 143 = .ok (.getfield 44, 3) := by decide +kernel
theorem dX0_copyFrom_146 : decode cX0_copyFrom 146 = .ok (.putfield 44, 3) := by decide +kernel
theorem dX0_copyFrom_149 : decode cX0_copyFrom 149 = .ok (.aload_n 0, 1) := by decide +kernel
theorem dX0_copyFrom_150 : decode cX0_copyFrom 150 = .ok (.aload_n 1, 1) := by decide +kernel
theorem dX0_copyFrom_151 : decode cX0_copyFrom 151 = .ok (.getfield 47, 3) := by decide +kernel
theorem dX0_copyFrom_154 : decode cX0_copyFrom 154 = .ok (.putfield 47, 3) := by decide +kernel
theorem dX0_copyFrom_157 : decode cX0_copyFrom 157 = .ok (.aload_n 0, 1) := by decide +kernel
theorem dX0_copyFrom_158 : decode cX0_copyFrom 158 = .ok (.aload_n 1, 1) := by decide +kernel
theorem dX0_copyFrom_159 : decode cX0_copyFrom 159 = .ok (.getfield 50, 3) := by decide +kernel
theorem dX0_copyFrom_162 : decode cX0_copyFrom 162 = .ok (.putfield 50, 3) := by decide +kernel
theorem dX0_copyFrom_165 : decode cX0_copyFrom 165 = .ok (.return_, 1) := by decide +kernel
theorem dX0_isBelowTop_0 : decode cX0_isBelowTop 0 = .ok (.iload_n 1, 1) := by decide +kernel
theorem dX0_isBelowTop_1 : decode cX0_isBelowTop 1 = .ok (.ifCond .lt 15, 3) := by decide +kernel
theorem dX0_isBelowTop_4 : decode cX0_isBelowTop 4 = .ok (.iload_n 1, 1) := by decide +kernel
theorem dX0_isBelowTop_5 : decode cX0_isBelowTop 5 = .ok (.aload_n 0, 1) := by decide +kernel
theorem dX0_isBelowTop_6 : decode cX0_isBelowTop 6 = .ok (.getfield 37, 3) := by decide +kernel
theorem dX0_isBelowTop_9 : decode cX0_isBelowTop 9 = .ok (.if_icmp .ge 7, 3) := by decide +kernel
theorem dX0_isBelowTop_12 : decode cX0_isBelowTop 12 = .ok (.iconst 1, 1) := by decide +kernel
theorem dX0_isBelowTop_13 : decode cX0_isBelowTop 13 = .ok (.goto 4, 3) := by decide +kernel
theorem dX0_isBelowTop_16 : decode cX0_isBelowTop 16 = .ok (.iconst 0, 1) := by decide +kernel
theorem dX0_isBelowTop_17 : decode cX0_isBelowTop 17 = .ok (.ireturn, 1) := by decide +kernel
theorem dX0_isClimber_0 : decode cX0_isClimber 0 = .ok (.iload_n 1, 1) := by decide +kernel
theorem dX0_isClimber_1 : decode cX0_isClimber 1 = .ok (.ifCond .lt 15, 3) := by decide +kernel
theorem dX0_isClimber_4 : decode cX0_isClimber 4 = .ok (.iload_n 1, 1) := by decide +kernel
theorem dX0_isClimber_5 : decode cX0_isClimber 5 = .ok (.aload_n 0, 1) := by decide +kernel
theorem dX0_isClimber_6 : decode cX0_isClimber 6 = .ok (.getfield 41, 3) := by decide +kernel
theorem dX0_isClimber_9 : decode cX0_isClimber 9 = .ok (.if_icmp .ge 7, 3) := by decide +kernel
theorem dX0_isClimber_12 : decode cX0_isClimber 12 = .ok (.iconst 1, 1) := by decide +kernel
theorem dX0_isClimber_13 : decode cX0_isClimber 13 = .ok (.goto 4, 3) := by decide +kernel
theorem dX0_isClimber_16 : decode cX0_isClimber 16 = .ok (.iconst 0, 1) := by decide +kernel
theorem dX0_isClimber_17 : decode cX0_isClimber 17 = .ok (.ireturn, 1) := by decide +kernel
theorem dX0_hasMover_0 : decode cX0_hasMover 0 = .ok (.aload_n 0, 1) := by decide +kernel
theorem dX0_hasMover_1 : decode cX0_hasMover 1 = .ok (.aload_n 0, 1) := by decide +kernel
theorem dX0_hasMover_2 : decode cX0_hasMover 2 = .ok (.getfield 44, 3) := by decide +kernel
theorem dX0_hasMover_5 : decode cX0_hasMover 5 = .ok (.invokevirtual 59, 3) := by decide +kernel
theorem dX0_hasMover_8 : decode cX0_hasMover 8 = .ok (.ireturn, 1) := by decide +kernel
theorem dX0_changeTop_0 : decode cX0_changeTop 0 = .ok (.iload_n 1, 1) := by decide +kernel
theorem dX0_changeTop_1 : decode cX0_changeTop 1 = .ok (.bipush 10, 2) := by decide +kernel
theorem dX0_changeTop_3 : decode cX0_changeTop 3 = .ok (.if_icmp .lt 9, 3) := by decide +kernel
theorem dX0_changeTop_6 : decode cX0_changeTop 6 = .ok (.iload_n 1, 1) := by decide +kernel
theorem dX0_changeTop_7 : decode cX0_changeTop 7 = .ok (.bipush 60, 2) := by decide +kernel
theorem dX0_changeTop_9 : decode cX0_changeTop 9 = .ok (.if_icmp .le 6, 3) := by decide +kernel
theorem dX0_changeTop_12 : decode cX0_changeTop 12 = .ok (.bipush (-2), 2) := by decide +kernel
theorem dX0_changeTop_14 : decode cX0_changeTop 14 = .ok (.ireturn, 1) := by decide +kernel
theorem dX0_changeTop_15 : decode cX0_changeTop 15 = .ok (.iload_n 1, 1) := by decide +kernel
theorem dX0_changeTop_16 : decode cX0_changeTop 16 = .ok (.istore_n 2, 1) := by decide +kernel
theorem dX0_changeTop_17 : decode cX0_changeTop 17 = .ok (.iload_n 2, 1) := by decide +kernel
theorem dX0_changeTop_18 : decode cX0_changeTop 18 = .ok (.aload_n 0, 1) := by decide +kernel
theorem dX0_changeTop_19 : decode cX0_changeTop 19 = .ok (.getfield 37, 3) := by decide +kernel
theorem dX0_changeTop_22 : decode cX0_changeTop 22 = .ok (.if_icmp .ge 37, 3) := by decide +kernel
theorem dX0_changeTop_25 : decode cX0_changeTop 25 = .ok (.aload_n 0, 1) := by decide +kernel
theorem dX0_changeTop_26 : decode cX0_changeTop 26 = .ok (.getfield 15, 3) := by decide +kernel
theorem dX0_changeTop_29 : decode cX0_changeTop 29 = .ok (.iload_n 2, 1) := by decide +kernel
theorem dX0_changeTop_30 : decode cX0_changeTop 30 = .ok (.baload, 1) := by decide +kernel
theorem dX0_changeTop_31 : decode cX0_changeTop 31 = .ok (.ifCond .ne 19, 3) := by decide +kernel
theorem dX0_changeTop_34 : decode cX0_changeTop 34 = .ok (.aload_n 0, 1) := by decide +kernel
theorem dX0_changeTop_35 : decode cX0_changeTop 35 = .ok (.iload_n 2, 1) := by decide +kernel
theorem dX0_changeTop_36 : decode cX0_changeTop 36 = .ok (.invokevirtual 63, 3) := by decide +kernel
theorem dX0_changeTop_39 : decode cX0_changeTop 39 = .ok (.ifCond .ne 11, 3) := by decide +kernel
theorem dX0_changeTop_42 : decode cX0_changeTop 42 = .ok (.aload_n 0, 1) := by decide +kernel
theorem dX0_changeTop_43 : decode cX0_changeTop 43 = .ok (.iload_n 2, 1) := by decide +kernel
theorem dX0_changeTop_44 : decode cX0_changeTop 44 = .ok (.invokevirtual 66, 3) := by decide +kernel
theorem dX0_changeTop_47 : decode cX0_changeTop 47 = .ok (.ifCond .eq 6, 3) := by decide +kernel
theorem dX0_changeTop_50 : decode cX0_changeTop 50 = .ok (.bipush (-3), 2) := by decide +kernel
theorem dX0_changeTop_52 : decode cX0_changeTop 52 = .ok (.ireturn, 1) := by decide +kernel
theorem dX0_changeTop_53 : decode cX0_changeTop 53 = .ok (.iinc 2 1, 3) := by decide +kernel
theorem dX0_changeTop_56 : decode cX0_changeTop 56 = .ok (.goto (-39), 3) := by decide +kernel
theorem dX0_changeTop_59 : decode cX0_changeTop 59 = .ok (.aload_n 0, 1) := by decide +kernel
theorem dX0_changeTop_60 : decode cX0_changeTop 60 = .ok (.getfield 37, 3) := by decide +kernel
theorem dX0_changeTop_63 : decode cX0_changeTop 63 = .ok (.istore_n 2, 1) := by decide +kernel
theorem dX0_changeTop_64 : decode cX0_changeTop 64 = .ok (.aload_n 0, 1) := by decide +kernel
theorem dX0_changeTop_65 : decode cX0_changeTop 65 = .ok (.iload_n 1, 1) := by decide +kernel
theorem dX0_changeTop_66 : decode cX0_changeTop 66 = .ok (.putfield 37, 3) := by decide +kernel
theorem dX0_changeTop_69 : decode cX0_changeTop 69 = .ok (.iload_n 2, 1) := by decide +kernel
theorem dX0_changeTop_70 : decode cX0_changeTop 70 = .ok (.ireturn, 1) := by decide +kernel
theorem dX0_layCarpet_0 : decode cX0_layCarpet 0 = .ok (.iload_n 1, 1) := by decide +kernel
theorem dX0_layCarpet_1 : decode cX0_layCarpet 1 = .ok (.ifCond .eq 11, 3) := by decide +kernel
theorem dX0_layCarpet_4 : decode cX0_layCarpet 4 = .ok (.aload_n 0, 1) := by decide +kernel
theorem dX0_layCarpet_5 : decode cX0_layCarpet 5 = .ok (.iload_n 1, 1) := by decide +kernel
theorem dX0_layCarpet_6 : decode cX0_layCarpet 6 = .ok (.invokevirtual 70, 3) := by decide +kernel
theorem dX0_layCarpet_9 : decode cX0_layCarpet 9 = .ok (.ifCond .ne 5, 3) := by decide +kernel
theorem dX0_layCarpet_12 : decode cX0_layCarpet 12 = .ok (.iconst (-1), 1) := by decide +kernel
theorem dX0_layCarpet_13 : decode cX0_layCarpet 13 = .ok (.ireturn, 1) := by decide +kernel
theorem dX0_layCarpet_14 : decode cX0_layCarpet 14 = .ok (.iload_n 2, 1) := by decide +kernel
theorem dX0_layCarpet_15 : decode cX0_layCarpet 15 = .ok (.ifCond .lt 8, 3) := by decide +kernel
theorem dX0_layCarpet_18 : decode cX0_layCarpet 18 = .ok (.iload_n 2, 1) := by decide +kernel
theorem dX0_layCarpet_19 : decode cX0_layCarpet 19 = .ok (.iload_n 1, 1) := by decide +kernel
theorem dX0_layCarpet_20 : decode cX0_layCarpet 20 = .ok (.if_icmp .lt 6, 3) := by decide +kernel
theorem dX0_layCarpet_23 : decode cX0_layCarpet 23 = .ok (.bipush (-2), 2) := by decide +kernel
theorem dX0_layCarpet_25 : decode cX0_layCarpet 25 = .ok (.ireturn, 1) := by decide +kernel
theorem dX0_layCarpet_26 : decode cX0_layCarpet 26 = .ok (.aload_n 0, 1) := by decide +kernel
theorem dX0_layCarpet_27 : decode cX0_layCarpet 27 = .ok (.iload_n 1, 1) := by decide +kernel
theorem dX0_layCarpet_28 : decode cX0_layCarpet 28 = .ok (.invokevirtual 63, 3) := by decide +kernel
theorem dX0_layCarpet_31 : decode cX0_layCarpet 31 = .ok (.ifCond .ne 19, 3) := by decide +kernel
theorem dX0_layCarpet_34 : decode cX0_layCarpet 34 = .ok (.aload_n 0, 1) := by decide +kernel
theorem dX0_layCarpet_35 : decode cX0_layCarpet 35 = .ok (.iload_n 2, 1) := by decide +kernel
theorem dX0_layCarpet_36 : decode cX0_layCarpet 36 = .ok (.invokevirtual 63, 3) := by decide +kernel
theorem dX0_layCarpet_39 : decode cX0_layCarpet 39 = .ok (.ifCond .ne 11, 3) := by decide +kernel
theorem dX0_layCarpet_42 : decode cX0_layCarpet 42 = .ok (.aload_n 0, 1) := by decide +kernel
theorem dX0_layCarpet_43 : decode cX0_layCarpet 43 = .ok (.iload_n 1, 1) := by decide +kernel
theorem dX0_layCarpet_44 : decode cX0_layCarpet 44 = .ok (.invokevirtual 73, 3) := by decide +kernel
theorem dX0_layCarpet_47 : decode cX0_layCarpet 47 = .ok (.ifCond .le 6, 3) := by decide +kernel
theorem dX0_layCarpet_50 : decode cX0_layCarpet 50 = .ok (.bipush (-3), 2) := by decide +kernel
theorem dX0_layCarpet_52 : decode cX0_layCarpet 52 = .ok (.ireturn, 1) := by decide +kernel
theorem dX0_layCarpet_53 : decode cX0_layCarpet 53 = .ok (.aload_n 0, 1) := by decide +kernel
theorem dX0_layCarpet_54 : decode cX0_layCarpet 54 = .ok (.getfield 15, 3) := by decide +kernel
theorem dX0_layCarpet_57 : decode cX0_layCarpet 57 = .ok (.iload_n 1, 1) := by decide +kernel
theorem dX0_layCarpet_58 : decode cX0_layCarpet 58 = .ok (.baload, 1) := by decide +kernel
theorem dX0_layCarpet_59 : decode cX0_layCarpet 59 = .ok (.ifCond .ne 11, 3) := by decide +kernel
theorem dX0_layCarpet_62 : decode cX0_layCarpet 62 = .ok (.aload_n 0, 1) := by decide +kernel
theorem dX0_layCarpet_63 : decode cX0_layCarpet 63 = .ok (.iload_n 1, 1) := by decide +kernel
theorem dX0_layCarpet_64 : decode cX0_layCarpet 64 = .ok (.invokevirtual 66, 3) := by decide +kernel
theorem dX0_layCarpet_67 : decode cX0_layCarpet 67 = .ok (.ifCond .eq 6, 3) := by decide +kernel
theorem dX0_layCarpet_70 : decode cX0_layCarpet 70 = .ok (.bipush (-3), 2) := by decide +kernel
theorem dX0_layCarpet_72 : decode cX0_layCarpet 72 = .ok (.ireturn, 1) := by decide +kernel
theorem dX0_layCarpet_73 : decode cX0_layCarpet 73 = .ok (.aload_n 0, 1) := by decide +kernel
theorem dX0_layCarpet_74 : decode cX0_layCarpet 74 = .ok (.invokevirtual 76, 3) := by decide +kernel
theorem dX0_layCarpet_77 : decode cX0_layCarpet 77 = .ok (.bipush 6, 2) := by decide +kernel
theorem dX0_layCarpet_79 : decode cX0_layCarpet 79 = .ok (.if_icmp .lt 6, 3) := by decide +kernel
theorem dX0_layCarpet_82 : decode cX0_layCarpet 82 = .ok (.bipush (-4), 2) := by decide +kernel
theorem dX0_layCarpet_84 : decode cX0_layCarpet 84 = .ok (.ireturn, 1) := by decide +kernel
theorem dX0_layCarpet_85 : decode cX0_layCarpet 85 = .ok (.aload_n 0, 1) := by decide +kernel
theorem dX0_layCarpet_86 : decode cX0_layCarpet 86 = .ok (.getfield 9, 3) := by decide +kernel
theorem dX0_layCarpet_89 : decode cX0_layCarpet 89 = .ok (.iload_n 1, 1) := by decide +kernel
theorem dX0_layCarpet_90 : decode cX0_layCarpet 90 = .ok (.iload_n 2, 1) := by decide +kernel
theorem dX0_layCarpet_91 : decode cX0_layCarpet 91 = .ok (.iastore, 1) := by decide +kernel
theorem dX0_layCarpet_92 : decode cX0_layCarpet 92 = .ok (.aload_n 0, 1) := by decide +kernel
theorem dX0_layCarpet_93 : decode cX0_layCarpet 93 = .ok (.invokevirtual 76, 3) := by decide +kernel
theorem dX0_layCarpet_96 : decode cX0_layCarpet 96 = .ok (.ireturn, 1) := by decide +kernel
theorem dX0_takeCarpet_0 : decode cX0_takeCarpet 0 = .ok (.aload_n 0, 1) := by decide +kernel
theorem dX0_takeCarpet_1 : decode cX0_takeCarpet 1 = .ok (.iload_n 1, 1) := by decide +kernel
theorem dX0_takeCarpet_2 : decode cX0_takeCarpet 2 = .ok (.invokevirtual 63, 3) := by decide +kernel
theorem dX0_takeCarpet_5 : decode cX0_takeCarpet 5 = .ok (.ifCond .ne 5, 3) := by decide +kernel
theorem dX0_takeCarpet_8 : decode cX0_takeCarpet 8 = .ok (.iconst (-1), 1) := by decide +kernel
theorem dX0_takeCarpet_9 : decode cX0_takeCarpet 9 = .ok (.ireturn, 1) := by decide +kernel
theorem dX0_takeCarpet_10 : decode cX0_takeCarpet 10 = .ok (.aload_n 0, 1) := by decide +kernel
theorem dX0_takeCarpet_11 : decode cX0_takeCarpet 11 = .ok (.getfield 9, 3) := by decide +kernel
theorem dX0_takeCarpet_14 : decode cX0_takeCarpet 14 = .ok (.iload_n 1, 1) := by decide +kernel
theorem dX0_takeCarpet_15 : decode cX0_takeCarpet 15 = .ok (.iaload, 1) := by decide +kernel
theorem dX0_takeCarpet_16 : decode cX0_takeCarpet 16 = .ok (.istore_n 2, 1) := by decide +kernel
theorem dX0_takeCarpet_17 : decode cX0_takeCarpet 17 = .ok (.aload_n 0, 1) := by decide +kernel
theorem dX0_takeCarpet_18 : decode cX0_takeCarpet 18 = .ok (.getfield 9, 3) := by decide +kernel
theorem dX0_takeCarpet_21 : decode cX0_takeCarpet 21 = .ok (.iload_n 1, 1) := by decide +kernel
theorem dX0_takeCarpet_22 : decode cX0_takeCarpet 22 = .ok (.bipush (-6), 2) := by decide +kernel
theorem dX0_takeCarpet_24 : decode cX0_takeCarpet 24 = .ok (.iastore, 1) := by decide +kernel
theorem dX0_takeCarpet_25 : decode cX0_takeCarpet 25 = .ok (.iload_n 2, 1) := by decide +kernel
theorem dX0_takeCarpet_26 : decode cX0_takeCarpet 26 = .ok (.ireturn, 1) := by decide +kernel
theorem dX0_putLanding_0 : decode cX0_putLanding 0 = .ok (.iload_n 1, 1) := by decide +kernel
theorem dX0_putLanding_1 : decode cX0_putLanding 1 = .ok (.ifCond .eq 11, 3) := by decide +kernel
theorem dX0_putLanding_4 : decode cX0_putLanding 4 = .ok (.aload_n 0, 1) := by decide +kernel
theorem dX0_putLanding_5 : decode cX0_putLanding 5 = .ok (.iload_n 1, 1) := by decide +kernel
theorem dX0_putLanding_6 : decode cX0_putLanding 6 = .ok (.invokevirtual 70, 3) := by decide +kernel
theorem dX0_putLanding_9 : decode cX0_putLanding 9 = .ok (.ifCond .ne 5, 3) := by decide +kernel
theorem dX0_putLanding_12 : decode cX0_putLanding 12 = .ok (.iconst (-1), 1) := by decide +kernel
theorem dX0_putLanding_13 : decode cX0_putLanding 13 = .ok (.ireturn, 1) := by decide +kernel
theorem dX0_putLanding_14 : decode cX0_putLanding 14 = .ok (.aload_n 0, 1) := by decide +kernel
theorem dX0_putLanding_15 : decode cX0_putLanding 15 = .ok (.getfield 15, 3) := by decide +kernel
theorem dX0_putLanding_18 : decode cX0_putLanding 18 = .ok (.iload_n 1, 1) := by decide +kernel
theorem dX0_putLanding_19 : decode cX0_putLanding 19 = .ok (.baload, 1) := by decide +kernel
theorem dX0_putLanding_20 : decode cX0_putLanding 20 = .ok (.ifCond .ne 11, 3) := by decide +kernel
theorem dX0_putLanding_23 : decode cX0_putLanding 23 = .ok (.aload_n 0, 1) := by decide +kernel
theorem dX0_putLanding_24 : decode cX0_putLanding 24 = .ok (.iload_n 1, 1) := by decide +kernel
theorem dX0_putLanding_25 : decode cX0_putLanding 25 = .ok (.invokevirtual 63, 3) := by decide +kernel
theorem dX0_putLanding_28 : decode cX0_putLanding 28 = .ok (.ifCond .eq 6, 3) := by decide +kernel
theorem dX0_putLanding_31 : decode cX0_putLanding 31 = .ok (.bipush (-3), 2) := by decide +kernel
theorem dX0_putLanding_33 : decode cX0_putLanding 33 = .ok (.ireturn, 1) := by decide +kernel
theorem dX0_putLanding_34 : decode cX0_putLanding 34 = .ok (.aload_n 0, 1) := by decide +kernel
theorem dX0_putLanding_35 : decode cX0_putLanding 35 = .ok (.getfield 15, 3) := by decide +kernel
theorem dX0_putLanding_38 : decode cX0_putLanding 38 = .ok (.iload_n 1, 1) := by decide +kernel
theorem dX0_putLanding_39 : decode cX0_putLanding 39 = .ok (.iconst 1, 1) := by decide +kernel
theorem dX0_putLanding_40 : decode cX0_putLanding 40 = .ok (.bastore, 1) := by decide +kernel
theorem dX0_putLanding_41 : decode cX0_putLanding 41 = .ok (.aload_n 0, 1) := by decide +kernel
theorem dX0_putLanding_42 : decode cX0_putLanding 42 = .ok (.invokevirtual 80, 3) := by decide +kernel
theorem dX0_putLanding_45 : decode cX0_putLanding 45 = .ok (.ireturn, 1) := by decide +kernel
theorem dX0_removeLanding_0 : decode cX0_removeLanding 0 = .ok (.aload_n 0, 1) := by decide +kernel
theorem dX0_removeLanding_1 : decode cX0_removeLanding 1 = .ok (.iload_n 1, 1) := by decide +kernel
theorem dX0_removeLanding_2 : decode cX0_removeLanding 2 = .ok (.invokevirtual 83, 3) := by decide +kernel
theorem dX0_removeLanding_5 : decode cX0_removeLanding 5 = .ok (.ifCond .ne 5, 3) := by decide +kernel
theorem dX0_removeLanding_8 : decode cX0_removeLanding 8 = .ok (.iconst (-1), 1) := by decide +kernel
theorem dX0_removeLanding_9 : decode cX0_removeLanding 9 = .ok (.ireturn, 1) := by decide +kernel
theorem dX0_removeLanding_10 : decode cX0_removeLanding 10 = .ok (.aload_n 0, 1) := by decide +kernel
theorem dX0_removeLanding_11 : decode cX0_removeLanding 11 = .ok (.getfield 15, 3) := by decide +kernel
theorem dX0_removeLanding_14 : decode cX0_removeLanding 14 = .ok (.iload_n 1, 1) := by decide +kernel
theorem dX0_removeLanding_15 : decode cX0_removeLanding 15 = .ok (.iconst 0, 1) := by decide +kernel
theorem dX0_removeLanding_16 : decode cX0_removeLanding 16 = .ok (.bastore, 1) := by decide +kernel
theorem dX0_removeLanding_17 : decode cX0_removeLanding 17 = .ok (.aload_n 0, 1) := by decide +kernel
theorem dX0_removeLanding_18 : decode cX0_removeLanding 18 = .ok (.iload_n 1, 1) := by decide +kernel
theorem dX0_removeLanding_19 : decode cX0_removeLanding 19 = .ok (.invokevirtual 66, 3) := by decide +kernel
theorem dX0_removeLanding_22 : decode cX0_removeLanding 22 = .ok (.invokestatic 86, 3) := by decide +kernel
theorem dX0_removeLanding_25 : decode cX0_removeLanding 25 = .ok (.ireturn, 1) := by decide +kernel
theorem dX0_addClimber_0 : decode cX0_addClimber 0 = .ok (.aload_n 0, 1) := by decide +kernel
theorem dX0_addClimber_1 : decode cX0_addClimber 1 = .ok (.getfield 41, 3) := by decide +kernel
theorem dX0_addClimber_4 : decode cX0_addClimber 4 = .ok (.bipush 6, 2) := by decide +kernel
theorem dX0_addClimber_6 : decode cX0_addClimber 6 = .ok (.if_icmp .lt 6, 3) := by decide +kernel
theorem dX0_addClimber_9 : decode cX0_addClimber 9 = .ok (.bipush (-4), 2) := by decide +kernel
theorem dX0_addClimber_11 : decode cX0_addClimber 11 = .ok (.ireturn, 1) := by decide +kernel
theorem dX0_addClimber_12 : decode cX0_addClimber 12 = .ok (.aload_n 0, 1) := by decide +kernel
theorem dX0_addClimber_13 : decode cX0_addClimber 13 = .ok (.dup, 1) := by decide +kernel
theorem dX0_addClimber_14 : decode cX0_addClimber 14 = .ok (.getfield 41, 3) := by decide +kernel
theorem dX0_addClimber_17 : decode cX0_addClimber 17 = .ok (.iconst 1, 1) := by decide +kernel
theorem dX0_addClimber_18 : decode cX0_addClimber 18 = .ok (.iadd, 1) := by decide +kernel
theorem dX0_addClimber_19 : decode cX0_addClimber 19 = .ok (.putfield 41, 3) := by decide +kernel
theorem dX0_addClimber_22 : decode cX0_addClimber 22 = .ok (.aload_n 0, 1) := by decide +kernel
theorem dX0_addClimber_23 : decode cX0_addClimber 23 = .ok (.getfield 41, 3) := by decide +kernel
theorem dX0_addClimber_26 : decode cX0_addClimber 26 = .ok (.iconst 1, 1) := by decide +kernel
theorem dX0_addClimber_27 : decode cX0_addClimber 27 = .ok (.isub, 1) := by decide +kernel
theorem dX0_addClimber_28 : decode cX0_addClimber 28 = .ok (.ireturn, 1) := by decide +kernel
theorem dX0_makeRoll_0 : decode cX0_makeRoll 0 = .ok (.iload_n 1, 1) := by decide +kernel
theorem dX0_makeRoll_1 : decode cX0_makeRoll 1 = .ok (.invokestatic 91, 3) := by decide +kernel
theorem dX0_makeRoll_4 : decode cX0_makeRoll 4 = .ok (.ifCond .ne 6, 3) := by decide +kernel
theorem dX0_makeRoll_7 : decode cX0_makeRoll 7 = .ok (.bipush (-2), 2) := by decide +kernel
theorem dX0_makeRoll_9 : decode cX0_makeRoll 9 = .ok (.ireturn, 1) := by decide +kernel
theorem dX0_makeRoll_10 : decode cX0_makeRoll 10 = .ok (.aload_n 0, 1) := by decide +kernel
theorem dX0_makeRoll_11 : decode cX0_makeRoll 11 = .ok (.invokevirtual 94, 3) := by decide +kernel
theorem dX0_makeRoll_14 : decode cX0_makeRoll 14 = .ok (.ifCond .ne 6, 3) := by decide +kernel
theorem dX0_makeRoll_17 : decode cX0_makeRoll 17 = .ok (.bipush (-3), 2) := by decide +kernel
theorem dX0_makeRoll_19 : decode cX0_makeRoll 19 = .ok (.ireturn, 1) := by decide +kernel
theorem dX0_makeRoll_20 : decode cX0_makeRoll 20 = .ok (.aload_n 0, 1) := by decide +kernel
theorem dX0_makeRoll_21 : decode cX0_makeRoll 21 = .ok (.getfield 44, 3) := by decide +kernel
theorem dX0_makeRoll_24 : decode cX0_makeRoll 24 = .ok (.istore_n 2, 1) := by decide +kernel
theorem dX0_makeRoll_25 : decode cX0_makeRoll 25 = .ok (.aload_n 0, 1) := by decide +kernel
theorem dX0_makeRoll_26 : decode cX0_makeRoll 26 = .ok (.getfield 19, 3) := by decide +kernel
theorem dX0_makeRoll_29 : decode cX0_makeRoll 29 = .ok (.iload_n 2, 1) := by decide +kernel
theorem dX0_makeRoll_30 : decode cX0_makeRoll 30 = .ok (.iaload, 1) := by decide +kernel
theorem dX0_makeRoll_31 : decode cX0_makeRoll 31 = .ok (.iload_n 1, 1) := by decide +kernel
theorem dX0_makeRoll_32 : decode cX0_makeRoll 32 = .ok (.iadd, 1) := by decide +kernel
theorem dX0_makeRoll_33 : decode cX0_makeRoll 33 = .ok (.istore_n 3, 1) := by decide +kernel
theorem dX0_makeRoll_34 : decode cX0_makeRoll 34 = .ok (.aload_n 0, 1) := by decide +kernel
theorem dX0_makeRoll_35 : decode cX0_makeRoll 35 = .ok (.dup, 1) := by decide +kernel
theorem dX0_makeRoll_36 : decode cX0_makeRoll 36 = .ok (.getfield 47, 3) := by decide +kernel
theorem dX0_makeRoll_39 : decode cX0_makeRoll 39 = .ok (.iconst 1, 1) := by decide +kernel
theorem dX0_makeRoll_40 : decode cX0_makeRoll 40 = .ok (.iadd, 1) := by decide +kernel
theorem dX0_makeRoll_41 : decode cX0_makeRoll 41 = .ok (.putfield 47, 3) := by decide +kernel
theorem dX0_makeRoll_44 : decode cX0_makeRoll 44 = .ok (.aload_n 0, 1) := by decide +kernel
theorem dX0_makeRoll_45 : decode cX0_makeRoll 45 = .ok (.iload_n 1, 1) := by decide +kernel
theorem dX0_makeRoll_46 : decode cX0_makeRoll 46 = .ok (.invokevirtual 98, 3) := by decide +kernel
theorem dX0_makeRoll_49 : decode cX0_makeRoll 49 = .ok (.aload_n 0, 1) := by decide +kernel
theorem dX0_makeRoll_50 : decode cX0_makeRoll 50 = .ok (.iload_n 2, 1) := by decide +kernel
theorem dX0_makeRoll_51 : decode cX0_makeRoll 51 = .ok (.iload_n 3, 1) := by decide +kernel
theorem dX0_makeRoll_52 : decode cX0_makeRoll 52 = .ok (.invokevirtual 102, 3) := by decide +kernel
theorem dX0_makeRoll_55 : decode cX0_makeRoll 55 = .ok (.aload_n 0, 1) := by decide +kernel
theorem dX0_makeRoll_56 : decode cX0_makeRoll 56 = .ok (.iload_n 3, 1) := by decide +kernel
theorem dX0_makeRoll_57 : decode cX0_makeRoll 57 = .ok (.invokevirtual 83, 3) := by decide +kernel
theorem dX0_makeRoll_60 : decode cX0_makeRoll 60 = .ok (.ifCond .eq 13, 3) := by decide +kernel
theorem dX0_makeRoll_63 : decode cX0_makeRoll 63 = .ok (.aload_n 0, 1) := by decide +kernel
theorem dX0_makeRoll_64 : decode cX0_makeRoll 64 = .ok (.getfield 25, 3) := by decide +kernel
theorem dX0_makeRoll_67 : decode cX0_makeRoll 67 = .ok (.iload_n 2, 1) := by decide +kernel
theorem dX0_makeRoll_68 : decode cX0_makeRoll 68 = .ok (.dup2, 1) := by decide +kernel
theorem dX0_makeRoll_69 : decode cX0_makeRoll 69 = .ok (.iaload, 1) := by decide +kernel
theorem dX0_makeRoll_70 : decode cX0_makeRoll 70 = .ok (.iconst 1, 1) := by decide +kernel
theorem dX0_makeRoll_71 : decode cX0_makeRoll 71 = .ok (.iadd, 1) := by decide +kernel
theorem dX0_makeRoll_72 : decode cX0_makeRoll 72 = .ok (.iastore, 1) := by decide +kernel
theorem dX0_makeRoll_73 : decode cX0_makeRoll 73 = .ok (.aload_n 0, 1) := by decide +kernel
theorem dX0_makeRoll_74 : decode cX0_makeRoll 74 = .ok (.invokevirtual 106, 3) := by decide +kernel
theorem dX0_makeRoll_77 : decode cX0_makeRoll 77 = .ok (.aload_n 0, 1) := by decide +kernel
theorem dX0_makeRoll_78 : decode cX0_makeRoll 78 = .ok (.getfield 19, 3) := by decide +kernel
theorem dX0_makeRoll_81 : decode cX0_makeRoll 81 = .ok (.iload_n 2, 1) := by decide +kernel
theorem dX0_makeRoll_82 : decode cX0_makeRoll 82 = .ok (.iaload, 1) := by decide +kernel
theorem dX0_makeRoll_83 : decode cX0_makeRoll 83 = .ok (.ireturn, 1) := by decide +kernel
theorem dX0_makePass_0 : decode cX0_makePass 0 = .ok (.aload_n 0, 1) := by decide +kernel
theorem dX0_makePass_1 : decode cX0_makePass 1 = .ok (.invokevirtual 94, 3) := by decide +kernel
theorem dX0_makePass_4 : decode cX0_makePass 4 = .ok (.ifCond .ne 6, 3) := by decide +kernel
theorem dX0_makePass_7 : decode cX0_makePass 7 = .ok (.bipush (-3), 2) := by decide +kernel
theorem dX0_makePass_9 : decode cX0_makePass 9 = .ok (.ireturn, 1) := by decide +kernel
theorem dX0_makePass_10 : decode cX0_makePass 10 = .ok (.aload_n 0, 1) := by decide +kernel
theorem dX0_makePass_11 : decode cX0_makePass 11 = .ok (.invokevirtual 106, 3) := by decide +kernel
theorem dX0_makePass_14 : decode cX0_makePass 14 = .ok (.aload_n 0, 1) := by decide +kernel
theorem dX0_makePass_15 : decode cX0_makePass 15 = .ok (.getfield 44, 3) := by decide +kernel
theorem dX0_makePass_18 : decode cX0_makePass 18 = .ok (.ireturn, 1) := by decide +kernel
theorem dX0_wouldLift_0 : decode cX0_wouldLift 0 = .ok (.iconst 0, 1) := by decide +kernel
theorem dX0_wouldLift_1 : decode cX0_wouldLift 1 = .ok (.istore_n 2, 1) := by decide +kernel
theorem dX0_wouldLift_2 : decode cX0_wouldLift 2 = .ok (.iload_n 2, 1) := by decide +kernel
theorem dX0_wouldLift_3 : decode cX0_wouldLift 3 = .ok (.aload_n 0, 1) := by decide +kernel
theorem dX0_wouldLift_4 : decode cX0_wouldLift 4 = .ok (.getfield 41, 3) := by decide +kernel
theorem dX0_wouldLift_7 : decode cX0_wouldLift 7 = .ok (.if_icmp .ge 20, 3) := by decide +kernel
theorem dX0_wouldLift_10 : decode cX0_wouldLift 10 = .ok (.aload_n 0, 1) := by decide +kernel
theorem dX0_wouldLift_11 : decode cX0_wouldLift 11 = .ok (.iload_n 2, 1) := by decide +kernel
theorem dX0_wouldLift_12 : decode cX0_wouldLift 12 = .ok (.iload_n 1, 1) := by decide +kernel
theorem dX0_wouldLift_13 : decode cX0_wouldLift 13 = .ok (.invokevirtual 109, 3) := by decide +kernel
theorem dX0_wouldLift_16 : decode cX0_wouldLift 16 = .ok (.ifCond .eq 5, 3) := by decide +kernel
theorem dX0_wouldLift_19 : decode cX0_wouldLift 19 = .ok (.iconst 1, 1) := by decide +kernel
theorem dX0_wouldLift_20 : decode cX0_wouldLift 20 = .ok (.ireturn, 1) := by decide +kernel
theorem dX0_wouldLift_21 : decode cX0_wouldLift 21 = .ok (.iinc 2 1, 3) := by decide +kernel
theorem dX0_wouldLift_24 : decode cX0_wouldLift 24 = .ok (.goto (-22), 3) := by decide +kernel
theorem dX0_wouldLift_27 : decode cX0_wouldLift 27 = .ok (.iconst 0, 1) := by decide +kernel
theorem dX0_wouldLift_28 : decode cX0_wouldLift 28 = .ok (.ireturn, 1) := by decide +kernel
theorem dX0_isPassed_0 : decode cX0_isPassed 0 = .ok (.aload_n 0, 1) := by decide +kernel
theorem dX0_isPassed_1 : decode cX0_isPassed 1 = .ok (.getfield 19, 3) := by decide +kernel
theorem dX0_isPassed_4 : decode cX0_isPassed 4 = .ok (.iload_n 1, 1) := by decide +kernel
theorem dX0_isPassed_5 : decode cX0_isPassed 5 = .ok (.iaload, 1) := by decide +kernel
theorem dX0_isPassed_6 : decode cX0_isPassed 6 = .ok (.istore_n 3, 1) := by decide +kernel
theorem dX0_isPassed_7 : decode cX0_isPassed 7 = .ok (.aload_n 0, 1) := by decide +kernel
theorem dX0_isPassed_8 : decode cX0_isPassed 8 = .ok (.getfield 19, 3) := by decide +kernel
theorem dX0_isPassed_11 : decode cX0_isPassed 11 = .ok (.aload_n 0, 1) := by decide +kernel
theorem dX0_isPassed_12 : decode cX0_isPassed 12 = .ok (.getfield 44, 3) := by decide +kernel
theorem dX0_isPassed_15 : decode cX0_isPassed 15 = .ok (.iaload, 1) := by decide +kernel
theorem dX0_isPassed_16 : decode cX0_isPassed 16 = .ok (.istore 4, 2) := by decide +kernel
theorem dX0_isPassed_18 : decode cX0_isPassed 18 = .ok (.iload_n 3, 1) := by decide +kernel
theorem dX0_isPassed_19 : decode cX0_isPassed 19 = .ok (.iload 4, 2) := by decide +kernel
theorem dX0_isPassed_21 : decode cX0_isPassed 21 = .ok (.if_icmp .le 23, 3) := by decide +kernel
theorem dX0_isPassed_24 : decode cX0_isPassed 24 = .ok (.iload_n 3, 1) := by decide +kernel
theorem dX0_isPassed_25 : decode cX0_isPassed 25 = .ok (.iload 4, 2) := by decide +kernel
theorem dX0_isPassed_27 : decode cX0_isPassed 27 = .ok (.iload_n 2, 1) := by decide +kernel
theorem dX0_isPassed_28 : decode cX0_isPassed 28 = .ok (.iadd, 1) := by decide +kernel
theorem dX0_isPassed_29 : decode cX0_isPassed 29 = .ok (.if_icmp .ge 15, 3) := by decide +kernel
theorem dX0_isPassed_32 : decode cX0_isPassed 32 = .ok (.aload_n 0, 1) := by decide +kernel
theorem dX0_isPassed_33 : decode cX0_isPassed 33 = .ok (.iload_n 3, 1) := by decide +kernel
theorem dX0_isPassed_34 : decode cX0_isPassed 34 = .ok (.invokevirtual 83, 3) := by decide +kernel
theorem dX0_isPassed_37 : decode cX0_isPassed 37 = .ok (.ifCond .ne 7, 3) := by decide +kernel
theorem dX0_isPassed_40 : decode cX0_isPassed 40 = .ok (.iconst 1, 1) := by decide +kernel
theorem dX0_isPassed_41 : decode cX0_isPassed 41 = .ok (.goto 4, 3) := by decide +kernel
theorem dX0_isPassed_44 : decode cX0_isPassed 44 = .ok (.iconst 0, 1) := by decide +kernel
theorem dX0_isPassed_45 : decode cX0_isPassed 45 = .ok (.ireturn, 1) := by decide +kernel
theorem dX0_liftThosePassed_0 : decode cX0_liftThosePassed 0 = .ok (.iconst 0, 1) := by decide +kernel
theorem dX0_liftThosePassed_1 : decode cX0_liftThosePassed 1 = .ok (.istore_n 2, 1) := by decide +kernel
theorem dX0_liftThosePassed_2 : decode cX0_liftThosePassed 2 = .ok (.iload_n 2, 1) := by decide +kernel
theorem dX0_liftThosePassed_3 : decode cX0_liftThosePassed 3 = .ok (.aload_n 0, 1) := by decide +kernel
theorem dX0_liftThosePassed_4 : decode cX0_liftThosePassed 4 = .ok (.getfield 41, 3) := by decide +kernel
theorem dX0_liftThosePassed_7 : decode cX0_liftThosePassed 7 = .ok (.if_icmp .ge 54, 3) := by decide +kernel
theorem dX0_liftThosePassed_10 : decode cX0_liftThosePassed 10 = .ok (.aload_n 0, 1) := by decide +kernel
theorem dX0_liftThosePassed_11 : decode cX0_liftThosePassed 11 = .ok (.iload_n 2, 1) := by decide +kernel
theorem dX0_liftThosePassed_12 : decode cX0_liftThosePassed 12 = .ok (.iload_n 1, 1) := by decide +kernel
theorem dX0_liftThosePassed_13 : decode cX0_liftThosePassed 13 = .ok (.invokevirtual 109, 3) := by decide +kernel
theorem dX0_liftThosePassed_16 : decode cX0_liftThosePassed 16 = .ok (.ifCond .eq 39, 3) := by decide +kernel
theorem dX0_liftThosePassed_19 : decode cX0_liftThosePassed 19 = .ok (.aload_n 0, 1) := by decide +kernel
theorem dX0_liftThosePassed_20 : decode cX0_liftThosePassed 20 = .ok (.getfield 28, 3) := by decide +kernel
theorem dX0_liftThosePassed_23 : decode cX0_liftThosePassed 23 = .ok (.iload_n 2, 1) := by decide +kernel
theorem dX0_liftThosePassed_24 : decode cX0_liftThosePassed 24 = .ok (.dup2, 1) := by decide +kernel
theorem dX0_liftThosePassed_25 : decode cX0_liftThosePassed 25 = .ok (.iaload, 1) := by decide +kernel
theorem dX0_liftThosePassed_26 : decode cX0_liftThosePassed 26 = .ok (.iconst 1, 1) := by decide +kernel
theorem dX0_liftThosePassed_27 : decode cX0_liftThosePassed 27 = .ok (.iadd, 1) := by decide +kernel
theorem dX0_liftThosePassed_28 : decode cX0_liftThosePassed 28 = .ok (.iastore, 1) := by decide +kernel
theorem dX0_liftThosePassed_29 : decode cX0_liftThosePassed 29 = .ok (.aload_n 0, 1) := by decide +kernel
theorem dX0_liftThosePassed_30 : decode cX0_liftThosePassed 30 = .ok (.getfield 31, 3) := by decide +kernel
theorem dX0_liftThosePassed_33 : decode cX0_liftThosePassed 33 = .ok (.aload_n 0, 1) := by decide +kernel
theorem dX0_liftThosePassed_34 : decode cX0_liftThosePassed 34 = .ok (.getfield 44, 3) := by decide +kernel
theorem dX0_liftThosePassed_37 : decode cX0_liftThosePassed 37 = .ok (.dup2, 1) := by decide +kernel
theorem dX0_liftThosePassed_38 : decode cX0_liftThosePassed 38 = .ok (.iaload, 1) := by decide +kernel
theorem dX0_liftThosePassed_39 : decode cX0_liftThosePassed 39 = .ok (.iconst 1, 1) := by decide +kernel
theorem dX0_liftThosePassed_40 : decode cX0_liftThosePassed 40 = .ok (.iadd, 1) := by decide +kernel
theorem dX0_liftThosePassed_41 : decode cX0_liftThosePassed 41 = .ok (.iastore, 1) := by decide +kernel
theorem dX0_liftThosePassed_42 : decode cX0_liftThosePassed 42 = .ok (.aload_n 0, 1) := by decide +kernel
theorem dX0_liftThosePassed_43 : decode cX0_liftThosePassed 43 = .ok (.iload_n 2, 1) := by decide +kernel
theorem dX0_liftThosePassed_44 : decode cX0_liftThosePassed 44 = .ok (.aload_n 0, 1) := by decide +kernel
theorem dX0_liftThosePassed_45 : decode cX0_liftThosePassed 45 = .ok (.getfield 19, 3) := by decide +kernel
theorem dX0_liftThosePassed_48 : decode cX0_liftThosePassed 48 = .ok (.iload_n 2, 1) := by decide +kernel
theorem dX0_liftThosePassed_49 : decode cX0_liftThosePassed 49 = .ok (.iaload, 1) := by decide +kernel
theorem dX0_liftThosePassed_50 : decode cX0_liftThosePassed 50 = .ok (.iconst 1, 1) := by decide +kernel
theorem dX0_liftThosePassed_51 : decode cX0_liftThosePassed 51 = .ok (.iadd, 1) := by decide +kernel
theorem dX0_liftThosePassed_52 : decode cX0_liftThosePassed 52 = .ok (.invokevirtual 102, 3) := by decide +kernel
theorem dX0_liftThosePassed_55 : decode cX0_liftThosePassed 55 = .ok (.iinc 2 1, 3) := by decide +kernel
theorem dX0_liftThosePassed_58 : decode cX0_liftThosePassed 58 = .ok (.goto (-56), 3) := by decide +kernel
theorem dX0_liftThosePassed_61 : decode cX0_liftThosePassed 61 = .ok (.return_, 1) := by decide +kernel
theorem dX0_comeTo_0 : decode cX0_comeTo 0 = .ok (.aload_n 0, 1) := by decide +kernel
theorem dX0_comeTo_1 : decode cX0_comeTo 1 = .ok (.iload_n 2, 1) := by decide +kernel
theorem dX0_comeTo_2 : decode cX0_comeTo 2 = .ok (.invokevirtual 70, 3) := by decide +kernel
theorem dX0_comeTo_5 : decode cX0_comeTo 5 = .ok (.ifCond .ne 23, 3) := by decide +kernel
theorem dX0_comeTo_8 : decode cX0_comeTo 8 = .ok (.aload_n 0, 1) := by decide +kernel
theorem dX0_comeTo_9 : decode cX0_comeTo 9 = .ok (.getfield 22, 3) := by decide +kernel
theorem dX0_comeTo_12 : decode cX0_comeTo 12 = .ok (.iload_n 1, 1) := by decide +kernel
theorem dX0_comeTo_13 : decode cX0_comeTo 13 = .ok (.dup2, 1) := by decide +kernel
theorem dX0_comeTo_14 : decode cX0_comeTo 14 = .ok (.iaload, 1) := by decide +kernel
theorem dX0_comeTo_15 : decode cX0_comeTo 15 = .ok (.iconst 1, 1) := by decide +kernel
theorem dX0_comeTo_16 : decode cX0_comeTo 16 = .ok (.iadd, 1) := by decide +kernel
theorem dX0_comeTo_17 : decode cX0_comeTo 17 = .ok (.iastore, 1) := by decide +kernel
theorem dX0_comeTo_18 : decode cX0_comeTo 18 = .ok (.aload_n 0, 1) := by decide +kernel
theorem dX0_comeTo_19 : decode cX0_comeTo 19 = .ok (.getfield 19, 3) := by decide +kernel
theorem dX0_comeTo_22 : decode cX0_comeTo 22 = .ok (.iload_n 1, 1) := by decide +kernel
theorem dX0_comeTo_23 : decode cX0_comeTo 23 = .ok (.iconst 0, 1) := by decide +kernel
theorem dX0_comeTo_24 : decode cX0_comeTo 24 = .ok (.iastore, 1) := by decide +kernel
theorem dX0_comeTo_25 : decode cX0_comeTo 25 = .ok (.goto 46, 3) := by decide +kernel
theorem dX0_comeTo_28 : decode cX0_comeTo 28 = .ok (.aload_n 0, 1) := by decide +kernel
theorem dX0_comeTo_29 : decode cX0_comeTo 29 = .ok (.getfield 9, 3) := by decide +kernel
theorem dX0_comeTo_32 : decode cX0_comeTo 32 = .ok (.iload_n 2, 1) := by decide +kernel
theorem dX0_comeTo_33 : decode cX0_comeTo 33 = .ok (.iaload, 1) := by decide +kernel
theorem dX0_comeTo_34 : decode cX0_comeTo 34 = .ok (.bipush (-6), 2) := by decide +kernel
theorem dX0_comeTo_36 : decode cX0_comeTo 36 = .ok (.if_icmp .eq 28, 3) := by decide +kernel
theorem dX0_comeTo_39 : decode cX0_comeTo 39 = .ok (.aload_n 0, 1) := by decide +kernel
theorem dX0_comeTo_40 : decode cX0_comeTo 40 = .ok (.getfield 34, 3) := by decide +kernel
theorem dX0_comeTo_43 : decode cX0_comeTo 43 = .ok (.iload_n 1, 1) := by decide +kernel
theorem dX0_comeTo_44 : decode cX0_comeTo 44 = .ok (.dup2, 1) := by decide +kernel
theorem dX0_comeTo_45 : decode cX0_comeTo 45 = .ok (.iaload, 1) := by decide +kernel
theorem dX0_comeTo_46 : decode cX0_comeTo 46 = .ok (.iconst 1, 1) := by decide +kernel
theorem dX0_comeTo_47 : decode cX0_comeTo 47 = .ok (.iadd, 1) := by decide +kernel
theorem dX0_comeTo_48 : decode cX0_comeTo 48 = .ok (.iastore, 1) := by decide +kernel
theorem dX0_comeTo_49 : decode cX0_comeTo 49 = .ok (.aload_n 0, 1) := by decide +kernel
theorem dX0_comeTo_50 : decode cX0_comeTo 50 = .ok (.getfield 19, 3) := by decide +kernel
theorem dX0_comeTo_53 : decode cX0_comeTo 53 = .ok (.iload_n 1, 1) := by decide +kernel
theorem dX0_comeTo_54 : decode cX0_comeTo 54 = .ok (.aload_n 0, 1) := by decide +kernel
theorem dX0_comeTo_55 : decode cX0_comeTo 55 = .ok (.getfield 9, 3) := by decide +kernel
theorem dX0_comeTo_58 : decode cX0_comeTo 58 = .ok (.iload_n 2, 1) := by decide +kernel
theorem dX0_comeTo_59 : decode cX0_comeTo 59 = .ok (.iaload, 1) := by decide +kernel
theorem dX0_comeTo_60 : decode cX0_comeTo 60 = .ok (.iastore, 1) := by decide +kernel
theorem dX0_comeTo_61 : decode cX0_comeTo 61 = .ok (.goto 10, 3) := by decide +kernel
theorem dX0_comeTo_64 : decode cX0_comeTo 64 = .ok (.aload_n 0, 1) := by decide +kernel
theorem dX0_comeTo_65 : decode cX0_comeTo 65 = .ok (.getfield 19, 3) := by decide +kernel
theorem dX0_comeTo_68 : decode cX0_comeTo 68 = .ok (.iload_n 1, 1) := by decide +kernel
theorem dX0_comeTo_69 : decode cX0_comeTo 69 = .ok (.iload_n 2, 1) := by decide +kernel
theorem dX0_comeTo_70 : decode cX0_comeTo 70 = .ok (.iastore, 1) := by decide +kernel
theorem dX0_comeTo_71 : decode cX0_comeTo 71 = .ok (.return_, 1) := by decide +kernel
theorem dX0_goToNextMover_0 : decode cX0_goToNextMover 0 = .ok (.aload_n 0, 1) := by decide +kernel
theorem dX0_goToNextMover_1 : decode cX0_goToNextMover 1 = .ok (.aload_n 0, 1) := by decide +kernel
theorem dX0_goToNextMover_2 : decode cX0_goToNextMover 2 = .ok (.getfield 44, 3) := by decide +kernel
theorem dX0_goToNextMover_5 : decode cX0_goToNextMover 5 = .ok (.invokevirtual 113, 3) := by decide +kernel
theorem dX0_goToNextMover_8 : decode cX0_goToNextMover 8 = .ok (.istore_n 1, 1) := by decide +kernel
theorem dX0_goToNextMover_9 : decode cX0_goToNextMover 9 = .ok (.iconst 0, 1) := by decide +kernel
theorem dX0_goToNextMover_10 : decode cX0_goToNextMover 10 = .ok (.istore_n 2, 1) := by decide +kernel
theorem dX0_goToNextMover_11 : decode cX0_goToNextMover 11 = .ok (.iload_n 2, 1) := by decide +kernel
theorem dX0_goToNextMover_12 : decode cX0_goToNextMover 12 = .ok (.bipush 12, 2) := by decide +kernel
theorem dX0_goToNextMover_14 : decode cX0_goToNextMover 14 = .ok (.if_icmp .ge 44, 3) := by decide +kernel
theorem dX0_goToNextMover_17 : decode cX0_goToNextMover 17 = .ok (.aload_n 0, 1) := by decide +kernel
theorem dX0_goToNextMover_18 : decode cX0_goToNextMover 18 = .ok (.getfield 25, 3) := by decide +kernel
theorem dX0_goToNextMover_21 : decode cX0_goToNextMover 21 = .ok (.iload_n 1, 1) := by decide +kernel
theorem dX0_goToNextMover_22 : decode cX0_goToNextMover 22 = .ok (.iaload, 1) := by decide +kernel
theorem dX0_goToNextMover_23 : decode cX0_goToNextMover 23 = .ok (.ifCond .le 35, 3) := by decide +kernel
theorem dX0_goToNextMover_26 : decode cX0_goToNextMover 26 = .ok (.aload_n 0, 1) := by decide +kernel
theorem dX0_goToNextMover_27 : decode cX0_goToNextMover 27 = .ok (.getfield 25, 3) := by decide +kernel
theorem dX0_goToNextMover_30 : decode cX0_goToNextMover 30 = .ok (.iload_n 1, 1) := by decide +kernel
theorem dX0_goToNextMover_31 : decode cX0_goToNextMover 31 = .ok (.dup2, 1) := by decide +kernel
theorem dX0_goToNextMover_32 : decode cX0_goToNextMover 32 = .ok (.iaload, 1) := by decide +kernel
theorem dX0_goToNextMover_33 : decode cX0_goToNextMover 33 = .ok (.iconst 1, 1) := by decide +kernel
theorem dX0_goToNextMover_34 : decode cX0_goToNextMover 34 = .ok (.isub, 1) := by decide +kernel
theorem dX0_goToNextMover_35 : decode cX0_goToNextMover 35 = .ok (.iastore, 1) := by decide +kernel
theorem dX0_goToNextMover_36 : decode cX0_goToNextMover 36 = .ok (.aload_n 0, 1) := by decide +kernel
theorem dX0_goToNextMover_37 : decode cX0_goToNextMover 37 = .ok (.dup, 1) := by decide +kernel
theorem dX0_goToNextMover_38 : decode cX0_goToNextMover 38 = .ok (.getfield 50, 3) := by decide +kernel
theorem dX0_goToNextMover_41 : decode cX0_goToNextMover 41 = .ok (.iconst 1, 1) := by decide +kernel
theorem dX0_goToNextMover_42 : decode cX0_goToNextMover 42 = .ok (.iadd, 1) := by decide +kernel
theorem dX0_goToNextMover_43 : decode cX0_goToNextMover 43 = .ok (.putfield 50, 3) := by decide +kernel
theorem dX0_goToNextMover_46 : decode cX0_goToNextMover 46 = .ok (.aload_n 0, 1) := by decide +kernel
theorem dX0_goToNextMover_47 : decode cX0_goToNextMover 47 = .ok (.iload_n 1, 1) := by decide +kernel
theorem dX0_goToNextMover_48 : decode cX0_goToNextMover 48 = .ok (.invokevirtual 113, 3) := by decide +kernel
theorem dX0_goToNextMover_51 : decode cX0_goToNextMover 51 = .ok (.istore_n 1, 1) := by decide +kernel
theorem dX0_goToNextMover_52 : decode cX0_goToNextMover 52 = .ok (.iinc 2 1, 3) := by decide +kernel
theorem dX0_goToNextMover_55 : decode cX0_goToNextMover 55 = .ok (.goto (-44), 3) := by decide +kernel
theorem dX0_goToNextMover_58 : decode cX0_goToNextMover 58 = .ok (.aload_n 0, 1) := by decide +kernel
theorem dX0_goToNextMover_59 : decode cX0_goToNextMover 59 = .ok (.iload_n 1, 1) := by decide +kernel
theorem dX0_goToNextMover_60 : decode cX0_goToNextMover 60 = .ok (.putfield 44, 3) := by decide +kernel
theorem dX0_goToNextMover_63 : decode cX0_goToNextMover 63 = .ok (.return_, 1) := by decide +kernel
theorem dX0_behind_0 : decode cX0_behind 0 = .ok (.aload_n 0, 1) := by decide +kernel
theorem dX0_behind_1 : decode cX0_behind 1 = .ok (.iload_n 1, 1) := by decide +kernel
theorem dX0_behind_2 : decode cX0_behind 2 = .ok (.iconst 1, 1) := by decide +kernel
theorem dX0_behind_3 : decode cX0_behind 3 = .ok (.iadd, 1) := by decide +kernel
theorem dX0_behind_4 : decode cX0_behind 4 = .ok (.invokevirtual 59, 3) := by decide +kernel
theorem dX0_behind_7 : decode cX0_behind 7 = .ok (.ifCond .eq 9, 3) := by decide +kernel
theorem dX0_behind_10 : decode cX0_behind 10 = .ok (.iload_n 1, 1) := by decide +kernel
theorem dX0_behind_11 : decode cX0_behind 11 = .ok (.iconst 1, 1) := by decide +kernel
theorem dX0_behind_12 : decode cX0_behind 12 = .ok (.iadd, 1) := by decide +kernel
theorem dX0_behind_13 : decode cX0_behind 13 = .ok (.goto 4, 3) := by decide +kernel
theorem dX0_behind_16 : decode cX0_behind 16 = .ok (.iconst 0, 1) := by decide +kernel
theorem dX0_behind_17 : decode cX0_behind 17 = .ok (.ireturn, 1) := by decide +kernel
theorem dX0_isLanding_0 : decode cX0_isLanding 0 = .ok (.iload_n 1, 1) := by decide +kernel
theorem dX0_isLanding_1 : decode cX0_isLanding 1 = .ok (.ifCond .lt 24, 3) := by decide +kernel
theorem dX0_isLanding_4 : decode cX0_isLanding 4 = .ok (.iload_n 1, 1) := by decide +kernel
theorem dX0_isLanding_5 : decode cX0_isLanding 5 = .ok (.aload_n 0, 1) := by decide +kernel
theorem dX0_isLanding_6 : decode cX0_isLanding 6 = .ok (.getfield 37, 3) := by decide +kernel
theorem dX0_isLanding_9 : decode cX0_isLanding 9 = .ok (.if_icmp .ge 16, 3) := by decide +kernel
theorem dX0_isLanding_12 : decode cX0_isLanding 12 = .ok (.aload_n 0, 1) := by decide +kernel
theorem dX0_isLanding_13 : decode cX0_isLanding 13 = .ok (.getfield 15, 3) := by decide +kernel
theorem dX0_isLanding_16 : decode cX0_isLanding 16 = .ok (.iload_n 1, 1) := by decide +kernel
theorem dX0_isLanding_17 : decode cX0_isLanding 17 = .ok (.baload, 1) := by decide +kernel
theorem dX0_isLanding_18 : decode cX0_isLanding 18 = .ok (.ifCond .eq 7, 3) := by decide +kernel
theorem dX0_isLanding_21 : decode cX0_isLanding 21 = .ok (.iconst 1, 1) := by decide +kernel
theorem dX0_isLanding_22 : decode cX0_isLanding 22 = .ok (.goto 4, 3) := by decide +kernel
theorem dX0_isLanding_25 : decode cX0_isLanding 25 = .ok (.iconst 0, 1) := by decide +kernel
theorem dX0_isLanding_26 : decode cX0_isLanding 26 = .ok (.ireturn, 1) := by decide +kernel
theorem dX0_isUpperEnd_0 : decode cX0_isUpperEnd 0 = .ok (.iload_n 1, 1) := by decide +kernel
theorem dX0_isUpperEnd_1 : decode cX0_isUpperEnd 1 = .ok (.ifCond .lt 26, 3) := by decide +kernel
theorem dX0_isUpperEnd_4 : decode cX0_isUpperEnd 4 = .ok (.iload_n 1, 1) := by decide +kernel
theorem dX0_isUpperEnd_5 : decode cX0_isUpperEnd 5 = .ok (.aload_n 0, 1) := by decide +kernel
theorem dX0_isUpperEnd_6 : decode cX0_isUpperEnd 6 = .ok (.getfield 37, 3) := by decide +kernel
theorem dX0_isUpperEnd_9 : decode cX0_isUpperEnd 9 = .ok (.if_icmp .ge 18, 3) := by decide +kernel
theorem dX0_isUpperEnd_12 : decode cX0_isUpperEnd 12 = .ok (.aload_n 0, 1) := by decide +kernel
theorem dX0_isUpperEnd_13 : decode cX0_isUpperEnd 13 = .ok (.getfield 9, 3) := by decide +kernel
theorem dX0_isUpperEnd_16 : decode cX0_isUpperEnd 16 = .ok (.iload_n 1, 1) := by decide +kernel
theorem dX0_isUpperEnd_17 : decode cX0_isUpperEnd 17 = .ok (.iaload, 1) := by decide +kernel
theorem dX0_isUpperEnd_18 : decode cX0_isUpperEnd 18 = .ok (.bipush (-6), 2) := by decide +kernel
theorem dX0_isUpperEnd_20 : decode cX0_isUpperEnd 20 = .ok (.if_icmp .eq 7, 3) := by decide +kernel
theorem dX0_isUpperEnd_23 : decode cX0_isUpperEnd 23 = .ok (.iconst 1, 1) := by decide +kernel
theorem dX0_isUpperEnd_24 : decode cX0_isUpperEnd 24 = .ok (.goto 4, 3) := by decide +kernel
theorem dX0_isUpperEnd_27 : decode cX0_isUpperEnd 27 = .ok (.iconst 0, 1) := by decide +kernel
theorem dX0_isUpperEnd_28 : decode cX0_isUpperEnd 28 = .ok (.ireturn, 1) := by decide +kernel
theorem dX0_climbersOn_0 : decode cX0_climbersOn 0 = .ok (.iconst 0, 1) := by decide +kernel
theorem dX0_climbersOn_1 : decode cX0_climbersOn 1 = .ok (.istore_n 2, 1) := by decide +kernel
theorem dX0_climbersOn_2 : decode cX0_climbersOn 2 = .ok (.iconst 0, 1) := by decide +kernel
theorem dX0_climbersOn_3 : decode cX0_climbersOn 3 = .ok (.istore_n 3, 1) := by decide +kernel
theorem dX0_climbersOn_4 : decode cX0_climbersOn 4 = .ok (.iload_n 3, 1) := by decide +kernel
theorem dX0_climbersOn_5 : decode cX0_climbersOn 5 = .ok (.aload_n 0, 1) := by decide +kernel
theorem dX0_climbersOn_6 : decode cX0_climbersOn 6 = .ok (.getfield 41, 3) := by decide +kernel
theorem dX0_climbersOn_9 : decode cX0_climbersOn 9 = .ok (.if_icmp .ge 25, 3) := by decide +kernel
theorem dX0_climbersOn_12 : decode cX0_climbersOn 12 = .ok (.aload_n 0, 1) := by decide +kernel
theorem dX0_climbersOn_13 : decode cX0_climbersOn 13 = .ok (.getfield 19, 3) := by decide +kernel
theorem dX0_climbersOn_16 : decode cX0_climbersOn 16 = .ok (.iload_n 3, 1) := by decide +kernel
theorem dX0_climbersOn_17 : decode cX0_climbersOn 17 = .ok (.iaload, 1) := by decide +kernel
theorem dX0_climbersOn_18 : decode cX0_climbersOn 18 = .ok (.iload_n 1, 1) := by decide +kernel
theorem dX0_climbersOn_19 : decode cX0_climbersOn 19 = .ok (.if_icmp .ne 9, 3) := by decide +kernel
theorem dX0_climbersOn_22 : decode cX0_climbersOn 22 = .ok (.iload_n 2, 1) := by decide +kernel
theorem dX0_climbersOn_23 : decode cX0_climbersOn 23 = .ok (.iconst 1, 1) := by decide +kernel
theorem dX0_climbersOn_24 : decode cX0_climbersOn 24 = .ok (.iload_n 3, 1) := by decide +kernel
theorem dX0_climbersOn_25 : decode cX0_climbersOn 25 = .ok (.ishl, 1) := by decide +kernel
theorem dX0_climbersOn_26 : decode cX0_climbersOn 26 = .ok (.ior, 1) := by decide +kernel
theorem dX0_climbersOn_27 : decode cX0_climbersOn 27 = .ok (.istore_n 2, 1) := by decide +kernel
theorem dX0_climbersOn_28 : decode cX0_climbersOn 28 = .ok (.iinc 3 1, 3) := by decide +kernel
theorem dX0_climbersOn_31 : decode cX0_climbersOn 31 = .ok (.goto (-27), 3) := by decide +kernel
theorem dX0_climbersOn_34 : decode cX0_climbersOn 34 = .ok (.iload_n 2, 1) := by decide +kernel
theorem dX0_climbersOn_35 : decode cX0_climbersOn 35 = .ok (.ireturn, 1) := by decide +kernel
theorem dX0_countCarpets_0 : decode cX0_countCarpets 0 = .ok (.iconst 0, 1) := by decide +kernel
theorem dX0_countCarpets_1 : decode cX0_countCarpets 1 = .ok (.istore_n 1, 1) := by decide +kernel
theorem dX0_countCarpets_2 : decode cX0_countCarpets 2 = .ok (.iconst 0, 1) := by decide +kernel
theorem dX0_countCarpets_3 : decode cX0_countCarpets 3 = .ok (.istore_n 2, 1) := by decide +kernel
theorem dX0_countCarpets_4 : decode cX0_countCarpets 4 = .ok (.iload_n 2, 1) := by decide +kernel
theorem dX0_countCarpets_5 : decode cX0_countCarpets 5 = .ok (.aload_n 0, 1) := by decide +kernel
theorem dX0_countCarpets_6 : decode cX0_countCarpets 6 = .ok (.getfield 37, 3) := by decide +kernel
theorem dX0_countCarpets_9 : decode cX0_countCarpets 9 = .ok (.if_icmp .ge 20, 3) := by decide +kernel
theorem dX0_countCarpets_12 : decode cX0_countCarpets 12 = .ok (.aload_n 0, 1) := by decide +kernel
theorem dX0_countCarpets_13 : decode cX0_countCarpets 13 = .ok (.iload_n 2, 1) := by decide +kernel
theorem dX0_countCarpets_14 : decode cX0_countCarpets 14 = .ok (.invokevirtual 63, 3) := by decide +kernel
theorem dX0_countCarpets_17 : decode cX0_countCarpets 17 = .ok (.ifCond .eq 6, 3) := by decide +kernel
theorem dX0_countCarpets_20 : decode cX0_countCarpets 20 = .ok (.iinc 1 1, 3) := by decide +kernel
theorem dX0_countCarpets_23 : decode cX0_countCarpets 23 = .ok (.iinc 2 1, 3) := by decide +kernel
theorem dX0_countCarpets_26 : decode cX0_countCarpets 26 = .ok (.goto (-22), 3) := by decide +kernel
theorem dX0_countCarpets_29 : decode cX0_countCarpets 29 = .ok (.iload_n 1, 1) := by decide +kernel
theorem dX0_countCarpets_30 : decode cX0_countCarpets 30 = .ok (.ireturn, 1) := by decide +kernel
theorem dX0_countLandings_0 : decode cX0_countLandings 0 = .ok (.iconst 0, 1) := by decide +kernel
theorem dX0_countLandings_1 : decode cX0_countLandings 1 = .ok (.istore_n 1, 1) := by decide +kernel
theorem dX0_countLandings_2 : decode cX0_countLandings 2 = .ok (.iconst 0, 1) := by decide +kernel
theorem dX0_countLandings_3 : decode cX0_countLandings 3 = .ok (.istore_n 2, 1) := by decide +kernel
theorem dX0_countLandings_4 : decode cX0_countLandings 4 = .ok (.iload_n 2, 1) := by decide +kernel
theorem dX0_countLandings_5 : decode cX0_countLandings 5 = .ok (.aload_n 0, 1) := by decide +kernel
theorem dX0_countLandings_6 : decode cX0_countLandings 6 = .ok (.getfield 37, 3) := by decide +kernel
theorem dX0_countLandings_9 : decode cX0_countLandings 9 = .ok (.if_icmp .ge 20, 3) := by decide +kernel
theorem dX0_countLandings_12 : decode cX0_countLandings 12 = .ok (.aload_n 0, 1) := by decide +kernel
theorem dX0_countLandings_13 : decode cX0_countLandings 13 = .ok (.iload_n 2, 1) := by decide +kernel
theorem dX0_countLandings_14 : decode cX0_countLandings 14 = .ok (.invokevirtual 83, 3) := by decide +kernel
theorem dX0_countLandings_17 : decode cX0_countLandings 17 = .ok (.ifCond .eq 6, 3) := by decide +kernel
theorem dX0_countLandings_20 : decode cX0_countLandings 20 = .ok (.iinc 1 1, 3) := by decide +kernel
theorem dX0_countLandings_23 : decode cX0_countLandings 23 = .ok (.iinc 2 1, 3) := by decide +kernel
theorem dX0_countLandings_26 : decode cX0_countLandings 26 = .ok (.goto (-22), 3) := by decide +kernel
theorem dX0_countLandings_29 : decode cX0_countLandings 29 = .ok (.iload_n 1, 1) := by decide +kernel
theorem dX0_countLandings_30 : decode cX0_countLandings 30 = .ok (.ireturn, 1) := by decide +kernel
theorem dX0_lowerEndsAt_0 : decode cX0_lowerEndsAt 0 = .ok (.iconst 0, 1) := by decide +kernel
theorem dX0_lowerEndsAt_1 : decode cX0_lowerEndsAt 1 = .ok (.istore_n 2, 1) := by decide +kernel
theorem dX0_lowerEndsAt_2 : decode cX0_lowerEndsAt 2 = .ok (.iconst 0, 1) := by decide +kernel
theorem dX0_lowerEndsAt_3 : decode cX0_lowerEndsAt 3 = .ok (.istore_n 3, 1) := by decide +kernel
theorem dX0_lowerEndsAt_4 : decode cX0_lowerEndsAt 4 = .ok (.iload_n 3, 1) := by decide +kernel
theorem dX0_lowerEndsAt_5 : decode cX0_lowerEndsAt 5 = .ok (.aload_n 0, 1) := by decide +kernel
theorem dX0_lowerEndsAt_6 : decode cX0_lowerEndsAt 6 = .ok (.getfield 37, 3) := by decide +kernel
theorem dX0_lowerEndsAt_9 : decode cX0_lowerEndsAt 9 = .ok (.if_icmp .ge 22, 3) := by decide +kernel
theorem dX0_lowerEndsAt_12 : decode cX0_lowerEndsAt 12 = .ok (.aload_n 0, 1) := by decide +kernel
theorem dX0_lowerEndsAt_13 : decode cX0_lowerEndsAt 13 = .ok (.getfield 9, 3) := by decide +kernel
theorem dX0_lowerEndsAt_16 : decode cX0_lowerEndsAt 16 = .ok (.iload_n 3, 1) := by decide +kernel
theorem dX0_lowerEndsAt_17 : decode cX0_lowerEndsAt 17 = .ok (.iaload, 1) := by decide +kernel
theorem dX0_lowerEndsAt_18 : decode cX0_lowerEndsAt 18 = .ok (.iload_n 1, 1) := by decide +kernel
theorem dX0_lowerEndsAt_19 : decode cX0_lowerEndsAt 19 = .ok (.if_icmp .ne 6, 3) := by decide +kernel
theorem dX0_lowerEndsAt_22 : decode cX0_lowerEndsAt 22 = .ok (.iinc 2 1, 3) := by decide +kernel
theorem dX0_lowerEndsAt_25 : decode cX0_lowerEndsAt 25 = .ok (.iinc 3 1, 3) := by decide +kernel
theorem dX0_lowerEndsAt_28 : decode cX0_lowerEndsAt 28 = .ok (.goto (-24), 3) := by decide +kernel
theorem dX0_lowerEndsAt_31 : decode cX0_lowerEndsAt 31 = .ok (.iload_n 2, 1) := by decide +kernel
theorem dX0_lowerEndsAt_32 : decode cX0_lowerEndsAt 32 = .ok (.ireturn, 1) := by decide +kernel
theorem dX0_partOfStep_0 : decode cX0_partOfStep 0 = .ok (.iload_n 1, 1) := by decide +kernel
theorem dX0_partOfStep_1 : decode cX0_partOfStep 1 = .ok (.aload_n 0, 1) := by decide +kernel
theorem dX0_partOfStep_2 : decode cX0_partOfStep 2 = .ok (.getfield 37, 3) := by decide +kernel
theorem dX0_partOfStep_5 : decode cX0_partOfStep 5 = .ok (.if_icmp .eq 13, 3) := by decide +kernel
theorem dX0_partOfStep_8 : decode cX0_partOfStep 8 = .ok (.aload_n 0, 1) := by decide +kernel
theorem dX0_partOfStep_9 : decode cX0_partOfStep 9 = .ok (.iload_n 1, 1) := by decide +kernel
theorem dX0_partOfStep_10 : decode cX0_partOfStep 10 = .ok (.invokevirtual 70, 3) := by decide +kernel
theorem dX0_partOfStep_13 : decode cX0_partOfStep 13 = .ok (.ifCond .ne 5, 3) := by decide +kernel
theorem dX0_partOfStep_16 : decode cX0_partOfStep 16 = .ok (.iconst (-1), 1) := by decide +kernel
theorem dX0_partOfStep_17 : decode cX0_partOfStep 17 = .ok (.ireturn, 1) := by decide +kernel
theorem dX0_partOfStep_18 : decode cX0_partOfStep 18 = .ok (.iload_n 2, 1) := by decide +kernel
theorem dX0_partOfStep_19 : decode cX0_partOfStep 19 = .ok (.tableswitch 65 0 2 #[25, 39, 59], 25) := by decide +kernel
theorem dX0_partOfStep_44 : decode cX0_partOfStep 44 = .ok (.aload_n 0, 1) := by decide +kernel
theorem dX0_partOfStep_45 : decode cX0_partOfStep 45 = .ok (.iload_n 1, 1) := by decide +kernel
theorem dX0_partOfStep_46 : decode cX0_partOfStep 46 = .ok (.invokevirtual 83, 3) := by decide +kernel
theorem dX0_partOfStep_49 : decode cX0_partOfStep 49 = .ok (.ifCond .eq 7, 3) := by decide +kernel
theorem dX0_partOfStep_52 : decode cX0_partOfStep 52 = .ok (.iconst 1, 1) := by decide +kernel
theorem dX0_partOfStep_53 : decode cX0_partOfStep 53 = .ok (.goto 4, 3) := by decide +kernel
theorem dX0_partOfStep_56 : decode cX0_partOfStep 56 = .ok (.iconst 0, 1) := by decide +kernel
theorem dX0_partOfStep_57 : decode cX0_partOfStep 57 = .ok (.ireturn, 1) := by decide +kernel
theorem dX0_partOfStep_58 : decode cX0_partOfStep 58 = .ok (.aload_n 0, 1) := by decide +kernel
theorem dX0_partOfStep_59 : decode cX0_partOfStep 59 = .ok (.iload_n 1, 1) := by decide +kernel
theorem dX0_partOfStep_60 : decode cX0_partOfStep 60 = .ok (.invokevirtual 63, 3) := by decide +kernel
theorem dX0_partOfStep_63 : decode cX0_partOfStep 63 = .ok (.ifCond .eq 12, 3) := by decide +kernel
theorem dX0_partOfStep_66 : decode cX0_partOfStep 66 = .ok (.aload_n 0, 1) := by decide +kernel
theorem dX0_partOfStep_67 : decode cX0_partOfStep 67 = .ok (.getfield 9, 3) := by decide +kernel
theorem dX0_partOfStep_70 : decode cX0_partOfStep 70 = .ok (.iload_n 1, 1) := by decide +kernel
theorem dX0_partOfStep_71 : decode cX0_partOfStep 71 = .ok (.iaload, 1) := by decide +kernel
theorem dX0_partOfStep_72 : decode cX0_partOfStep 72 = .ok (.goto 5, 3) := by decide +kernel
theorem dX0_partOfStep_75 : decode cX0_partOfStep 75 = .ok (.bipush (-6), 2) := by decide +kernel
theorem dX0_partOfStep_77 : decode cX0_partOfStep 77 = .ok (.ireturn, 1) := by decide +kernel
theorem dX0_partOfStep_78 : decode cX0_partOfStep 78 = .ok (.aload_n 0, 1) := by decide +kernel
theorem dX0_partOfStep_79 : decode cX0_partOfStep 79 = .ok (.iload_n 1, 1) := by decide +kernel
theorem dX0_partOfStep_80 : decode cX0_partOfStep 80 = .ok (.invokevirtual 73, 3) := by decide +kernel
theorem dX0_partOfStep_83 : decode cX0_partOfStep 83 = .ok (.ireturn, 1) := by decide +kernel
theorem dX0_partOfStep_84 : decode cX0_partOfStep 84 = .ok (.bipush (-2), 2) := by decide +kernel
theorem dX0_partOfStep_86 : decode cX0_partOfStep 86 = .ok (.ireturn, 1) := by decide +kernel
theorem dX0_partOfClimber_0 : decode cX0_partOfClimber 0 = .ok (.aload_n 0, 1) := by decide +kernel
theorem dX0_partOfClimber_1 : decode cX0_partOfClimber 1 = .ok (.iload_n 1, 1) := by decide +kernel
theorem dX0_partOfClimber_2 : decode cX0_partOfClimber 2 = .ok (.invokevirtual 59, 3) := by decide +kernel
theorem dX0_partOfClimber_5 : decode cX0_partOfClimber 5 = .ok (.ifCond .ne 5, 3) := by decide +kernel
theorem dX0_partOfClimber_8 : decode cX0_partOfClimber 8 = .ok (.iconst (-1), 1) := by decide +kernel
theorem dX0_partOfClimber_9 : decode cX0_partOfClimber 9 = .ok (.ireturn, 1) := by decide +kernel
theorem dX0_partOfClimber_10 : decode cX0_partOfClimber 10 = .ok (.iload_n 2, 1) := by decide +kernel
theorem dX0_partOfClimber_11 : decode cX0_partOfClimber 11 = .ok (.tableswitch 89 0 6 #[41, 48, 55, 62, 69, 76, 83], 41) := by decide +kernel
theorem dX0_partOfClimber_52 : decode cX0_partOfClimber 52 = .ok (.aload_n 0, 1) := by decide +kernel
theorem dX0_partOfClimber_53 : decode cX0_partOfClimber 53 = .ok (.getfield 19, 3) := by decide +kernel
theorem dX0_partOfClimber_56 : decode cX0_partOfClimber 56 = .ok (.iload_n 1, 1) := by decide +kernel
theorem dX0_partOfClimber_57 : decode cX0_partOfClimber 57 = .ok (.iaload, 1) := by decide +kernel
theorem dX0_partOfClimber_58 : decode cX0_partOfClimber 58 = .ok (.ireturn, 1) := by decide +kernel
theorem dX0_partOfClimber_59 : decode cX0_partOfClimber 59 = .ok (.aload_n 0, 1) := by decide +kernel
theorem dX0_partOfClimber_60 : decode cX0_partOfClimber 60 = .ok (.getfield 22, 3) := by decide +kernel
theorem dX0_partOfClimber_63 : decode cX0_partOfClimber 63 = .ok (.iload_n 1, 1) := by decide +kernel
theorem dX0_partOfClimber_64 : decode cX0_partOfClimber 64 = .ok (.iaload, 1) := by decide +kernel
theorem dX0_partOfClimber_65 : decode cX0_partOfClimber 65 = .ok (.ireturn, 1) := by decide +kernel
theorem dX0_partOfClimber_66 : decode cX0_partOfClimber 66 = .ok (.aload_n 0, 1) := by decide +kernel
theorem dX0_partOfClimber_67 : decode cX0_partOfClimber 67 = .ok (.getfield 25, 3) := by decide +kernel
theorem dX0_partOfClimber_70 : decode cX0_partOfClimber 70 = .ok (.iload_n 1, 1) := by decide +kernel
theorem dX0_partOfClimber_71 : decode cX0_partOfClimber 71 = .ok (.iaload, 1) := by decide +kernel
theorem dX0_partOfClimber_72 : decode cX0_partOfClimber 72 = .ok (.ireturn, 1) := by decide +kernel
theorem dX0_partOfClimber_73 : decode cX0_partOfClimber 73 = .ok (.aload_n 0, 1) := by decide +kernel
theorem dX0_partOfClimber_74 : decode cX0_partOfClimber 74 = .ok (.getfield 28, 3) := by decide +kernel
theorem dX0_partOfClimber_77 : decode cX0_partOfClimber 77 = .ok (.iload_n 1, 1) := by decide +kernel
theorem dX0_partOfClimber_78 : decode cX0_partOfClimber 78 = .ok (.iaload, 1) := by decide +kernel
theorem dX0_partOfClimber_79 : decode cX0_partOfClimber 79 = .ok (.ireturn, 1) := by decide +kernel
theorem dX0_partOfClimber_80 : decode cX0_partOfClimber 80 = .ok (.aload_n 0, 1) := by decide +kernel
theorem dX0_partOfClimber_81 : decode cX0_partOfClimber 81 = .ok (.getfield 31, 3) := by decide +kernel
theorem dX0_partOfClimber_84 : decode cX0_partOfClimber 84 = .ok (.iload_n 1, 1) := by decide +kernel
theorem dX0_partOfClimber_85 : decode cX0_partOfClimber 85 = .ok (.iaload, 1) := by decide +kernel
theorem dX0_partOfClimber_86 : decode cX0_partOfClimber 86 = .ok (.ireturn, 1) := by decide +kernel
theorem dX0_partOfClimber_87 : decode cX0_partOfClimber 87 = .ok (.aload_n 0, 1) := by decide +kernel
theorem dX0_partOfClimber_88 : decode cX0_partOfClimber 88 = .ok (.getfield 34, 3) := by decide +kernel
theorem dX0_partOfClimber_91 : decode cX0_partOfClimber 91 = .ok (.iload_n 1, 1) := by decide +kernel
theorem dX0_partOfClimber_92 : decode cX0_partOfClimber 92 = .ok (.iaload, 1) := by decide +kernel
theorem dX0_partOfClimber_93 : decode cX0_partOfClimber 93 = .ok (.ireturn, 1) := by decide +kernel
theorem dX0_partOfClimber_94 : decode cX0_partOfClimber 94 = .ok (.aload_n 0, 1) := by decide +kernel
theorem dX0_partOfClimber_95 : decode cX0_partOfClimber 95 = .ok (.iload_n 1, 1) := by decide +kernel
theorem dX0_partOfClimber_96 : decode cX0_partOfClimber 96 = .ok (.invokevirtual 116, 3) := by decide +kernel
theorem dX0_partOfClimber_99 : decode cX0_partOfClimber 99 = .ok (.ireturn, 1) := by decide +kernel
theorem dX0_partOfClimber_100 : decode cX0_partOfClimber 100 = .ok (.bipush (-2), 2) := by decide +kernel
theorem dX0_partOfClimber_102 : decode cX0_partOfClimber 102 = .ok (.ireturn, 1) := by decide +kernel
theorem dX0_progressOf_0 : decode cX0_progressOf 0 = .ok (.aload_n 0, 1) := by decide +kernel
theorem dX0_progressOf_1 : decode cX0_progressOf 1 = .ok (.iload_n 1, 1) := by decide +kernel
theorem dX0_progressOf_2 : decode cX0_progressOf 2 = .ok (.invokevirtual 59, 3) := by decide +kernel
theorem dX0_progressOf_5 : decode cX0_progressOf 5 = .ok (.ifCond .eq 24, 3) := by decide +kernel
theorem dX0_progressOf_8 : decode cX0_progressOf 8 = .ok (.aload_n 0, 1) := by decide +kernel
theorem dX0_progressOf_9 : decode cX0_progressOf 9 = .ok (.getfield 22, 3) := by decide +kernel
theorem dX0_progressOf_12 : decode cX0_progressOf 12 = .ok (.iload_n 1, 1) := by decide +kernel
theorem dX0_progressOf_13 : decode cX0_progressOf 13 = .ok (.iaload, 1) := by decide +kernel
theorem dX0_progressOf_14 : decode cX0_progressOf 14 = .ok (.aload_n 0, 1) := by decide +kernel
theorem dX0_progressOf_15 : decode cX0_progressOf 15 = .ok (.getfield 37, 3) := by decide +kernel
theorem dX0_progressOf_18 : decode cX0_progressOf 18 = .ok (.imul, 1) := by decide +kernel
theorem dX0_progressOf_19 : decode cX0_progressOf 19 = .ok (.aload_n 0, 1) := by decide +kernel
theorem dX0_progressOf_20 : decode cX0_progressOf 20 = .ok (.getfield 19, 3) := by decide +kernel
theorem dX0_progressOf_23 : decode cX0_progressOf 23 = .ok (.iload_n 1, 1) := by decide +kernel
theorem dX0_progressOf_24 : decode cX0_progressOf 24 = .ok (.iaload, 1) := by decide +kernel
theorem dX0_progressOf_25 : decode cX0_progressOf 25 = .ok (.iadd, 1) := by decide +kernel
theorem dX0_progressOf_26 : decode cX0_progressOf 26 = .ok (.goto 4, 3) := by decide +kernel
theorem dX0_progressOf_29 : decode cX0_progressOf 29 = .ok (.iconst 0, 1) := by decide +kernel
theorem dX0_progressOf_30 : decode cX0_progressOf 30 = .ok (.ireturn, 1) := by decide +kernel
theorem dX0_totalOf_0 : decode cX0_totalOf 0 = .ok (.iload_n 1, 1) := by decide +kernel
theorem dX0_totalOf_1 : decode cX0_totalOf 1 = .ok (.tableswitch 96 0 8 #[51, 56, 61, 66, 71, 76, 81, 86, 91], 51) := by decide +kernel
theorem dX0_totalOf_52 : decode cX0_totalOf 52 = .ok (.aload_n 0, 1) := by decide +kernel
theorem dX0_totalOf_53 : decode cX0_totalOf 53 = .ok (.getfield 37, 3) := by decide +kernel
theorem dX0_totalOf_56 : decode cX0_totalOf 56 = .ok (.ireturn, 1) := by decide +kernel
theorem dX0_totalOf_57 : decode cX0_totalOf 57 = .ok (.aload_n 0, 1) := by decide +kernel
theorem dX0_totalOf_58 : decode cX0_totalOf 58 = .ok (.getfield 41, 3) := by decide +kernel
theorem dX0_totalOf_61 : decode cX0_totalOf 61 = .ok (.ireturn, 1) := by decide +kernel
theorem dX0_totalOf_62 : decode cX0_totalOf 62 = .ok (.aload_n 0, 1) := by decide +kernel
theorem dX0_totalOf_63 : decode cX0_totalOf 63 = .ok (.invokevirtual 76, 3) := by decide +kernel
theorem dX0_totalOf_66 : decode cX0_totalOf 66 = .ok (.ireturn, 1) := by decide +kernel
theorem dX0_totalOf_67 : decode cX0_totalOf 67 = .ok (.aload_n 0, 1) := by decide +kernel
theorem dX0_totalOf_68 : decode cX0_totalOf 68 = .ok (.invokevirtual 80, 3) := by decide +kernel
theorem dX0_totalOf_71 : decode cX0_totalOf 71 = .ok (.ireturn, 1) := by decide +kernel
theorem dX0_totalOf_72 : decode cX0_totalOf 72 = .ok (.aload_n 0, 1) := by decide +kernel
theorem dX0_totalOf_73 : decode cX0_totalOf 73 = .ok (.getfield 47, 3) := by decide +kernel
theorem dX0_totalOf_76 : decode cX0_totalOf 76 = .ok (.ireturn, 1) := by decide +kernel
theorem dX0_totalOf_77 : decode cX0_totalOf 77 = .ok (.aload_n 0, 1) := by decide +kernel
theorem dX0_totalOf_78 : decode cX0_totalOf 78 = .ok (.invokevirtual 119, 3) := by decide +kernel
theorem dX0_totalOf_81 : decode cX0_totalOf 81 = .ok (.ireturn, 1) := by decide +kernel
theorem dX0_totalOf_82 : decode cX0_totalOf 82 = .ok (.aload_n 0, 1) := by decide +kernel
theorem dX0_totalOf_83 : decode cX0_totalOf 83 = .ok (.invokevirtual 122, 3) := by decide +kernel
theorem dX0_totalOf_86 : decode cX0_totalOf 86 = .ok (.ireturn, 1) := by decide +kernel
theorem dX0_totalOf_87 : decode cX0_totalOf 87 = .ok (.aload_n 0, 1) := by decide +kernel
theorem dX0_totalOf_88 : decode cX0_totalOf 88 = .ok (.invokevirtual 125, 3) := by decide +kernel
theorem dX0_totalOf_91 : decode cX0_totalOf 91 = .ok (.ireturn, 1) := by decide +kernel
theorem dX0_totalOf_92 : decode cX0_totalOf 92 = .ok (.aload_n 0, 1) := by decide +kernel
theorem dX0_totalOf_93 : decode cX0_totalOf 93 = .ok (.getfield 50, 3) := by decide +kernel
theorem dX0_totalOf_96 : decode cX0_totalOf 96 = .ok (.ireturn, 1) := by decide +kernel
theorem dX0_totalOf_97 : decode cX0_totalOf 97 = .ok (.bipush (-2), 2) := by decide +kernel
theorem dX0_totalOf_99 : decode cX0_totalOf 99 = .ok (.ireturn, 1) := by decide +kernel
theorem dX0_liftsOfAll_0 : decode cX0_liftsOfAll 0 = .ok (.aload_n 0, 1) := by decide +kernel
theorem dX0_liftsOfAll_1 : decode cX0_liftsOfAll 1 = .ok (.getfield 28, 3) := by decide +kernel
theorem dX0_liftsOfAll_4 : decode cX0_liftsOfAll 4 = .ok (.invokestatic 128, 3) := by decide +kernel
theorem dX0_liftsOfAll_7 : decode cX0_liftsOfAll 7 = .ok (.ireturn, 1) := by decide +kernel
theorem dX0_slipsOfAll_0 : decode cX0_slipsOfAll 0 = .ok (.aload_n 0, 1) := by decide +kernel
theorem dX0_slipsOfAll_1 : decode cX0_slipsOfAll 1 = .ok (.getfield 34, 3) := by decide +kernel
theorem dX0_slipsOfAll_4 : decode cX0_slipsOfAll 4 = .ok (.invokestatic 128, 3) := by decide +kernel
theorem dX0_slipsOfAll_7 : decode cX0_slipsOfAll 7 = .ok (.ireturn, 1) := by decide +kernel
theorem dX0_topsOfAll_0 : decode cX0_topsOfAll 0 = .ok (.aload_n 0, 1) := by decide +kernel
theorem dX0_topsOfAll_1 : decode cX0_topsOfAll 1 = .ok (.getfield 22, 3) := by decide +kernel
theorem dX0_topsOfAll_4 : decode cX0_topsOfAll 4 = .ok (.invokestatic 128, 3) := by decide +kernel
theorem dX0_topsOfAll_7 : decode cX0_topsOfAll 7 = .ok (.ireturn, 1) := by decide +kernel
theorem dX0_sumOf_0 : decode cX0_sumOf 0 = .ok (.iconst 0, 1) := by decide +kernel
theorem dX0_sumOf_1 : decode cX0_sumOf 1 = .ok (.istore_n 1, 1) := by decide +kernel
theorem dX0_sumOf_2 : decode cX0_sumOf 2 = .ok (.aload_n 0, 1) := by decide +kernel
theorem dX0_sumOf_3 : decode cX0_sumOf 3 = .ok (.astore_n 2, 1) := by decide +kernel
theorem dX0_sumOf_4 : decode cX0_sumOf 4 = .ok (.aload_n 2, 1) := by decide +kernel
theorem dX0_sumOf_5 : decode cX0_sumOf 5 = .ok (.arraylength, 1) := by decide +kernel
theorem dX0_sumOf_6 : decode cX0_sumOf 6 = .ok (.istore_n 3, 1) := by decide +kernel
theorem dX0_sumOf_7 : decode cX0_sumOf 7 = .ok (.iconst 0, 1) := by decide +kernel
theorem dX0_sumOf_8 : decode cX0_sumOf 8 = .ok (.istore 4, 2) := by decide +kernel
theorem dX0_sumOf_10 : decode cX0_sumOf 10 = .ok (.iload 4, 2) := by decide +kernel
theorem dX0_sumOf_12 : decode cX0_sumOf 12 = .ok (.iload_n 3, 1) := by decide +kernel
theorem dX0_sumOf_13 : decode cX0_sumOf 13 = .ok (.if_icmp .ge 20, 3) := by decide +kernel
theorem dX0_sumOf_16 : decode cX0_sumOf 16 = .ok (.aload_n 2, 1) := by decide +kernel
theorem dX0_sumOf_17 : decode cX0_sumOf 17 = .ok (.iload 4, 2) := by decide +kernel
theorem dX0_sumOf_19 : decode cX0_sumOf 19 = .ok (.iaload, 1) := by decide +kernel
theorem dX0_sumOf_20 : decode cX0_sumOf 20 = .ok (.istore 5, 2) := by decide +kernel
theorem dX0_sumOf_22 : decode cX0_sumOf 22 = .ok (.iload_n 1, 1) := by decide +kernel
theorem dX0_sumOf_23 : decode cX0_sumOf 23 = .ok (.iload 5, 2) := by decide +kernel
theorem dX0_sumOf_25 : decode cX0_sumOf 25 = .ok (.iadd, 1) := by decide +kernel
theorem dX0_sumOf_26 : decode cX0_sumOf 26 = .ok (.istore_n 1, 1) := by decide +kernel
theorem dX0_sumOf_27 : decode cX0_sumOf 27 = .ok (.iinc 4 1, 3) := by decide +kernel
theorem dX0_sumOf_30 : decode cX0_sumOf 30 = .ok (.goto (-20), 3) := by decide +kernel
theorem dX0_sumOf_33 : decode cX0_sumOf 33 = .ok (.iload_n 1, 1) := by decide +kernel
theorem dX0_sumOf_34 : decode cX0_sumOf 34 = .ok (.ireturn, 1) := by decide +kernel
theorem dX0_climberAtPlace_0 : decode cX0_climberAtPlace 0 = .ok (.iconst 0, 1) := by decide +kernel
theorem dX0_climberAtPlace_1 : decode cX0_climberAtPlace 1 = .ok (.istore_n 2, 1) := by decide +kernel
theorem dX0_climberAtPlace_2 : decode cX0_climberAtPlace 2 = .ok (.iload_n 2, 1) := by decide +kernel
theorem dX0_climberAtPlace_3 : decode cX0_climberAtPlace 3 = .ok (.aload_n 0, 1) := by decide +kernel
theorem dX0_climberAtPlace_4 : decode cX0_climberAtPlace 4 = .ok (.getfield 41, 3) := by decide +kernel
theorem dX0_climberAtPlace_7 : decode cX0_climberAtPlace 7 = .ok (.if_icmp .ge 20, 3) := by decide +kernel
theorem dX0_climberAtPlace_10 : decode cX0_climberAtPlace 10 = .ok (.aload_n 0, 1) := by decide +kernel
theorem dX0_climberAtPlace_11 : decode cX0_climberAtPlace 11 = .ok (.iload_n 2, 1) := by decide +kernel
theorem dX0_climberAtPlace_12 : decode cX0_climberAtPlace 12 = .ok (.invokevirtual 132, 3) := by decide +kernel
theorem dX0_climberAtPlace_15 : decode cX0_climberAtPlace 15 = .ok (.iload_n 1, 1) := by decide +kernel
theorem dX0_climberAtPlace_16 : decode cX0_climberAtPlace 16 = .ok (.if_icmp .ne 5, 3) := by decide +kernel
theorem dX0_climberAtPlace_19 : decode cX0_climberAtPlace 19 = .ok (.iload_n 2, 1) := by decide +kernel
theorem dX0_climberAtPlace_20 : decode cX0_climberAtPlace 20 = .ok (.ireturn, 1) := by decide +kernel
theorem dX0_climberAtPlace_21 : decode cX0_climberAtPlace 21 = .ok (.iinc 2 1, 3) := by decide +kernel
theorem dX0_climberAtPlace_24 : decode cX0_climberAtPlace 24 = .ok (.goto (-22), 3) := by decide +kernel
theorem dX0_climberAtPlace_27 : decode cX0_climberAtPlace 27 = .ok (.bipush (-6), 2) := by decide +kernel
theorem dX0_climberAtPlace_29 : decode cX0_climberAtPlace 29 = .ok (.ireturn, 1) := by decide +kernel
theorem dX0_climbersAheadOf_0 : decode cX0_climbersAheadOf 0 = .ok (.iconst 0, 1) := by decide +kernel
theorem dX0_climbersAheadOf_1 : decode cX0_climbersAheadOf 1 = .ok (.istore_n 2, 1) := by decide +kernel
theorem dX0_climbersAheadOf_2 : decode cX0_climbersAheadOf 2 = .ok (.aload_n 0, 1) := by decide +kernel
theorem dX0_climbersAheadOf_3 : decode cX0_climbersAheadOf 3 = .ok (.iload_n 1, 1) := by decide +kernel
theorem dX0_climbersAheadOf_4 : decode cX0_climbersAheadOf 4 = .ok (.invokevirtual 116, 3) := by decide +kernel
theorem dX0_climbersAheadOf_7 : decode cX0_climbersAheadOf 7 = .ok (.istore_n 3, 1) := by decide +kernel
theorem dX0_climbersAheadOf_8 : decode cX0_climbersAheadOf 8 = .ok (.iconst 0, 1) := by decide +kernel
theorem dX0_climbersAheadOf_9 : decode cX0_climbersAheadOf 9 = .ok (.istore 4, 2) := by decide +kernel
theorem dX0_climbersAheadOf_11 : decode cX0_climbersAheadOf 11 = .ok (.iload 4, 2) := by decide +kernel
theorem dX0_climbersAheadOf_13 : decode cX0_climbersAheadOf 13 = .ok (.aload_n 0, 1) := by decide +kernel
theorem dX0_climbersAheadOf_14 : decode cX0_climbersAheadOf 14 = .ok (.getfield 41, 3) := by decide +kernel
theorem dX0_climbersAheadOf_17 : decode cX0_climbersAheadOf 17 = .ok (.if_icmp .ge 38, 3) := by decide +kernel
theorem dX0_climbersAheadOf_20 : decode cX0_climbersAheadOf 20 = .ok (.aload_n 0, 1) := by decide +kernel
theorem dX0_climbersAheadOf_21 : decode cX0_climbersAheadOf 21 = .ok (.iload 4, 2) := by decide +kernel
theorem dX0_climbersAheadOf_23 : decode cX0_climbersAheadOf 23 = .ok (.invokevirtual 116, 3) := by decide +kernel
theorem dX0_climbersAheadOf_26 : decode cX0_climbersAheadOf 26 = .ok (.istore 5, 2) := by decide +kernel
theorem dX0_climbersAheadOf_28 : decode cX0_climbersAheadOf 28 = .ok (.iload 5, 2) := by decide +kernel
theorem dX0_climbersAheadOf_30 : decode cX0_climbersAheadOf 30 = .ok (.iload_n 3, 1) := by decide +kernel
theorem dX0_climbersAheadOf_31 : decode cX0_climbersAheadOf 31 = .ok (.if_icmp .gt 15, 3) := by decide +kernel
theorem dX0_climbersAheadOf_34 : decode cX0_climbersAheadOf 34 = .ok (.iload 5, 2) := by decide +kernel
theorem dX0_climbersAheadOf_36 : decode cX0_climbersAheadOf 36 = .ok (.iload_n 3, 1) := by decide +kernel
theorem dX0_climbersAheadOf_37 : decode cX0_climbersAheadOf 37 = .ok (.if_icmp .ne 12, 3) := by decide +kernel
theorem dX0_climbersAheadOf_40 : decode cX0_climbersAheadOf 40 = .ok (.iload 4, 2) := by decide +kernel
theorem dX0_climbersAheadOf_42 : decode cX0_climbersAheadOf 42 = .ok (.iload_n 1, 1) := by decide +kernel
theorem dX0_climbersAheadOf_43 : decode cX0_climbersAheadOf 43 = .ok (.if_icmp .ge 6, 3) := by decide +kernel
theorem dX0_climbersAheadOf_46 : decode cX0_climbersAheadOf 46 = .ok (.iinc 2 1, 3) := by decide +kernel
theorem dX0_climbersAheadOf_49 : decode cX0_climbersAheadOf 49 = .ok (.iinc 4 1, 3) := by decide +kernel
theorem dX0_climbersAheadOf_52 : decode cX0_climbersAheadOf 52 = .ok (.goto (-41), 3) := by decide +kernel
theorem dX0_climbersAheadOf_55 : decode cX0_climbersAheadOf 55 = .ok (.iload_n 2, 1) := by decide +kernel
theorem dX0_climbersAheadOf_56 : decode cX0_climbersAheadOf 56 = .ok (.ireturn, 1) := by decide +kernel
theorem dX0_fewestRollsOf_0 : decode cX0_fewestRollsOf 0 = .ok (.lconst 1, 1) := by decide +kernel
theorem dX0_fewestRollsOf_1 : decode cX0_fewestRollsOf 1 = .ok (.aload_n 0, 1) := by decide +kernel
theorem dX0_fewestRollsOf_2 : decode cX0_fewestRollsOf 2 = .ok (.getfield 19, 3) := by decide +kernel
theorem dX0_fewestRollsOf_5 : decode cX0_fewestRollsOf 5 = .ok (.iload_n 1, 1) := by decide +kernel
theorem dX0_fewestRollsOf_6 : decode cX0_fewestRollsOf 6 = .ok (.iaload, 1) := by decide +kernel
theorem dX0_fewestRollsOf_7 : decode cX0_fewestRollsOf 7 = .ok (.lshl, 1) := by decide +kernel
theorem dX0_fewestRollsOf_8 : decode cX0_fewestRollsOf 8 = .ok (.lstore_n 2, 1) := by decide +kernel
theorem dX0_fewestRollsOf_9 : decode cX0_fewestRollsOf 9 = .ok (.iconst 1, 1) := by decide +kernel
theorem dX0_fewestRollsOf_10 : decode cX0_fewestRollsOf 10 = .ok (.istore 4, 2) := by decide +kernel
theorem dX0_fewestRollsOf_12 : decode cX0_fewestRollsOf 12 = .ok (.iload 4, 2) := by decide +kernel
theorem dX0_fewestRollsOf_14 : decode cX0_fewestRollsOf 14 = .ok (.aload_n 0, 1) := by decide +kernel
theorem dX0_fewestRollsOf_15 : decode cX0_fewestRollsOf 15 = .ok (.getfield 37, 3) := by decide +kernel
theorem dX0_fewestRollsOf_18 : decode cX0_fewestRollsOf 18 = .ok (.if_icmp .gt 32, 3) := by decide +kernel
theorem dX0_fewestRollsOf_21 : decode cX0_fewestRollsOf 21 = .ok (.lload_n 2, 1) := by decide +kernel
theorem dX0_fewestRollsOf_22 : decode cX0_fewestRollsOf 22 = .ok (.aload_n 0, 1) := by decide +kernel
theorem dX0_fewestRollsOf_23 : decode cX0_fewestRollsOf 23 = .ok (.getfield 37, 3) := by decide +kernel
theorem dX0_fewestRollsOf_26 : decode cX0_fewestRollsOf 26 = .ok (.bipush 6, 2) := by decide +kernel
theorem dX0_fewestRollsOf_28 : decode cX0_fewestRollsOf 28 = .ok (.isub, 1) := by decide +kernel
theorem dX0_fewestRollsOf_29 : decode cX0_fewestRollsOf 29 = .ok (.lushr, 1) := by decide +kernel
theorem dX0_fewestRollsOf_30 : decode cX0_fewestRollsOf 30 = .ok (.lconst 0, 1) := by decide +kernel
theorem dX0_fewestRollsOf_31 : decode cX0_fewestRollsOf 31 = .ok (.lcmp, 1) := by decide +kernel
theorem dX0_fewestRollsOf_32 : decode cX0_fewestRollsOf 32 = .ok (.ifCond .eq 6, 3) := by decide +kernel
theorem dX0_fewestRollsOf_35 : decode cX0_fewestRollsOf 35 = .ok (.iload 4, 2) := by decide +kernel
theorem dX0_fewestRollsOf_37 : decode cX0_fewestRollsOf 37 = .ok (.ireturn, 1) := by decide +kernel
theorem dX0_fewestRollsOf_38 : decode cX0_fewestRollsOf 38 = .ok (.aload_n 0, 1) := by decide +kernel
theorem dX0_fewestRollsOf_39 : decode cX0_fewestRollsOf 39 = .ok (.lload_n 2, 1) := by decide +kernel
theorem dX0_fewestRollsOf_40 : decode cX0_fewestRollsOf 40 = .ok (.invokevirtual 135, 3) := by decide +kernel
theorem dX0_fewestRollsOf_43 : decode cX0_fewestRollsOf 43 = .ok (.lstore_n 2, 1) := by decide +kernel
theorem dX0_fewestRollsOf_44 : decode cX0_fewestRollsOf 44 = .ok (.iinc 4 1, 3) := by decide +kernel
theorem dX0_fewestRollsOf_47 : decode cX0_fewestRollsOf 47 = .ok (.goto (-35), 3) := by decide +kernel
theorem dX0_fewestRollsOf_50 : decode cX0_fewestRollsOf 50 = .ok (.bipush (-6), 2) := by decide +kernel
theorem dX0_fewestRollsOf_52 : decode cX0_fewestRollsOf 52 = .ok (.ireturn, 1) := by decide +kernel
theorem dX0_reachedWithOneMore_0 : decode cX0_reachedWithOneMore 0 = .ok (.lload_n 1, 1) := by decide +kernel
theorem dX0_reachedWithOneMore_1 : decode cX0_reachedWithOneMore 1 = .ok (.lstore_n 3, 1) := by decide +kernel
theorem dX0_reachedWithOneMore_2 : decode cX0_reachedWithOneMore 2 = .ok (.iconst 0, 1) := by decide +kernel
theorem dX0_reachedWithOneMore_3 : decode cX0_reachedWithOneMore 3 = .ok (.istore 5, 2) := by decide +kernel
theorem dX0_reachedWithOneMore_5 : decode cX0_reachedWithOneMore 5 = .ok (.iload 5, 2) := by decide +kernel
theorem dX0_reachedWithOneMore_7 : decode cX0_reachedWithOneMore 7 = .ok (.aload_n 0, 1) := by decide +kernel
theorem dX0_reachedWithOneMore_8 : decode cX0_reachedWithOneMore 8 = .ok (.getfield 37, 3) := by decide +kernel
theorem dX0_reachedWithOneMore_11 : decode cX0_reachedWithOneMore 11 = .ok (.if_icmp .ge 29, 3) := by decide +kernel
theorem dX0_reachedWithOneMore_14 : decode cX0_reachedWithOneMore 14 = .ok (.lload_n 1, 1) := by decide +kernel
theorem dX0_reachedWithOneMore_15 : decode cX0_reachedWithOneMore 15 = .ok (.iload 5, 2) := by decide +kernel
theorem dX0_reachedWithOneMore_17 : decode cX0_reachedWithOneMore 17 = .ok (.lushr, 1) := by decide +kernel
theorem dX0_reachedWithOneMore_18 : decode cX0_reachedWithOneMore 18 = .ok (.lconst 1, 1) := by decide +kernel
theorem dX0_reachedWithOneMore_19 : decode cX0_reachedWithOneMore 19 = .ok (.land, 1) := by decide +kernel
theorem dX0_reachedWithOneMore_20 : decode cX0_reachedWithOneMore 20 = .ok (.lconst 0, 1) := by decide +kernel
theorem dX0_reachedWithOneMore_21 : decode cX0_reachedWithOneMore 21 = .ok (.lcmp, 1) := by decide +kernel
theorem dX0_reachedWithOneMore_22 : decode cX0_reachedWithOneMore 22 = .ok (.ifCond .eq 12, 3) := by decide +kernel
theorem dX0_reachedWithOneMore_25 : decode cX0_reachedWithOneMore 25 = .ok (.lload_n 3, 1) := by decide +kernel
theorem dX0_reachedWithOneMore_26 : decode cX0_reachedWithOneMore 26 = .ok (.aload_n 0, 1) := by decide +kernel
theorem dX0_reachedWithOneMore_27 : decode cX0_reachedWithOneMore 27 = .ok (.iload 5, 2) := by decide +kernel
theorem dX0_reachedWithOneMore_29 : decode cX0_reachedWithOneMore 29 = .ok (.invokevirtual 139, 3) := by decide +kernel
theorem dX0_reachedWithOneMore_32 : decode cX0_reachedWithOneMore 32 = .ok (.lor, 1) := by decide +kernel
theorem dX0_reachedWithOneMore_33 : decode cX0_reachedWithOneMore 33 = .ok (.lstore_n 3, 1) := by decide +kernel
theorem dX0_reachedWithOneMore_34 : decode cX0_reachedWithOneMore 34 = .ok (.iinc 5 1, 3) := by decide +kernel
theorem dX0_reachedWithOneMore_37 : decode cX0_reachedWithOneMore 37 = .ok (.goto (-32), 3) := by decide +kernel
theorem dX0_reachedWithOneMore_40 : decode cX0_reachedWithOneMore 40 = .ok (.lload_n 3, 1) := by decide +kernel
theorem dX0_reachedWithOneMore_41 : decode cX0_reachedWithOneMore 41 = .ok (.lreturn, 1) := by decide +kernel
theorem dX0_reachedFrom_0 : decode cX0_reachedFrom 0 = .ok (.lconst 0, 1) := by decide +kernel
theorem dX0_reachedFrom_1 : decode cX0_reachedFrom 1 = .ok (.lstore_n 2, 1) := by decide +kernel
theorem dX0_reachedFrom_2 : decode cX0_reachedFrom 2 = .ok (.iload_n 1, 1) := by decide +kernel
theorem dX0_reachedFrom_3 : decode cX0_reachedFrom 3 = .ok (.iconst 1, 1) := by decide +kernel
theorem dX0_reachedFrom_4 : decode cX0_reachedFrom 4 = .ok (.iadd, 1) := by decide +kernel
theorem dX0_reachedFrom_5 : decode cX0_reachedFrom 5 = .ok (.istore 4, 2) := by decide +kernel
theorem dX0_reachedFrom_7 : decode cX0_reachedFrom 7 = .ok (.iload 4, 2) := by decide +kernel
theorem dX0_reachedFrom_9 : decode cX0_reachedFrom 9 = .ok (.iload_n 1, 1) := by decide +kernel
theorem dX0_reachedFrom_10 : decode cX0_reachedFrom 10 = .ok (.bipush 6, 2) := by decide +kernel
theorem dX0_reachedFrom_12 : decode cX0_reachedFrom 12 = .ok (.iadd, 1) := by decide +kernel
theorem dX0_reachedFrom_13 : decode cX0_reachedFrom 13 = .ok (.if_icmp .gt 44, 3) := by decide +kernel
theorem dX0_reachedFrom_16 : decode cX0_reachedFrom 16 = .ok (.iload 4, 2) := by decide +kernel
theorem dX0_reachedFrom_18 : decode cX0_reachedFrom 18 = .ok (.aload_n 0, 1) := by decide +kernel
theorem dX0_reachedFrom_19 : decode cX0_reachedFrom 19 = .ok (.getfield 37, 3) := by decide +kernel
theorem dX0_reachedFrom_22 : decode cX0_reachedFrom 22 = .ok (.if_icmp .ge 35, 3) := by decide +kernel
theorem dX0_reachedFrom_25 : decode cX0_reachedFrom 25 = .ok (.lload_n 2, 1) := by decide +kernel
theorem dX0_reachedFrom_26 : decode cX0_reachedFrom 26 = .ok (.lconst 1, 1) := by decide +kernel
theorem dX0_reachedFrom_27 : decode cX0_reachedFrom 27 = .ok (.aload_n 0, 1) := by decide +kernel
theorem dX0_reachedFrom_28 : decode cX0_reachedFrom 28 = .ok (.iload 4, 2) := by decide +kernel
theorem dX0_reachedFrom_30 : decode cX0_reachedFrom 30 = .ok (.invokevirtual 63, 3) := by decide +kernel
theorem dX0_reachedFrom_33 : decode cX0_reachedFrom 33 = .ok (.ifCond .eq 13, 3) := by decide +kernel
theorem dX0_reachedFrom_36 : decode cX0_reachedFrom 36 = .ok (.aload_n 0, 1) := by decide +kernel
theorem dX0_reachedFrom_37 : decode cX0_reachedFrom 37 = .ok (.getfield 9, 3) := by decide +kernel
theorem dX0_reachedFrom_40 : decode cX0_reachedFrom 40 = .ok (.iload 4, 2) := by decide +kernel
theorem dX0_reachedFrom_42 : decode cX0_reachedFrom 42 = .ok (.iaload, 1) := by decide +kernel
theorem dX0_reachedFrom_43 : decode cX0_reachedFrom 43 = .ok (.goto 5, 3) := by decide +kernel
theorem dX0_reachedFrom_46 : decode cX0_reachedFrom 46 = .ok (.iload 4, 2) := by decide +kernel
theorem dX0_reachedFrom_48 : decode cX0_reachedFrom 48 = .ok (.lshl, 1) := by decide +kernel
theorem dX0_reachedFrom_49 : decode cX0_reachedFrom 49 = .ok (.lor, 1) := by decide +kernel
theorem dX0_reachedFrom_50 : decode cX0_reachedFrom 50 = .ok (.lstore_n 2, 1) := by decide +kernel
theorem dX0_reachedFrom_51 : decode cX0_reachedFrom 51 = .ok (.iinc 4 1, 3) := by decide +kernel
theorem dX0_reachedFrom_54 : decode cX0_reachedFrom 54 = .ok (.goto (-47), 3) := by decide +kernel
theorem dX0_reachedFrom_57 : decode cX0_reachedFrom 57 = .ok (.lload_n 2, 1) := by decide +kernel
theorem dX0_reachedFrom_58 : decode cX0_reachedFrom 58 = .ok (.lreturn, 1) := by decide +kernel
theorem dX1_init_0 : decode cX1_init 0 = .ok (.aload_n 0, 1) := by decide +kernel
theorem dX1_init_1 : decode cX1_init 1 = .ok (.invokespecial 3, 3) := by decide +kernel
theorem dX1_init_4 : decode cX1_init 4 = .ok (.aload_n 0, 1) := by decide +kernel
theorem dX1_init_5 : decode cX1_init 5 = .ok (.iconst 5, 1) := by decide +kernel
theorem dX1_init_6 : decode cX1_init 6 = .ok (.anewarray 9, 3) := by decide +kernel
theorem dX1_init_9 : decode cX1_init 9 = .ok (.putfield 11, 3) := by decide +kernel
theorem dX1_init_12 : decode cX1_init 12 = .ok (.aload_n 0, 1) := by decide +kernel
theorem dX1_init_13 : decode cX1_init 13 = .ok (.iconst 0, 1) := by decide +kernel
theorem dX1_init_14 : decode cX1_init 14 = .ok (.putfield 17, 3) := by decide +kernel
theorem dX1_init_17 : decode cX1_init 17 = .ok (.iconst 0, 1) := by decide +kernel
theorem dX1_init_18 : decode cX1_init 18 = .ok (.istore_n 1, 1) := by decide +kernel
theorem dX1_init_19 : decode cX1_init 19 = .ok (.iload_n 1, 1) := by decide +kernel
theorem dX1_init_20 : decode cX1_init 20 = .ok (.iconst 5, 1) := by decide +kernel
theorem dX1_init_21 : decode cX1_init 21 = .ok (.if_icmp .ge 22, 3) := by decide +kernel
theorem dX1_init_24 : decode cX1_init 24 = .ok (.aload_n 0, 1) := by decide +kernel
theorem dX1_init_25 : decode cX1_init 25 = .ok (.getfield 11, 3) := by decide +kernel
theorem dX1_init_28 : decode cX1_init 28 = .ok (.iload_n 1, 1) := by decide +kernel
theorem dX1_init_29 : decode cX1_init 29 = .ok (.new 9, 3) := by decide +kernel
theorem dX1_init_32 : decode cX1_init 32 = .ok (.dup, 1) := by decide +kernel
theorem dX1_init_33 : decode cX1_init 33 = .ok (.invokespecial 21, 3) := by decide +kernel
theorem dX1_init_36 : decode cX1_init 36 = .ok (.aastore, 1) := by decide +kernel
theorem dX1_init_37 : decode cX1_init 37 = .ok (.iinc 1 1, 3) := by decide +kernel
theorem dX1_init_40 : decode cX1_init 40 = .ok (.goto (-21), 3) := by decide +kernel
theorem dX1_init_43 : decode cX1_init 43 = .ok (.return_, 1) := by decide +kernel
theorem dX1_isEmpty_0 : decode cX1_isEmpty 0 = .ok (.aload_n 0, 1) := by decide +kernel
theorem dX1_isEmpty_1 : decode cX1_isEmpty 1 = .ok (.getfield 17, 3) := by decide +kernel
theorem dX1_isEmpty_4 : decode cX1_isEmpty 4 = .ok (.ifCond .gt 7, 3) := by decide +kernel
theorem dX1_isEmpty_7 : decode cX1_isEmpty 7 = .ok (.iconst 1, 1) := by decide +kernel
theorem dX1_isEmpty_8 : decode cX1_isEmpty 8 = .ok (.goto 4, 3) := by decide +kernel
theorem dX1_isEmpty_11 : decode cX1_isEmpty 11 = .ok (.iconst 0, 1) := by decide +kernel
theorem dX1_isEmpty_12 : decode cX1_isEmpty 12 = .ok (.ireturn, 1) := by decide +kernel
theorem dX1_keep_0 : decode cX1_keep 0 = .ok (.aload_n 0, 1) := by decide +kernel
theorem dX1_keep_1 : decode cX1_keep 1 = .ok (.getfield 17, 3) := by decide +kernel
theorem dX1_keep_4 : decode cX1_keep 4 = .ok (.iconst 5, 1) := by decide +kernel
theorem dX1_keep_5 : decode cX1_keep 5 = .ok (.if_icmp .lt 12, 3) := by decide +kernel
theorem dX1_keep_8 : decode cX1_keep 8 = .ok (.aload_n 0, 1) := by decide +kernel
theorem dX1_keep_9 : decode cX1_keep 9 = .ok (.invokevirtual 22, 3) := by decide +kernel
theorem dX1_keep_12 : decode cX1_keep 12 = .ok (.aload_n 0, 1) := by decide +kernel
theorem dX1_keep_13 : decode cX1_keep 13 = .ok (.iconst 4, 1) := by decide +kernel
theorem dX1_keep_14 : decode cX1_keep 14 = .ok (.putfield 17, 3) := by decide +kernel
theorem dX1_keep_17 : decode cX1_keep 17 = .ok (.aload_n 0, 1) := by decide +kernel
theorem dX1_keep_18 : decode cX1_keep 18 = .ok (.getfield 11, 3) := by decide +kernel
theorem dX1_keep_21 : decode cX1_keep 21 = .ok (.aload_n 0, 1) := by decide +kernel
theorem dX1_keep_22 : decode cX1_keep 22 = .ok (.getfield 17, 3) := by decide +kernel
theorem dX1_keep_25 : decode cX1_keep 25 = .ok (.aaload, 1) := by decide +kernel
theorem dX1_keep_26 : decode cX1_keep 26 = .ok (.astore_n 2, 1) := by decide +kernel
theorem dX1_keep_27 : decode cX1_keep 27 = .ok (.aload_n 2, 1) := by decide +kernel
theorem dX1_keep_28 : decode cX1_keep 28 = .ok (.ifnull 8, 3) := by decide +kernel
theorem dX1_keep_31 : decode cX1_keep 31 = .ok (.aload_n 2, 1) := by decide +kernel
theorem dX1_keep_32 : decode cX1_keep 32 = .ok (.aload_n 1, 1) := by decide +kernel
theorem dX1_keep_33 : decode cX1_keep 33 = .ok (.invokevirtual 25, 3) := by decide +kernel
theorem dX1_keep_36 : decode cX1_keep 36 = .ok (.aload_n 0, 1) := by decide +kernel
theorem dX1_keep_37 : decode cX1_keep 37 = .ok (.dup, 1) := by decide +kernel
theorem dX1_keep_38 : decode cX1_keep 38 = .ok (.getfield 17, 3) := by decide +kernel
theorem dX1_keep_41 : decode cX1_keep 41 = .ok (.iconst 1, 1) := by decide +kernel
theorem dX1_keep_42 : decode cX1_keep 42 = .ok (.iadd, 1) := by decide +kernel
theorem dX1_keep_43 : decode cX1_keep 43 = .ok (.putfield 17, 3) := by decide +kernel
theorem dX1_keep_46 : decode cX1_keep 46 = .ok (.return_, 1) := by decide +kernel
theorem dX1_moveLatestTo_0 : decode cX1_moveLatestTo 0 = .ok (.aload_n 0, 1) := by decide +kernel
theorem dX1_moveLatestTo_1 : decode cX1_moveLatestTo 1 = .ok (.getfield 17, 3) := by decide +kernel
theorem dX1_moveLatestTo_4 : decode cX1_moveLatestTo 4 = .ok (.ifCond .le 26, 3) := by decide +kernel
theorem dX1_moveLatestTo_7 : decode cX1_moveLatestTo 7 = .ok (.aload_n 0, 1) := by decide +kernel
theorem dX1_moveLatestTo_8 : decode cX1_moveLatestTo 8 = .ok (.dup, 1) := by decide +kernel
theorem dX1_moveLatestTo_9 : decode cX1_moveLatestTo 9 = .ok (.getfield 17, 3) := by decide +kernel
theorem dX1_moveLatestTo_12 : decode cX1_moveLatestTo 12 = .ok (.iconst 1, 1) := by decide +kernel
theorem dX1_moveLatestTo_13 : decode cX1_moveLatestTo 13 = .ok (.isub, 1) := by decide +kernel
theorem dX1_moveLatestTo_14 : decode cX1_moveLatestTo 14 = .ok (.putfield 17, 3) := by decide +kernel
theorem dX1_moveLatestTo_17 : decode cX1_moveLatestTo 17 = .ok (.aload_n 1, 1) := by decide +kernel
theorem dX1_moveLatestTo_18 : decode cX1_moveLatestTo 18 = .ok (.aload_n 0, 1) := by decide +kernel
theorem dX1_moveLatestTo_19 : decode cX1_moveLatestTo 19 = .ok (.getfield 11, 3) := by decide +kernel
theorem dX1_moveLatestTo_22 : decode cX1_moveLatestTo 22 = .ok (.aload_n 0, 1) := by decide +kernel
theorem dX1_moveLatestTo_23 : decode cX1_moveLatestTo 23 = .ok (.getfield 17, 3) := by decide +kernel
theorem dX1_moveLatestTo_26 : decode cX1_moveLatestTo 26 = .ok (.aaload, 1) := by decide +kernel
theorem dX1_moveLatestTo_27 : decode cX1_moveLatestTo 27 = .ok (.invokevirtual 25, 3) := by decide +kernel
theorem dX1_moveLatestTo_30 : decode cX1_moveLatestTo 30 = .ok (.aload_n 0, 1) := by decide +kernel
theorem dX1_moveLatestTo_31 : decode cX1_moveLatestTo 31 = .ok (.getfield 17, 3) := by decide +kernel
theorem dX1_moveLatestTo_34 : decode cX1_moveLatestTo 34 = .ok (.ireturn, 1) := by decide +kernel
theorem dX1_makeOldestLast_0 : decode cX1_makeOldestLast 0 = .ok (.aload_n 0, 1) := by decide +kernel
theorem dX1_makeOldestLast_1 : decode cX1_makeOldestLast 1 = .ok (.getfield 11, 3) := by decide +kernel
theorem dX1_makeOldestLast_4 : decode cX1_makeOldestLast 4 = .ok (.iconst 0, 1) := by decide +kernel
theorem dX1_makeOldestLast_5 : decode cX1_makeOldestLast 5 = .ok (.aaload, 1) := by decide +kernel
theorem dX1_makeOldestLast_6 : decode cX1_makeOldestLast 6 = .ok (.astore_n 1, 1) := by decide +kernel
theorem dX1_makeOldestLast_7 : decode cX1_makeOldestLast 7 = .ok (.iconst 1, 1) := by decide +kernel
theorem dX1_makeOldestLast_8 : decode cX1_makeOldestLast 8 = .ok (.istore_n 2, 1) := by decide +kernel
theorem dX1_makeOldestLast_9 : decode cX1_makeOldestLast 9 = .ok (.iload_n 2, 1) := by decide +kernel
theorem dX1_makeOldestLast_10 : decode cX1_makeOldestLast 10 = .ok (.iconst 5, 1) := by decide +kernel
theorem dX1_makeOldestLast_11 : decode cX1_makeOldestLast 11 = .ok (.if_icmp .ge 23, 3) := by decide +kernel
theorem dX1_makeOldestLast_14 : decode cX1_makeOldestLast 14 = .ok (.aload_n 0, 1) := by decide +kernel
theorem dX1_makeOldestLast_15 : decode cX1_makeOldestLast 15 = .ok (.getfield 11, 3) := by decide +kernel
theorem dX1_makeOldestLast_18 : decode cX1_makeOldestLast 18 = .ok (.iload_n 2, 1) := by decide +kernel
theorem dX1_makeOldestLast_19 : decode cX1_makeOldestLast 19 = .ok (.iconst 1, 1) := by decide +kernel
theorem dX1_makeOldestLast_20 : decode cX1_makeOldestLast 20 = .ok (.isub, 1) := by decide +kernel
theorem dX1_makeOldestLast_21 : decode cX1_makeOldestLast 21 = .ok (.aload_n 0, 1) := by decide +kernel
theorem dX1_makeOldestLast_22 : decode cX1_makeOldestLast 22 = .ok (.getfield 11, 3) := by decide +kernel
theorem dX1_makeOldestLast_25 : decode cX1_makeOldestLast 25 = .ok (.iload_n 2, 1) := by decide +kernel
theorem dX1_makeOldestLast_26 : decode cX1_makeOldestLast 26 = .ok (.aaload, 1) := by decide +kernel
theorem dX1_makeOldestLast_27 : decode cX1_makeOldestLast 27 = .ok (.aastore, 1) := by decide +kernel
theorem dX1_makeOldestLast_28 : decode cX1_makeOldestLast 28 = .ok (.iinc 2 1, 3) := by decide +kernel
theorem dX1_makeOldestLast_31 : decode cX1_makeOldestLast 31 = .ok (.goto (-22), 3) := by decide +kernel
theorem dX1_makeOldestLast_34 : decode cX1_makeOldestLast 34 = .ok (.aload_n 0, 1) := by decide +kernel
theorem dX1_makeOldestLast_35 : decode cX1_makeOldestLast 35 = .ok (.getfield 11, 3) := by decide +kernel
theorem dX1_makeOldestLast_38 : decode cX1_makeOldestLast 38 = .ok (.iconst 4, 1) := by decide +kernel
theorem dX1_makeOldestLast_39 : decode cX1_makeOldestLast 39 = .ok (.aload_n 1, 1) := by decide +kernel
theorem dX1_makeOldestLast_40 : decode cX1_makeOldestLast 40 = .ok (.aastore, 1) := by decide +kernel
theorem dX1_makeOldestLast_41 : decode cX1_makeOldestLast 41 = .ok (.return_, 1) := by decide +kernel
theorem dX2_init_0 : decode cX2_init 0 = .ok (.aload_n 0, 1) := by decide +kernel
theorem dX2_init_1 : decode cX2_init 1 = .ok (.invokespecial 3, 3) := by decide +kernel
theorem dX2_init_4 : decode cX2_init 4 = .ok (.aload_n 0, 1) := by decide +kernel
theorem dX2_init_5 : decode cX2_init 5 = .ok (.bipush 60, 2) := by decide +kernel
theorem dX2_init_7 : decode cX2_init 7 = .ok (.newarray .char, 2) := by decide +kernel
theorem dX2_init_9 : decode cX2_init 9 = .ok (.putfield 9, 3) := by decide +kernel
theorem dX2_init_12 : decode cX2_init 12 = .ok (.aload_n 0, 1) := by decide +kernel
theorem dX2_init_13 : decode cX2_init 13 = .ok (.iconst 0, 1) := by decide +kernel
theorem dX2_init_14 : decode cX2_init 14 = .ok (.putfield 15, 3) := by decide +kernel
theorem dX2_init_17 : decode cX2_init 17 = .ok (.return_, 1) := by decide +kernel
theorem dX2_addSign_0 : decode cX2_addSign 0 = .ok (.iload_n 1, 1) := by decide +kernel
theorem dX2_addSign_1 : decode cX2_addSign 1 = .ok (.bipush 33, 2) := by decide +kernel
theorem dX2_addSign_3 : decode cX2_addSign 3 = .ok (.if_icmp .lt 9, 3) := by decide +kernel
theorem dX2_addSign_6 : decode cX2_addSign 6 = .ok (.iload_n 1, 1) := by decide +kernel
theorem dX2_addSign_7 : decode cX2_addSign 7 = .ok (.bipush 126, 2) := by decide +kernel
theorem dX2_addSign_9 : decode cX2_addSign 9 = .ok (.if_icmp .le 6, 3) := by decide +kernel
theorem dX2_addSign_12 : decode cX2_addSign 12 = .ok (.bipush (-2), 2) := by decide +kernel
theorem dX2_addSign_14 : decode cX2_addSign 14 = .ok (.ireturn, 1) := by decide +kernel
theorem dX2_addSign_15 : decode cX2_addSign 15 = .ok (.aload_n 0, 1) := by decide +kernel
theorem dX2_addSign_16 : decode cX2_addSign 16 = .ok (.getfield 15, 3) := by decide +kernel
theorem dX2_addSign_19 : decode cX2_addSign 19 = .ok (.bipush 60, 2) := by decide +kernel
theorem dX2_addSign_21 : decode cX2_addSign 21 = .ok (.if_icmp .lt 6, 3) := by decide +kernel
theorem dX2_addSign_24 : decode cX2_addSign 24 = .ok (.bipush (-4), 2) := by decide +kernel
theorem dX2_addSign_26 : decode cX2_addSign 26 = .ok (.ireturn, 1) := by decide +kernel
theorem dX2_addSign_27 : decode cX2_addSign 27 = .ok (.aload_n 0, 1) := by decide +kernel
theorem dX2_addSign_28 : decode cX2_addSign 28 = .ok (.getfield 9, 3) := by decide +kernel
theorem dX2_addSign_31 : decode cX2_addSign 31 = .ok (.aload_n 0, 1) := by decide +kernel
theorem dX2_addSign_32 : decode cX2_addSign 32 = .ok (.getfield 15, 3) := by decide +kernel
theorem dX2_addSign_35 : decode cX2_addSign 35 = .ok (.iload_n 1, 1) := by decide +kernel
theorem dX2_addSign_36 : decode cX2_addSign 36 = .ok (.i2c, 1) := by decide +kernel
theorem dX2_addSign_37 : decode cX2_addSign 37 = .ok (.castore, 1) := by decide +kernel
theorem dX2_addSign_38 : decode cX2_addSign 38 = .ok (.aload_n 0, 1) := by decide +kernel
theorem dX2_addSign_39 : decode cX2_addSign 39 = .ok (.dup, 1) := by decide +kernel
theorem dX2_addSign_40 : decode cX2_addSign 40 = .ok (.getfield 15, 3) := by decide +kernel
theorem dX2_addSign_43 : decode cX2_addSign 43 = .ok (.iconst 1, 1) := by decide +kernel
theorem dX2_addSign_44 : decode cX2_addSign 44 = .ok (.iadd, 1) := by decide +kernel
theorem dX2_addSign_45 : decode cX2_addSign 45 = .ok (.putfield 15, 3) := by decide +kernel
theorem dX2_addSign_48 : decode cX2_addSign 48 = .ok (.aload_n 0, 1) := by decide +kernel
theorem dX2_addSign_49 : decode cX2_addSign 49 = .ok (.getfield 15, 3) := by decide +kernel
theorem dX2_addSign_52 : decode cX2_addSign 52 = .ok (.ireturn, 1) := by decide +kernel
theorem dX2_dropAll_0 : decode cX2_dropAll 0 = .ok (.aload_n 0, 1) := by decide +kernel
theorem dX2_dropAll_1 : decode cX2_dropAll 1 = .ok (.getfield 15, 3) := by decide +kernel
theorem dX2_dropAll_4 : decode cX2_dropAll 4 = .ok (.istore_n 1, 1) := by decide +kernel
theorem dX2_dropAll_5 : decode cX2_dropAll 5 = .ok (.aload_n 0, 1) := by decide +kernel
theorem dX2_dropAll_6 : decode cX2_dropAll 6 = .ok (.iconst 0, 1) := by decide +kernel
theorem dX2_dropAll_7 : decode cX2_dropAll 7 = .ok (.putfield 15, 3) := by decide +kernel
theorem dX2_dropAll_10 : decode cX2_dropAll 10 = .ok (.iload_n 1, 1) := by decide +kernel
theorem dX2_dropAll_11 : decode cX2_dropAll 11 = .ok (.ireturn, 1) := by decide +kernel
theorem dX2_firstError_0 : decode cX2_firstError 0 = .ok (.iconst 1, 1) := by decide +kernel
theorem dX2_firstError_1 : decode cX2_firstError 1 = .ok (.istore_n 1, 1) := by decide +kernel
theorem dX2_firstError_2 : decode cX2_firstError 2 = .ok (.iconst 0, 1) := by decide +kernel
theorem dX2_firstError_3 : decode cX2_firstError 3 = .ok (.istore_n 2, 1) := by decide +kernel
theorem dX2_firstError_4 : decode cX2_firstError 4 = .ok (.iload_n 2, 1) := by decide +kernel
theorem dX2_firstError_5 : decode cX2_firstError 5 = .ok (.aload_n 0, 1) := by decide +kernel
theorem dX2_firstError_6 : decode cX2_firstError 6 = .ok (.getfield 15, 3) := by decide +kernel
theorem dX2_firstError_9 : decode cX2_firstError 9 = .ok (.if_icmp .ge 26, 3) := by decide +kernel
theorem dX2_firstError_12 : decode cX2_firstError 12 = .ok (.iload_n 1, 1) := by decide +kernel
theorem dX2_firstError_13 : decode cX2_firstError 13 = .ok (.aload_n 0, 1) := by decide +kernel
theorem dX2_firstError_14 : decode cX2_firstError 14 = .ok (.getfield 9, 3) := by decide +kernel
theorem dX2_firstError_17 : decode cX2_firstError 17 = .ok (.iload_n 2, 1) := by decide +kernel
theorem dX2_firstError_18 : decode cX2_firstError 18 = .ok (.caload, 1) := by decide +kernel
theorem dX2_firstError_19 : decode cX2_firstError 19 = .ok (.invokestatic 19, 3) := by decide +kernel
theorem dX2_firstError_22 : decode cX2_firstError 22 = .ok (.istore_n 1, 1) := by decide +kernel
theorem dX2_firstError_23 : decode cX2_firstError 23 = .ok (.iload_n 1, 1) := by decide +kernel
theorem dX2_firstError_24 : decode cX2_firstError 24 = .ok (.ifCond .ne 5, 3) := by decide +kernel
theorem dX2_firstError_27 : decode cX2_firstError 27 = .ok (.iload_n 2, 1) := by decide +kernel
theorem dX2_firstError_28 : decode cX2_firstError 28 = .ok (.ireturn, 1) := by decide +kernel
theorem dX2_firstError_29 : decode cX2_firstError 29 = .ok (.iinc 2 1, 3) := by decide +kernel
theorem dX2_firstError_32 : decode cX2_firstError 32 = .ok (.goto (-28), 3) := by decide +kernel
theorem dX2_firstError_35 : decode cX2_firstError 35 = .ok (.iload_n 1, 1) := by decide +kernel
theorem dX2_firstError_36 : decode cX2_firstError 36 = .ok (.iconst 2, 1) := by decide +kernel
theorem dX2_firstError_37 : decode cX2_firstError 37 = .ok (.if_icmp .eq 9, 3) := by decide +kernel
theorem dX2_firstError_40 : decode cX2_firstError 40 = .ok (.iload_n 1, 1) := by decide +kernel
theorem dX2_firstError_41 : decode cX2_firstError 41 = .ok (.bipush 7, 2) := by decide +kernel
theorem dX2_firstError_43 : decode cX2_firstError 43 = .ok (.if_icmp .ne 8, 3) := by decide +kernel
theorem dX2_firstError_46 : decode cX2_firstError 46 = .ok (.bipush (-6), 2) := by decide +kernel
theorem dX2_firstError_48 : decode cX2_firstError 48 = .ok (.goto 7, 3) := by decide +kernel
theorem dX2_firstError_51 : decode cX2_firstError 51 = .ok (.aload_n 0, 1) := by decide +kernel
theorem dX2_firstError_52 : decode cX2_firstError 52 = .ok (.getfield 15, 3) := by decide +kernel
theorem dX2_firstError_55 : decode cX2_firstError 55 = .ok (.ireturn, 1) := by decide +kernel
theorem dX2_wantedBehind_0 : decode cX2_wantedBehind 0 = .ok (.iload_n 0, 1) := by decide +kernel
theorem dX2_wantedBehind_1 : decode cX2_wantedBehind 1 = .ok (.tableswitch 105 1 7 #[43, 48, 53, 60, 76, 81, 89], 43) := by decide +kernel
theorem dX2_wantedBehind_44 : decode cX2_wantedBehind 44 = .ok (.iload_n 1, 1) := by decide +kernel
theorem dX2_wantedBehind_45 : decode cX2_wantedBehind 45 = .ok (.invokestatic 23, 3) := by decide +kernel
theorem dX2_wantedBehind_48 : decode cX2_wantedBehind 48 = .ok (.ireturn, 1) := by decide +kernel
theorem dX2_wantedBehind_49 : decode cX2_wantedBehind 49 = .ok (.iload_n 1, 1) := by decide +kernel
theorem dX2_wantedBehind_50 : decode cX2_wantedBehind 50 = .ok (.invokestatic 27, 3) := by decide +kernel
theorem dX2_wantedBehind_53 : decode cX2_wantedBehind 53 = .ok (.ireturn, 1) := by decide +kernel
theorem dX2_wantedBehind_54 : decode cX2_wantedBehind 54 = .ok (.iload_n 1, 1) := by decide +kernel
theorem dX2_wantedBehind_55 : decode cX2_wantedBehind 55 = .ok (.iconst 5, 1) := by decide +kernel
theorem dX2_wantedBehind_56 : decode cX2_wantedBehind 56 = .ok (.iconst 4, 1) := by decide +kernel
theorem dX2_wantedBehind_57 : decode cX2_wantedBehind 57 = .ok (.invokestatic 30, 3) := by decide +kernel
theorem dX2_wantedBehind_60 : decode cX2_wantedBehind 60 = .ok (.ireturn, 1) := by decide +kernel
theorem dX2_wantedBehind_61 : decode cX2_wantedBehind 61 = .ok (.iload_n 1, 1) := by decide +kernel
theorem dX2_wantedBehind_62 : decode cX2_wantedBehind 62 = .ok (.invokestatic 34, 3) := by decide +kernel
theorem dX2_wantedBehind_65 : decode cX2_wantedBehind 65 = .ok (.ifCond .eq 7, 3) := by decide +kernel
theorem dX2_wantedBehind_68 : decode cX2_wantedBehind 68 = .ok (.iconst 5, 1) := by decide +kernel
theorem dX2_wantedBehind_69 : decode cX2_wantedBehind 69 = .ok (.goto 7, 3) := by decide +kernel
theorem dX2_wantedBehind_72 : decode cX2_wantedBehind 72 = .ok (.iload_n 1, 1) := by decide +kernel
theorem dX2_wantedBehind_73 : decode cX2_wantedBehind 73 = .ok (.invokestatic 38, 3) := by decide +kernel
theorem dX2_wantedBehind_76 : decode cX2_wantedBehind 76 = .ok (.ireturn, 1) := by decide +kernel
theorem dX2_wantedBehind_77 : decode cX2_wantedBehind 77 = .ok (.iload_n 1, 1) := by decide +kernel
theorem dX2_wantedBehind_78 : decode cX2_wantedBehind 78 = .ok (.invokestatic 38, 3) := by decide +kernel
theorem dX2_wantedBehind_81 : decode cX2_wantedBehind 81 = .ok (.ireturn, 1) := by decide +kernel
theorem dX2_wantedBehind_82 : decode cX2_wantedBehind 82 = .ok (.iload_n 1, 1) := by decide +kernel
theorem dX2_wantedBehind_83 : decode cX2_wantedBehind 83 = .ok (.iconst 2, 1) := by decide +kernel
theorem dX2_wantedBehind_84 : decode cX2_wantedBehind 84 = .ok (.bipush 7, 2) := by decide +kernel
theorem dX2_wantedBehind_86 : decode cX2_wantedBehind 86 = .ok (.invokestatic 30, 3) := by decide +kernel
theorem dX2_wantedBehind_89 : decode cX2_wantedBehind 89 = .ok (.ireturn, 1) := by decide +kernel
theorem dX2_wantedBehind_90 : decode cX2_wantedBehind 90 = .ok (.iload_n 1, 1) := by decide +kernel
theorem dX2_wantedBehind_91 : decode cX2_wantedBehind 91 = .ok (.invokestatic 34, 3) := by decide +kernel
theorem dX2_wantedBehind_94 : decode cX2_wantedBehind 94 = .ok (.ifCond .eq 7, 3) := by decide +kernel
theorem dX2_wantedBehind_97 : decode cX2_wantedBehind 97 = .ok (.iconst 2, 1) := by decide +kernel
theorem dX2_wantedBehind_98 : decode cX2_wantedBehind 98 = .ok (.goto 7, 3) := by decide +kernel
theorem dX2_wantedBehind_101 : decode cX2_wantedBehind 101 = .ok (.iload_n 1, 1) := by decide +kernel
theorem dX2_wantedBehind_102 : decode cX2_wantedBehind 102 = .ok (.invokestatic 27, 3) := by decide +kernel
theorem dX2_wantedBehind_105 : decode cX2_wantedBehind 105 = .ok (.ireturn, 1) := by decide +kernel
theorem dX2_wantedBehind_106 : decode cX2_wantedBehind 106 = .ok (.iconst 0, 1) := by decide +kernel
theorem dX2_wantedBehind_107 : decode cX2_wantedBehind 107 = .ok (.ireturn, 1) := by decide +kernel
theorem dX2_wantedBehindMoveStart_0 : decode cX2_wantedBehindMoveStart 0 = .ok (.iload_n 0, 1) := by decide +kernel
theorem dX2_wantedBehindMoveStart_1 : decode cX2_wantedBehindMoveStart 1 = .ok (.bipush 112, 2) := by decide +kernel
theorem dX2_wantedBehindMoveStart_3 : decode cX2_wantedBehindMoveStart 3 = .ok (.if_icmp .eq 19, 3) := by decide +kernel
theorem dX2_wantedBehindMoveStart_6 : decode cX2_wantedBehindMoveStart 6 = .ok (.iload_n 0, 1) := by decide +kernel
theorem dX2_wantedBehindMoveStart_7 : decode cX2_wantedBehindMoveStart 7 = .ok (.bipush 106, 2) := by decide +kernel
theorem dX2_wantedBehindMoveStart_9 : decode cX2_wantedBehindMoveStart 9 = .ok (.if_icmp .eq 13, 3) := by decide +kernel
theorem dX2_wantedBehindMoveStart_12 : decode cX2_wantedBehindMoveStart 12 = .ok (.iload_n 0, 1) := by decide +kernel
theorem dX2_wantedBehindMoveStart_13 : decode cX2_wantedBehindMoveStart 13 = .ok (.bipush 48, 2) := by decide +kernel
theorem dX2_wantedBehindMoveStart_15 : decode cX2_wantedBehindMoveStart 15 = .ok (.isub, 1) := by decide +kernel
theorem dX2_wantedBehindMoveStart_16 : decode cX2_wantedBehindMoveStart 16 = .ok (.invokestatic 41, 3) := by decide +kernel
theorem dX2_wantedBehindMoveStart_19 : decode cX2_wantedBehindMoveStart 19 = .ok (.ifCond .eq 5, 3) := by decide +kernel
theorem dX2_wantedBehindMoveStart_22 : decode cX2_wantedBehindMoveStart 22 = .ok (.iconst 2, 1) := by decide +kernel
theorem dX2_wantedBehindMoveStart_23 : decode cX2_wantedBehindMoveStart 23 = .ok (.ireturn, 1) := by decide +kernel
theorem dX2_wantedBehindMoveStart_24 : decode cX2_wantedBehindMoveStart 24 = .ok (.iload_n 0, 1) := by decide +kernel
theorem dX2_wantedBehindMoveStart_25 : decode cX2_wantedBehindMoveStart 25 = .ok (.bipush 99, 2) := by decide +kernel
theorem dX2_wantedBehindMoveStart_27 : decode cX2_wantedBehindMoveStart 27 = .ok (.if_icmp .ne 5, 3) := by decide +kernel
theorem dX2_wantedBehindMoveStart_30 : decode cX2_wantedBehindMoveStart 30 = .ok (.iconst 3, 1) := by decide +kernel
theorem dX2_wantedBehindMoveStart_31 : decode cX2_wantedBehindMoveStart 31 = .ok (.ireturn, 1) := by decide +kernel
theorem dX2_wantedBehindMoveStart_32 : decode cX2_wantedBehindMoveStart 32 = .ok (.iload_n 0, 1) := by decide +kernel
theorem dX2_wantedBehindMoveStart_33 : decode cX2_wantedBehindMoveStart 33 = .ok (.bipush 108, 2) := by decide +kernel
theorem dX2_wantedBehindMoveStart_35 : decode cX2_wantedBehindMoveStart 35 = .ok (.if_icmp .ne 8, 3) := by decide +kernel
theorem dX2_wantedBehindMoveStart_38 : decode cX2_wantedBehindMoveStart 38 = .ok (.bipush 6, 2) := by decide +kernel
theorem dX2_wantedBehindMoveStart_40 : decode cX2_wantedBehindMoveStart 40 = .ok (.goto 4, 3) := by decide +kernel
theorem dX2_wantedBehindMoveStart_43 : decode cX2_wantedBehindMoveStart 43 = .ok (.iconst 0, 1) := by decide +kernel
theorem dX2_wantedBehindMoveStart_44 : decode cX2_wantedBehindMoveStart 44 = .ok (.ireturn, 1) := by decide +kernel
theorem dX2_wantedBehindComma_0 : decode cX2_wantedBehindComma 0 = .ok (.iload_n 0, 1) := by decide +kernel
theorem dX2_wantedBehindComma_1 : decode cX2_wantedBehindComma 1 = .ok (.bipush 44, 2) := by decide +kernel
theorem dX2_wantedBehindComma_3 : decode cX2_wantedBehindComma 3 = .ok (.if_icmp .ne 7, 3) := by decide +kernel
theorem dX2_wantedBehindComma_6 : decode cX2_wantedBehindComma 6 = .ok (.iconst 1, 1) := by decide +kernel
theorem dX2_wantedBehindComma_7 : decode cX2_wantedBehindComma 7 = .ok (.goto 4, 3) := by decide +kernel
theorem dX2_wantedBehindComma_10 : decode cX2_wantedBehindComma 10 = .ok (.iconst 0, 1) := by decide +kernel
theorem dX2_wantedBehindComma_11 : decode cX2_wantedBehindComma 11 = .ok (.ireturn, 1) := by decide +kernel
theorem dX2_wantedBehindArrow_0 : decode cX2_wantedBehindArrow 0 = .ok (.iload_n 0, 1) := by decide +kernel
theorem dX2_wantedBehindArrow_1 : decode cX2_wantedBehindArrow 1 = .ok (.bipush 62, 2) := by decide +kernel
theorem dX2_wantedBehindArrow_3 : decode cX2_wantedBehindArrow 3 = .ok (.if_icmp .ne 8, 3) := by decide +kernel
theorem dX2_wantedBehindArrow_6 : decode cX2_wantedBehindArrow 6 = .ok (.bipush 6, 2) := by decide +kernel
theorem dX2_wantedBehindArrow_8 : decode cX2_wantedBehindArrow 8 = .ok (.goto 4, 3) := by decide +kernel
theorem dX2_wantedBehindArrow_11 : decode cX2_wantedBehindArrow 11 = .ok (.iconst 0, 1) := by decide +kernel
theorem dX2_wantedBehindArrow_12 : decode cX2_wantedBehindArrow 12 = .ok (.ireturn, 1) := by decide +kernel
theorem dX2_wantedBehindNumberStart_0 : decode cX2_wantedBehindNumberStart 0 = .ok (.iload_n 0, 1) := by decide +kernel
theorem dX2_wantedBehindNumberStart_1 : decode cX2_wantedBehindNumberStart 1 = .ok (.invokestatic 34, 3) := by decide +kernel
theorem dX2_wantedBehindNumberStart_4 : decode cX2_wantedBehindNumberStart 4 = .ok (.ifCond .ne 5, 3) := by decide +kernel
theorem dX2_wantedBehindNumberStart_7 : decode cX2_wantedBehindNumberStart 7 = .ok (.iconst 0, 1) := by decide +kernel
theorem dX2_wantedBehindNumberStart_8 : decode cX2_wantedBehindNumberStart 8 = .ok (.ireturn, 1) := by decide +kernel
theorem dX2_wantedBehindNumberStart_9 : decode cX2_wantedBehindNumberStart 9 = .ok (.iload_n 0, 1) := by decide +kernel
theorem dX2_wantedBehindNumberStart_10 : decode cX2_wantedBehindNumberStart 10 = .ok (.bipush 48, 2) := by decide +kernel
theorem dX2_wantedBehindNumberStart_12 : decode cX2_wantedBehindNumberStart 12 = .ok (.if_icmp .ne 7, 3) := by decide +kernel
theorem dX2_wantedBehindNumberStart_15 : decode cX2_wantedBehindNumberStart 15 = .ok (.iload_n 1, 1) := by decide +kernel
theorem dX2_wantedBehindNumberStart_16 : decode cX2_wantedBehindNumberStart 16 = .ok (.goto 4, 3) := by decide +kernel
theorem dX2_wantedBehindNumberStart_19 : decode cX2_wantedBehindNumberStart 19 = .ok (.iload_n 2, 1) := by decide +kernel
theorem dX2_wantedBehindNumberStart_20 : decode cX2_wantedBehindNumberStart 20 = .ok (.ireturn, 1) := by decide +kernel
theorem dX2_isDigit_0 : decode cX2_isDigit 0 = .ok (.iload_n 0, 1) := by decide +kernel
theorem dX2_isDigit_1 : decode cX2_isDigit 1 = .ok (.bipush 48, 2) := by decide +kernel
theorem dX2_isDigit_3 : decode cX2_isDigit 3 = .ok (.if_icmp .lt 13, 3) := by decide +kernel
theorem dX2_isDigit_6 : decode cX2_isDigit 6 = .ok (.iload_n 0, 1) := by decide +kernel
theorem dX2_isDigit_7 : decode cX2_isDigit 7 = .ok (.bipush 57, 2) := by decide +kernel
theorem dX2_isDigit_9 : decode cX2_isDigit 9 = .ok (.if_icmp .gt 7, 3) := by decide +kernel
theorem dX2_isDigit_12 : decode cX2_isDigit 12 = .ok (.iconst 1, 1) := by decide +kernel
theorem dX2_isDigit_13 : decode cX2_isDigit 13 = .ok (.goto 4, 3) := by decide +kernel
theorem dX2_isDigit_16 : decode cX2_isDigit 16 = .ok (.iconst 0, 1) := by decide +kernel
theorem dX2_isDigit_17 : decode cX2_isDigit 17 = .ok (.ireturn, 1) := by decide +kernel
theorem dX2_signAt_0 : decode cX2_signAt 0 = .ok (.iload_n 1, 1) := by decide +kernel
theorem dX2_signAt_1 : decode cX2_signAt 1 = .ok (.ifCond .lt 20, 3) := by decide +kernel
theorem dX2_signAt_4 : decode cX2_signAt 4 = .ok (.iload_n 1, 1) := by decide +kernel
theorem dX2_signAt_5 : decode cX2_signAt 5 = .ok (.aload_n 0, 1) := by decide +kernel
theorem dX2_signAt_6 : decode cX2_signAt 6 = .ok (.getfield 15, 3) := by decide +kernel
theorem dX2_signAt_9 : decode cX2_signAt 9 = .ok (.if_icmp .ge 12, 3) := by decide +kernel
theorem dX2_signAt_12 : decode cX2_signAt 12 = .ok (.aload_n 0, 1) := by decide +kernel
theorem dX2_signAt_13 : decode cX2_signAt 13 = .ok (.getfield 9, 3) := by decide +kernel
theorem dX2_signAt_16 : decode cX2_signAt 16 = .ok (.iload_n 1, 1) := by decide +kernel
theorem dX2_signAt_17 : decode cX2_signAt 17 = .ok (.caload, 1) := by decide +kernel
theorem dX2_signAt_18 : decode cX2_signAt 18 = .ok (.goto 5, 3) := by decide +kernel
theorem dX2_signAt_21 : decode cX2_signAt 21 = .ok (.bipush 32, 2) := by decide +kernel
theorem dX2_signAt_23 : decode cX2_signAt 23 = .ok (.ireturn, 1) := by decide +kernel
theorem dX2_isMoveStart_0 : decode cX2_isMoveStart 0 = .ok (.iload_n 1, 1) := by decide +kernel
theorem dX2_isMoveStart_1 : decode cX2_isMoveStart 1 = .ok (.ifCond .eq 15, 3) := by decide +kernel
theorem dX2_isMoveStart_4 : decode cX2_isMoveStart 4 = .ok (.aload_n 0, 1) := by decide +kernel
theorem dX2_isMoveStart_5 : decode cX2_isMoveStart 5 = .ok (.iload_n 1, 1) := by decide +kernel
theorem dX2_isMoveStart_6 : decode cX2_isMoveStart 6 = .ok (.iconst 1, 1) := by decide +kernel
theorem dX2_isMoveStart_7 : decode cX2_isMoveStart 7 = .ok (.isub, 1) := by decide +kernel
theorem dX2_isMoveStart_8 : decode cX2_isMoveStart 8 = .ok (.invokevirtual 45, 3) := by decide +kernel
theorem dX2_isMoveStart_11 : decode cX2_isMoveStart 11 = .ok (.bipush 44, 2) := by decide +kernel
theorem dX2_isMoveStart_13 : decode cX2_isMoveStart 13 = .ok (.if_icmp .ne 7, 3) := by decide +kernel
theorem dX2_isMoveStart_16 : decode cX2_isMoveStart 16 = .ok (.iconst 1, 1) := by decide +kernel
theorem dX2_isMoveStart_17 : decode cX2_isMoveStart 17 = .ok (.goto 4, 3) := by decide +kernel
theorem dX2_isMoveStart_20 : decode cX2_isMoveStart 20 = .ok (.iconst 0, 1) := by decide +kernel
theorem dX2_isMoveStart_21 : decode cX2_isMoveStart 21 = .ok (.ireturn, 1) := by decide +kernel
theorem dX2_numberAt_0 : decode cX2_numberAt 0 = .ok (.iconst 0, 1) := by decide +kernel
theorem dX2_numberAt_1 : decode cX2_numberAt 1 = .ok (.istore_n 2, 1) := by decide +kernel
theorem dX2_numberAt_2 : decode cX2_numberAt 2 = .ok (.iload_n 1, 1) := by decide +kernel
theorem dX2_numberAt_3 : decode cX2_numberAt 3 = .ok (.istore_n 3, 1) := by decide +kernel
theorem dX2_numberAt_4 : decode cX2_numberAt 4 = .ok (.iload_n 3, 1) := by decide +kernel
theorem dX2_numberAt_5 : decode cX2_numberAt 5 = .ok (.aload_n 0, 1) := by decide +kernel
theorem dX2_numberAt_6 : decode cX2_numberAt 6 = .ok (.getfield 15, 3) := by decide +kernel
theorem dX2_numberAt_9 : decode cX2_numberAt 9 = .ok (.if_icmp .ge 34, 3) := by decide +kernel
theorem dX2_numberAt_12 : decode cX2_numberAt 12 = .ok (.aload_n 0, 1) := by decide +kernel
theorem dX2_numberAt_13 : decode cX2_numberAt 13 = .ok (.iload_n 3, 1) := by decide +kernel
theorem dX2_numberAt_14 : decode cX2_numberAt 14 = .ok (.invokevirtual 45, 3) := by decide +kernel
theorem dX2_numberAt_17 : decode cX2_numberAt 17 = .ok (.invokestatic 34, 3) := by decide +kernel
theorem dX2_numberAt_20 : decode cX2_numberAt 20 = .ok (.ifCond .eq 23, 3) := by decide +kernel
theorem dX2_numberAt_23 : decode cX2_numberAt 23 = .ok (.bipush 10, 2) := by decide +kernel
theorem dX2_numberAt_25 : decode cX2_numberAt 25 = .ok (.iload_n 2, 1) := by decide +kernel
theorem dX2_numberAt_26 : decode cX2_numberAt 26 = .ok (.imul, 1) := by decide +kernel
theorem dX2_numberAt_27 : decode cX2_numberAt 27 = .ok (.aload_n 0, 1) := by decide +kernel
theorem dX2_numberAt_28 : decode cX2_numberAt 28 = .ok (.iload_n 3, 1) := by decide +kernel
theorem dX2_numberAt_29 : decode cX2_numberAt 29 = .ok (.invokevirtual 45, 3) := by decide +kernel
theorem dX2_numberAt_32 : decode cX2_numberAt 32 = .ok (.bipush 48, 2) := by decide +kernel
theorem dX2_numberAt_34 : decode cX2_numberAt 34 = .ok (.isub, 1) := by decide +kernel
theorem dX2_numberAt_35 : decode cX2_numberAt 35 = .ok (.iadd, 1) := by decide +kernel
theorem dX2_numberAt_36 : decode cX2_numberAt 36 = .ok (.istore_n 2, 1) := by decide +kernel
theorem dX2_numberAt_37 : decode cX2_numberAt 37 = .ok (.iinc 3 1, 3) := by decide +kernel
theorem dX2_numberAt_40 : decode cX2_numberAt 40 = .ok (.goto (-36), 3) := by decide +kernel
theorem dX2_numberAt_43 : decode cX2_numberAt 43 = .ok (.iload_n 2, 1) := by decide +kernel
theorem dX2_numberAt_44 : decode cX2_numberAt 44 = .ok (.ireturn, 1) := by decide +kernel
theorem dX2_behindArrow_0 : decode cX2_behindArrow 0 = .ok (.iload_n 1, 1) := by decide +kernel
theorem dX2_behindArrow_1 : decode cX2_behindArrow 1 = .ok (.istore_n 2, 1) := by decide +kernel
theorem dX2_behindArrow_2 : decode cX2_behindArrow 2 = .ok (.iload_n 2, 1) := by decide +kernel
theorem dX2_behindArrow_3 : decode cX2_behindArrow 3 = .ok (.aload_n 0, 1) := by decide +kernel
theorem dX2_behindArrow_4 : decode cX2_behindArrow 4 = .ok (.getfield 15, 3) := by decide +kernel
theorem dX2_behindArrow_7 : decode cX2_behindArrow 7 = .ok (.if_icmp .ge 23, 3) := by decide +kernel
theorem dX2_behindArrow_10 : decode cX2_behindArrow 10 = .ok (.aload_n 0, 1) := by decide +kernel
theorem dX2_behindArrow_11 : decode cX2_behindArrow 11 = .ok (.iload_n 2, 1) := by decide +kernel
theorem dX2_behindArrow_12 : decode cX2_behindArrow 12 = .ok (.invokevirtual 45, 3) := by decide +kernel
theorem dX2_behindArrow_15 : decode cX2_behindArrow 15 = .ok (.bipush 62, 2) := by decide +kernel
theorem dX2_behindArrow_17 : decode cX2_behindArrow 17 = .ok (.if_icmp .ne 7, 3) := by decide +kernel
theorem dX2_behindArrow_20 : decode cX2_behindArrow 20 = .ok (.iload_n 2, 1) := by decide +kernel
theorem dX2_behindArrow_21 : decode cX2_behindArrow 21 = .ok (.iconst 1, 1) := by decide +kernel
theorem dX2_behindArrow_22 : decode cX2_behindArrow 22 = .ok (.iadd, 1) := by decide +kernel
theorem dX2_behindArrow_23 : decode cX2_behindArrow 23 = .ok (.ireturn, 1) := by decide +kernel
theorem dX2_behindArrow_24 : decode cX2_behindArrow 24 = .ok (.iinc 2 1, 3) := by decide +kernel
theorem dX2_behindArrow_27 : decode cX2_behindArrow 27 = .ok (.goto (-25), 3) := by decide +kernel
theorem dX2_behindArrow_30 : decode cX2_behindArrow 30 = .ok (.aload_n 0, 1) := by decide +kernel
theorem dX2_behindArrow_31 : decode cX2_behindArrow 31 = .ok (.getfield 15, 3) := by decide +kernel
theorem dX2_behindArrow_34 : decode cX2_behindArrow 34 = .ok (.ireturn, 1) := by decide +kernel
theorem dX3_init_0 : decode cX3_init 0 = .ok (.aload_n 0, 1) := by decide +kernel
theorem dX3_init_1 : decode cX3_init 1 = .ok (.invokespecial 1, 3) := by decide +kernel
theorem dX3_init_4 : decode cX3_init 4 = .ok (.aload_n 0, 1) := by decide +kernel
theorem dX3_init_5 : decode cX3_init 5 = .ok (.new 7, 3) := by decide +kernel
theorem dX3_init_8 : decode cX3_init 8 = .ok (.dup, 1) := by decide +kernel
theorem dX3_init_9 : decode cX3_init 9 = .ok (.invokespecial 9, 3) := by decide +kernel
theorem dX3_init_12 : decode cX3_init 12 = .ok (.putfield 10, 3) := by decide +kernel
theorem dX3_init_15 : decode cX3_init 15 = .ok (.aload_n 0, 1) := by decide +kernel
theorem dX3_init_16 : decode cX3_init 16 = .ok (.new 7, 3) := by decide +kernel
theorem dX3_init_19 : decode cX3_init 19 = .ok (.dup, 1) := by decide +kernel
theorem dX3_init_20 : decode cX3_init 20 = .ok (.invokespecial 9, 3) := by decide +kernel
theorem dX3_init_23 : decode cX3_init 23 = .ok (.putfield 16, 3) := by decide +kernel
theorem dX3_init_26 : decode cX3_init 26 = .ok (.aload_n 0, 1) := by decide +kernel
theorem dX3_init_27 : decode cX3_init 27 = .ok (.new 7, 3) := by decide +kernel
theorem dX3_init_30 : decode cX3_init 30 = .ok (.dup, 1) := by decide +kernel
theorem dX3_init_31 : decode cX3_init 31 = .ok (.invokespecial 9, 3) := by decide +kernel
theorem dX3_init_34 : decode cX3_init 34 = .ok (.putfield 19, 3) := by decide +kernel
theorem dX3_init_37 : decode cX3_init 37 = .ok (.aload_n 0, 1) := by decide +kernel
theorem dX3_init_38 : decode cX3_init 38 = .ok (.new 7, 3) := by decide +kernel
theorem dX3_init_41 : decode cX3_init 41 = .ok (.dup, 1) := by decide +kernel
theorem dX3_init_42 : decode cX3_init 42 = .ok (.invokespecial 9, 3) := by decide +kernel
theorem dX3_init_45 : decode cX3_init 45 = .ok (.putfield 22, 3) := by decide +kernel
theorem dX3_init_48 : decode cX3_init 48 = .ok (.aload_n 0, 1) := by decide +kernel
theorem dX3_init_49 : decode cX3_init 49 = .ok (.new 25, 3) := by decide +kernel
theorem dX3_init_52 : decode cX3_init 52 = .ok (.dup, 1) := by decide +kernel
theorem dX3_init_53 : decode cX3_init 53 = .ok (.invokespecial 27, 3) := by decide +kernel
theorem dX3_init_56 : decode cX3_init 56 = .ok (.putfield 28, 3) := by decide +kernel
theorem dX3_init_59 : decode cX3_init 59 = .ok (.aload_n 0, 1) := by decide +kernel
theorem dX3_init_60 : decode cX3_init 60 = .ok (.new 32, 3) := by decide +kernel
theorem dX3_init_63 : decode cX3_init 63 = .ok (.dup, 1) := by decide +kernel
theorem dX3_init_64 : decode cX3_init 64 = .ok (.invokespecial 34, 3) := by decide +kernel
theorem dX3_init_67 : decode cX3_init 67 = .ok (.putfield 35, 3) := by decide +kernel
theorem dX3_init_70 : decode cX3_init 70 = .ok (.aload_n 0, 1) := by decide +kernel
theorem dX3_init_71 : decode cX3_init 71 = .ok (.iconst 0, 1) := by decide +kernel
theorem dX3_init_72 : decode cX3_init 72 = .ok (.putfield 39, 3) := by decide +kernel
theorem dX3_init_75 : decode cX3_init 75 = .ok (.return_, 1) := by decide +kernel
theorem dX3_setTop_0 : decode cX3_setTop 0 = .ok (.aload_n 0, 1) := by decide +kernel
theorem dX3_setTop_1 : decode cX3_setTop 1 = .ok (.getfield 16, 3) := by decide +kernel
theorem dX3_setTop_4 : decode cX3_setTop 4 = .ok (.aload_n 0, 1) := by decide +kernel
theorem dX3_setTop_5 : decode cX3_setTop 5 = .ok (.getfield 10, 3) := by decide +kernel
theorem dX3_setTop_8 : decode cX3_setTop 8 = .ok (.invokevirtual 43, 3) := by decide +kernel
theorem dX3_setTop_11 : decode cX3_setTop 11 = .ok (.aload_n 0, 1) := by decide +kernel
theorem dX3_setTop_12 : decode cX3_setTop 12 = .ok (.aload_n 0, 1) := by decide +kernel
theorem dX3_setTop_13 : decode cX3_setTop 13 = .ok (.getfield 10, 3) := by decide +kernel
theorem dX3_setTop_16 : decode cX3_setTop 16 = .ok (.iload_n 1, 1) := by decide +kernel
theorem dX3_setTop_17 : decode cX3_setTop 17 = .ok (.invokevirtual 47, 3) := by decide +kernel
theorem dX3_setTop_20 : decode cX3_setTop 20 = .ok (.invokevirtual 51, 3) := by decide +kernel
theorem dX3_setTop_23 : decode cX3_setTop 23 = .ok (.ireturn, 1) := by decide +kernel
theorem dX3_lay_0 : decode cX3_lay 0 = .ok (.aload_n 0, 1) := by decide +kernel
theorem dX3_lay_1 : decode cX3_lay 1 = .ok (.getfield 16, 3) := by decide +kernel
theorem dX3_lay_4 : decode cX3_lay 4 = .ok (.aload_n 0, 1) := by decide +kernel
theorem dX3_lay_5 : decode cX3_lay 5 = .ok (.getfield 10, 3) := by decide +kernel
theorem dX3_lay_8 : decode cX3_lay 8 = .ok (.invokevirtual 43, 3) := by decide +kernel
theorem dX3_lay_11 : decode cX3_lay 11 = .ok (.aload_n 0, 1) := by decide +kernel
theorem dX3_lay_12 : decode cX3_lay 12 = .ok (.aload_n 0, 1) := by decide +kernel
theorem dX3_lay_13 : decode cX3_lay 13 = .ok (.getfield 10, 3) := by decide +kernel
theorem dX3_lay_16 : decode cX3_lay 16 = .ok (.iload_n 1, 1) := by decide +kernel
theorem dX3_lay_17 : decode cX3_lay 17 = .ok (.iload_n 2, 1) := by decide +kernel
theorem dX3_lay_18 : decode cX3_lay 18 = .ok (.invokevirtual 54, 3) := by decide +kernel
theorem dX3_lay_21 : decode cX3_lay 21 = .ok (.invokevirtual 51, 3) := by decide +kernel
theorem dX3_lay_24 : decode cX3_lay 24 = .ok (.ireturn, 1) := by decide +kernel
theorem dX3_take_0 : decode cX3_take 0 = .ok (.aload_n 0, 1) := by decide +kernel
theorem dX3_take_1 : decode cX3_take 1 = .ok (.getfield 16, 3) := by decide +kernel
theorem dX3_take_4 : decode cX3_take 4 = .ok (.aload_n 0, 1) := by decide +kernel
theorem dX3_take_5 : decode cX3_take 5 = .ok (.getfield 10, 3) := by decide +kernel
theorem dX3_take_8 : decode cX3_take 8 = .ok (.invokevirtual 43, 3) := by decide +kernel
theorem dX3_take_11 : decode cX3_take 11 = .ok (.aload_n 0, 1) := by decide +kernel
theorem dX3_take_12 : decode cX3_take 12 = .ok (.aload_n 0, 1) := by decide +kernel
theorem dX3_take_13 : decode cX3_take 13 = .ok (.getfield 10, 3) := by decide +kernel
theorem dX3_take_16 : decode cX3_take 16 = .ok (.iload_n 1, 1) := by decide +kernel
theorem dX3_take_17 : decode cX3_take 17 = .ok (.invokevirtual 58, 3) := by decide +kernel
theorem dX3_take_20 : decode cX3_take 20 = .ok (.invokevirtual 51, 3) := by decide +kernel
theorem dX3_take_23 : decode cX3_take 23 = .ok (.ireturn, 1) := by decide +kernel
theorem dX3_put_0 : decode cX3_put 0 = .ok (.aload_n 0, 1) := by decide +kernel
theorem dX3_put_1 : decode cX3_put 1 = .ok (.getfield 16, 3) := by decide +kernel
theorem dX3_put_4 : decode cX3_put 4 = .ok (.aload_n 0, 1) := by decide +kernel
theorem dX3_put_5 : decode cX3_put 5 = .ok (.getfield 10, 3) := by decide +kernel
theorem dX3_put_8 : decode cX3_put 8 = .ok (.invokevirtual 43, 3) := by decide +kernel
theorem dX3_put_11 : decode cX3_put 11 = .ok (.aload_n 0, 1) := by decide +kernel
theorem dX3_put_12 : decode cX3_put 12 = .ok (.aload_n 0, 1) := by decide +kernel
theorem dX3_put_13 : decode cX3_put 13 = .ok (.getfield 10, 3) := by decide +kernel
theorem dX3_put_16 : decode cX3_put 16 = .ok (.iload_n 1, 1) := by decide +kernel
theorem dX3_put_17 : decode cX3_put 17 = .ok (.invokevirtual 61, 3) := by decide +kernel
theorem dX3_put_20 : decode cX3_put 20 = .ok (.invokevirtual 51, 3) := by decide +kernel
theorem dX3_put_23 : decode cX3_put 23 = .ok (.ireturn, 1) := by decide +kernel
theorem dX3_remove_0 : decode cX3_remove 0 = .ok (.aload_n 0, 1) := by decide +kernel
theorem dX3_remove_1 : decode cX3_remove 1 = .ok (.getfield 16, 3) := by decide +kernel
theorem dX3_remove_4 : decode cX3_remove 4 = .ok (.aload_n 0, 1) := by decide +kernel
theorem dX3_remove_5 : decode cX3_remove 5 = .ok (.getfield 10, 3) := by decide +kernel
theorem dX3_remove_8 : decode cX3_remove 8 = .ok (.invokevirtual 43, 3) := by decide +kernel
theorem dX3_remove_11 : decode cX3_remove 11 = .ok (.aload_n 0, 1) := by decide +kernel
theorem dX3_remove_12 : decode cX3_remove 12 = .ok (.aload_n 0, 1) := by decide +kernel
theorem dX3_remove_13 : decode cX3_remove 13 = .ok (.getfield 10, 3) := by decide +kernel
theorem dX3_remove_16 : decode cX3_remove 16 = .ok (.iload_n 1, 1) := by decide +kernel
theorem dX3_remove_17 : decode cX3_remove 17 = .ok (.invokevirtual 64, 3) := by decide +kernel
theorem dX3_remove_20 : decode cX3_remove 20 = .ok (.invokevirtual 51, 3) := by decide +kernel
theorem dX3_remove_23 : decode cX3_remove 23 = .ok (.ireturn, 1) := by decide +kernel
theorem dX3_join_0 : decode cX3_join 0 = .ok (.aload_n 0, 1) := by decide +kernel
theorem dX3_join_1 : decode cX3_join 1 = .ok (.getfield 16, 3) := by decide +kernel
theorem dX3_join_4 : decode cX3_join 4 = .ok (.aload_n 0, 1) := by decide +kernel
theorem dX3_join_5 : decode cX3_join 5 = .ok (.getfield 10, 3) := by decide +kernel
theorem dX3_join_8 : decode cX3_join 8 = .ok (.invokevirtual 43, 3) := by decide +kernel
theorem dX3_join_11 : decode cX3_join 11 = .ok (.aload_n 0, 1) := by decide +kernel
theorem dX3_join_12 : decode cX3_join 12 = .ok (.aload_n 0, 1) := by decide +kernel
theorem dX3_join_13 : decode cX3_join 13 = .ok (.getfield 10, 3) := by decide +kernel
theorem dX3_join_16 : decode cX3_join 16 = .ok (.invokevirtual 67, 3) := by decide +kernel
theorem dX3_join_19 : decode cX3_join 19 = .ok (.invokevirtual 51, 3) := by decide +kernel
theorem dX3_join_22 : decode cX3_join 22 = .ok (.ireturn, 1) := by decide +kernel
theorem dX3_roll_0 : decode cX3_roll 0 = .ok (.aload_n 0, 1) := by decide +kernel
theorem dX3_roll_1 : decode cX3_roll 1 = .ok (.getfield 16, 3) := by decide +kernel
theorem dX3_roll_4 : decode cX3_roll 4 = .ok (.aload_n 0, 1) := by decide +kernel
theorem dX3_roll_5 : decode cX3_roll 5 = .ok (.getfield 10, 3) := by decide +kernel
theorem dX3_roll_8 : decode cX3_roll 8 = .ok (.invokevirtual 43, 3) := by decide +kernel
theorem dX3_roll_11 : decode cX3_roll 11 = .ok (.aload_n 0, 1) := by decide +kernel
theorem dX3_roll_12 : decode cX3_roll 12 = .ok (.aload_n 0, 1) := by decide +kernel
theorem dX3_roll_13 : decode cX3_roll 13 = .ok (.getfield 10, 3) := by decide +kernel
theorem dX3_roll_16 : decode cX3_roll 16 = .ok (.iload_n 1, 1) := by decide +kernel
theorem dX3_roll_17 : decode cX3_roll 17 = .ok (.invokevirtual 71, 3) := by decide +kernel
theorem dX3_roll_20 : decode cX3_roll 20 = .ok (.invokevirtual 51, 3) := by decide +kernel
theorem dX3_roll_23 : decode cX3_roll 23 = .ok (.ireturn, 1) := by decide +kernel
theorem dX3_pass_0 : decode cX3_pass 0 = .ok (.aload_n 0, 1) := by decide +kernel
theorem dX3_pass_1 : decode cX3_pass 1 = .ok (.getfield 16, 3) := by decide +kernel
theorem dX3_pass_4 : decode cX3_pass 4 = .ok (.aload_n 0, 1) := by decide +kernel
theorem dX3_pass_5 : decode cX3_pass 5 = .ok (.getfield 10, 3) := by decide +kernel
theorem dX3_pass_8 : decode cX3_pass 8 = .ok (.invokevirtual 43, 3) := by decide +kernel
theorem dX3_pass_11 : decode cX3_pass 11 = .ok (.aload_n 0, 1) := by decide +kernel
theorem dX3_pass_12 : decode cX3_pass 12 = .ok (.aload_n 0, 1) := by decide +kernel
theorem dX3_pass_13 : decode cX3_pass 13 = .ok (.getfield 10, 3) := by decide +kernel
theorem dX3_pass_16 : decode cX3_pass 16 = .ok (.invokevirtual 74, 3) := by decide +kernel
theorem dX3_pass_19 : decode cX3_pass 19 = .ok (.invokevirtual 51, 3) := by decide +kernel
theorem dX3_pass_22 : decode cX3_pass 22 = .ok (.ireturn, 1) := by decide +kernel
theorem dX3_climber_0 : decode cX3_climber 0 = .ok (.aload_n 0, 1) := by decide +kernel
theorem dX3_climber_1 : decode cX3_climber 1 = .ok (.getfield 10, 3) := by decide +kernel
theorem dX3_climber_4 : decode cX3_climber 4 = .ok (.iload_n 1, 1) := by decide +kernel
theorem dX3_climber_5 : decode cX3_climber 5 = .ok (.iload_n 2, 1) := by decide +kernel
theorem dX3_climber_6 : decode cX3_climber 6 = .ok (.invokevirtual 77, 3) := by decide +kernel
theorem dX3_climber_9 : decode cX3_climber 9 = .ok (.ireturn, 1) := by decide +kernel
theorem dX3_turn_0 : decode cX3_turn 0 = .ok (.aload_n 0, 1) := by decide +kernel
theorem dX3_turn_1 : decode cX3_turn 1 = .ok (.getfield 10, 3) := by decide +kernel
theorem dX3_turn_4 : decode cX3_turn 4 = .ok (.invokevirtual 80, 3) := by decide +kernel
theorem dX3_turn_7 : decode cX3_turn 7 = .ok (.ifCond .eq 13, 3) := by decide +kernel
theorem dX3_turn_10 : decode cX3_turn 10 = .ok (.aload_n 0, 1) := by decide +kernel
theorem dX3_turn_11 : decode cX3_turn 11 = .ok (.getfield 10, 3) := by decide +kernel
theorem dX3_turn_14 : decode cX3_turn 14 = .ok (.getfield 84, 3) := by decide +kernel
theorem dX3_turn_17 : decode cX3_turn 17 = .ok (.goto 5, 3) := by decide +kernel
theorem dX3_turn_20 : decode cX3_turn 20 = .ok (.bipush (-6), 2) := by decide +kernel
theorem dX3_turn_22 : decode cX3_turn 22 = .ok (.ireturn, 1) := by decide +kernel
theorem dX3_on_0 : decode cX3_on 0 = .ok (.aload_n 0, 1) := by decide +kernel
theorem dX3_on_1 : decode cX3_on 1 = .ok (.getfield 10, 3) := by decide +kernel
theorem dX3_on_4 : decode cX3_on 4 = .ok (.iload_n 1, 1) := by decide +kernel
theorem dX3_on_5 : decode cX3_on 5 = .ok (.invokevirtual 88, 3) := by decide +kernel
theorem dX3_on_8 : decode cX3_on 8 = .ok (.ifCond .eq 14, 3) := by decide +kernel
theorem dX3_on_11 : decode cX3_on 11 = .ok (.aload_n 0, 1) := by decide +kernel
theorem dX3_on_12 : decode cX3_on 12 = .ok (.getfield 10, 3) := by decide +kernel
theorem dX3_on_15 : decode cX3_on 15 = .ok (.iload_n 1, 1) := by decide +kernel
theorem dX3_on_16 : decode cX3_on 16 = .ok (.invokevirtual 92, 3) := by decide +kernel
theorem dX3_on_19 : decode cX3_on 19 = .ok (.goto 4, 3) := by decide +kernel
theorem dX3_on_22 : decode cX3_on 22 = .ok (.iconst (-1), 1) := by decide +kernel
theorem dX3_on_23 : decode cX3_on 23 = .ok (.ireturn, 1) := by decide +kernel
theorem dX3_step_0 : decode cX3_step 0 = .ok (.aload_n 0, 1) := by decide +kernel
theorem dX3_step_1 : decode cX3_step 1 = .ok (.getfield 10, 3) := by decide +kernel
theorem dX3_step_4 : decode cX3_step 4 = .ok (.iload_n 1, 1) := by decide +kernel
theorem dX3_step_5 : decode cX3_step 5 = .ok (.iload_n 2, 1) := by decide +kernel
theorem dX3_step_6 : decode cX3_step 6 = .ok (.invokevirtual 95, 3) := by decide +kernel
theorem dX3_step_9 : decode cX3_step 9 = .ok (.ireturn, 1) := by decide +kernel
theorem dX3_total_0 : decode cX3_total 0 = .ok (.aload_n 0, 1) := by decide +kernel
theorem dX3_total_1 : decode cX3_total 1 = .ok (.getfield 10, 3) := by decide +kernel
theorem dX3_total_4 : decode cX3_total 4 = .ok (.iload_n 1, 1) := by decide +kernel
theorem dX3_total_5 : decode cX3_total 5 = .ok (.invokevirtual 98, 3) := by decide +kernel
theorem dX3_total_8 : decode cX3_total 8 = .ok (.ireturn, 1) := by decide +kernel
theorem dX3_rank_0 : decode cX3_rank 0 = .ok (.iload_n 1, 1) := by decide +kernel
theorem dX3_rank_1 : decode cX3_rank 1 = .ok (.ifCond .ge 8, 3) := by decide +kernel
theorem dX3_rank_4 : decode cX3_rank 4 = .ok (.bipush (-2), 2) := by decide +kernel
theorem dX3_rank_6 : decode cX3_rank 6 = .ok (.goto 11, 3) := by decide +kernel
theorem dX3_rank_9 : decode cX3_rank 9 = .ok (.aload_n 0, 1) := by decide +kernel
theorem dX3_rank_10 : decode cX3_rank 10 = .ok (.getfield 10, 3) := by decide +kernel
theorem dX3_rank_13 : decode cX3_rank 13 = .ok (.iload_n 1, 1) := by decide +kernel
theorem dX3_rank_14 : decode cX3_rank 14 = .ok (.invokevirtual 101, 3) := by decide +kernel
theorem dX3_rank_17 : decode cX3_rank 17 = .ok (.ireturn, 1) := by decide +kernel
theorem dX3_ifRolled_0 : decode cX3_ifRolled 0 = .ok (.iload_n 1, 1) := by decide +kernel
theorem dX3_ifRolled_1 : decode cX3_ifRolled 1 = .ok (.invokestatic 104, 3) := by decide +kernel
theorem dX3_ifRolled_4 : decode cX3_ifRolled 4 = .ok (.ifCond .eq 12, 3) := by decide +kernel
theorem dX3_ifRolled_7 : decode cX3_ifRolled 7 = .ok (.iload_n 2, 1) := by decide +kernel
theorem dX3_ifRolled_8 : decode cX3_ifRolled 8 = .ok (.ifCond .lt 8, 3) := by decide +kernel
theorem dX3_ifRolled_11 : decode cX3_ifRolled 11 = .ok (.iload_n 2, 1) := by decide +kernel
theorem dX3_ifRolled_12 : decode cX3_ifRolled 12 = .ok (.iconst 4, 1) := by decide +kernel
theorem dX3_ifRolled_13 : decode cX3_ifRolled 13 = .ok (.if_icmp .le 6, 3) := by decide +kernel
theorem dX3_ifRolled_16 : decode cX3_ifRolled 16 = .ok (.bipush (-2), 2) := by decide +kernel
theorem dX3_ifRolled_18 : decode cX3_ifRolled 18 = .ok (.ireturn, 1) := by decide +kernel
theorem dX3_ifRolled_19 : decode cX3_ifRolled 19 = .ok (.aload_n 0, 1) := by decide +kernel
theorem dX3_ifRolled_20 : decode cX3_ifRolled 20 = .ok (.getfield 10, 3) := by decide +kernel
theorem dX3_ifRolled_23 : decode cX3_ifRolled 23 = .ok (.invokevirtual 80, 3) := by decide +kernel
theorem dX3_ifRolled_26 : decode cX3_ifRolled 26 = .ok (.ifCond .ne 6, 3) := by decide +kernel
theorem dX3_ifRolled_29 : decode cX3_ifRolled 29 = .ok (.bipush (-3), 2) := by decide +kernel
theorem dX3_ifRolled_31 : decode cX3_ifRolled 31 = .ok (.ireturn, 1) := by decide +kernel
theorem dX3_ifRolled_32 : decode cX3_ifRolled 32 = .ok (.aload_n 0, 1) := by decide +kernel
theorem dX3_ifRolled_33 : decode cX3_ifRolled 33 = .ok (.iload_n 1, 1) := by decide +kernel
theorem dX3_ifRolled_34 : decode cX3_ifRolled 34 = .ok (.invokevirtual 107, 3) := by decide +kernel
theorem dX3_ifRolled_37 : decode cX3_ifRolled 37 = .ok (.istore_n 3, 1) := by decide +kernel
theorem dX3_ifRolled_38 : decode cX3_ifRolled 38 = .ok (.iload_n 2, 1) := by decide +kernel
theorem dX3_ifRolled_39 : decode cX3_ifRolled 39 = .ok (.tableswitch 79 0 3 #[29, 31, 47, 63], 29) := by decide +kernel
theorem dX3_ifRolled_68 : decode cX3_ifRolled 68 = .ok (.iload_n 3, 1) := by decide +kernel
theorem dX3_ifRolled_69 : decode cX3_ifRolled 69 = .ok (.ireturn, 1) := by decide +kernel
theorem dX3_ifRolled_70 : decode cX3_ifRolled 70 = .ok (.aload_n 0, 1) := by decide +kernel
theorem dX3_ifRolled_71 : decode cX3_ifRolled 71 = .ok (.getfield 19, 3) := by decide +kernel
theorem dX3_ifRolled_74 : decode cX3_ifRolled 74 = .ok (.invokevirtual 110, 3) := by decide +kernel
theorem dX3_ifRolled_77 : decode cX3_ifRolled 77 = .ok (.aload_n 0, 1) := by decide +kernel
theorem dX3_ifRolled_78 : decode cX3_ifRolled 78 = .ok (.getfield 10, 3) := by decide +kernel
theorem dX3_ifRolled_81 : decode cX3_ifRolled 81 = .ok (.invokevirtual 110, 3) := by decide +kernel
theorem dX3_ifRolled_84 : decode cX3_ifRolled 84 = .ok (.isub, 1) := by decide +kernel
theorem dX3_ifRolled_85 : decode cX3_ifRolled 85 = .ok (.ireturn, 1) := by decide +kernel
theorem dX3_ifRolled_86 : decode cX3_ifRolled 86 = .ok (.aload_n 0, 1) := by decide +kernel
theorem dX3_ifRolled_87 : decode cX3_ifRolled 87 = .ok (.getfield 19, 3) := by decide +kernel
theorem dX3_ifRolled_90 : decode cX3_ifRolled 90 = .ok (.invokevirtual 113, 3) := by decide +kernel
theorem dX3_ifRolled_93 : decode cX3_ifRolled 93 = .ok (.aload_n 0, 1) := by decide +kernel
theorem dX3_ifRolled_94 : decode cX3_ifRolled 94 = .ok (.getfield 10, 3) := by decide +kernel
theorem dX3_ifRolled_97 : decode cX3_ifRolled 97 = .ok (.invokevirtual 113, 3) := by decide +kernel
theorem dX3_ifRolled_100 : decode cX3_ifRolled 100 = .ok (.isub, 1) := by decide +kernel
theorem dX3_ifRolled_101 : decode cX3_ifRolled 101 = .ok (.ireturn, 1) := by decide +kernel
theorem dX3_ifRolled_102 : decode cX3_ifRolled 102 = .ok (.aload_n 0, 1) := by decide +kernel
theorem dX3_ifRolled_103 : decode cX3_ifRolled 103 = .ok (.getfield 19, 3) := by decide +kernel
theorem dX3_ifRolled_106 : decode cX3_ifRolled 106 = .ok (.invokevirtual 116, 3) := by decide +kernel
theorem dX3_ifRolled_109 : decode cX3_ifRolled 109 = .ok (.aload_n 0, 1) := by decide +kernel
theorem dX3_ifRolled_110 : decode cX3_ifRolled 110 = .ok (.getfield 10, 3) := by decide +kernel
theorem dX3_ifRolled_113 : decode cX3_ifRolled 113 = .ok (.invokevirtual 116, 3) := by decide +kernel
theorem dX3_ifRolled_116 : decode cX3_ifRolled 116 = .ok (.isub, 1) := by decide +kernel
theorem dX3_ifRolled_117 : decode cX3_ifRolled 117 = .ok (.ireturn, 1) := by decide +kernel
theorem dX3_ifRolled_118 : decode cX3_ifRolled 118 = .ok (.aload_n 0, 1) := by decide +kernel
theorem dX3_ifRolled_119 : decode cX3_ifRolled 119 = .ok (.getfield 19, 3) := by decide +kernel
theorem dX3_ifRolled_122 : decode cX3_ifRolled 122 = .ok (.getfield 84, 3) := by decide +kernel
theorem dX3_ifRolled_125 : decode cX3_ifRolled 125 = .ok (.ireturn, 1) := by decide +kernel
theorem dX3_bestRoll_0 : decode cX3_bestRoll 0 = .ok (.aload_n 0, 1) := by decide +kernel
theorem dX3_bestRoll_1 : decode cX3_bestRoll 1 = .ok (.getfield 10, 3) := by decide +kernel
theorem dX3_bestRoll_4 : decode cX3_bestRoll 4 = .ok (.invokevirtual 80, 3) := by decide +kernel
theorem dX3_bestRoll_7 : decode cX3_bestRoll 7 = .ok (.ifCond .ne 6, 3) := by decide +kernel
theorem dX3_bestRoll_10 : decode cX3_bestRoll 10 = .ok (.bipush (-6), 2) := by decide +kernel
theorem dX3_bestRoll_12 : decode cX3_bestRoll 12 = .ok (.ireturn, 1) := by decide +kernel
theorem dX3_bestRoll_13 : decode cX3_bestRoll 13 = .ok (.iconst 1, 1) := by decide +kernel
theorem dX3_bestRoll_14 : decode cX3_bestRoll 14 = .ok (.istore_n 1, 1) := by decide +kernel
theorem dX3_bestRoll_15 : decode cX3_bestRoll 15 = .ok (.aload_n 0, 1) := by decide +kernel
theorem dX3_bestRoll_16 : decode cX3_bestRoll 16 = .ok (.iconst 1, 1) := by decide +kernel
theorem dX3_bestRoll_17 : decode cX3_bestRoll 17 = .ok (.invokevirtual 119, 3) := by decide +kernel
theorem dX3_bestRoll_20 : decode cX3_bestRoll 20 = .ok (.istore_n 2, 1) := by decide +kernel
theorem dX3_bestRoll_21 : decode cX3_bestRoll 21 = .ok (.iconst 2, 1) := by decide +kernel
theorem dX3_bestRoll_22 : decode cX3_bestRoll 22 = .ok (.istore_n 3, 1) := by decide +kernel
theorem dX3_bestRoll_23 : decode cX3_bestRoll 23 = .ok (.iload_n 3, 1) := by decide +kernel
theorem dX3_bestRoll_24 : decode cX3_bestRoll 24 = .ok (.bipush 6, 2) := by decide +kernel
theorem dX3_bestRoll_26 : decode cX3_bestRoll 26 = .ok (.if_icmp .gt 27, 3) := by decide +kernel
theorem dX3_bestRoll_29 : decode cX3_bestRoll 29 = .ok (.aload_n 0, 1) := by decide +kernel
theorem dX3_bestRoll_30 : decode cX3_bestRoll 30 = .ok (.iload_n 3, 1) := by decide +kernel
theorem dX3_bestRoll_31 : decode cX3_bestRoll 31 = .ok (.invokevirtual 119, 3) := by decide +kernel
theorem dX3_bestRoll_34 : decode cX3_bestRoll 34 = .ok (.istore 4, 2) := by decide +kernel
theorem dX3_bestRoll_36 : decode cX3_bestRoll 36 = .ok (.iload 4, 2) := by decide +kernel
theorem dX3_bestRoll_38 : decode cX3_bestRoll 38 = .ok (.iload_n 2, 1) := by decide +kernel
theorem dX3_bestRoll_39 : decode cX3_bestRoll 39 = .ok (.if_icmp .le 8, 3) := by decide +kernel
theorem dX3_bestRoll_42 : decode cX3_bestRoll 42 = .ok (.iload_n 3, 1) := by decide +kernel
theorem dX3_bestRoll_43 : decode cX3_bestRoll 43 = .ok (.istore_n 1, 1) := by decide +kernel
theorem dX3_bestRoll_44 : decode cX3_bestRoll 44 = .ok (.iload 4, 2) := by decide +kernel
theorem dX3_bestRoll_46 : decode cX3_bestRoll 46 = .ok (.istore_n 2, 1) := by decide +kernel
theorem dX3_bestRoll_47 : decode cX3_bestRoll 47 = .ok (.iinc 3 1, 3) := by decide +kernel
theorem dX3_bestRoll_50 : decode cX3_bestRoll 50 = .ok (.goto (-27), 3) := by decide +kernel
theorem dX3_bestRoll_53 : decode cX3_bestRoll 53 = .ok (.iload_n 1, 1) := by decide +kernel
theorem dX3_bestRoll_54 : decode cX3_bestRoll 54 = .ok (.ireturn, 1) := by decide +kernel
theorem dX3_quietRolls_0 : decode cX3_quietRolls 0 = .ok (.aload_n 0, 1) := by decide +kernel
theorem dX3_quietRolls_1 : decode cX3_quietRolls 1 = .ok (.getfield 10, 3) := by decide +kernel
theorem dX3_quietRolls_4 : decode cX3_quietRolls 4 = .ok (.invokevirtual 80, 3) := by decide +kernel
theorem dX3_quietRolls_7 : decode cX3_quietRolls 7 = .ok (.ifCond .ne 6, 3) := by decide +kernel
theorem dX3_quietRolls_10 : decode cX3_quietRolls 10 = .ok (.bipush (-6), 2) := by decide +kernel
theorem dX3_quietRolls_12 : decode cX3_quietRolls 12 = .ok (.ireturn, 1) := by decide +kernel
theorem dX3_quietRolls_13 : decode cX3_quietRolls 13 = .ok (.iconst 0, 1) := by decide +kernel
theorem dX3_quietRolls_14 : decode cX3_quietRolls 14 = .ok (.istore_n 1, 1) := by decide +kernel
theorem dX3_quietRolls_15 : decode cX3_quietRolls 15 = .ok (.iconst 1, 1) := by decide +kernel
theorem dX3_quietRolls_16 : decode cX3_quietRolls 16 = .ok (.istore_n 2, 1) := by decide +kernel
theorem dX3_quietRolls_17 : decode cX3_quietRolls 17 = .ok (.iload_n 2, 1) := by decide +kernel
theorem dX3_quietRolls_18 : decode cX3_quietRolls 18 = .ok (.bipush 6, 2) := by decide +kernel
theorem dX3_quietRolls_20 : decode cX3_quietRolls 20 = .ok (.if_icmp .gt 26, 3) := by decide +kernel
theorem dX3_quietRolls_23 : decode cX3_quietRolls 23 = .ok (.aload_n 0, 1) := by decide +kernel
theorem dX3_quietRolls_24 : decode cX3_quietRolls 24 = .ok (.getfield 10, 3) := by decide +kernel
theorem dX3_quietRolls_27 : decode cX3_quietRolls 27 = .ok (.iload_n 2, 1) := by decide +kernel
theorem dX3_quietRolls_28 : decode cX3_quietRolls 28 = .ok (.invokevirtual 122, 3) := by decide +kernel
theorem dX3_quietRolls_31 : decode cX3_quietRolls 31 = .ok (.ifCond .ne 9, 3) := by decide +kernel
theorem dX3_quietRolls_34 : decode cX3_quietRolls 34 = .ok (.iload_n 1, 1) := by decide +kernel
theorem dX3_quietRolls_35 : decode cX3_quietRolls 35 = .ok (.iconst 1, 1) := by decide +kernel
theorem dX3_quietRolls_36 : decode cX3_quietRolls 36 = .ok (.iload_n 2, 1) := by decide +kernel
theorem dX3_quietRolls_37 : decode cX3_quietRolls 37 = .ok (.ishl, 1) := by decide +kernel
theorem dX3_quietRolls_38 : decode cX3_quietRolls 38 = .ok (.ior, 1) := by decide +kernel
theorem dX3_quietRolls_39 : decode cX3_quietRolls 39 = .ok (.istore_n 1, 1) := by decide +kernel
theorem dX3_quietRolls_40 : decode cX3_quietRolls 40 = .ok (.iinc 2 1, 3) := by decide +kernel
theorem dX3_quietRolls_43 : decode cX3_quietRolls 43 = .ok (.goto (-26), 3) := by decide +kernel
theorem dX3_quietRolls_46 : decode cX3_quietRolls 46 = .ok (.iload_n 1, 1) := by decide +kernel
theorem dX3_quietRolls_47 : decode cX3_quietRolls 47 = .ok (.ireturn, 1) := by decide +kernel
theorem dX3_rollsToTop_0 : decode cX3_rollsToTop 0 = .ok (.aload_n 0, 1) := by decide +kernel
theorem dX3_rollsToTop_1 : decode cX3_rollsToTop 1 = .ok (.getfield 10, 3) := by decide +kernel
theorem dX3_rollsToTop_4 : decode cX3_rollsToTop 4 = .ok (.iload_n 1, 1) := by decide +kernel
theorem dX3_rollsToTop_5 : decode cX3_rollsToTop 5 = .ok (.invokevirtual 125, 3) := by decide +kernel
theorem dX3_rollsToTop_8 : decode cX3_rollsToTop 8 = .ok (.ifCond .eq 14, 3) := by decide +kernel
theorem dX3_rollsToTop_11 : decode cX3_rollsToTop 11 = .ok (.aload_n 0, 1) := by decide +kernel
theorem dX3_rollsToTop_12 : decode cX3_rollsToTop 12 = .ok (.getfield 10, 3) := by decide +kernel
theorem dX3_rollsToTop_15 : decode cX3_rollsToTop 15 = .ok (.iload_n 1, 1) := by decide +kernel
theorem dX3_rollsToTop_16 : decode cX3_rollsToTop 16 = .ok (.invokevirtual 128, 3) := by decide +kernel
theorem dX3_rollsToTop_19 : decode cX3_rollsToTop 19 = .ok (.goto 4, 3) := by decide +kernel
theorem dX3_rollsToTop_22 : decode cX3_rollsToTop 22 = .ok (.iconst (-1), 1) := by decide +kernel
theorem dX3_rollsToTop_23 : decode cX3_rollsToTop 23 = .ok (.ireturn, 1) := by decide +kernel
theorem dX3_append_0 : decode cX3_append 0 = .ok (.aload_n 0, 1) := by decide +kernel
theorem dX3_append_1 : decode cX3_append 1 = .ok (.getfield 35, 3) := by decide +kernel
theorem dX3_append_4 : decode cX3_append 4 = .ok (.iload_n 1, 1) := by decide +kernel
theorem dX3_append_5 : decode cX3_append 5 = .ok (.invokevirtual 131, 3) := by decide +kernel
theorem dX3_append_8 : decode cX3_append 8 = .ok (.ireturn, 1) := by decide +kernel
theorem dX3_clearText_0 : decode cX3_clearText 0 = .ok (.aload_n 0, 1) := by decide +kernel
theorem dX3_clearText_1 : decode cX3_clearText 1 = .ok (.getfield 35, 3) := by decide +kernel
theorem dX3_clearText_4 : decode cX3_clearText 4 = .ok (.invokevirtual 134, 3) := by decide +kernel
theorem dX3_clearText_7 : decode cX3_clearText 7 = .ok (.ireturn, 1) := by decide +kernel
theorem dX3_errorPosition_0 : decode cX3_errorPosition 0 = .ok (.aload_n 0, 1) := by decide +kernel
theorem dX3_errorPosition_1 : decode cX3_errorPosition 1 = .ok (.getfield 35, 3) := by decide +kernel
theorem dX3_errorPosition_4 : decode cX3_errorPosition 4 = .ok (.invokevirtual 137, 3) := by decide +kernel
theorem dX3_errorPosition_7 : decode cX3_errorPosition 7 = .ok (.ireturn, 1) := by decide +kernel
theorem dX3_play_0 : decode cX3_play 0 = .ok (.aload_n 0, 1) := by decide +kernel
theorem dX3_play_1 : decode cX3_play 1 = .ok (.getfield 35, 3) := by decide +kernel
theorem dX3_play_4 : decode cX3_play 4 = .ok (.invokevirtual 137, 3) := by decide +kernel
theorem dX3_play_7 : decode cX3_play 7 = .ok (.bipush (-6), 2) := by decide +kernel
theorem dX3_play_9 : decode cX3_play 9 = .ok (.if_icmp .eq 6, 3) := by decide +kernel
theorem dX3_play_12 : decode cX3_play 12 = .ok (.bipush (-5), 2) := by decide +kernel
theorem dX3_play_14 : decode cX3_play 14 = .ok (.ireturn, 1) := by decide +kernel
theorem dX3_play_15 : decode cX3_play 15 = .ok (.aload_n 0, 1) := by decide +kernel
theorem dX3_play_16 : decode cX3_play 16 = .ok (.getfield 16, 3) := by decide +kernel
theorem dX3_play_19 : decode cX3_play 19 = .ok (.aload_n 0, 1) := by decide +kernel
theorem dX3_play_20 : decode cX3_play 20 = .ok (.getfield 10, 3) := by decide +kernel
theorem dX3_play_23 : decode cX3_play 23 = .ok (.invokevirtual 43, 3) := by decide +kernel
theorem dX3_play_26 : decode cX3_play 26 = .ok (.aload_n 0, 1) := by decide +kernel
theorem dX3_play_27 : decode cX3_play 27 = .ok (.invokevirtual 140, 3) := by decide +kernel
theorem dX3_play_30 : decode cX3_play 30 = .ok (.istore_n 1, 1) := by decide +kernel
theorem dX3_play_31 : decode cX3_play 31 = .ok (.aload_n 0, 1) := by decide +kernel
theorem dX3_play_32 : decode cX3_play 32 = .ok (.getfield 35, 3) := by decide +kernel
theorem dX3_play_35 : decode cX3_play 35 = .ok (.invokevirtual 134, 3) := by decide +kernel
theorem dX3_play_38 : decode cX3_play 38 = .ok (.pop, 1) := by decide +kernel
theorem dX3_play_39 : decode cX3_play 39 = .ok (.aload_n 0, 1) := by decide +kernel
theorem dX3_play_40 : decode cX3_play 40 = .ok (.iload_n 1, 1) := by decide +kernel
theorem dX3_play_41 : decode cX3_play 41 = .ok (.invokevirtual 51, 3) := by decide +kernel
theorem dX3_play_44 : decode cX3_play 44 = .ok (.ireturn, 1) := by decide +kernel
theorem dX3_undo_0 : decode cX3_undo 0 = .ok (.aload_n 0, 1) := by decide +kernel
theorem dX3_undo_1 : decode cX3_undo 1 = .ok (.getfield 28, 3) := by decide +kernel
theorem dX3_undo_4 : decode cX3_undo 4 = .ok (.invokevirtual 143, 3) := by decide +kernel
theorem dX3_undo_7 : decode cX3_undo 7 = .ok (.ifCond .eq 8, 3) := by decide +kernel
theorem dX3_undo_10 : decode cX3_undo 10 = .ok (.bipush (-3), 2) := by decide +kernel
theorem dX3_undo_12 : decode cX3_undo 12 = .ok (.goto 14, 3) := by decide +kernel
theorem dX3_undo_15 : decode cX3_undo 15 = .ok (.aload_n 0, 1) := by decide +kernel
theorem dX3_undo_16 : decode cX3_undo 16 = .ok (.getfield 28, 3) := by decide +kernel
theorem dX3_undo_19 : decode cX3_undo 19 = .ok (.aload_n 0, 1) := by decide +kernel
theorem dX3_undo_20 : decode cX3_undo 20 = .ok (.getfield 10, 3) := by decide +kernel
theorem dX3_undo_23 : decode cX3_undo 23 = .ok (.invokevirtual 146, 3) := by decide +kernel
theorem dX3_undo_26 : decode cX3_undo 26 = .ok (.ireturn, 1) := by decide +kernel
theorem dX3_save_0 : decode cX3_save 0 = .ok (.aload_n 0, 1) := by decide +kernel
theorem dX3_save_1 : decode cX3_save 1 = .ok (.getfield 22, 3) := by decide +kernel
theorem dX3_save_4 : decode cX3_save 4 = .ok (.aload_n 0, 1) := by decide +kernel
theorem dX3_save_5 : decode cX3_save 5 = .ok (.getfield 10, 3) := by decide +kernel
theorem dX3_save_8 : decode cX3_save 8 = .ok (.invokevirtual 43, 3) := by decide +kernel
theorem dX3_save_11 : decode cX3_save 11 = .ok (.aload_n 0, 1) := by decide +kernel
theorem dX3_save_12 : decode cX3_save 12 = .ok (.iconst 1, 1) := by decide +kernel
theorem dX3_save_13 : decode cX3_save 13 = .ok (.putfield 39, 3) := by decide +kernel
theorem dX3_save_16 : decode cX3_save 16 = .ok (.aload_n 0, 1) := by decide +kernel
theorem dX3_save_17 : decode cX3_save 17 = .ok (.getfield 10, 3) := by decide +kernel
theorem dX3_save_20 : decode cX3_save 20 = .ok (.getfield 150, 3) := by decide +kernel
theorem dX3_save_23 : decode cX3_save 23 = .ok (.ireturn, 1) := by decide +kernel
theorem dX3_restore_0 : decode cX3_restore 0 = .ok (.aload_n 0, 1) := by decide +kernel
theorem dX3_restore_1 : decode cX3_restore 1 = .ok (.getfield 39, 3) := by decide +kernel
theorem dX3_restore_4 : decode cX3_restore 4 = .ok (.ifCond .ne 6, 3) := by decide +kernel
theorem dX3_restore_7 : decode cX3_restore 7 = .ok (.bipush (-3), 2) := by decide +kernel
theorem dX3_restore_9 : decode cX3_restore 9 = .ok (.ireturn, 1) := by decide +kernel
theorem dX3_restore_10 : decode cX3_restore 10 = .ok (.aload_n 0, 1) := by decide +kernel
theorem dX3_restore_11 : decode cX3_restore 11 = .ok (.getfield 16, 3) := by decide +kernel
theorem dX3_restore_14 : decode cX3_restore 14 = .ok (.aload_n 0, 1) := by decide +kernel
theorem dX3_restore_15 : decode cX3_restore 15 = .ok (.getfield 10, 3) := by decide +kernel
theorem dX3_restore_18 : decode cX3_restore 18 = .ok (.invokevirtual 43, 3) := by decide +kernel
theorem dX3_restore_21 : decode cX3_restore 21 = .ok (.aload_n 0, 1) := by decide +kernel
theorem dX3_restore_22 : decode cX3_restore 22 = .ok (.getfield 10, 3) := by decide +kernel
theorem dX3_restore_25 : decode cX3_restore 25 = .ok (.aload_n 0, 1) := by decide +kernel
theorem dX3_restore_26 : decode cX3_restore 26 = .ok (.getfield 22, 3) := by decide +kernel
theorem dX3_restore_29 : decode cX3_restore 29 = .ok (.invokevirtual 43, 3) := by decide +kernel
theorem dX3_restore_32 : decode cX3_restore 32 = .ok (.aload_n 0, 1) := by decide +kernel
theorem dX3_restore_33 : decode cX3_restore 33 = .ok (.aload_n 0, 1) := by decide +kernel
theorem dX3_restore_34 : decode cX3_restore 34 = .ok (.getfield 10, 3) := by decide +kernel
theorem dX3_restore_37 : decode cX3_restore 37 = .ok (.getfield 150, 3) := by decide +kernel
theorem dX3_restore_40 : decode cX3_restore 40 = .ok (.invokevirtual 51, 3) := by decide +kernel
theorem dX3_restore_43 : decode cX3_restore 43 = .ok (.ireturn, 1) := by decide +kernel
theorem dX3_recordUnlessError_0 : decode cX3_recordUnlessError 0 = .ok (.iload_n 1, 1) := by decide +kernel
theorem dX3_recordUnlessError_1 : decode cX3_recordUnlessError 1 = .ok (.ifCond .lt 14, 3) := by decide +kernel
theorem dX3_recordUnlessError_4 : decode cX3_recordUnlessError 4 = .ok (.aload_n 0, 1) := by decide +kernel
theorem dX3_recordUnlessError_5 : decode cX3_recordUnlessError 5 = .ok (.getfield 28, 3) := by decide +kernel
theorem dX3_recordUnlessError_8 : decode cX3_recordUnlessError 8 = .ok (.aload_n 0, 1) := by decide +kernel
theorem dX3_recordUnlessError_9 : decode cX3_recordUnlessError 9 = .ok (.getfield 16, 3) := by decide +kernel
theorem dX3_recordUnlessError_12 : decode cX3_recordUnlessError 12 = .ok (.invokevirtual 153, 3) := by decide +kernel
theorem dX3_recordUnlessError_15 : decode cX3_recordUnlessError 15 = .ok (.iload_n 1, 1) := by decide +kernel
theorem dX3_recordUnlessError_16 : decode cX3_recordUnlessError 16 = .ok (.ireturn, 1) := by decide +kernel
theorem dX3_rollInTrial_0 : decode cX3_rollInTrial 0 = .ok (.aload_n 0, 1) := by decide +kernel
theorem dX3_rollInTrial_1 : decode cX3_rollInTrial 1 = .ok (.getfield 19, 3) := by decide +kernel
theorem dX3_rollInTrial_4 : decode cX3_rollInTrial 4 = .ok (.aload_n 0, 1) := by decide +kernel
theorem dX3_rollInTrial_5 : decode cX3_rollInTrial 5 = .ok (.getfield 10, 3) := by decide +kernel
theorem dX3_rollInTrial_8 : decode cX3_rollInTrial 8 = .ok (.invokevirtual 43, 3) := by decide +kernel
theorem dX3_rollInTrial_11 : decode cX3_rollInTrial 11 = .ok (.aload_n 0, 1) := by decide +kernel
theorem dX3_rollInTrial_12 : decode cX3_rollInTrial 12 = .ok (.getfield 19, 3) := by decide +kernel
theorem dX3_rollInTrial_15 : decode cX3_rollInTrial 15 = .ok (.iload_n 1, 1) := by decide +kernel
theorem dX3_rollInTrial_16 : decode cX3_rollInTrial 16 = .ok (.invokevirtual 71, 3) := by decide +kernel
theorem dX3_rollInTrial_19 : decode cX3_rollInTrial 19 = .ok (.ireturn, 1) := by decide +kernel
theorem dX3_gainOfRoll_0 : decode cX3_gainOfRoll 0 = .ok (.aload_n 0, 1) := by decide +kernel
theorem dX3_gainOfRoll_1 : decode cX3_gainOfRoll 1 = .ok (.iload_n 1, 1) := by decide +kernel
theorem dX3_gainOfRoll_2 : decode cX3_gainOfRoll 2 = .ok (.invokevirtual 107, 3) := by decide +kernel
theorem dX3_gainOfRoll_5 : decode cX3_gainOfRoll 5 = .ok (.pop, 1) := by decide +kernel
theorem dX3_gainOfRoll_6 : decode cX3_gainOfRoll 6 = .ok (.iconst 0, 1) := by decide +kernel
theorem dX3_gainOfRoll_7 : decode cX3_gainOfRoll 7 = .ok (.istore_n 2, 1) := by decide +kernel
theorem dX3_gainOfRoll_8 : decode cX3_gainOfRoll 8 = .ok (.iconst 0, 1) := by decide +kernel
theorem dX3_gainOfRoll_9 : decode cX3_gainOfRoll 9 = .ok (.istore_n 3, 1) := by decide +kernel
theorem dX3_gainOfRoll_10 : decode cX3_gainOfRoll 10 = .ok (.iload_n 3, 1) := by decide +kernel
theorem dX3_gainOfRoll_11 : decode cX3_gainOfRoll 11 = .ok (.aload_n 0, 1) := by decide +kernel
theorem dX3_gainOfRoll_12 : decode cX3_gainOfRoll 12 = .ok (.getfield 10, 3) := by decide +kernel
theorem dX3_gainOfRoll_15 : decode cX3_gainOfRoll 15 = .ok (.getfield 150, 3) := by decide +kernel
theorem dX3_gainOfRoll_18 : decode cX3_gainOfRoll 18 = .ok (.if_icmp .ge 50, 3) := by decide +kernel
theorem dX3_gainOfRoll_21 : decode cX3_gainOfRoll 21 = .ok (.aload_n 0, 1) := by decide +kernel
theorem dX3_gainOfRoll_22 : decode cX3_gainOfRoll 22 = .ok (.getfield 19, 3) := by decide +kernel
theorem dX3_gainOfRoll_25 : decode cX3_gainOfRoll 25 = .ok (.iload_n 3, 1) := by decide +kernel
theorem dX3_gainOfRoll_26 : decode cX3_gainOfRoll 26 = .ok (.invokevirtual 156, 3) := by decide +kernel
theorem dX3_gainOfRoll_29 : decode cX3_gainOfRoll 29 = .ok (.aload_n 0, 1) := by decide +kernel
theorem dX3_gainOfRoll_30 : decode cX3_gainOfRoll 30 = .ok (.getfield 10, 3) := by decide +kernel
theorem dX3_gainOfRoll_33 : decode cX3_gainOfRoll 33 = .ok (.iload_n 3, 1) := by decide +kernel
theorem dX3_gainOfRoll_34 : decode cX3_gainOfRoll 34 = .ok (.invokevirtual 156, 3) := by decide +kernel
theorem dX3_gainOfRoll_37 : decode cX3_gainOfRoll 37 = .ok (.isub, 1) := by decide +kernel
theorem dX3_gainOfRoll_38 : decode cX3_gainOfRoll 38 = .ok (.istore 4, 2) := by decide +kernel
theorem dX3_gainOfRoll_40 : decode cX3_gainOfRoll 40 = .ok (.iload_n 2, 1) := by decide +kernel
theorem dX3_gainOfRoll_41 : decode cX3_gainOfRoll 41 = .ok (.iload_n 3, 1) := by decide +kernel
theorem dX3_gainOfRoll_42 : decode cX3_gainOfRoll 42 = .ok (.aload_n 0, 1) := by decide +kernel
theorem dX3_gainOfRoll_43 : decode cX3_gainOfRoll 43 = .ok (.getfield 10, 3) := by decide +kernel
theorem dX3_gainOfRoll_46 : decode cX3_gainOfRoll 46 = .ok (.getfield 84, 3) := by decide +kernel
theorem dX3_gainOfRoll_49 : decode cX3_gainOfRoll 49 = .ok (.if_icmp .ne 8, 3) := by decide +kernel
theorem dX3_gainOfRoll_52 : decode cX3_gainOfRoll 52 = .ok (.iload 4, 2) := by decide +kernel
theorem dX3_gainOfRoll_54 : decode cX3_gainOfRoll 54 = .ok (.goto 6, 3) := by decide +kernel
theorem dX3_gainOfRoll_57 : decode cX3_gainOfRoll 57 = .ok (.iload 4, 2) := by decide +kernel
theorem dX3_gainOfRoll_59 : decode cX3_gainOfRoll 59 = .ok (.ineg, 1) := by decide +kernel
theorem dX3_gainOfRoll_60 : decode cX3_gainOfRoll 60 = .ok (.iadd, 1) := by decide +kernel
theorem dX3_gainOfRoll_61 : decode cX3_gainOfRoll 61 = .ok (.istore_n 2, 1) := by decide +kernel
theorem dX3_gainOfRoll_62 : decode cX3_gainOfRoll 62 = .ok (.iinc 3 1, 3) := by decide +kernel
theorem dX3_gainOfRoll_65 : decode cX3_gainOfRoll 65 = .ok (.goto (-55), 3) := by decide +kernel
theorem dX3_gainOfRoll_68 : decode cX3_gainOfRoll 68 = .ok (.iload_n 2, 1) := by decide +kernel
theorem dX3_gainOfRoll_69 : decode cX3_gainOfRoll 69 = .ok (.ireturn, 1) := by decide +kernel
theorem dX3_makeMovesOfText_0 : decode cX3_makeMovesOfText 0 = .ok (.iconst 0, 1) := by decide +kernel
theorem dX3_makeMovesOfText_1 : decode cX3_makeMovesOfText 1 = .ok (.istore_n 1, 1) := by decide +kernel
theorem dX3_makeMovesOfText_2 : decode cX3_makeMovesOfText 2 = .ok (.iconst 0, 1) := by decide +kernel
theorem dX3_makeMovesOfText_3 : decode cX3_makeMovesOfText 3 = .ok (.istore_n 2, 1) := by decide +kernel
theorem dX3_makeMovesOfText_4 : decode cX3_makeMovesOfText 4 = .ok (.iload_n 2, 1) := by decide +kernel
theorem dX3_makeMovesOfText_5 : decode cX3_makeMovesOfText 5 = .ok (.aload_n 0, 1) := by decide +kernel
theorem dX3_makeMovesOfText_6 : decode cX3_makeMovesOfText 6 = .ok (.getfield 35, 3) := by decide +kernel
theorem dX3_makeMovesOfText_9 : decode cX3_makeMovesOfText 9 = .ok (.getfield 159, 3) := by decide +kernel
theorem dX3_makeMovesOfText_12 : decode cX3_makeMovesOfText 12 = .ok (.if_icmp .ge 36, 3) := by decide +kernel
theorem dX3_makeMovesOfText_15 : decode cX3_makeMovesOfText 15 = .ok (.aload_n 0, 1) := by decide +kernel
theorem dX3_makeMovesOfText_16 : decode cX3_makeMovesOfText 16 = .ok (.getfield 35, 3) := by decide +kernel
theorem dX3_makeMovesOfText_19 : decode cX3_makeMovesOfText 19 = .ok (.iload_n 2, 1) := by decide +kernel
theorem dX3_makeMovesOfText_20 : decode cX3_makeMovesOfText 20 = .ok (.invokevirtual 162, 3) := by decide +kernel
theorem dX3_makeMovesOfText_23 : decode cX3_makeMovesOfText 23 = .ok (.ifCond .ne 6, 3) := by decide +kernel
theorem dX3_makeMovesOfText_26 : decode cX3_makeMovesOfText 26 = .ok (.goto 16, 3) := by decide +kernel
theorem dX3_makeMovesOfText_29 : decode cX3_makeMovesOfText 29 = .ok (.aload_n 0, 1) := by decide +kernel
theorem dX3_makeMovesOfText_30 : decode cX3_makeMovesOfText 30 = .ok (.iload_n 2, 1) := by decide +kernel
theorem dX3_makeMovesOfText_31 : decode cX3_makeMovesOfText 31 = .ok (.invokevirtual 165, 3) := by decide +kernel
theorem dX3_makeMovesOfText_34 : decode cX3_makeMovesOfText 34 = .ok (.ifCond .ge 5, 3) := by decide +kernel
theorem dX3_makeMovesOfText_37 : decode cX3_makeMovesOfText 37 = .ok (.iload_n 1, 1) := by decide +kernel
theorem dX3_makeMovesOfText_38 : decode cX3_makeMovesOfText 38 = .ok (.ireturn, 1) := by decide +kernel
theorem dX3_makeMovesOfText_39 : decode cX3_makeMovesOfText 39 = .ok (.iinc 1 1, 3) := by decide +kernel
theorem dX3_makeMovesOfText_42 : decode cX3_makeMovesOfText 42 = .ok (.iinc 2 1, 3) := by decide +kernel
theorem dX3_makeMovesOfText_45 : decode cX3_makeMovesOfText 45 = .ok (.goto (-41), 3) := by decide +kernel
theorem dX3_makeMovesOfText_48 : decode cX3_makeMovesOfText 48 = .ok (.iload_n 1, 1) := by decide +kernel
theorem dX3_makeMovesOfText_49 : decode cX3_makeMovesOfText 49 = .ok (.ireturn, 1) := by decide +kernel
theorem dX3_makeMoveAt_0 : decode cX3_makeMoveAt 0 = .ok (.aload_n 0, 1) := by decide +kernel
theorem dX3_makeMoveAt_1 : decode cX3_makeMoveAt 1 = .ok (.getfield 35, 3) := by decide +kernel
theorem dX3_makeMoveAt_4 : decode cX3_makeMoveAt 4 = .ok (.iload_n 1, 1) := by decide +kernel
theorem dX3_makeMoveAt_5 : decode cX3_makeMoveAt 5 = .ok (.invokevirtual 168, 3) := by decide +kernel
theorem dX3_makeMoveAt_8 : decode cX3_makeMoveAt 8 = .ok (.istore_n 2, 1) := by decide +kernel
theorem dX3_makeMoveAt_9 : decode cX3_makeMoveAt 9 = .ok (.iload_n 2, 1) := by decide +kernel
theorem dX3_makeMoveAt_10 : decode cX3_makeMoveAt 10 = .ok (.bipush 112, 2) := by decide +kernel
theorem dX3_makeMoveAt_12 : decode cX3_makeMoveAt 12 = .ok (.if_icmp .ne 11, 3) := by decide +kernel
theorem dX3_makeMoveAt_15 : decode cX3_makeMoveAt 15 = .ok (.aload_n 0, 1) := by decide +kernel
theorem dX3_makeMoveAt_16 : decode cX3_makeMoveAt 16 = .ok (.getfield 10, 3) := by decide +kernel
theorem dX3_makeMoveAt_19 : decode cX3_makeMoveAt 19 = .ok (.invokevirtual 74, 3) := by decide +kernel
theorem dX3_makeMoveAt_22 : decode cX3_makeMoveAt 22 = .ok (.ireturn, 1) := by decide +kernel
theorem dX3_makeMoveAt_23 : decode cX3_makeMoveAt 23 = .ok (.iload_n 2, 1) := by decide +kernel
theorem dX3_makeMoveAt_24 : decode cX3_makeMoveAt 24 = .ok (.bipush 106, 2) := by decide +kernel
theorem dX3_makeMoveAt_26 : decode cX3_makeMoveAt 26 = .ok (.if_icmp .ne 11, 3) := by decide +kernel
theorem dX3_makeMoveAt_29 : decode cX3_makeMoveAt 29 = .ok (.aload_n 0, 1) := by decide +kernel
theorem dX3_makeMoveAt_30 : decode cX3_makeMoveAt 30 = .ok (.getfield 10, 3) := by decide +kernel
theorem dX3_makeMoveAt_33 : decode cX3_makeMoveAt 33 = .ok (.invokevirtual 67, 3) := by decide +kernel
theorem dX3_makeMoveAt_36 : decode cX3_makeMoveAt 36 = .ok (.ireturn, 1) := by decide +kernel
theorem dX3_makeMoveAt_37 : decode cX3_makeMoveAt 37 = .ok (.iload_n 2, 1) := by decide +kernel
theorem dX3_makeMoveAt_38 : decode cX3_makeMoveAt 38 = .ok (.bipush 99, 2) := by decide +kernel
theorem dX3_makeMoveAt_40 : decode cX3_makeMoveAt 40 = .ok (.if_icmp .ne 36, 3) := by decide +kernel
theorem dX3_makeMoveAt_43 : decode cX3_makeMoveAt 43 = .ok (.aload_n 0, 1) := by decide +kernel
theorem dX3_makeMoveAt_44 : decode cX3_makeMoveAt 44 = .ok (.getfield 10, 3) := by decide +kernel
theorem dX3_makeMoveAt_47 : decode cX3_makeMoveAt 47 = .ok (.aload_n 0, 1) := by decide +kernel
theorem dX3_makeMoveAt_48 : decode cX3_makeMoveAt 48 = .ok (.getfield 35, 3) := by decide +kernel
theorem dX3_makeMoveAt_51 : decode cX3_makeMoveAt 51 = .ok (.iload_n 1, 1) := by decide +kernel
theorem dX3_makeMoveAt_52 : decode cX3_makeMoveAt 52 = .ok (.iconst 1, 1) := by decide +kernel
theorem dX3_makeMoveAt_53 : decode cX3_makeMoveAt 53 = .ok (.iadd, 1) := by decide +kernel
theorem dX3_makeMoveAt_54 : decode cX3_makeMoveAt 54 = .ok (.invokevirtual 172, 3) := by decide +kernel
theorem dX3_makeMoveAt_57 : decode cX3_makeMoveAt 57 = .ok (.aload_n 0, 1) := by decide +kernel
theorem dX3_makeMoveAt_58 : decode cX3_makeMoveAt 58 = .ok (.getfield 35, 3) := by decide +kernel
theorem dX3_makeMoveAt_61 : decode cX3_makeMoveAt 61 = .ok (.aload_n 0, 1) := by decide +kernel
theorem dX3_makeMoveAt_62 : decode cX3_makeMoveAt 62 = .ok (.getfield 35, 3) := by decide +kernel
theorem dX3_makeMoveAt_65 : decode cX3_makeMoveAt 65 = .ok (.iload_n 1, 1) := by decide +kernel
theorem dX3_makeMoveAt_66 : decode cX3_makeMoveAt 66 = .ok (.invokevirtual 175, 3) := by decide +kernel
theorem dX3_makeMoveAt_69 : decode cX3_makeMoveAt 69 = .ok (.invokevirtual 172, 3) := by decide +kernel
theorem dX3_makeMoveAt_72 : decode cX3_makeMoveAt 72 = .ok (.invokevirtual 54, 3) := by decide +kernel
theorem dX3_makeMoveAt_75 : decode cX3_makeMoveAt 75 = .ok (.ireturn, 1) := by decide +kernel
theorem dX3_makeMoveAt_76 : decode cX3_makeMoveAt 76 = .ok (.iload_n 2, 1) := by decide +kernel
theorem dX3_makeMoveAt_77 : decode cX3_makeMoveAt 77 = .ok (.bipush 108, 2) := by decide +kernel
theorem dX3_makeMoveAt_79 : decode cX3_makeMoveAt 79 = .ok (.if_icmp .ne 21, 3) := by decide +kernel
theorem dX3_makeMoveAt_82 : decode cX3_makeMoveAt 82 = .ok (.aload_n 0, 1) := by decide +kernel
theorem dX3_makeMoveAt_83 : decode cX3_makeMoveAt 83 = .ok (.getfield 10, 3) := by decide +kernel
theorem dX3_makeMoveAt_86 : decode cX3_makeMoveAt 86 = .ok (.aload_n 0, 1) := by decide +kernel
theorem dX3_makeMoveAt_87 : decode cX3_makeMoveAt 87 = .ok (.getfield 35, 3) := by decide +kernel
theorem dX3_makeMoveAt_90 : decode cX3_makeMoveAt 90 = .ok (.iload_n 1, 1) := by decide +kernel
theorem dX3_makeMoveAt_91 : decode cX3_makeMoveAt 91 = .ok (.iconst 1, 1) := by decide +kernel
theorem dX3_makeMoveAt_92 : decode cX3_makeMoveAt 92 = .ok (.iadd, 1) := by decide +kernel
theorem dX3_makeMoveAt_93 : decode cX3_makeMoveAt 93 = .ok (.invokevirtual 172, 3) := by decide +kernel
theorem dX3_makeMoveAt_96 : decode cX3_makeMoveAt 96 = .ok (.invokevirtual 61, 3) := by decide +kernel
theorem dX3_makeMoveAt_99 : decode cX3_makeMoveAt 99 = .ok (.ireturn, 1) := by decide +kernel
theorem dX3_makeMoveAt_100 : decode cX3_makeMoveAt 100 = .ok (.aload_n 0, 1) := by decide +kernel
theorem dX3_makeMoveAt_101 : decode cX3_makeMoveAt 101 = .ok (.getfield 10, 3) := by decide +kernel
theorem dX3_makeMoveAt_104 : decode cX3_makeMoveAt 104 = .ok (.aload_n 0, 1) := by decide +kernel
theorem dX3_makeMoveAt_105 : decode cX3_makeMoveAt 105 = .ok (.getfield 35, 3) := by decide +kernel
theorem dX3_makeMoveAt_108 : decode cX3_makeMoveAt 108 = .ok (.iload_n 1, 1) := by decide +kernel
theorem dX3_makeMoveAt_109 : decode cX3_makeMoveAt 109 = .ok (.invokevirtual 172, 3) := by decide +kernel
theorem dX3_makeMoveAt_112 : decode cX3_makeMoveAt 112 = .ok (.invokevirtual 71, 3) := by decide +kernel
theorem dX3_makeMoveAt_115 : decode cX3_makeMoveAt 115 = .ok (.ireturn, 1) := by decide +kernel
theorem dX3_isRoll_0 : decode cX3_isRoll 0 = .ok (.iload_n 0, 1) := by decide +kernel
theorem dX3_isRoll_1 : decode cX3_isRoll 1 = .ok (.iconst 1, 1) := by decide +kernel
theorem dX3_isRoll_2 : decode cX3_isRoll 2 = .ok (.if_icmp .lt 13, 3) := by decide +kernel
theorem dX3_isRoll_5 : decode cX3_isRoll 5 = .ok (.iload_n 0, 1) := by decide +kernel
theorem dX3_isRoll_6 : decode cX3_isRoll 6 = .ok (.bipush 6, 2) := by decide +kernel
theorem dX3_isRoll_8 : decode cX3_isRoll 8 = .ok (.if_icmp .gt 7, 3) := by decide +kernel
theorem dX3_isRoll_11 : decode cX3_isRoll 11 = .ok (.iconst 1, 1) := by decide +kernel
theorem dX3_isRoll_12 : decode cX3_isRoll 12 = .ok (.goto 4, 3) := by decide +kernel
theorem dX3_isRoll_15 : decode cX3_isRoll 15 = .ok (.iconst 0, 1) := by decide +kernel
theorem dX3_isRoll_16 : decode cX3_isRoll 16 = .ok (.ireturn, 1) := by decide +kernel
theorem dX4_init_0 : decode cX4_init 0 = .ok (.aload_n 0, 1) := by decide +kernel
theorem dX4_init_1 : decode cX4_init 1 = .ok (.invokespecial 1, 3) := by decide +kernel
theorem dX4_init_4 : decode cX4_init 4 = .ok (.aload_n 0, 1) := by decide +kernel
theorem dX4_init_5 : decode cX4_init 5 = .ok (.bipush 118, 2) := by decide +kernel
theorem dX4_init_7 : decode cX4_init 7 = .ok (.newarray .int, 2) := by decide +kernel
theorem dX4_init_9 : decode cX4_init 9 = .ok (.putfield 7, 3) := by decide +kernel
theorem dX4_init_12 : decode cX4_init 12 = .ok (.aload_n 0, 1) := by decide +kernel
theorem dX4_init_13 : decode cX4_init 13 = .ok (.sipush 590, 3) := by decide +kernel
theorem dX4_init_16 : decode cX4_init 16 = .ok (.newarray .int, 2) := by decide +kernel
theorem dX4_init_18 : decode cX4_init 18 = .ok (.putfield 13, 3) := by decide +kernel
theorem dX4_init_21 : decode cX4_init 21 = .ok (.aload_n 0, 1) := by decide +kernel
theorem dX4_init_22 : decode cX4_init 22 = .ok (.bipush 118, 2) := by decide +kernel
theorem dX4_init_24 : decode cX4_init 24 = .ok (.newarray .int, 2) := by decide +kernel
theorem dX4_init_26 : decode cX4_init 26 = .ok (.putfield 16, 3) := by decide +kernel
theorem dX4_init_29 : decode cX4_init 29 = .ok (.aload_n 0, 1) := by decide +kernel
theorem dX4_init_30 : decode cX4_init 30 = .ok (.bipush 118, 2) := by decide +kernel
theorem dX4_init_32 : decode cX4_init 32 = .ok (.newarray .int, 2) := by decide +kernel
theorem dX4_init_34 : decode cX4_init 34 = .ok (.putfield 19, 3) := by decide +kernel
theorem dX4_init_37 : decode cX4_init 37 = .ok (.aload_n 0, 1) := by decide +kernel
theorem dX4_init_38 : decode cX4_init 38 = .ok (.bipush 60, 2) := by decide +kernel
theorem dX4_init_40 : decode cX4_init 40 = .ok (.newarray .char, 2) := by decide +kernel
theorem dX4_init_42 : decode cX4_init 42 = .ok (.putfield 22, 3) := by decide +kernel
theorem dX4_init_45 : decode cX4_init 45 = .ok (.aload_n 0, 1) := by decide +kernel
theorem dX4_init_46 : decode cX4_init 46 = .ok (.bipush 61, 2) := by decide +kernel
theorem dX4_init_48 : decode cX4_init 48 = .ok (.newarray .int, 2) := by decide +kernel
theorem dX4_init_50 : decode cX4_init 50 = .ok (.putfield 26, 3) := by decide +kernel
theorem dX4_init_53 : decode cX4_init 53 = .ok (.aload_n 0, 1) := by decide +kernel
theorem dX4_init_54 : decode cX4_init 54 = .ok (.bipush 93, 2) := by decide +kernel
theorem dX4_init_56 : decode cX4_init 56 = .ok (.newarray .int, 2) := by decide +kernel
theorem dX4_init_58 : decode cX4_init 58 = .ok (.putfield 29, 3) := by decide +kernel
theorem dX4_init_61 : decode cX4_init 61 = .ok (.aload_n 0, 1) := by decide +kernel
theorem dX4_init_62 : decode cX4_init 62 = .ok (.getfield 7, 3) := by decide +kernel
theorem dX4_init_65 : decode cX4_init 65 = .ok (.iconst 0, 1) := by decide +kernel
theorem dX4_init_66 : decode cX4_init 66 = .ok (.bipush 30, 2) := by decide +kernel
theorem dX4_init_68 : decode cX4_init 68 = .ok (.iastore, 1) := by decide +kernel
theorem dX4_init_69 : decode cX4_init 69 = .ok (.return_, 1) := by decide +kernel
theorem dX4_in_0 : decode cX4_in 0 = .ok (.iload_n 0, 1) := by decide +kernel
theorem dX4_in_1 : decode cX4_in 1 = .ok (.iload_n 1, 1) := by decide +kernel
theorem dX4_in_2 : decode cX4_in 2 = .ok (.if_icmp .lt 12, 3) := by decide +kernel
theorem dX4_in_5 : decode cX4_in 5 = .ok (.iload_n 0, 1) := by decide +kernel
theorem dX4_in_6 : decode cX4_in 6 = .ok (.iload_n 2, 1) := by decide +kernel
theorem dX4_in_7 : decode cX4_in 7 = .ok (.if_icmp .gt 7, 3) := by decide +kernel
theorem dX4_in_10 : decode cX4_in 10 = .ok (.iconst 1, 1) := by decide +kernel
theorem dX4_in_11 : decode cX4_in 11 = .ok (.goto 4, 3) := by decide +kernel
theorem dX4_in_14 : decode cX4_in 14 = .ok (.iconst 0, 1) := by decide +kernel
theorem dX4_in_15 : decode cX4_in 15 = .ok (.ireturn, 1) := by decide +kernel
theorem dX4_of_0 : decode cX4_of 0 = .ok (.aload_n 0, 1) := by decide +kernel
theorem dX4_of_1 : decode cX4_of 1 = .ok (.getfield 7, 3) := by decide +kernel
theorem dX4_of_4 : decode cX4_of 4 = .ok (.bipush 8, 2) := by decide +kernel
theorem dX4_of_6 : decode cX4_of 6 = .ok (.bipush 6, 2) := by decide +kernel
theorem dX4_of_8 : decode cX4_of 8 = .ok (.iload_n 1, 1) := by decide +kernel
theorem dX4_of_9 : decode cX4_of 9 = .ok (.imul, 1) := by decide +kernel
theorem dX4_of_10 : decode cX4_of 10 = .ok (.iadd, 1) := by decide +kernel
theorem dX4_of_11 : decode cX4_of 11 = .ok (.iload_n 2, 1) := by decide +kernel
theorem dX4_of_12 : decode cX4_of 12 = .ok (.iadd, 1) := by decide +kernel
theorem dX4_of_13 : decode cX4_of 13 = .ok (.iaload, 1) := by decide +kernel
theorem dX4_of_14 : decode cX4_of 14 = .ok (.ireturn, 1) := by decide +kernel
theorem dX4_lays_0 : decode cX4_lays 0 = .ok (.aload_n 0, 1) := by decide +kernel
theorem dX4_lays_1 : decode cX4_lays 1 = .ok (.getfield 7, 3) := by decide +kernel
theorem dX4_lays_4 : decode cX4_lays 4 = .ok (.bipush 8, 2) := by decide +kernel
theorem dX4_lays_6 : decode cX4_lays 6 = .ok (.bipush 6, 2) := by decide +kernel
theorem dX4_lays_8 : decode cX4_lays 8 = .ok (.iload_n 1, 1) := by decide +kernel
theorem dX4_lays_9 : decode cX4_lays 9 = .ok (.imul, 1) := by decide +kernel
theorem dX4_lays_10 : decode cX4_lays 10 = .ok (.iadd, 1) := by decide +kernel
theorem dX4_lays_11 : decode cX4_lays 11 = .ok (.iload_n 2, 1) := by decide +kernel
theorem dX4_lays_12 : decode cX4_lays 12 = .ok (.iadd, 1) := by decide +kernel
theorem dX4_lays_13 : decode cX4_lays 13 = .ok (.iload_n 3, 1) := by decide +kernel
theorem dX4_lays_14 : decode cX4_lays 14 = .ok (.iastore, 1) := by decide +kernel
theorem dX4_lays_15 : decode cX4_lays 15 = .ok (.return_, 1) := by decide +kernel
theorem dX4_upper_0 : decode cX4_upper 0 = .ok (.aload_n 0, 1) := by decide +kernel
theorem dX4_upper_1 : decode cX4_upper 1 = .ok (.getfield 7, 3) := by decide +kernel
theorem dX4_upper_4 : decode cX4_upper 4 = .ok (.bipush 44, 2) := by decide +kernel
theorem dX4_upper_6 : decode cX4_upper 6 = .ok (.iconst 2, 1) := by decide +kernel
theorem dX4_upper_7 : decode cX4_upper 7 = .ok (.iload_n 1, 1) := by decide +kernel
theorem dX4_upper_8 : decode cX4_upper 8 = .ok (.imul, 1) := by decide +kernel
theorem dX4_upper_9 : decode cX4_upper 9 = .ok (.iadd, 1) := by decide +kernel
theorem dX4_upper_10 : decode cX4_upper 10 = .ok (.iaload, 1) := by decide +kernel
theorem dX4_upper_11 : decode cX4_upper 11 = .ok (.ireturn, 1) := by decide +kernel
theorem dX4_lower_0 : decode cX4_lower 0 = .ok (.aload_n 0, 1) := by decide +kernel
theorem dX4_lower_1 : decode cX4_lower 1 = .ok (.getfield 7, 3) := by decide +kernel
theorem dX4_lower_4 : decode cX4_lower 4 = .ok (.bipush 44, 2) := by decide +kernel
theorem dX4_lower_6 : decode cX4_lower 6 = .ok (.iconst 2, 1) := by decide +kernel
theorem dX4_lower_7 : decode cX4_lower 7 = .ok (.iload_n 1, 1) := by decide +kernel
theorem dX4_lower_8 : decode cX4_lower 8 = .ok (.imul, 1) := by decide +kernel
theorem dX4_lower_9 : decode cX4_lower 9 = .ok (.iadd, 1) := by decide +kernel
theorem dX4_lower_10 : decode cX4_lower 10 = .ok (.iconst 1, 1) := by decide +kernel
theorem dX4_lower_11 : decode cX4_lower 11 = .ok (.iadd, 1) := by decide +kernel
theorem dX4_lower_12 : decode cX4_lower 12 = .ok (.iaload, 1) := by decide +kernel
theorem dX4_lower_13 : decode cX4_lower 13 = .ok (.ireturn, 1) := by decide +kernel
theorem dX4_record_0 : decode cX4_record 0 = .ok (.aload_n 0, 1) := by decide +kernel
theorem dX4_record_1 : decode cX4_record 1 = .ok (.getfield 32, 3) := by decide +kernel
theorem dX4_record_4 : decode cX4_record 4 = .ok (.iconst 5, 1) := by decide +kernel
theorem dX4_record_5 : decode cX4_record 5 = .ok (.if_icmp .ne 43, 3) := by decide +kernel
theorem dX4_record_8 : decode cX4_record 8 = .ok (.iconst 0, 1) := by decide +kernel
theorem dX4_record_9 : decode cX4_record 9 = .ok (.istore_n 1, 1) := by decide +kernel
theorem dX4_record_10 : decode cX4_record 10 = .ok (.iload_n 1, 1) := by decide +kernel
theorem dX4_record_11 : decode cX4_record 11 = .ok (.sipush 472, 3) := by decide +kernel
theorem dX4_record_14 : decode cX4_record 14 = .ok (.if_icmp .ge 24, 3) := by decide +kernel
theorem dX4_record_17 : decode cX4_record 17 = .ok (.aload_n 0, 1) := by decide +kernel
theorem dX4_record_18 : decode cX4_record 18 = .ok (.getfield 13, 3) := by decide +kernel
theorem dX4_record_21 : decode cX4_record 21 = .ok (.iload_n 1, 1) := by decide +kernel
theorem dX4_record_22 : decode cX4_record 22 = .ok (.aload_n 0, 1) := by decide +kernel
theorem dX4_record_23 : decode cX4_record 23 = .ok (.getfield 13, 3) := by decide +kernel
theorem dX4_record_26 : decode cX4_record 26 = .ok (.iload_n 1, 1) := by decide +kernel
theorem dX4_record_27 : decode cX4_record 27 = .ok (.bipush 118, 2) := by decide +kernel
theorem dX4_record_29 : decode cX4_record 29 = .ok (.iadd, 1) := by decide +kernel
theorem dX4_record_30 : decode cX4_record 30 = .ok (.iaload, 1) := by decide +kernel
theorem dX4_record_31 : decode cX4_record 31 = .ok (.iastore, 1) := by decide +kernel
theorem dX4_record_32 : decode cX4_record 32 = .ok (.iinc 1 1, 3) := by decide +kernel
theorem dX4_record_35 : decode cX4_record 35 = .ok (.goto (-25), 3) := by decide +kernel
theorem dX4_record_38 : decode cX4_record 38 = .ok (.aload_n 0, 1) := by decide +kernel
theorem dX4_record_39 : decode cX4_record 39 = .ok (.dup, 1) := by decide +kernel
theorem dX4_record_40 : decode cX4_record 40 = .ok (.getfield 32, 3) := by decide +kernel
theorem dX4_record_43 : decode cX4_record 43 = .ok (.iconst 1, 1) := by decide +kernel
theorem dX4_record_44 : decode cX4_record 44 = .ok (.isub, 1) := by decide +kernel
theorem dX4_record_45 : decode cX4_record 45 = .ok (.putfield 32, 3) := by decide +kernel
theorem dX4_record_48 : decode cX4_record 48 = .ok (.iconst 0, 1) := by decide +kernel
theorem dX4_record_49 : decode cX4_record 49 = .ok (.istore_n 1, 1) := by decide +kernel
theorem dX4_record_50 : decode cX4_record 50 = .ok (.iload_n 1, 1) := by decide +kernel
theorem dX4_record_51 : decode cX4_record 51 = .ok (.bipush 118, 2) := by decide +kernel
theorem dX4_record_53 : decode cX4_record 53 = .ok (.if_icmp .ge 29, 3) := by decide +kernel
theorem dX4_record_56 : decode cX4_record 56 = .ok (.aload_n 0, 1) := by decide +kernel
theorem dX4_record_57 : decode cX4_record 57 = .ok (.getfield 13, 3) := by decide +kernel
theorem dX4_record_60 : decode cX4_record 60 = .ok (.aload_n 0, 1) := by decide +kernel
theorem dX4_record_61 : decode cX4_record 61 = .ok (.getfield 32, 3) := by decide +kernel
theorem dX4_record_64 : decode cX4_record 64 = .ok (.bipush 118, 2) := by decide +kernel
theorem dX4_record_66 : decode cX4_record 66 = .ok (.imul, 1) := by decide +kernel
theorem dX4_record_67 : decode cX4_record 67 = .ok (.iload_n 1, 1) := by decide +kernel
theorem dX4_record_68 : decode cX4_record 68 = .ok (.iadd, 1) := by decide +kernel
theorem dX4_record_69 : decode cX4_record 69 = .ok (.aload_n 0, 1) := by decide +kernel
theorem dX4_record_70 : decode cX4_record 70 = .ok (.getfield 7, 3) := by decide +kernel
theorem dX4_record_73 : decode cX4_record 73 = .ok (.iload_n 1, 1) := by decide +kernel
theorem dX4_record_74 : decode cX4_record 74 = .ok (.iaload, 1) := by decide +kernel
theorem dX4_record_75 : decode cX4_record 75 = .ok (.iastore, 1) := by decide +kernel
theorem dX4_record_76 : decode cX4_record 76 = .ok (.iinc 1 1, 3) := by decide +kernel
theorem dX4_record_79 : decode cX4_record 79 = .ok (.goto (-29), 3) := by decide +kernel
theorem dX4_record_82 : decode cX4_record 82 = .ok (.aload_n 0, 1) := by decide +kernel
theorem dX4_record_83 : decode cX4_record 83 = .ok (.dup, 1) := by decide +kernel
theorem dX4_record_84 : decode cX4_record 84 = .ok (.getfield 32, 3) := by decide +kernel
theorem dX4_record_87 : decode cX4_record 87 = .ok (.iconst 1, 1) := by decide +kernel
theorem dX4_record_88 : decode cX4_record 88 = .ok (.iadd, 1) := by decide +kernel
theorem dX4_record_89 : decode cX4_record 89 = .ok (.putfield 32, 3) := by decide +kernel
theorem dX4_record_92 : decode cX4_record 92 = .ok (.return_, 1) := by decide +kernel
theorem dX4_undo_0 : decode cX4_undo 0 = .ok (.aload_n 0, 1) := by decide +kernel
theorem dX4_undo_1 : decode cX4_undo 1 = .ok (.getfield 32, 3) := by decide +kernel
theorem dX4_undo_4 : decode cX4_undo 4 = .ok (.ifCond .ne 6, 3) := by decide +kernel
theorem dX4_undo_7 : decode cX4_undo 7 = .ok (.bipush (-3), 2) := by decide +kernel
theorem dX4_undo_9 : decode cX4_undo 9 = .ok (.ireturn, 1) := by decide +kernel
theorem dX4_undo_10 : decode cX4_undo 10 = .ok (.aload_n 0, 1) := by decide +kernel
theorem dX4_undo_11 : decode cX4_undo 11 = .ok (.dup, 1) := by decide +kernel
theorem dX4_undo_12 : decode cX4_undo 12 = .ok (.getfield 32, 3) := by decide +kernel
theorem dX4_undo_15 : decode cX4_undo 15 = .ok (.iconst 1, 1) := by decide +kernel
theorem dX4_undo_16 : decode cX4_undo 16 = .ok (.isub, 1) := by decide +kernel
theorem dX4_undo_17 : decode cX4_undo 17 = .ok (.putfield 32, 3) := by decide +kernel
theorem dX4_undo_20 : decode cX4_undo 20 = .ok (.iconst 0, 1) := by decide +kernel
theorem dX4_undo_21 : decode cX4_undo 21 = .ok (.istore_n 1, 1) := by decide +kernel
theorem dX4_undo_22 : decode cX4_undo 22 = .ok (.iload_n 1, 1) := by decide +kernel
theorem dX4_undo_23 : decode cX4_undo 23 = .ok (.bipush 118, 2) := by decide +kernel
theorem dX4_undo_25 : decode cX4_undo 25 = .ok (.if_icmp .ge 29, 3) := by decide +kernel
theorem dX4_undo_28 : decode cX4_undo 28 = .ok (.aload_n 0, 1) := by decide +kernel
theorem dX4_undo_29 : decode cX4_undo 29 = .ok (.getfield 7, 3) := by decide +kernel
theorem dX4_undo_32 : decode cX4_undo 32 = .ok (.iload_n 1, 1) := by decide +kernel
theorem dX4_undo_33 : decode cX4_undo 33 = .ok (.aload_n 0, 1) := by decide +kernel
theorem dX4_undo_34 : decode cX4_undo 34 = .ok (.getfield 13, 3) := by decide +kernel
theorem dX4_undo_37 : decode cX4_undo 37 = .ok (.aload_n 0, 1) := by decide +kernel
theorem dX4_undo_38 : decode cX4_undo 38 = .ok (.getfield 32, 3) := by decide +kernel
theorem dX4_undo_41 : decode cX4_undo 41 = .ok (.bipush 118, 2) := by decide +kernel
theorem dX4_undo_43 : decode cX4_undo 43 = .ok (.imul, 1) := by decide +kernel
theorem dX4_undo_44 : decode cX4_undo 44 = .ok (.iload_n 1, 1) := by decide +kernel
theorem dX4_undo_45 : decode cX4_undo 45 = .ok (.iadd, 1) := by decide +kernel
theorem dX4_undo_46 : decode cX4_undo 46 = .ok (.iaload, 1) := by decide +kernel
theorem dX4_undo_47 : decode cX4_undo 47 = .ok (.iastore, 1) := by decide +kernel
theorem dX4_undo_48 : decode cX4_undo 48 = .ok (.iinc 1 1, 3) := by decide +kernel
theorem dX4_undo_51 : decode cX4_undo 51 = .ok (.goto (-29), 3) := by decide +kernel
theorem dX4_undo_54 : decode cX4_undo 54 = .ok (.aload_n 0, 1) := by decide +kernel
theorem dX4_undo_55 : decode cX4_undo 55 = .ok (.getfield 32, 3) := by decide +kernel
theorem dX4_undo_58 : decode cX4_undo 58 = .ok (.ireturn, 1) := by decide +kernel
theorem dX4_save_0 : decode cX4_save 0 = .ok (.aload_n 0, 1) := by decide +kernel
theorem dX4_save_1 : decode cX4_save 1 = .ok (.iconst 1, 1) := by decide +kernel
theorem dX4_save_2 : decode cX4_save 2 = .ok (.putfield 36, 3) := by decide +kernel
theorem dX4_save_5 : decode cX4_save 5 = .ok (.iconst 0, 1) := by decide +kernel
theorem dX4_save_6 : decode cX4_save 6 = .ok (.istore_n 1, 1) := by decide +kernel
theorem dX4_save_7 : decode cX4_save 7 = .ok (.iload_n 1, 1) := by decide +kernel
theorem dX4_save_8 : decode cX4_save 8 = .ok (.bipush 118, 2) := by decide +kernel
theorem dX4_save_10 : decode cX4_save 10 = .ok (.if_icmp .ge 21, 3) := by decide +kernel
theorem dX4_save_13 : decode cX4_save 13 = .ok (.aload_n 0, 1) := by decide +kernel
theorem dX4_save_14 : decode cX4_save 14 = .ok (.getfield 16, 3) := by decide +kernel
theorem dX4_save_17 : decode cX4_save 17 = .ok (.iload_n 1, 1) := by decide +kernel
theorem dX4_save_18 : decode cX4_save 18 = .ok (.aload_n 0, 1) := by decide +kernel
theorem dX4_save_19 : decode cX4_save 19 = .ok (.getfield 7, 3) := by decide +kernel
theorem dX4_save_22 : decode cX4_save 22 = .ok (.iload_n 1, 1) := by decide +kernel
theorem dX4_save_23 : decode cX4_save 23 = .ok (.iaload, 1) := by decide +kernel
theorem dX4_save_24 : decode cX4_save 24 = .ok (.iastore, 1) := by decide +kernel
theorem dX4_save_25 : decode cX4_save 25 = .ok (.iinc 1 1, 3) := by decide +kernel
theorem dX4_save_28 : decode cX4_save 28 = .ok (.goto (-21), 3) := by decide +kernel
theorem dX4_save_31 : decode cX4_save 31 = .ok (.aload_n 0, 1) := by decide +kernel
theorem dX4_save_32 : decode cX4_save 32 = .ok (.getfield 7, 3) := by decide +kernel
theorem dX4_save_35 : decode cX4_save 35 = .ok (.iconst 1, 1) := by decide +kernel
theorem dX4_save_36 : decode cX4_save 36 = .ok (.iaload, 1) := by decide +kernel
theorem dX4_save_37 : decode cX4_save 37 = .ok (.ireturn, 1) := by decide +kernel
theorem dX4_restore_0 : decode cX4_restore 0 = .ok (.aload_n 0, 1) := by decide +kernel
theorem dX4_restore_1 : decode cX4_restore 1 = .ok (.getfield 36, 3) := by decide +kernel
theorem dX4_restore_4 : decode cX4_restore 4 = .ok (.ifCond .ne 6, 3) := by decide +kernel
theorem dX4_restore_7 : decode cX4_restore 7 = .ok (.bipush (-3), 2) := by decide +kernel
theorem dX4_restore_9 : decode cX4_restore 9 = .ok (.ireturn, 1) := by decide +kernel
theorem dX4_restore_10 : decode cX4_restore 10 = .ok (.aload_n 0, 1) := by decide +kernel
theorem dX4_restore_11 : decode cX4_restore 11 = .ok (.invokevirtual 40, 3) := by decide +kernel
theorem dX4_restore_14 : decode cX4_restore 14 = .ok (.iconst 0, 1) := by decide +kernel
theorem dX4_restore_15 : decode cX4_restore 15 = .ok (.istore_n 1, 1) := by decide +kernel
theorem dX4_restore_16 : decode cX4_restore 16 = .ok (.iload_n 1, 1) := by decide +kernel
theorem dX4_restore_17 : decode cX4_restore 17 = .ok (.bipush 118, 2) := by decide +kernel
theorem dX4_restore_19 : decode cX4_restore 19 = .ok (.if_icmp .ge 21, 3) := by decide +kernel
theorem dX4_restore_22 : decode cX4_restore 22 = .ok (.aload_n 0, 1) := by decide +kernel
theorem dX4_restore_23 : decode cX4_restore 23 = .ok (.getfield 7, 3) := by decide +kernel
theorem dX4_restore_26 : decode cX4_restore 26 = .ok (.iload_n 1, 1) := by decide +kernel
theorem dX4_restore_27 : decode cX4_restore 27 = .ok (.aload_n 0, 1) := by decide +kernel
theorem dX4_restore_28 : decode cX4_restore 28 = .ok (.getfield 16, 3) := by decide +kernel
theorem dX4_restore_31 : decode cX4_restore 31 = .ok (.iload_n 1, 1) := by decide +kernel
theorem dX4_restore_32 : decode cX4_restore 32 = .ok (.iaload, 1) := by decide +kernel
theorem dX4_restore_33 : decode cX4_restore 33 = .ok (.iastore, 1) := by decide +kernel
theorem dX4_restore_34 : decode cX4_restore 34 = .ok (.iinc 1 1, 3) := by decide +kernel
theorem dX4_restore_37 : decode cX4_restore 37 = .ok (.goto (-21), 3) := by decide +kernel
theorem dX4_restore_40 : decode cX4_restore 40 = .ok (.aload_n 0, 1) := by decide +kernel
theorem dX4_restore_41 : decode cX4_restore 41 = .ok (.getfield 7, 3) := by decide +kernel
theorem dX4_restore_44 : decode cX4_restore 44 = .ok (.iconst 1, 1) := by decide +kernel
theorem dX4_restore_45 : decode cX4_restore 45 = .ok (.iaload, 1) := by decide +kernel
theorem dX4_restore_46 : decode cX4_restore 46 = .ok (.ireturn, 1) := by decide +kernel
theorem dX4_isStep_0 : decode cX4_isStep 0 = .ok (.iload_n 1, 1) := by decide +kernel
theorem dX4_isStep_1 : decode cX4_isStep 1 = .ok (.iconst 1, 1) := by decide +kernel
theorem dX4_isStep_2 : decode cX4_isStep 2 = .ok (.aload_n 0, 1) := by decide +kernel
theorem dX4_isStep_3 : decode cX4_isStep 3 = .ok (.getfield 7, 3) := by decide +kernel
theorem dX4_isStep_6 : decode cX4_isStep 6 = .ok (.iconst 0, 1) := by decide +kernel
theorem dX4_isStep_7 : decode cX4_isStep 7 = .ok (.iaload, 1) := by decide +kernel
theorem dX4_isStep_8 : decode cX4_isStep 8 = .ok (.iconst 1, 1) := by decide +kernel
theorem dX4_isStep_9 : decode cX4_isStep 9 = .ok (.isub, 1) := by decide +kernel
theorem dX4_isStep_10 : decode cX4_isStep 10 = .ok (.invokestatic 43, 3) := by decide +kernel
theorem dX4_isStep_13 : decode cX4_isStep 13 = .ok (.ireturn, 1) := by decide +kernel
theorem dX4_isLanding_0 : decode cX4_isLanding 0 = .ok (.aload_n 0, 1) := by decide +kernel
theorem dX4_isLanding_1 : decode cX4_isLanding 1 = .ok (.getfield 7, 3) := by decide +kernel
theorem dX4_isLanding_4 : decode cX4_isLanding 4 = .ok (.bipush 57, 2) := by decide +kernel
theorem dX4_isLanding_6 : decode cX4_isLanding 6 = .ok (.iload_n 1, 1) := by decide +kernel
theorem dX4_isLanding_7 : decode cX4_isLanding 7 = .ok (.iadd, 1) := by decide +kernel
theorem dX4_isLanding_8 : decode cX4_isLanding 8 = .ok (.iaload, 1) := by decide +kernel
theorem dX4_isLanding_9 : decode cX4_isLanding 9 = .ok (.iconst 1, 1) := by decide +kernel
theorem dX4_isLanding_10 : decode cX4_isLanding 10 = .ok (.if_icmp .ne 7, 3) := by decide +kernel
theorem dX4_isLanding_13 : decode cX4_isLanding 13 = .ok (.iconst 1, 1) := by decide +kernel
theorem dX4_isLanding_14 : decode cX4_isLanding 14 = .ok (.goto 4, 3) := by decide +kernel
theorem dX4_isLanding_17 : decode cX4_isLanding 17 = .ok (.iconst 0, 1) := by decide +kernel
theorem dX4_isLanding_18 : decode cX4_isLanding 18 = .ok (.ireturn, 1) := by decide +kernel
theorem dX4_carpetFrom_0 : decode cX4_carpetFrom 0 = .ok (.bipush (-6), 2) := by decide +kernel
theorem dX4_carpetFrom_2 : decode cX4_carpetFrom 2 = .ok (.istore_n 2, 1) := by decide +kernel
theorem dX4_carpetFrom_3 : decode cX4_carpetFrom 3 = .ok (.iconst 0, 1) := by decide +kernel
theorem dX4_carpetFrom_4 : decode cX4_carpetFrom 4 = .ok (.istore_n 3, 1) := by decide +kernel
theorem dX4_carpetFrom_5 : decode cX4_carpetFrom 5 = .ok (.iload_n 3, 1) := by decide +kernel
theorem dX4_carpetFrom_6 : decode cX4_carpetFrom 6 = .ok (.aload_n 0, 1) := by decide +kernel
theorem dX4_carpetFrom_7 : decode cX4_carpetFrom 7 = .ok (.getfield 7, 3) := by decide +kernel
theorem dX4_carpetFrom_10 : decode cX4_carpetFrom 10 = .ok (.iconst 3, 1) := by decide +kernel
theorem dX4_carpetFrom_11 : decode cX4_carpetFrom 11 = .ok (.iaload, 1) := by decide +kernel
theorem dX4_carpetFrom_12 : decode cX4_carpetFrom 12 = .ok (.if_icmp .ge 24, 3) := by decide +kernel
theorem dX4_carpetFrom_15 : decode cX4_carpetFrom 15 = .ok (.aload_n 0, 1) := by decide +kernel
theorem dX4_carpetFrom_16 : decode cX4_carpetFrom 16 = .ok (.iload_n 3, 1) := by decide +kernel
theorem dX4_carpetFrom_17 : decode cX4_carpetFrom 17 = .ok (.invokevirtual 47, 3) := by decide +kernel
theorem dX4_carpetFrom_20 : decode cX4_carpetFrom 20 = .ok (.iload_n 1, 1) := by decide +kernel
theorem dX4_carpetFrom_21 : decode cX4_carpetFrom 21 = .ok (.if_icmp .ne 7, 3) := by decide +kernel
theorem dX4_carpetFrom_24 : decode cX4_carpetFrom 24 = .ok (.iload_n 3, 1) := by decide +kernel
theorem dX4_carpetFrom_25 : decode cX4_carpetFrom 25 = .ok (.goto 4, 3) := by decide +kernel
theorem dX4_carpetFrom_28 : decode cX4_carpetFrom 28 = .ok (.iload_n 2, 1) := by decide +kernel
theorem dX4_carpetFrom_29 : decode cX4_carpetFrom 29 = .ok (.istore_n 2, 1) := by decide +kernel
theorem dX4_carpetFrom_30 : decode cX4_carpetFrom 30 = .ok (.iinc 3 1, 3) := by decide +kernel
theorem dX4_carpetFrom_33 : decode cX4_carpetFrom 33 = .ok (.goto (-28), 3) := by decide +kernel
theorem dX4_carpetFrom_36 : decode cX4_carpetFrom 36 = .ok (.iload_n 2, 1) := by decide +kernel
theorem dX4_carpetFrom_37 : decode cX4_carpetFrom 37 = .ok (.ireturn, 1) := by decide +kernel
theorem dX4_carpetsTo_0 : decode cX4_carpetsTo 0 = .ok (.iconst 0, 1) := by decide +kernel
theorem dX4_carpetsTo_1 : decode cX4_carpetsTo 1 = .ok (.istore_n 2, 1) := by decide +kernel
theorem dX4_carpetsTo_2 : decode cX4_carpetsTo 2 = .ok (.iconst 0, 1) := by decide +kernel
theorem dX4_carpetsTo_3 : decode cX4_carpetsTo 3 = .ok (.istore_n 3, 1) := by decide +kernel
theorem dX4_carpetsTo_4 : decode cX4_carpetsTo 4 = .ok (.iload_n 3, 1) := by decide +kernel
theorem dX4_carpetsTo_5 : decode cX4_carpetsTo 5 = .ok (.aload_n 0, 1) := by decide +kernel
theorem dX4_carpetsTo_6 : decode cX4_carpetsTo 6 = .ok (.getfield 7, 3) := by decide +kernel
theorem dX4_carpetsTo_9 : decode cX4_carpetsTo 9 = .ok (.iconst 3, 1) := by decide +kernel
theorem dX4_carpetsTo_10 : decode cX4_carpetsTo 10 = .ok (.iaload, 1) := by decide +kernel
theorem dX4_carpetsTo_11 : decode cX4_carpetsTo 11 = .ok (.if_icmp .ge 26, 3) := by decide +kernel
theorem dX4_carpetsTo_14 : decode cX4_carpetsTo 14 = .ok (.iload_n 2, 1) := by decide +kernel
theorem dX4_carpetsTo_15 : decode cX4_carpetsTo 15 = .ok (.aload_n 0, 1) := by decide +kernel
theorem dX4_carpetsTo_16 : decode cX4_carpetsTo 16 = .ok (.iload_n 3, 1) := by decide +kernel
theorem dX4_carpetsTo_17 : decode cX4_carpetsTo 17 = .ok (.invokevirtual 51, 3) := by decide +kernel
theorem dX4_carpetsTo_20 : decode cX4_carpetsTo 20 = .ok (.iload_n 1, 1) := by decide +kernel
theorem dX4_carpetsTo_21 : decode cX4_carpetsTo 21 = .ok (.if_icmp .ne 7, 3) := by decide +kernel
theorem dX4_carpetsTo_24 : decode cX4_carpetsTo 24 = .ok (.iconst 1, 1) := by decide +kernel
theorem dX4_carpetsTo_25 : decode cX4_carpetsTo 25 = .ok (.goto 4, 3) := by decide +kernel
theorem dX4_carpetsTo_28 : decode cX4_carpetsTo 28 = .ok (.iconst 0, 1) := by decide +kernel
theorem dX4_carpetsTo_29 : decode cX4_carpetsTo 29 = .ok (.iadd, 1) := by decide +kernel
theorem dX4_carpetsTo_30 : decode cX4_carpetsTo 30 = .ok (.istore_n 2, 1) := by decide +kernel
theorem dX4_carpetsTo_31 : decode cX4_carpetsTo 31 = .ok (.iinc 3 1, 3) := by decide +kernel
theorem dX4_carpetsTo_34 : decode cX4_carpetsTo 34 = .ok (.goto (-30), 3) := by decide +kernel
theorem dX4_carpetsTo_37 : decode cX4_carpetsTo 37 = .ok (.iload_n 2, 1) := by decide +kernel
theorem dX4_carpetsTo_38 : decode cX4_carpetsTo 38 = .ok (.ireturn, 1) := by decide +kernel
theorem dX4_climbersOn_0 : decode cX4_climbersOn 0 = .ok (.iconst 0, 1) := by decide +kernel
theorem dX4_climbersOn_1 : decode cX4_climbersOn 1 = .ok (.istore_n 2, 1) := by decide +kernel
theorem dX4_climbersOn_2 : decode cX4_climbersOn 2 = .ok (.iconst 0, 1) := by decide +kernel
theorem dX4_climbersOn_3 : decode cX4_climbersOn 3 = .ok (.istore_n 3, 1) := by decide +kernel
theorem dX4_climbersOn_4 : decode cX4_climbersOn 4 = .ok (.iload_n 3, 1) := by decide +kernel
theorem dX4_climbersOn_5 : decode cX4_climbersOn 5 = .ok (.aload_n 0, 1) := by decide +kernel
theorem dX4_climbersOn_6 : decode cX4_climbersOn 6 = .ok (.getfield 7, 3) := by decide +kernel
theorem dX4_climbersOn_9 : decode cX4_climbersOn 9 = .ok (.iconst 1, 1) := by decide +kernel
theorem dX4_climbersOn_10 : decode cX4_climbersOn 10 = .ok (.iaload, 1) := by decide +kernel
theorem dX4_climbersOn_11 : decode cX4_climbersOn 11 = .ok (.if_icmp .ge 29, 3) := by decide +kernel
theorem dX4_climbersOn_14 : decode cX4_climbersOn 14 = .ok (.iload_n 2, 1) := by decide +kernel
theorem dX4_climbersOn_15 : decode cX4_climbersOn 15 = .ok (.aload_n 0, 1) := by decide +kernel
theorem dX4_climbersOn_16 : decode cX4_climbersOn 16 = .ok (.iload_n 3, 1) := by decide +kernel
theorem dX4_climbersOn_17 : decode cX4_climbersOn 17 = .ok (.iconst 0, 1) := by decide +kernel
theorem dX4_climbersOn_18 : decode cX4_climbersOn 18 = .ok (.invokevirtual 54, 3) := by decide +kernel
theorem dX4_climbersOn_21 : decode cX4_climbersOn 21 = .ok (.iload_n 1, 1) := by decide +kernel
theorem dX4_climbersOn_22 : decode cX4_climbersOn 22 = .ok (.if_icmp .ne 9, 3) := by decide +kernel
theorem dX4_climbersOn_25 : decode cX4_climbersOn 25 = .ok (.iconst 1, 1) := by decide +kernel
theorem dX4_climbersOn_26 : decode cX4_climbersOn 26 = .ok (.iload_n 3, 1) := by decide +kernel
theorem dX4_climbersOn_27 : decode cX4_climbersOn 27 = .ok (.ishl, 1) := by decide +kernel
theorem dX4_climbersOn_28 : decode cX4_climbersOn 28 = .ok (.goto 4, 3) := by decide +kernel
theorem dX4_climbersOn_31 : decode cX4_climbersOn 31 = .ok (.iconst 0, 1) := by decide +kernel
theorem dX4_climbersOn_32 : decode cX4_climbersOn 32 = .ok (.ior, 1) := by decide +kernel
theorem dX4_climbersOn_33 : decode cX4_climbersOn 33 = .ok (.istore_n 2, 1) := by decide +kernel
theorem dX4_climbersOn_34 : decode cX4_climbersOn 34 = .ok (.iinc 3 1, 3) := by decide +kernel
theorem dX4_climbersOn_37 : decode cX4_climbersOn 37 = .ok (.goto (-33), 3) := by decide +kernel
theorem dX4_climbersOn_40 : decode cX4_climbersOn 40 = .ok (.iload_n 2, 1) := by decide +kernel
theorem dX4_climbersOn_41 : decode cX4_climbersOn 41 = .ok (.ireturn, 1) := by decide +kernel
theorem dX4_bits_0 : decode cX4_bits 0 = .ok (.iconst 0, 1) := by decide +kernel
theorem dX4_bits_1 : decode cX4_bits 1 = .ok (.istore_n 1, 1) := by decide +kernel
theorem dX4_bits_2 : decode cX4_bits 2 = .ok (.iconst 0, 1) := by decide +kernel
theorem dX4_bits_3 : decode cX4_bits 3 = .ok (.istore_n 2, 1) := by decide +kernel
theorem dX4_bits_4 : decode cX4_bits 4 = .ok (.iload_n 2, 1) := by decide +kernel
theorem dX4_bits_5 : decode cX4_bits 5 = .ok (.bipush 6, 2) := by decide +kernel
theorem dX4_bits_7 : decode cX4_bits 7 = .ok (.if_icmp .ge 17, 3) := by decide +kernel
theorem dX4_bits_10 : decode cX4_bits 10 = .ok (.iload_n 1, 1) := by decide +kernel
theorem dX4_bits_11 : decode cX4_bits 11 = .ok (.iload_n 0, 1) := by decide +kernel
theorem dX4_bits_12 : decode cX4_bits 12 = .ok (.iload_n 2, 1) := by decide +kernel
theorem dX4_bits_13 : decode cX4_bits 13 = .ok (.ishr, 1) := by decide +kernel
theorem dX4_bits_14 : decode cX4_bits 14 = .ok (.iconst 1, 1) := by decide +kernel
theorem dX4_bits_15 : decode cX4_bits 15 = .ok (.iand, 1) := by decide +kernel
theorem dX4_bits_16 : decode cX4_bits 16 = .ok (.iadd, 1) := by decide +kernel
theorem dX4_bits_17 : decode cX4_bits 17 = .ok (.istore_n 1, 1) := by decide +kernel
theorem dX4_bits_18 : decode cX4_bits 18 = .ok (.iinc 2 1, 3) := by decide +kernel
theorem dX4_bits_21 : decode cX4_bits 21 = .ok (.goto (-17), 3) := by decide +kernel
theorem dX4_bits_24 : decode cX4_bits 24 = .ok (.iload_n 1, 1) := by decide +kernel
theorem dX4_bits_25 : decode cX4_bits 25 = .ok (.ireturn, 1) := by decide +kernel
theorem dX4_setTop_0 : decode cX4_setTop 0 = .ok (.iload_n 1, 1) := by decide +kernel
theorem dX4_setTop_1 : decode cX4_setTop 1 = .ok (.bipush 10, 2) := by decide +kernel
theorem dX4_setTop_3 : decode cX4_setTop 3 = .ok (.bipush 60, 2) := by decide +kernel
theorem dX4_setTop_5 : decode cX4_setTop 5 = .ok (.invokestatic 43, 3) := by decide +kernel
theorem dX4_setTop_8 : decode cX4_setTop 8 = .ok (.ifCond .ne 6, 3) := by decide +kernel
theorem dX4_setTop_11 : decode cX4_setTop 11 = .ok (.bipush (-2), 2) := by decide +kernel
theorem dX4_setTop_13 : decode cX4_setTop 13 = .ok (.ireturn, 1) := by decide +kernel
theorem dX4_setTop_14 : decode cX4_setTop 14 = .ok (.iload_n 1, 1) := by decide +kernel
theorem dX4_setTop_15 : decode cX4_setTop 15 = .ok (.istore_n 2, 1) := by decide +kernel
theorem dX4_setTop_16 : decode cX4_setTop 16 = .ok (.iload_n 2, 1) := by decide +kernel
theorem dX4_setTop_17 : decode cX4_setTop 17 = .ok (.bipush 61, 2) := by decide +kernel
theorem dX4_setTop_19 : decode cX4_setTop 19 = .ok (.if_icmp .ge 38, 3) := by decide +kernel
theorem dX4_setTop_22 : decode cX4_setTop 22 = .ok (.aload_n 0, 1) := by decide +kernel
theorem dX4_setTop_23 : decode cX4_setTop 23 = .ok (.iload_n 2, 1) := by decide +kernel
theorem dX4_setTop_24 : decode cX4_setTop 24 = .ok (.invokevirtual 58, 3) := by decide +kernel
theorem dX4_setTop_27 : decode cX4_setTop 27 = .ok (.ifCond .ne 21, 3) := by decide +kernel
theorem dX4_setTop_30 : decode cX4_setTop 30 = .ok (.aload_n 0, 1) := by decide +kernel
theorem dX4_setTop_31 : decode cX4_setTop 31 = .ok (.iload_n 2, 1) := by decide +kernel
theorem dX4_setTop_32 : decode cX4_setTop 32 = .ok (.invokevirtual 61, 3) := by decide +kernel
theorem dX4_setTop_35 : decode cX4_setTop 35 = .ok (.ifCond .ne 13, 3) := by decide +kernel
theorem dX4_setTop_38 : decode cX4_setTop 38 = .ok (.aload_n 0, 1) := by decide +kernel
theorem dX4_setTop_39 : decode cX4_setTop 39 = .ok (.iload_n 2, 1) := by decide +kernel
theorem dX4_setTop_40 : decode cX4_setTop 40 = .ok (.invokevirtual 65, 3) := by decide +kernel
theorem dX4_setTop_43 : decode cX4_setTop 43 = .ok (.bipush (-6), 2) := by decide +kernel
theorem dX4_setTop_45 : decode cX4_setTop 45 = .ok (.if_icmp .eq 6, 3) := by decide +kernel
theorem dX4_setTop_48 : decode cX4_setTop 48 = .ok (.bipush (-3), 2) := by decide +kernel
theorem dX4_setTop_50 : decode cX4_setTop 50 = .ok (.ireturn, 1) := by decide +kernel
theorem dX4_setTop_51 : decode cX4_setTop 51 = .ok (.iinc 2 1, 3) := by decide +kernel
theorem dX4_setTop_54 : decode cX4_setTop 54 = .ok (.goto (-38), 3) := by decide +kernel
theorem dX4_setTop_57 : decode cX4_setTop 57 = .ok (.aload_n 0, 1) := by decide +kernel
theorem dX4_setTop_58 : decode cX4_setTop 58 = .ok (.invokevirtual 40, 3) := by decide +kernel
theorem dX4_setTop_61 : decode cX4_setTop 61 = .ok (.aload_n 0, 1) := by decide +kernel
theorem dX4_setTop_62 : decode cX4_setTop 62 = .ok (.getfield 7, 3) := by decide +kernel
theorem dX4_setTop_65 : decode cX4_setTop 65 = .ok (.iconst 0, 1) := by decide +kernel
theorem dX4_setTop_66 : decode cX4_setTop 66 = .ok (.iaload, 1) := by decide +kernel
theorem dX4_setTop_67 : decode cX4_setTop 67 = .ok (.istore_n 2, 1) := by decide +kernel
theorem dX4_setTop_68 : decode cX4_setTop 68 = .ok (.aload_n 0, 1) := by decide +kernel
theorem dX4_setTop_69 : decode cX4_setTop 69 = .ok (.getfield 7, 3) := by decide +kernel
theorem dX4_setTop_72 : decode cX4_setTop 72 = .ok (.iconst 0, 1) := by decide +kernel
theorem dX4_setTop_73 : decode cX4_setTop 73 = .ok (.iload_n 1, 1) := by decide +kernel
theorem dX4_setTop_74 : decode cX4_setTop 74 = .ok (.iastore, 1) := by decide +kernel
theorem dX4_setTop_75 : decode cX4_setTop 75 = .ok (.iload_n 2, 1) := by decide +kernel
theorem dX4_setTop_76 : decode cX4_setTop 76 = .ok (.ireturn, 1) := by decide +kernel
theorem dX4_whyNotLay_0 : decode cX4_whyNotLay 0 = .ok (.aload_n 0, 1) := by decide +kernel
theorem dX4_whyNotLay_1 : decode cX4_whyNotLay 1 = .ok (.iload_n 1, 1) := by decide +kernel
theorem dX4_whyNotLay_2 : decode cX4_whyNotLay 2 = .ok (.invokevirtual 68, 3) := by decide +kernel
theorem dX4_whyNotLay_5 : decode cX4_whyNotLay 5 = .ok (.ifCond .ne 5, 3) := by decide +kernel
theorem dX4_whyNotLay_8 : decode cX4_whyNotLay 8 = .ok (.iconst (-1), 1) := by decide +kernel
theorem dX4_whyNotLay_9 : decode cX4_whyNotLay 9 = .ok (.ireturn, 1) := by decide +kernel
theorem dX4_whyNotLay_10 : decode cX4_whyNotLay 10 = .ok (.iload_n 2, 1) := by decide +kernel
theorem dX4_whyNotLay_11 : decode cX4_whyNotLay 11 = .ok (.iconst 0, 1) := by decide +kernel
theorem dX4_whyNotLay_12 : decode cX4_whyNotLay 12 = .ok (.iload_n 1, 1) := by decide +kernel
theorem dX4_whyNotLay_13 : decode cX4_whyNotLay 13 = .ok (.iconst 1, 1) := by decide +kernel
theorem dX4_whyNotLay_14 : decode cX4_whyNotLay 14 = .ok (.isub, 1) := by decide +kernel
theorem dX4_whyNotLay_15 : decode cX4_whyNotLay 15 = .ok (.invokestatic 43, 3) := by decide +kernel
theorem dX4_whyNotLay_18 : decode cX4_whyNotLay 18 = .ok (.ifCond .ne 6, 3) := by decide +kernel
theorem dX4_whyNotLay_21 : decode cX4_whyNotLay 21 = .ok (.bipush (-2), 2) := by decide +kernel
theorem dX4_whyNotLay_23 : decode cX4_whyNotLay 23 = .ok (.ireturn, 1) := by decide +kernel
theorem dX4_whyNotLay_24 : decode cX4_whyNotLay 24 = .ok (.aload_n 0, 1) := by decide +kernel
theorem dX4_whyNotLay_25 : decode cX4_whyNotLay 25 = .ok (.iload_n 1, 1) := by decide +kernel
theorem dX4_whyNotLay_26 : decode cX4_whyNotLay 26 = .ok (.invokevirtual 65, 3) := by decide +kernel
theorem dX4_whyNotLay_29 : decode cX4_whyNotLay 29 = .ok (.bipush (-6), 2) := by decide +kernel
theorem dX4_whyNotLay_31 : decode cX4_whyNotLay 31 = .ok (.if_icmp .ne 37, 3) := by decide +kernel
theorem dX4_whyNotLay_34 : decode cX4_whyNotLay 34 = .ok (.aload_n 0, 1) := by decide +kernel
theorem dX4_whyNotLay_35 : decode cX4_whyNotLay 35 = .ok (.iload_n 1, 1) := by decide +kernel
theorem dX4_whyNotLay_36 : decode cX4_whyNotLay 36 = .ok (.invokevirtual 71, 3) := by decide +kernel
theorem dX4_whyNotLay_39 : decode cX4_whyNotLay 39 = .ok (.ifCond .gt 29, 3) := by decide +kernel
theorem dX4_whyNotLay_42 : decode cX4_whyNotLay 42 = .ok (.aload_n 0, 1) := by decide +kernel
theorem dX4_whyNotLay_43 : decode cX4_whyNotLay 43 = .ok (.iload_n 2, 1) := by decide +kernel
theorem dX4_whyNotLay_44 : decode cX4_whyNotLay 44 = .ok (.invokevirtual 65, 3) := by decide +kernel
theorem dX4_whyNotLay_47 : decode cX4_whyNotLay 47 = .ok (.bipush (-6), 2) := by decide +kernel
theorem dX4_whyNotLay_49 : decode cX4_whyNotLay 49 = .ok (.if_icmp .ne 19, 3) := by decide +kernel
theorem dX4_whyNotLay_52 : decode cX4_whyNotLay 52 = .ok (.aload_n 0, 1) := by decide +kernel
theorem dX4_whyNotLay_53 : decode cX4_whyNotLay 53 = .ok (.iload_n 1, 1) := by decide +kernel
theorem dX4_whyNotLay_54 : decode cX4_whyNotLay 54 = .ok (.invokevirtual 61, 3) := by decide +kernel
theorem dX4_whyNotLay_57 : decode cX4_whyNotLay 57 = .ok (.ifCond .ne 11, 3) := by decide +kernel
theorem dX4_whyNotLay_60 : decode cX4_whyNotLay 60 = .ok (.aload_n 0, 1) := by decide +kernel
theorem dX4_whyNotLay_61 : decode cX4_whyNotLay 61 = .ok (.iload_n 1, 1) := by decide +kernel
theorem dX4_whyNotLay_62 : decode cX4_whyNotLay 62 = .ok (.invokevirtual 58, 3) := by decide +kernel
theorem dX4_whyNotLay_65 : decode cX4_whyNotLay 65 = .ok (.ifCond .eq 6, 3) := by decide +kernel
theorem dX4_whyNotLay_68 : decode cX4_whyNotLay 68 = .ok (.bipush (-3), 2) := by decide +kernel
theorem dX4_whyNotLay_70 : decode cX4_whyNotLay 70 = .ok (.ireturn, 1) := by decide +kernel
theorem dX4_whyNotLay_71 : decode cX4_whyNotLay 71 = .ok (.aload_n 0, 1) := by decide +kernel
theorem dX4_whyNotLay_72 : decode cX4_whyNotLay 72 = .ok (.getfield 7, 3) := by decide +kernel
theorem dX4_whyNotLay_75 : decode cX4_whyNotLay 75 = .ok (.iconst 3, 1) := by decide +kernel
theorem dX4_whyNotLay_76 : decode cX4_whyNotLay 76 = .ok (.iaload, 1) := by decide +kernel
theorem dX4_whyNotLay_77 : decode cX4_whyNotLay 77 = .ok (.bipush 6, 2) := by decide +kernel
theorem dX4_whyNotLay_79 : decode cX4_whyNotLay 79 = .ok (.if_icmp .ne 8, 3) := by decide +kernel
theorem dX4_whyNotLay_82 : decode cX4_whyNotLay 82 = .ok (.bipush (-4), 2) := by decide +kernel
theorem dX4_whyNotLay_84 : decode cX4_whyNotLay 84 = .ok (.goto 4, 3) := by decide +kernel
theorem dX4_whyNotLay_87 : decode cX4_whyNotLay 87 = .ok (.iconst 0, 1) := by decide +kernel
theorem dX4_whyNotLay_88 : decode cX4_whyNotLay 88 = .ok (.ireturn, 1) := by decide +kernel
theorem dX4_laysCarpet_0 : decode cX4_laysCarpet 0 = .ok (.aload_n 0, 1) := by decide +kernel
theorem dX4_laysCarpet_1 : decode cX4_laysCarpet 1 = .ok (.getfield 7, 3) := by decide +kernel
theorem dX4_laysCarpet_4 : decode cX4_laysCarpet 4 = .ok (.bipush 44, 2) := by decide +kernel
theorem dX4_laysCarpet_6 : decode cX4_laysCarpet 6 = .ok (.iconst 2, 1) := by decide +kernel
theorem dX4_laysCarpet_7 : decode cX4_laysCarpet 7 = .ok (.aload_n 0, 1) := by decide +kernel
theorem dX4_laysCarpet_8 : decode cX4_laysCarpet 8 = .ok (.getfield 7, 3) := by decide +kernel
theorem dX4_laysCarpet_11 : decode cX4_laysCarpet 11 = .ok (.iconst 3, 1) := by decide +kernel
theorem dX4_laysCarpet_12 : decode cX4_laysCarpet 12 = .ok (.iaload, 1) := by decide +kernel
theorem dX4_laysCarpet_13 : decode cX4_laysCarpet 13 = .ok (.imul, 1) := by decide +kernel
theorem dX4_laysCarpet_14 : decode cX4_laysCarpet 14 = .ok (.iadd, 1) := by decide +kernel
theorem dX4_laysCarpet_15 : decode cX4_laysCarpet 15 = .ok (.iload_n 1, 1) := by decide +kernel
theorem dX4_laysCarpet_16 : decode cX4_laysCarpet 16 = .ok (.iastore, 1) := by decide +kernel
theorem dX4_laysCarpet_17 : decode cX4_laysCarpet 17 = .ok (.aload_n 0, 1) := by decide +kernel
theorem dX4_laysCarpet_18 : decode cX4_laysCarpet 18 = .ok (.getfield 7, 3) := by decide +kernel
theorem dX4_laysCarpet_21 : decode cX4_laysCarpet 21 = .ok (.bipush 44, 2) := by decide +kernel
theorem dX4_laysCarpet_23 : decode cX4_laysCarpet 23 = .ok (.iconst 2, 1) := by decide +kernel
theorem dX4_laysCarpet_24 : decode cX4_laysCarpet 24 = .ok (.aload_n 0, 1) := by decide +kernel
theorem dX4_laysCarpet_25 : decode cX4_laysCarpet 25 = .ok (.getfield 7, 3) := by decide +kernel
theorem dX4_laysCarpet_28 : decode cX4_laysCarpet 28 = .ok (.iconst 3, 1) := by decide +kernel
theorem dX4_laysCarpet_29 : decode cX4_laysCarpet 29 = .ok (.iaload, 1) := by decide +kernel
theorem dX4_laysCarpet_30 : decode cX4_laysCarpet 30 = .ok (.imul, 1) := by decide +kernel
theorem dX4_laysCarpet_31 : decode cX4_laysCarpet 31 = .ok (.iadd, 1) := by decide +kernel
theorem dX4_laysCarpet_32 : decode cX4_laysCarpet 32 = .ok (.iconst 1, 1) := by decide +kernel
theorem dX4_laysCarpet_33 : decode cX4_laysCarpet 33 = .ok (.iadd, 1) := by decide +kernel
theorem dX4_laysCarpet_34 : decode cX4_laysCarpet 34 = .ok (.iload_n 2, 1) := by decide +kernel
theorem dX4_laysCarpet_35 : decode cX4_laysCarpet 35 = .ok (.iastore, 1) := by decide +kernel
theorem dX4_laysCarpet_36 : decode cX4_laysCarpet 36 = .ok (.aload_n 0, 1) := by decide +kernel
theorem dX4_laysCarpet_37 : decode cX4_laysCarpet 37 = .ok (.getfield 7, 3) := by decide +kernel
theorem dX4_laysCarpet_40 : decode cX4_laysCarpet 40 = .ok (.iconst 3, 1) := by decide +kernel
theorem dX4_laysCarpet_41 : decode cX4_laysCarpet 41 = .ok (.dup2, 1) := by decide +kernel
theorem dX4_laysCarpet_42 : decode cX4_laysCarpet 42 = .ok (.iaload, 1) := by decide +kernel
theorem dX4_laysCarpet_43 : decode cX4_laysCarpet 43 = .ok (.iconst 1, 1) := by decide +kernel
theorem dX4_laysCarpet_44 : decode cX4_laysCarpet 44 = .ok (.iadd, 1) := by decide +kernel
theorem dX4_laysCarpet_45 : decode cX4_laysCarpet 45 = .ok (.iastore, 1) := by decide +kernel
theorem dX4_laysCarpet_46 : decode cX4_laysCarpet 46 = .ok (.aload_n 0, 1) := by decide +kernel
theorem dX4_laysCarpet_47 : decode cX4_laysCarpet 47 = .ok (.getfield 7, 3) := by decide +kernel
theorem dX4_laysCarpet_50 : decode cX4_laysCarpet 50 = .ok (.iconst 3, 1) := by decide +kernel
theorem dX4_laysCarpet_51 : decode cX4_laysCarpet 51 = .ok (.iaload, 1) := by decide +kernel
theorem dX4_laysCarpet_52 : decode cX4_laysCarpet 52 = .ok (.ireturn, 1) := by decide +kernel
theorem dX4_lay_0 : decode cX4_lay 0 = .ok (.aload_n 0, 1) := by decide +kernel
theorem dX4_lay_1 : decode cX4_lay 1 = .ok (.iload_n 1, 1) := by decide +kernel
theorem dX4_lay_2 : decode cX4_lay 2 = .ok (.iload_n 2, 1) := by decide +kernel
theorem dX4_lay_3 : decode cX4_lay 3 = .ok (.invokevirtual 74, 3) := by decide +kernel
theorem dX4_lay_6 : decode cX4_lay 6 = .ok (.istore_n 3, 1) := by decide +kernel
theorem dX4_lay_7 : decode cX4_lay 7 = .ok (.iload_n 3, 1) := by decide +kernel
theorem dX4_lay_8 : decode cX4_lay 8 = .ok (.ifCond .ge 5, 3) := by decide +kernel
theorem dX4_lay_11 : decode cX4_lay 11 = .ok (.iload_n 3, 1) := by decide +kernel
theorem dX4_lay_12 : decode cX4_lay 12 = .ok (.ireturn, 1) := by decide +kernel
theorem dX4_lay_13 : decode cX4_lay 13 = .ok (.aload_n 0, 1) := by decide +kernel
theorem dX4_lay_14 : decode cX4_lay 14 = .ok (.invokevirtual 40, 3) := by decide +kernel
theorem dX4_lay_17 : decode cX4_lay 17 = .ok (.aload_n 0, 1) := by decide +kernel
theorem dX4_lay_18 : decode cX4_lay 18 = .ok (.iload_n 1, 1) := by decide +kernel
theorem dX4_lay_19 : decode cX4_lay 19 = .ok (.iload_n 2, 1) := by decide +kernel
theorem dX4_lay_20 : decode cX4_lay 20 = .ok (.invokevirtual 77, 3) := by decide +kernel
theorem dX4_lay_23 : decode cX4_lay 23 = .ok (.ireturn, 1) := by decide +kernel
theorem dX4_take_0 : decode cX4_take 0 = .ok (.aload_n 0, 1) := by decide +kernel
theorem dX4_take_1 : decode cX4_take 1 = .ok (.iload_n 1, 1) := by decide +kernel
theorem dX4_take_2 : decode cX4_take 2 = .ok (.invokevirtual 65, 3) := by decide +kernel
theorem dX4_take_5 : decode cX4_take 5 = .ok (.istore_n 2, 1) := by decide +kernel
theorem dX4_take_6 : decode cX4_take 6 = .ok (.iload_n 2, 1) := by decide +kernel
theorem dX4_take_7 : decode cX4_take 7 = .ok (.bipush (-6), 2) := by decide +kernel
theorem dX4_take_9 : decode cX4_take 9 = .ok (.if_icmp .ne 5, 3) := by decide +kernel
theorem dX4_take_12 : decode cX4_take 12 = .ok (.iconst (-1), 1) := by decide +kernel
theorem dX4_take_13 : decode cX4_take 13 = .ok (.ireturn, 1) := by decide +kernel
theorem dX4_take_14 : decode cX4_take 14 = .ok (.aload_n 0, 1) := by decide +kernel
theorem dX4_take_15 : decode cX4_take 15 = .ok (.invokevirtual 40, 3) := by decide +kernel
theorem dX4_take_18 : decode cX4_take 18 = .ok (.aload_n 0, 1) := by decide +kernel
theorem dX4_take_19 : decode cX4_take 19 = .ok (.iload_n 2, 1) := by decide +kernel
theorem dX4_take_20 : decode cX4_take 20 = .ok (.invokevirtual 51, 3) := by decide +kernel
theorem dX4_take_23 : decode cX4_take 23 = .ok (.istore_n 3, 1) := by decide +kernel
theorem dX4_take_24 : decode cX4_take 24 = .ok (.aload_n 0, 1) := by decide +kernel
theorem dX4_take_25 : decode cX4_take 25 = .ok (.getfield 7, 3) := by decide +kernel
theorem dX4_take_28 : decode cX4_take 28 = .ok (.iconst 3, 1) := by decide +kernel
theorem dX4_take_29 : decode cX4_take 29 = .ok (.dup2, 1) := by decide +kernel
theorem dX4_take_30 : decode cX4_take 30 = .ok (.iaload, 1) := by decide +kernel
theorem dX4_take_31 : decode cX4_take 31 = .ok (.iconst 1, 1) := by decide +kernel
theorem dX4_take_32 : decode cX4_take 32 = .ok (.isub, 1) := by decide +kernel
theorem dX4_take_33 : decode cX4_take 33 = .ok (.iastore, 1) := by decide +kernel
theorem dX4_take_34 : decode cX4_take 34 = .ok (.aload_n 0, 1) := by decide +kernel
theorem dX4_take_35 : decode cX4_take 35 = .ok (.getfield 7, 3) := by decide +kernel
theorem dX4_take_38 : decode cX4_take 38 = .ok (.bipush 44, 2) := by decide +kernel
theorem dX4_take_40 : decode cX4_take 40 = .ok (.iconst 2, 1) := by decide +kernel
theorem dX4_take_41 : decode cX4_take 41 = .ok (.iload_n 2, 1) := by decide +kernel
theorem dX4_take_42 : decode cX4_take 42 = .ok (.imul, 1) := by decide +kernel
theorem dX4_take_43 : decode cX4_take 43 = .ok (.iadd, 1) := by decide +kernel
theorem dX4_take_44 : decode cX4_take 44 = .ok (.aload_n 0, 1) := by decide +kernel
theorem dX4_take_45 : decode cX4_take 45 = .ok (.aload_n 0, 1) := by decide +kernel
theorem dX4_take_46 : decode cX4_take 46 = .ok (.getfield 7, 3) := by decide +kernel
theorem dX4_take_49 : decode cX4_take 49 = .ok (.iconst 3, 1) := by decide +kernel
theorem dX4_take_50 : decode cX4_take 50 = .ok (.iaload, 1) := by decide +kernel
theorem dX4_take_51 : decode cX4_take 51 = .ok (.invokevirtual 47, 3) := by decide +kernel
theorem dX4_take_54 : decode cX4_take 54 = .ok (.iastore, 1) := by decide +kernel
theorem dX4_take_55 : decode cX4_take 55 = .ok (.aload_n 0, 1) := by decide +kernel
theorem dX4_take_56 : decode cX4_take 56 = .ok (.getfield 7, 3) := by decide +kernel
theorem dX4_take_59 : decode cX4_take 59 = .ok (.bipush 44, 2) := by decide +kernel
theorem dX4_take_61 : decode cX4_take 61 = .ok (.iconst 2, 1) := by decide +kernel
theorem dX4_take_62 : decode cX4_take 62 = .ok (.iload_n 2, 1) := by decide +kernel
theorem dX4_take_63 : decode cX4_take 63 = .ok (.imul, 1) := by decide +kernel
theorem dX4_take_64 : decode cX4_take 64 = .ok (.iadd, 1) := by decide +kernel
theorem dX4_take_65 : decode cX4_take 65 = .ok (.iconst 1, 1) := by decide +kernel
theorem dX4_take_66 : decode cX4_take 66 = .ok (.iadd, 1) := by decide +kernel
theorem dX4_take_67 : decode cX4_take 67 = .ok (.aload_n 0, 1) := by decide +kernel
theorem dX4_take_68 : decode cX4_take 68 = .ok (.aload_n 0, 1) := by decide +kernel
theorem dX4_take_69 : decode cX4_take 69 = .ok (.getfield 7, 3) := by decide +kernel
theorem dX4_take_72 : decode cX4_take 72 = .ok (.iconst 3, 1) := by decide +kernel
theorem dX4_take_73 : decode cX4_take 73 = .ok (.iaload, 1) := by decide +kernel
theorem dX4_take_74 : decode cX4_take 74 = .ok (.invokevirtual 51, 3) := by decide +kernel
theorem dX4_take_77 : decode cX4_take 77 = .ok (.iastore, 1) := by decide +kernel
theorem dX4_take_78 : decode cX4_take 78 = .ok (.iload_n 3, 1) := by decide +kernel
theorem dX4_take_79 : decode cX4_take 79 = .ok (.ireturn, 1) := by decide +kernel
theorem dX4_landings_0 : decode cX4_landings 0 = .ok (.iconst 0, 1) := by decide +kernel
theorem dX4_landings_1 : decode cX4_landings 1 = .ok (.istore_n 1, 1) := by decide +kernel
theorem dX4_landings_2 : decode cX4_landings 2 = .ok (.iconst 0, 1) := by decide +kernel
theorem dX4_landings_3 : decode cX4_landings 3 = .ok (.istore_n 2, 1) := by decide +kernel
theorem dX4_landings_4 : decode cX4_landings 4 = .ok (.iload_n 2, 1) := by decide +kernel
theorem dX4_landings_5 : decode cX4_landings 5 = .ok (.bipush 61, 2) := by decide +kernel
theorem dX4_landings_7 : decode cX4_landings 7 = .ok (.if_icmp .ge 21, 3) := by decide +kernel
theorem dX4_landings_10 : decode cX4_landings 10 = .ok (.iload_n 1, 1) := by decide +kernel
theorem dX4_landings_11 : decode cX4_landings 11 = .ok (.aload_n 0, 1) := by decide +kernel
theorem dX4_landings_12 : decode cX4_landings 12 = .ok (.getfield 7, 3) := by decide +kernel
theorem dX4_landings_15 : decode cX4_landings 15 = .ok (.bipush 57, 2) := by decide +kernel
theorem dX4_landings_17 : decode cX4_landings 17 = .ok (.iload_n 2, 1) := by decide +kernel
theorem dX4_landings_18 : decode cX4_landings 18 = .ok (.iadd, 1) := by decide +kernel
theorem dX4_landings_19 : decode cX4_landings 19 = .ok (.iaload, 1) := by decide +kernel
theorem dX4_landings_20 : decode cX4_landings 20 = .ok (.iadd, 1) := by decide +kernel
theorem dX4_landings_21 : decode cX4_landings 21 = .ok (.istore_n 1, 1) := by decide +kernel
theorem dX4_landings_22 : decode cX4_landings 22 = .ok (.iinc 2 1, 3) := by decide +kernel
theorem dX4_landings_25 : decode cX4_landings 25 = .ok (.goto (-21), 3) := by decide +kernel
theorem dX4_landings_28 : decode cX4_landings 28 = .ok (.iload_n 1, 1) := by decide +kernel
theorem dX4_landings_29 : decode cX4_landings 29 = .ok (.ireturn, 1) := by decide +kernel
theorem dX4_whyNotPut_0 : decode cX4_whyNotPut 0 = .ok (.aload_n 0, 1) := by decide +kernel
theorem dX4_whyNotPut_1 : decode cX4_whyNotPut 1 = .ok (.iload_n 1, 1) := by decide +kernel
theorem dX4_whyNotPut_2 : decode cX4_whyNotPut 2 = .ok (.invokevirtual 68, 3) := by decide +kernel
theorem dX4_whyNotPut_5 : decode cX4_whyNotPut 5 = .ok (.ifCond .ne 7, 3) := by decide +kernel
theorem dX4_whyNotPut_8 : decode cX4_whyNotPut 8 = .ok (.iconst (-1), 1) := by decide +kernel
theorem dX4_whyNotPut_9 : decode cX4_whyNotPut 9 = .ok (.goto 27, 3) := by decide +kernel
theorem dX4_whyNotPut_12 : decode cX4_whyNotPut 12 = .ok (.aload_n 0, 1) := by decide +kernel
theorem dX4_whyNotPut_13 : decode cX4_whyNotPut 13 = .ok (.iload_n 1, 1) := by decide +kernel
theorem dX4_whyNotPut_14 : decode cX4_whyNotPut 14 = .ok (.invokevirtual 61, 3) := by decide +kernel
theorem dX4_whyNotPut_17 : decode cX4_whyNotPut 17 = .ok (.ifCond .ne 13, 3) := by decide +kernel
theorem dX4_whyNotPut_20 : decode cX4_whyNotPut 20 = .ok (.aload_n 0, 1) := by decide +kernel
theorem dX4_whyNotPut_21 : decode cX4_whyNotPut 21 = .ok (.iload_n 1, 1) := by decide +kernel
theorem dX4_whyNotPut_22 : decode cX4_whyNotPut 22 = .ok (.invokevirtual 65, 3) := by decide +kernel
theorem dX4_whyNotPut_25 : decode cX4_whyNotPut 25 = .ok (.bipush (-6), 2) := by decide +kernel
theorem dX4_whyNotPut_27 : decode cX4_whyNotPut 27 = .ok (.if_icmp .eq 8, 3) := by decide +kernel
theorem dX4_whyNotPut_30 : decode cX4_whyNotPut 30 = .ok (.bipush (-3), 2) := by decide +kernel
theorem dX4_whyNotPut_32 : decode cX4_whyNotPut 32 = .ok (.goto 4, 3) := by decide +kernel
theorem dX4_whyNotPut_35 : decode cX4_whyNotPut 35 = .ok (.iconst 0, 1) := by decide +kernel
theorem dX4_whyNotPut_36 : decode cX4_whyNotPut 36 = .ok (.ireturn, 1) := by decide +kernel
theorem dX4_puts_0 : decode cX4_puts 0 = .ok (.aload_n 0, 1) := by decide +kernel
theorem dX4_puts_1 : decode cX4_puts 1 = .ok (.getfield 7, 3) := by decide +kernel
theorem dX4_puts_4 : decode cX4_puts 4 = .ok (.bipush 57, 2) := by decide +kernel
theorem dX4_puts_6 : decode cX4_puts 6 = .ok (.iload_n 1, 1) := by decide +kernel
theorem dX4_puts_7 : decode cX4_puts 7 = .ok (.iadd, 1) := by decide +kernel
theorem dX4_puts_8 : decode cX4_puts 8 = .ok (.iconst 1, 1) := by decide +kernel
theorem dX4_puts_9 : decode cX4_puts 9 = .ok (.iastore, 1) := by decide +kernel
theorem dX4_puts_10 : decode cX4_puts 10 = .ok (.aload_n 0, 1) := by decide +kernel
theorem dX4_puts_11 : decode cX4_puts 11 = .ok (.invokevirtual 80, 3) := by decide +kernel
theorem dX4_puts_14 : decode cX4_puts 14 = .ok (.ireturn, 1) := by decide +kernel
theorem dX4_put_0 : decode cX4_put 0 = .ok (.aload_n 0, 1) := by decide +kernel
theorem dX4_put_1 : decode cX4_put 1 = .ok (.iload_n 1, 1) := by decide +kernel
theorem dX4_put_2 : decode cX4_put 2 = .ok (.invokevirtual 84, 3) := by decide +kernel
theorem dX4_put_5 : decode cX4_put 5 = .ok (.istore_n 2, 1) := by decide +kernel
theorem dX4_put_6 : decode cX4_put 6 = .ok (.iload_n 2, 1) := by decide +kernel
theorem dX4_put_7 : decode cX4_put 7 = .ok (.ifCond .ge 5, 3) := by decide +kernel
theorem dX4_put_10 : decode cX4_put 10 = .ok (.iload_n 2, 1) := by decide +kernel
theorem dX4_put_11 : decode cX4_put 11 = .ok (.ireturn, 1) := by decide +kernel
theorem dX4_put_12 : decode cX4_put 12 = .ok (.aload_n 0, 1) := by decide +kernel
theorem dX4_put_13 : decode cX4_put 13 = .ok (.invokevirtual 40, 3) := by decide +kernel
theorem dX4_put_16 : decode cX4_put 16 = .ok (.aload_n 0, 1) := by decide +kernel
theorem dX4_put_17 : decode cX4_put 17 = .ok (.iload_n 1, 1) := by decide +kernel
theorem dX4_put_18 : decode cX4_put 18 = .ok (.invokevirtual 87, 3) := by decide +kernel
theorem dX4_put_21 : decode cX4_put 21 = .ok (.ireturn, 1) := by decide +kernel
theorem dX4_remove_0 : decode cX4_remove 0 = .ok (.aload_n 0, 1) := by decide +kernel
theorem dX4_remove_1 : decode cX4_remove 1 = .ok (.iload_n 1, 1) := by decide +kernel
theorem dX4_remove_2 : decode cX4_remove 2 = .ok (.invokevirtual 68, 3) := by decide +kernel
theorem dX4_remove_5 : decode cX4_remove 5 = .ok (.ifCond .eq 11, 3) := by decide +kernel
theorem dX4_remove_8 : decode cX4_remove 8 = .ok (.aload_n 0, 1) := by decide +kernel
theorem dX4_remove_9 : decode cX4_remove 9 = .ok (.iload_n 1, 1) := by decide +kernel
theorem dX4_remove_10 : decode cX4_remove 10 = .ok (.invokevirtual 61, 3) := by decide +kernel
theorem dX4_remove_13 : decode cX4_remove 13 = .ok (.ifCond .ne 5, 3) := by decide +kernel
theorem dX4_remove_16 : decode cX4_remove 16 = .ok (.iconst (-1), 1) := by decide +kernel
theorem dX4_remove_17 : decode cX4_remove 17 = .ok (.ireturn, 1) := by decide +kernel
theorem dX4_remove_18 : decode cX4_remove 18 = .ok (.aload_n 0, 1) := by decide +kernel
theorem dX4_remove_19 : decode cX4_remove 19 = .ok (.invokevirtual 40, 3) := by decide +kernel
theorem dX4_remove_22 : decode cX4_remove 22 = .ok (.aload_n 0, 1) := by decide +kernel
theorem dX4_remove_23 : decode cX4_remove 23 = .ok (.getfield 7, 3) := by decide +kernel
theorem dX4_remove_26 : decode cX4_remove 26 = .ok (.bipush 57, 2) := by decide +kernel
theorem dX4_remove_28 : decode cX4_remove 28 = .ok (.iload_n 1, 1) := by decide +kernel
theorem dX4_remove_29 : decode cX4_remove 29 = .ok (.iadd, 1) := by decide +kernel
theorem dX4_remove_30 : decode cX4_remove 30 = .ok (.iconst 0, 1) := by decide +kernel
theorem dX4_remove_31 : decode cX4_remove 31 = .ok (.iastore, 1) := by decide +kernel
theorem dX4_remove_32 : decode cX4_remove 32 = .ok (.aload_n 0, 1) := by decide +kernel
theorem dX4_remove_33 : decode cX4_remove 33 = .ok (.iload_n 1, 1) := by decide +kernel
theorem dX4_remove_34 : decode cX4_remove 34 = .ok (.invokevirtual 58, 3) := by decide +kernel
theorem dX4_remove_37 : decode cX4_remove 37 = .ok (.invokestatic 90, 3) := by decide +kernel
theorem dX4_remove_40 : decode cX4_remove 40 = .ok (.ireturn, 1) := by decide +kernel
theorem dX4_joins_0 : decode cX4_joins 0 = .ok (.iconst 0, 1) := by decide +kernel
theorem dX4_joins_1 : decode cX4_joins 1 = .ok (.istore_n 1, 1) := by decide +kernel
theorem dX4_joins_2 : decode cX4_joins 2 = .ok (.iload_n 1, 1) := by decide +kernel
theorem dX4_joins_3 : decode cX4_joins 3 = .ok (.bipush 6, 2) := by decide +kernel
theorem dX4_joins_5 : decode cX4_joins 5 = .ok (.if_icmp .ge 21, 3) := by decide +kernel
theorem dX4_joins_8 : decode cX4_joins 8 = .ok (.aload_n 0, 1) := by decide +kernel
theorem dX4_joins_9 : decode cX4_joins 9 = .ok (.aload_n 0, 1) := by decide +kernel
theorem dX4_joins_10 : decode cX4_joins 10 = .ok (.getfield 7, 3) := by decide +kernel
theorem dX4_joins_13 : decode cX4_joins 13 = .ok (.iconst 1, 1) := by decide +kernel
theorem dX4_joins_14 : decode cX4_joins 14 = .ok (.iaload, 1) := by decide +kernel
theorem dX4_joins_15 : decode cX4_joins 15 = .ok (.iload_n 1, 1) := by decide +kernel
theorem dX4_joins_16 : decode cX4_joins 16 = .ok (.iconst 0, 1) := by decide +kernel
theorem dX4_joins_17 : decode cX4_joins 17 = .ok (.invokevirtual 93, 3) := by decide +kernel
theorem dX4_joins_20 : decode cX4_joins 20 = .ok (.iinc 1 1, 3) := by decide +kernel
theorem dX4_joins_23 : decode cX4_joins 23 = .ok (.goto (-21), 3) := by decide +kernel
theorem dX4_joins_26 : decode cX4_joins 26 = .ok (.aload_n 0, 1) := by decide +kernel
theorem dX4_joins_27 : decode cX4_joins 27 = .ok (.getfield 7, 3) := by decide +kernel
theorem dX4_joins_30 : decode cX4_joins 30 = .ok (.iconst 1, 1) := by decide +kernel
theorem dX4_joins_31 : decode cX4_joins 31 = .ok (.dup2, 1) := by decide +kernel
theorem dX4_joins_32 : decode cX4_joins 32 = .ok (.iaload, 1) := by decide +kernel
theorem dX4_joins_33 : decode cX4_joins 33 = .ok (.iconst 1, 1) := by decide +kernel
theorem dX4_joins_34 : decode cX4_joins 34 = .ok (.iadd, 1) := by decide +kernel
theorem dX4_joins_35 : decode cX4_joins 35 = .ok (.iastore, 1) := by decide +kernel
theorem dX4_joins_36 : decode cX4_joins 36 = .ok (.aload_n 0, 1) := by decide +kernel
theorem dX4_joins_37 : decode cX4_joins 37 = .ok (.getfield 7, 3) := by decide +kernel
theorem dX4_joins_40 : decode cX4_joins 40 = .ok (.iconst 1, 1) := by decide +kernel
theorem dX4_joins_41 : decode cX4_joins 41 = .ok (.iaload, 1) := by decide +kernel
theorem dX4_joins_42 : decode cX4_joins 42 = .ok (.iconst 1, 1) := by decide +kernel
theorem dX4_joins_43 : decode cX4_joins 43 = .ok (.isub, 1) := by decide +kernel
theorem dX4_joins_44 : decode cX4_joins 44 = .ok (.ireturn, 1) := by decide +kernel
theorem dX4_join_0 : decode cX4_join 0 = .ok (.aload_n 0, 1) := by decide +kernel
theorem dX4_join_1 : decode cX4_join 1 = .ok (.getfield 7, 3) := by decide +kernel
theorem dX4_join_4 : decode cX4_join 4 = .ok (.iconst 1, 1) := by decide +kernel
theorem dX4_join_5 : decode cX4_join 5 = .ok (.iaload, 1) := by decide +kernel
theorem dX4_join_6 : decode cX4_join 6 = .ok (.bipush 6, 2) := by decide +kernel
theorem dX4_join_8 : decode cX4_join 8 = .ok (.if_icmp .ne 6, 3) := by decide +kernel
theorem dX4_join_11 : decode cX4_join 11 = .ok (.bipush (-4), 2) := by decide +kernel
theorem dX4_join_13 : decode cX4_join 13 = .ok (.ireturn, 1) := by decide +kernel
theorem dX4_join_14 : decode cX4_join 14 = .ok (.aload_n 0, 1) := by decide +kernel
theorem dX4_join_15 : decode cX4_join 15 = .ok (.invokevirtual 40, 3) := by decide +kernel
theorem dX4_join_18 : decode cX4_join 18 = .ok (.aload_n 0, 1) := by decide +kernel
theorem dX4_join_19 : decode cX4_join 19 = .ok (.invokevirtual 97, 3) := by decide +kernel
theorem dX4_join_22 : decode cX4_join 22 = .ok (.ireturn, 1) := by decide +kernel
theorem dX4_comes_0 : decode cX4_comes 0 = .ok (.iload_n 2, 1) := by decide +kernel
theorem dX4_comes_1 : decode cX4_comes 1 = .ok (.aload_n 0, 1) := by decide +kernel
theorem dX4_comes_2 : decode cX4_comes 2 = .ok (.getfield 7, 3) := by decide +kernel
theorem dX4_comes_5 : decode cX4_comes 5 = .ok (.iconst 0, 1) := by decide +kernel
theorem dX4_comes_6 : decode cX4_comes 6 = .ok (.iaload, 1) := by decide +kernel
theorem dX4_comes_7 : decode cX4_comes 7 = .ok (.if_icmp .lt 25, 3) := by decide +kernel
theorem dX4_comes_10 : decode cX4_comes 10 = .ok (.aload_n 0, 1) := by decide +kernel
theorem dX4_comes_11 : decode cX4_comes 11 = .ok (.iload_n 1, 1) := by decide +kernel
theorem dX4_comes_12 : decode cX4_comes 12 = .ok (.iconst 1, 1) := by decide +kernel
theorem dX4_comes_13 : decode cX4_comes 13 = .ok (.aload_n 0, 1) := by decide +kernel
theorem dX4_comes_14 : decode cX4_comes 14 = .ok (.iload_n 1, 1) := by decide +kernel
theorem dX4_comes_15 : decode cX4_comes 15 = .ok (.iconst 1, 1) := by decide +kernel
theorem dX4_comes_16 : decode cX4_comes 16 = .ok (.invokevirtual 54, 3) := by decide +kernel
theorem dX4_comes_19 : decode cX4_comes 19 = .ok (.iconst 1, 1) := by decide +kernel
theorem dX4_comes_20 : decode cX4_comes 20 = .ok (.iadd, 1) := by decide +kernel
theorem dX4_comes_21 : decode cX4_comes 21 = .ok (.invokevirtual 93, 3) := by decide +kernel
theorem dX4_comes_24 : decode cX4_comes 24 = .ok (.aload_n 0, 1) := by decide +kernel
theorem dX4_comes_25 : decode cX4_comes 25 = .ok (.iload_n 1, 1) := by decide +kernel
theorem dX4_comes_26 : decode cX4_comes 26 = .ok (.iconst 0, 1) := by decide +kernel
theorem dX4_comes_27 : decode cX4_comes 27 = .ok (.iconst 0, 1) := by decide +kernel
theorem dX4_comes_28 : decode cX4_comes 28 = .ok (.invokevirtual 93, 3) := by decide +kernel
theorem dX4_comes_31 : decode cX4_comes 31 = .ok (.return_, 1) := by decide +kernel
theorem dX4_comes_32 : decode cX4_comes 32 = .ok (.aload_n 0, 1) := by decide +kernel
theorem dX4_comes_33 : decode cX4_comes 33 = .ok (.iload_n 2, 1) := by decide +kernel
theorem dX4_comes_34 : decode cX4_comes 34 = .ok (.invokevirtual 65, 3) := by decide +kernel
theorem dX4_comes_37 : decode cX4_comes 37 = .ok (.istore_n 3, 1) := by decide +kernel
theorem dX4_comes_38 : decode cX4_comes 38 = .ok (.aload_n 0, 1) := by decide +kernel
theorem dX4_comes_39 : decode cX4_comes 39 = .ok (.iload_n 1, 1) := by decide +kernel
theorem dX4_comes_40 : decode cX4_comes 40 = .ok (.iconst 0, 1) := by decide +kernel
theorem dX4_comes_41 : decode cX4_comes 41 = .ok (.iload_n 3, 1) := by decide +kernel
theorem dX4_comes_42 : decode cX4_comes 42 = .ok (.bipush (-6), 2) := by decide +kernel
theorem dX4_comes_44 : decode cX4_comes 44 = .ok (.if_icmp .ne 7, 3) := by decide +kernel
theorem dX4_comes_47 : decode cX4_comes 47 = .ok (.iload_n 2, 1) := by decide +kernel
theorem dX4_comes_48 : decode cX4_comes 48 = .ok (.goto 8, 3) := by decide +kernel
theorem dX4_comes_51 : decode cX4_comes 51 = .ok (.aload_n 0, 1) := by decide +kernel
theorem dX4_comes_52 : decode cX4_comes 52 = .ok (.iload_n 3, 1) := by decide +kernel
theorem dX4_comes_53 : decode cX4_comes 53 = .ok (.invokevirtual 51, 3) := by decide +kernel
theorem dX4_comes_56 : decode cX4_comes 56 = .ok (.invokevirtual 93, 3) := by decide +kernel
theorem dX4_comes_59 : decode cX4_comes 59 = .ok (.aload_n 0, 1) := by decide +kernel
theorem dX4_comes_60 : decode cX4_comes 60 = .ok (.iload_n 1, 1) := by decide +kernel
theorem dX4_comes_61 : decode cX4_comes 61 = .ok (.iconst 5, 1) := by decide +kernel
theorem dX4_comes_62 : decode cX4_comes 62 = .ok (.aload_n 0, 1) := by decide +kernel
theorem dX4_comes_63 : decode cX4_comes 63 = .ok (.iload_n 1, 1) := by decide +kernel
theorem dX4_comes_64 : decode cX4_comes 64 = .ok (.iconst 5, 1) := by decide +kernel
theorem dX4_comes_65 : decode cX4_comes 65 = .ok (.invokevirtual 54, 3) := by decide +kernel
theorem dX4_comes_68 : decode cX4_comes 68 = .ok (.iload_n 3, 1) := by decide +kernel
theorem dX4_comes_69 : decode cX4_comes 69 = .ok (.bipush (-6), 2) := by decide +kernel
theorem dX4_comes_71 : decode cX4_comes 71 = .ok (.if_icmp .ne 7, 3) := by decide +kernel
theorem dX4_comes_74 : decode cX4_comes 74 = .ok (.iconst 0, 1) := by decide +kernel
theorem dX4_comes_75 : decode cX4_comes 75 = .ok (.goto 4, 3) := by decide +kernel
theorem dX4_comes_78 : decode cX4_comes 78 = .ok (.iconst 1, 1) := by decide +kernel
theorem dX4_comes_79 : decode cX4_comes 79 = .ok (.iadd, 1) := by decide +kernel
theorem dX4_comes_80 : decode cX4_comes 80 = .ok (.invokevirtual 93, 3) := by decide +kernel
theorem dX4_comes_83 : decode cX4_comes 83 = .ok (.aload_n 0, 1) := by decide +kernel
theorem dX4_comes_84 : decode cX4_comes 84 = .ok (.getfield 7, 3) := by decide +kernel
theorem dX4_comes_87 : decode cX4_comes 87 = .ok (.bipush 6, 2) := by decide +kernel
theorem dX4_comes_89 : decode cX4_comes 89 = .ok (.dup2, 1) := by decide +kernel
theorem dX4_comes_90 : decode cX4_comes 90 = .ok (.iaload, 1) := by decide +kernel
theorem dX4_comes_91 : decode cX4_comes 91 = .ok (.iload_n 3, 1) := by decide +kernel
theorem dX4_comes_92 : decode cX4_comes 92 = .ok (.bipush (-6), 2) := by decide +kernel
theorem dX4_comes_94 : decode cX4_comes 94 = .ok (.if_icmp .ne 7, 3) := by decide +kernel
theorem dX4_comes_97 : decode cX4_comes 97 = .ok (.iconst 0, 1) := by decide +kernel
theorem dX4_comes_98 : decode cX4_comes 98 = .ok (.goto 4, 3) := by decide +kernel
theorem dX4_comes_101 : decode cX4_comes 101 = .ok (.iconst 1, 1) := by decide +kernel
theorem dX4_comes_102 : decode cX4_comes 102 = .ok (.iadd, 1) := by decide +kernel
theorem dX4_comes_103 : decode cX4_comes 103 = .ok (.iastore, 1) := by decide +kernel
theorem dX4_comes_104 : decode cX4_comes 104 = .ok (.return_, 1) := by decide +kernel
theorem dX4_isPassed_0 : decode cX4_isPassed 0 = .ok (.aload_n 0, 1) := by decide +kernel
theorem dX4_isPassed_1 : decode cX4_isPassed 1 = .ok (.aload_n 0, 1) := by decide +kernel
theorem dX4_isPassed_2 : decode cX4_isPassed 2 = .ok (.getfield 7, 3) := by decide +kernel
theorem dX4_isPassed_5 : decode cX4_isPassed 5 = .ok (.iconst 2, 1) := by decide +kernel
theorem dX4_isPassed_6 : decode cX4_isPassed 6 = .ok (.iaload, 1) := by decide +kernel
theorem dX4_isPassed_7 : decode cX4_isPassed 7 = .ok (.iconst 0, 1) := by decide +kernel
theorem dX4_isPassed_8 : decode cX4_isPassed 8 = .ok (.invokevirtual 54, 3) := by decide +kernel
theorem dX4_isPassed_11 : decode cX4_isPassed 11 = .ok (.istore_n 3, 1) := by decide +kernel
theorem dX4_isPassed_12 : decode cX4_isPassed 12 = .ok (.iload_n 1, 1) := by decide +kernel
theorem dX4_isPassed_13 : decode cX4_isPassed 13 = .ok (.aload_n 0, 1) := by decide +kernel
theorem dX4_isPassed_14 : decode cX4_isPassed 14 = .ok (.getfield 7, 3) := by decide +kernel
theorem dX4_isPassed_17 : decode cX4_isPassed 17 = .ok (.iconst 2, 1) := by decide +kernel
theorem dX4_isPassed_18 : decode cX4_isPassed 18 = .ok (.iaload, 1) := by decide +kernel
theorem dX4_isPassed_19 : decode cX4_isPassed 19 = .ok (.if_icmp .eq 42, 3) := by decide +kernel
theorem dX4_isPassed_22 : decode cX4_isPassed 22 = .ok (.aload_n 0, 1) := by decide +kernel
theorem dX4_isPassed_23 : decode cX4_isPassed 23 = .ok (.iload_n 1, 1) := by decide +kernel
theorem dX4_isPassed_24 : decode cX4_isPassed 24 = .ok (.iconst 0, 1) := by decide +kernel
theorem dX4_isPassed_25 : decode cX4_isPassed 25 = .ok (.invokevirtual 54, 3) := by decide +kernel
theorem dX4_isPassed_28 : decode cX4_isPassed 28 = .ok (.iload_n 3, 1) := by decide +kernel
theorem dX4_isPassed_29 : decode cX4_isPassed 29 = .ok (.if_icmp .le 32, 3) := by decide +kernel
theorem dX4_isPassed_32 : decode cX4_isPassed 32 = .ok (.aload_n 0, 1) := by decide +kernel
theorem dX4_isPassed_33 : decode cX4_isPassed 33 = .ok (.iload_n 1, 1) := by decide +kernel
theorem dX4_isPassed_34 : decode cX4_isPassed 34 = .ok (.iconst 0, 1) := by decide +kernel
theorem dX4_isPassed_35 : decode cX4_isPassed 35 = .ok (.invokevirtual 54, 3) := by decide +kernel
theorem dX4_isPassed_38 : decode cX4_isPassed 38 = .ok (.iload_n 3, 1) := by decide +kernel
theorem dX4_isPassed_39 : decode cX4_isPassed 39 = .ok (.iload_n 2, 1) := by decide +kernel
theorem dX4_isPassed_40 : decode cX4_isPassed 40 = .ok (.iadd, 1) := by decide +kernel
theorem dX4_isPassed_41 : decode cX4_isPassed 41 = .ok (.if_icmp .ge 20, 3) := by decide +kernel
theorem dX4_isPassed_44 : decode cX4_isPassed 44 = .ok (.aload_n 0, 1) := by decide +kernel
theorem dX4_isPassed_45 : decode cX4_isPassed 45 = .ok (.aload_n 0, 1) := by decide +kernel
theorem dX4_isPassed_46 : decode cX4_isPassed 46 = .ok (.iload_n 1, 1) := by decide +kernel
theorem dX4_isPassed_47 : decode cX4_isPassed 47 = .ok (.iconst 0, 1) := by decide +kernel
theorem dX4_isPassed_48 : decode cX4_isPassed 48 = .ok (.invokevirtual 54, 3) := by decide +kernel
theorem dX4_isPassed_51 : decode cX4_isPassed 51 = .ok (.invokevirtual 61, 3) := by decide +kernel
theorem dX4_isPassed_54 : decode cX4_isPassed 54 = .ok (.ifCond .ne 7, 3) := by decide +kernel
theorem dX4_isPassed_57 : decode cX4_isPassed 57 = .ok (.iconst 1, 1) := by decide +kernel
theorem dX4_isPassed_58 : decode cX4_isPassed 58 = .ok (.goto 4, 3) := by decide +kernel
theorem dX4_isPassed_61 : decode cX4_isPassed 61 = .ok (.iconst 0, 1) := by decide +kernel
theorem dX4_isPassed_62 : decode cX4_isPassed 62 = .ok (.ireturn, 1) := by decide +kernel
theorem dX4_passedBy_0 : decode cX4_passedBy 0 = .ok (.iconst 0, 1) := by decide +kernel
theorem dX4_passedBy_1 : decode cX4_passedBy 1 = .ok (.istore_n 2, 1) := by decide +kernel
theorem dX4_passedBy_2 : decode cX4_passedBy 2 = .ok (.iconst 0, 1) := by decide +kernel
theorem dX4_passedBy_3 : decode cX4_passedBy 3 = .ok (.istore_n 3, 1) := by decide +kernel
theorem dX4_passedBy_4 : decode cX4_passedBy 4 = .ok (.iload_n 3, 1) := by decide +kernel
theorem dX4_passedBy_5 : decode cX4_passedBy 5 = .ok (.aload_n 0, 1) := by decide +kernel
theorem dX4_passedBy_6 : decode cX4_passedBy 6 = .ok (.getfield 7, 3) := by decide +kernel
theorem dX4_passedBy_9 : decode cX4_passedBy 9 = .ok (.iconst 1, 1) := by decide +kernel
theorem dX4_passedBy_10 : decode cX4_passedBy 10 = .ok (.iaload, 1) := by decide +kernel
theorem dX4_passedBy_11 : decode cX4_passedBy 11 = .ok (.if_icmp .ge 28, 3) := by decide +kernel
theorem dX4_passedBy_14 : decode cX4_passedBy 14 = .ok (.iload_n 2, 1) := by decide +kernel
theorem dX4_passedBy_15 : decode cX4_passedBy 15 = .ok (.aload_n 0, 1) := by decide +kernel
theorem dX4_passedBy_16 : decode cX4_passedBy 16 = .ok (.iload_n 3, 1) := by decide +kernel
theorem dX4_passedBy_17 : decode cX4_passedBy 17 = .ok (.iload_n 1, 1) := by decide +kernel
theorem dX4_passedBy_18 : decode cX4_passedBy 18 = .ok (.invokevirtual 100, 3) := by decide +kernel
theorem dX4_passedBy_21 : decode cX4_passedBy 21 = .ok (.ifCond .eq 9, 3) := by decide +kernel
theorem dX4_passedBy_24 : decode cX4_passedBy 24 = .ok (.iconst 1, 1) := by decide +kernel
theorem dX4_passedBy_25 : decode cX4_passedBy 25 = .ok (.iload_n 3, 1) := by decide +kernel
theorem dX4_passedBy_26 : decode cX4_passedBy 26 = .ok (.ishl, 1) := by decide +kernel
theorem dX4_passedBy_27 : decode cX4_passedBy 27 = .ok (.goto 4, 3) := by decide +kernel
theorem dX4_passedBy_30 : decode cX4_passedBy 30 = .ok (.iconst 0, 1) := by decide +kernel
theorem dX4_passedBy_31 : decode cX4_passedBy 31 = .ok (.ior, 1) := by decide +kernel
theorem dX4_passedBy_32 : decode cX4_passedBy 32 = .ok (.istore_n 2, 1) := by decide +kernel
theorem dX4_passedBy_33 : decode cX4_passedBy 33 = .ok (.iinc 3 1, 3) := by decide +kernel
theorem dX4_passedBy_36 : decode cX4_passedBy 36 = .ok (.goto (-32), 3) := by decide +kernel
theorem dX4_passedBy_39 : decode cX4_passedBy 39 = .ok (.iload_n 2, 1) := by decide +kernel
theorem dX4_passedBy_40 : decode cX4_passedBy 40 = .ok (.ireturn, 1) := by decide +kernel
theorem dX4_highest_0 : decode cX4_highest 0 = .ok (.bipush (-6), 2) := by decide +kernel
theorem dX4_highest_2 : decode cX4_highest 2 = .ok (.istore_n 2, 1) := by decide +kernel
theorem dX4_highest_3 : decode cX4_highest 3 = .ok (.iconst 0, 1) := by decide +kernel
theorem dX4_highest_4 : decode cX4_highest 4 = .ok (.istore_n 3, 1) := by decide +kernel
theorem dX4_highest_5 : decode cX4_highest 5 = .ok (.iload_n 3, 1) := by decide +kernel
theorem dX4_highest_6 : decode cX4_highest 6 = .ok (.aload_n 0, 1) := by decide +kernel
theorem dX4_highest_7 : decode cX4_highest 7 = .ok (.getfield 7, 3) := by decide +kernel
theorem dX4_highest_10 : decode cX4_highest 10 = .ok (.iconst 1, 1) := by decide +kernel
theorem dX4_highest_11 : decode cX4_highest 11 = .ok (.iaload, 1) := by decide +kernel
theorem dX4_highest_12 : decode cX4_highest 12 = .ok (.if_icmp .ge 45, 3) := by decide +kernel
theorem dX4_highest_15 : decode cX4_highest 15 = .ok (.iload_n 1, 1) := by decide +kernel
theorem dX4_highest_16 : decode cX4_highest 16 = .ok (.iload_n 3, 1) := by decide +kernel
theorem dX4_highest_17 : decode cX4_highest 17 = .ok (.ishr, 1) := by decide +kernel
theorem dX4_highest_18 : decode cX4_highest 18 = .ok (.iconst 1, 1) := by decide +kernel
theorem dX4_highest_19 : decode cX4_highest 19 = .ok (.iand, 1) := by decide +kernel
theorem dX4_highest_20 : decode cX4_highest 20 = .ok (.iconst 1, 1) := by decide +kernel
theorem dX4_highest_21 : decode cX4_highest 21 = .ok (.if_icmp .ne 28, 3) := by decide +kernel
theorem dX4_highest_24 : decode cX4_highest 24 = .ok (.iload_n 2, 1) := by decide +kernel
theorem dX4_highest_25 : decode cX4_highest 25 = .ok (.bipush (-6), 2) := by decide +kernel
theorem dX4_highest_27 : decode cX4_highest 27 = .ok (.if_icmp .eq 18, 3) := by decide +kernel
theorem dX4_highest_30 : decode cX4_highest 30 = .ok (.aload_n 0, 1) := by decide +kernel
theorem dX4_highest_31 : decode cX4_highest 31 = .ok (.iload_n 3, 1) := by decide +kernel
theorem dX4_highest_32 : decode cX4_highest 32 = .ok (.iconst 0, 1) := by decide +kernel
theorem dX4_highest_33 : decode cX4_highest 33 = .ok (.invokevirtual 54, 3) := by decide +kernel
theorem dX4_highest_36 : decode cX4_highest 36 = .ok (.aload_n 0, 1) := by decide +kernel
theorem dX4_highest_37 : decode cX4_highest 37 = .ok (.iload_n 2, 1) := by decide +kernel
theorem dX4_highest_38 : decode cX4_highest 38 = .ok (.iconst 0, 1) := by decide +kernel
theorem dX4_highest_39 : decode cX4_highest 39 = .ok (.invokevirtual 54, 3) := by decide +kernel
theorem dX4_highest_42 : decode cX4_highest 42 = .ok (.if_icmp .le 7, 3) := by decide +kernel
theorem dX4_highest_45 : decode cX4_highest 45 = .ok (.iload_n 3, 1) := by decide +kernel
theorem dX4_highest_46 : decode cX4_highest 46 = .ok (.goto 4, 3) := by decide +kernel
theorem dX4_highest_49 : decode cX4_highest 49 = .ok (.iload_n 2, 1) := by decide +kernel
theorem dX4_highest_50 : decode cX4_highest 50 = .ok (.istore_n 2, 1) := by decide +kernel
theorem dX4_highest_51 : decode cX4_highest 51 = .ok (.iinc 3 1, 3) := by decide +kernel
theorem dX4_highest_54 : decode cX4_highest 54 = .ok (.goto (-49), 3) := by decide +kernel
theorem dX4_highest_57 : decode cX4_highest 57 = .ok (.iload_n 2, 1) := by decide +kernel
theorem dX4_highest_58 : decode cX4_highest 58 = .ok (.ireturn, 1) := by decide +kernel
theorem dX4_nextMover_0 : decode cX4_nextMover 0 = .ok (.aload_n 0, 1) := by decide +kernel
theorem dX4_nextMover_1 : decode cX4_nextMover 1 = .ok (.getfield 7, 3) := by decide +kernel
theorem dX4_nextMover_4 : decode cX4_nextMover 4 = .ok (.iconst 2, 1) := by decide +kernel
theorem dX4_nextMover_5 : decode cX4_nextMover 5 = .ok (.iaload, 1) := by decide +kernel
theorem dX4_nextMover_6 : decode cX4_nextMover 6 = .ok (.iconst 1, 1) := by decide +kernel
theorem dX4_nextMover_7 : decode cX4_nextMover 7 = .ok (.iadd, 1) := by decide +kernel
theorem dX4_nextMover_8 : decode cX4_nextMover 8 = .ok (.aload_n 0, 1) := by decide +kernel
theorem dX4_nextMover_9 : decode cX4_nextMover 9 = .ok (.getfield 7, 3) := by decide +kernel
theorem dX4_nextMover_12 : decode cX4_nextMover 12 = .ok (.iconst 1, 1) := by decide +kernel
theorem dX4_nextMover_13 : decode cX4_nextMover 13 = .ok (.iaload, 1) := by decide +kernel
theorem dX4_nextMover_14 : decode cX4_nextMover 14 = .ok (.irem, 1) := by decide +kernel
theorem dX4_nextMover_15 : decode cX4_nextMover 15 = .ok (.istore_n 1, 1) := by decide +kernel
theorem dX4_nextMover_16 : decode cX4_nextMover 16 = .ok (.aload_n 0, 1) := by decide +kernel
theorem dX4_nextMover_17 : decode cX4_nextMover 17 = .ok (.iload_n 1, 1) := by decide +kernel
theorem dX4_nextMover_18 : decode cX4_nextMover 18 = .ok (.iconst 2, 1) := by decide +kernel
theorem dX4_nextMover_19 : decode cX4_nextMover 19 = .ok (.invokevirtual 54, 3) := by decide +kernel
theorem dX4_nextMover_22 : decode cX4_nextMover 22 = .ok (.ifCond .le 42, 3) := by decide +kernel
theorem dX4_nextMover_25 : decode cX4_nextMover 25 = .ok (.aload_n 0, 1) := by decide +kernel
theorem dX4_nextMover_26 : decode cX4_nextMover 26 = .ok (.iload_n 1, 1) := by decide +kernel
theorem dX4_nextMover_27 : decode cX4_nextMover 27 = .ok (.iconst 2, 1) := by decide +kernel
theorem dX4_nextMover_28 : decode cX4_nextMover 28 = .ok (.aload_n 0, 1) := by decide +kernel
theorem dX4_nextMover_29 : decode cX4_nextMover 29 = .ok (.iload_n 1, 1) := by decide +kernel
theorem dX4_nextMover_30 : decode cX4_nextMover 30 = .ok (.iconst 2, 1) := by decide +kernel
theorem dX4_nextMover_31 : decode cX4_nextMover 31 = .ok (.invokevirtual 54, 3) := by decide +kernel
theorem dX4_nextMover_34 : decode cX4_nextMover 34 = .ok (.iconst 1, 1) := by decide +kernel
theorem dX4_nextMover_35 : decode cX4_nextMover 35 = .ok (.isub, 1) := by decide +kernel
theorem dX4_nextMover_36 : decode cX4_nextMover 36 = .ok (.invokevirtual 93, 3) := by decide +kernel
theorem dX4_nextMover_39 : decode cX4_nextMover 39 = .ok (.aload_n 0, 1) := by decide +kernel
theorem dX4_nextMover_40 : decode cX4_nextMover 40 = .ok (.getfield 7, 3) := by decide +kernel
theorem dX4_nextMover_43 : decode cX4_nextMover 43 = .ok (.bipush 7, 2) := by decide +kernel
theorem dX4_nextMover_45 : decode cX4_nextMover 45 = .ok (.dup2, 1) := by decide +kernel
theorem dX4_nextMover_46 : decode cX4_nextMover 46 = .ok (.iaload, 1) := by decide +kernel
theorem dX4_nextMover_47 : decode cX4_nextMover 47 = .ok (.iconst 1, 1) := by decide +kernel
theorem dX4_nextMover_48 : decode cX4_nextMover 48 = .ok (.iadd, 1) := by decide +kernel
theorem dX4_nextMover_49 : decode cX4_nextMover 49 = .ok (.iastore, 1) := by decide +kernel
theorem dX4_nextMover_50 : decode cX4_nextMover 50 = .ok (.iload_n 1, 1) := by decide +kernel
theorem dX4_nextMover_51 : decode cX4_nextMover 51 = .ok (.iconst 1, 1) := by decide +kernel
theorem dX4_nextMover_52 : decode cX4_nextMover 52 = .ok (.iadd, 1) := by decide +kernel
theorem dX4_nextMover_53 : decode cX4_nextMover 53 = .ok (.aload_n 0, 1) := by decide +kernel
theorem dX4_nextMover_54 : decode cX4_nextMover 54 = .ok (.getfield 7, 3) := by decide +kernel
theorem dX4_nextMover_57 : decode cX4_nextMover 57 = .ok (.iconst 1, 1) := by decide +kernel
theorem dX4_nextMover_58 : decode cX4_nextMover 58 = .ok (.iaload, 1) := by decide +kernel
theorem dX4_nextMover_59 : decode cX4_nextMover 59 = .ok (.irem, 1) := by decide +kernel
theorem dX4_nextMover_60 : decode cX4_nextMover 60 = .ok (.istore_n 1, 1) := by decide +kernel
theorem dX4_nextMover_61 : decode cX4_nextMover 61 = .ok (.goto (-45), 3) := by decide +kernel
theorem dX4_nextMover_64 : decode cX4_nextMover 64 = .ok (.aload_n 0, 1) := by decide +kernel
theorem dX4_nextMover_65 : decode cX4_nextMover 65 = .ok (.getfield 7, 3) := by decide +kernel
theorem dX4_nextMover_68 : decode cX4_nextMover 68 = .ok (.iconst 2, 1) := by decide +kernel
theorem dX4_nextMover_69 : decode cX4_nextMover 69 = .ok (.iload_n 1, 1) := by decide +kernel
theorem dX4_nextMover_70 : decode cX4_nextMover 70 = .ok (.iastore, 1) := by decide +kernel
theorem dX4_nextMover_71 : decode cX4_nextMover 71 = .ok (.return_, 1) := by decide +kernel
theorem dX4_rolls_0 : decode cX4_rolls 0 = .ok (.aload_n 0, 1) := by decide +kernel
theorem dX4_rolls_1 : decode cX4_rolls 1 = .ok (.getfield 7, 3) := by decide +kernel
theorem dX4_rolls_4 : decode cX4_rolls 4 = .ok (.iconst 2, 1) := by decide +kernel
theorem dX4_rolls_5 : decode cX4_rolls 5 = .ok (.iaload, 1) := by decide +kernel
theorem dX4_rolls_6 : decode cX4_rolls 6 = .ok (.istore_n 2, 1) := by decide +kernel
theorem dX4_rolls_7 : decode cX4_rolls 7 = .ok (.aload_n 0, 1) := by decide +kernel
theorem dX4_rolls_8 : decode cX4_rolls 8 = .ok (.iload_n 2, 1) := by decide +kernel
theorem dX4_rolls_9 : decode cX4_rolls 9 = .ok (.iconst 0, 1) := by decide +kernel
theorem dX4_rolls_10 : decode cX4_rolls 10 = .ok (.invokevirtual 54, 3) := by decide +kernel
theorem dX4_rolls_13 : decode cX4_rolls 13 = .ok (.iload_n 1, 1) := by decide +kernel
theorem dX4_rolls_14 : decode cX4_rolls 14 = .ok (.iadd, 1) := by decide +kernel
theorem dX4_rolls_15 : decode cX4_rolls 15 = .ok (.istore_n 3, 1) := by decide +kernel
theorem dX4_rolls_16 : decode cX4_rolls 16 = .ok (.aload_n 0, 1) := by decide +kernel
theorem dX4_rolls_17 : decode cX4_rolls 17 = .ok (.iload_n 1, 1) := by decide +kernel
theorem dX4_rolls_18 : decode cX4_rolls 18 = .ok (.invokevirtual 104, 3) := by decide +kernel
theorem dX4_rolls_21 : decode cX4_rolls 21 = .ok (.istore 4, 2) := by decide +kernel
theorem dX4_rolls_23 : decode cX4_rolls 23 = .ok (.aload_n 0, 1) := by decide +kernel
theorem dX4_rolls_24 : decode cX4_rolls 24 = .ok (.iload_n 2, 1) := by decide +kernel
theorem dX4_rolls_25 : decode cX4_rolls 25 = .ok (.iconst 4, 1) := by decide +kernel
theorem dX4_rolls_26 : decode cX4_rolls 26 = .ok (.aload_n 0, 1) := by decide +kernel
theorem dX4_rolls_27 : decode cX4_rolls 27 = .ok (.iload_n 2, 1) := by decide +kernel
theorem dX4_rolls_28 : decode cX4_rolls 28 = .ok (.iconst 4, 1) := by decide +kernel
theorem dX4_rolls_29 : decode cX4_rolls 29 = .ok (.invokevirtual 54, 3) := by decide +kernel
theorem dX4_rolls_32 : decode cX4_rolls 32 = .ok (.iload 4, 2) := by decide +kernel
theorem dX4_rolls_34 : decode cX4_rolls 34 = .ok (.invokestatic 90, 3) := by decide +kernel
theorem dX4_rolls_37 : decode cX4_rolls 37 = .ok (.iadd, 1) := by decide +kernel
theorem dX4_rolls_38 : decode cX4_rolls 38 = .ok (.invokevirtual 93, 3) := by decide +kernel
theorem dX4_rolls_41 : decode cX4_rolls 41 = .ok (.aload_n 0, 1) := by decide +kernel
theorem dX4_rolls_42 : decode cX4_rolls 42 = .ok (.getfield 7, 3) := by decide +kernel
theorem dX4_rolls_45 : decode cX4_rolls 45 = .ok (.iconst 5, 1) := by decide +kernel
theorem dX4_rolls_46 : decode cX4_rolls 46 = .ok (.dup2, 1) := by decide +kernel
theorem dX4_rolls_47 : decode cX4_rolls 47 = .ok (.iaload, 1) := by decide +kernel
theorem dX4_rolls_48 : decode cX4_rolls 48 = .ok (.iload 4, 2) := by decide +kernel
theorem dX4_rolls_50 : decode cX4_rolls 50 = .ok (.invokestatic 90, 3) := by decide +kernel
theorem dX4_rolls_53 : decode cX4_rolls 53 = .ok (.iadd, 1) := by decide +kernel
theorem dX4_rolls_54 : decode cX4_rolls 54 = .ok (.iastore, 1) := by decide +kernel
theorem dX4_rolls_55 : decode cX4_rolls 55 = .ok (.aload_n 0, 1) := by decide +kernel
theorem dX4_rolls_56 : decode cX4_rolls 56 = .ok (.getfield 7, 3) := by decide +kernel
theorem dX4_rolls_59 : decode cX4_rolls 59 = .ok (.iconst 4, 1) := by decide +kernel
theorem dX4_rolls_60 : decode cX4_rolls 60 = .ok (.dup2, 1) := by decide +kernel
theorem dX4_rolls_61 : decode cX4_rolls 61 = .ok (.iaload, 1) := by decide +kernel
theorem dX4_rolls_62 : decode cX4_rolls 62 = .ok (.iconst 1, 1) := by decide +kernel
theorem dX4_rolls_63 : decode cX4_rolls 63 = .ok (.iadd, 1) := by decide +kernel
theorem dX4_rolls_64 : decode cX4_rolls 64 = .ok (.iastore, 1) := by decide +kernel
theorem dX4_rolls_65 : decode cX4_rolls 65 = .ok (.iload 4, 2) := by decide +kernel
theorem dX4_rolls_67 : decode cX4_rolls 67 = .ok (.ifCond .eq 54, 3) := by decide +kernel
theorem dX4_rolls_70 : decode cX4_rolls 70 = .ok (.aload_n 0, 1) := by decide +kernel
theorem dX4_rolls_71 : decode cX4_rolls 71 = .ok (.iload 4, 2) := by decide +kernel
theorem dX4_rolls_73 : decode cX4_rolls 73 = .ok (.invokevirtual 107, 3) := by decide +kernel
theorem dX4_rolls_76 : decode cX4_rolls 76 = .ok (.istore 5, 2) := by decide +kernel
theorem dX4_rolls_78 : decode cX4_rolls 78 = .ok (.iload 4, 2) := by decide +kernel
theorem dX4_rolls_80 : decode cX4_rolls 80 = .ok (.iconst 1, 1) := by decide +kernel
theorem dX4_rolls_81 : decode cX4_rolls 81 = .ok (.iload 5, 2) := by decide +kernel
theorem dX4_rolls_83 : decode cX4_rolls 83 = .ok (.ishl, 1) := by decide +kernel
theorem dX4_rolls_84 : decode cX4_rolls 84 = .ok (.isub, 1) := by decide +kernel
theorem dX4_rolls_85 : decode cX4_rolls 85 = .ok (.istore 4, 2) := by decide +kernel
theorem dX4_rolls_87 : decode cX4_rolls 87 = .ok (.aload_n 0, 1) := by decide +kernel
theorem dX4_rolls_88 : decode cX4_rolls 88 = .ok (.iload 5, 2) := by decide +kernel
theorem dX4_rolls_90 : decode cX4_rolls 90 = .ok (.iconst 3, 1) := by decide +kernel
theorem dX4_rolls_91 : decode cX4_rolls 91 = .ok (.aload_n 0, 1) := by decide +kernel
theorem dX4_rolls_92 : decode cX4_rolls 92 = .ok (.iload 5, 2) := by decide +kernel
theorem dX4_rolls_94 : decode cX4_rolls 94 = .ok (.iconst 3, 1) := by decide +kernel
theorem dX4_rolls_95 : decode cX4_rolls 95 = .ok (.invokevirtual 54, 3) := by decide +kernel
theorem dX4_rolls_98 : decode cX4_rolls 98 = .ok (.iconst 1, 1) := by decide +kernel
theorem dX4_rolls_99 : decode cX4_rolls 99 = .ok (.iadd, 1) := by decide +kernel
theorem dX4_rolls_100 : decode cX4_rolls 100 = .ok (.invokevirtual 93, 3) := by decide +kernel
theorem dX4_rolls_103 : decode cX4_rolls 103 = .ok (.aload_n 0, 1) := by decide +kernel
theorem dX4_rolls_104 : decode cX4_rolls 104 = .ok (.iload 5, 2) := by decide +kernel
theorem dX4_rolls_106 : decode cX4_rolls 106 = .ok (.aload_n 0, 1) := by decide +kernel
theorem dX4_rolls_107 : decode cX4_rolls 107 = .ok (.iload 5, 2) := by decide +kernel
theorem dX4_rolls_109 : decode cX4_rolls 109 = .ok (.iconst 0, 1) := by decide +kernel
theorem dX4_rolls_110 : decode cX4_rolls 110 = .ok (.invokevirtual 54, 3) := by decide +kernel
theorem dX4_rolls_113 : decode cX4_rolls 113 = .ok (.iconst 1, 1) := by decide +kernel
theorem dX4_rolls_114 : decode cX4_rolls 114 = .ok (.iadd, 1) := by decide +kernel
theorem dX4_rolls_115 : decode cX4_rolls 115 = .ok (.invokevirtual 110, 3) := by decide +kernel
theorem dX4_rolls_118 : decode cX4_rolls 118 = .ok (.goto (-53), 3) := by decide +kernel
theorem dX4_rolls_121 : decode cX4_rolls 121 = .ok (.aload_n 0, 1) := by decide +kernel
theorem dX4_rolls_122 : decode cX4_rolls 122 = .ok (.iload_n 2, 1) := by decide +kernel
theorem dX4_rolls_123 : decode cX4_rolls 123 = .ok (.iload_n 3, 1) := by decide +kernel
theorem dX4_rolls_124 : decode cX4_rolls 124 = .ok (.invokevirtual 110, 3) := by decide +kernel
theorem dX4_rolls_127 : decode cX4_rolls 127 = .ok (.iload_n 3, 1) := by decide +kernel
theorem dX4_rolls_128 : decode cX4_rolls 128 = .ok (.aload_n 0, 1) := by decide +kernel
theorem dX4_rolls_129 : decode cX4_rolls 129 = .ok (.getfield 7, 3) := by decide +kernel
theorem dX4_rolls_132 : decode cX4_rolls 132 = .ok (.iconst 0, 1) := by decide +kernel
theorem dX4_rolls_133 : decode cX4_rolls 133 = .ok (.iaload, 1) := by decide +kernel
theorem dX4_rolls_134 : decode cX4_rolls 134 = .ok (.if_icmp .ge 25, 3) := by decide +kernel
theorem dX4_rolls_137 : decode cX4_rolls 137 = .ok (.aload_n 0, 1) := by decide +kernel
theorem dX4_rolls_138 : decode cX4_rolls 138 = .ok (.iload_n 3, 1) := by decide +kernel
theorem dX4_rolls_139 : decode cX4_rolls 139 = .ok (.invokevirtual 61, 3) := by decide +kernel
theorem dX4_rolls_142 : decode cX4_rolls 142 = .ok (.ifCond .eq 17, 3) := by decide +kernel
theorem dX4_rolls_145 : decode cX4_rolls 145 = .ok (.aload_n 0, 1) := by decide +kernel
theorem dX4_rolls_146 : decode cX4_rolls 146 = .ok (.iload_n 2, 1) := by decide +kernel
theorem dX4_rolls_147 : decode cX4_rolls 147 = .ok (.iconst 2, 1) := by decide +kernel
theorem dX4_rolls_148 : decode cX4_rolls 148 = .ok (.aload_n 0, 1) := by decide +kernel
theorem dX4_rolls_149 : decode cX4_rolls 149 = .ok (.iload_n 2, 1) := by decide +kernel
theorem dX4_rolls_150 : decode cX4_rolls 150 = .ok (.iconst 2, 1) := by decide +kernel
theorem dX4_rolls_151 : decode cX4_rolls 151 = .ok (.invokevirtual 54, 3) := by decide +kernel
theorem dX4_rolls_154 : decode cX4_rolls 154 = .ok (.iconst 1, 1) := by decide +kernel
theorem dX4_rolls_155 : decode cX4_rolls 155 = .ok (.iadd, 1) := by decide +kernel
theorem dX4_rolls_156 : decode cX4_rolls 156 = .ok (.invokevirtual 93, 3) := by decide +kernel
theorem dX4_rolls_159 : decode cX4_rolls 159 = .ok (.aload_n 0, 1) := by decide +kernel
theorem dX4_rolls_160 : decode cX4_rolls 160 = .ok (.invokevirtual 114, 3) := by decide +kernel
theorem dX4_rolls_163 : decode cX4_rolls 163 = .ok (.aload_n 0, 1) := by decide +kernel
theorem dX4_rolls_164 : decode cX4_rolls 164 = .ok (.iload_n 2, 1) := by decide +kernel
theorem dX4_rolls_165 : decode cX4_rolls 165 = .ok (.iconst 0, 1) := by decide +kernel
theorem dX4_rolls_166 : decode cX4_rolls 166 = .ok (.invokevirtual 54, 3) := by decide +kernel
theorem dX4_rolls_169 : decode cX4_rolls 169 = .ok (.ireturn, 1) := by decide +kernel
theorem dX4_whyNotRoll_0 : decode cX4_whyNotRoll 0 = .ok (.iload_n 1, 1) := by decide +kernel
theorem dX4_whyNotRoll_1 : decode cX4_whyNotRoll 1 = .ok (.iconst 1, 1) := by decide +kernel
theorem dX4_whyNotRoll_2 : decode cX4_whyNotRoll 2 = .ok (.bipush 6, 2) := by decide +kernel
theorem dX4_whyNotRoll_4 : decode cX4_whyNotRoll 4 = .ok (.invokestatic 43, 3) := by decide +kernel
theorem dX4_whyNotRoll_7 : decode cX4_whyNotRoll 7 = .ok (.ifCond .ne 8, 3) := by decide +kernel
theorem dX4_whyNotRoll_10 : decode cX4_whyNotRoll 10 = .ok (.bipush (-2), 2) := by decide +kernel
theorem dX4_whyNotRoll_12 : decode cX4_whyNotRoll 12 = .ok (.goto 18, 3) := by decide +kernel
theorem dX4_whyNotRoll_15 : decode cX4_whyNotRoll 15 = .ok (.aload_n 0, 1) := by decide +kernel
theorem dX4_whyNotRoll_16 : decode cX4_whyNotRoll 16 = .ok (.getfield 7, 3) := by decide +kernel
theorem dX4_whyNotRoll_19 : decode cX4_whyNotRoll 19 = .ok (.iconst 1, 1) := by decide +kernel
theorem dX4_whyNotRoll_20 : decode cX4_whyNotRoll 20 = .ok (.iaload, 1) := by decide +kernel
theorem dX4_whyNotRoll_21 : decode cX4_whyNotRoll 21 = .ok (.ifCond .ne 8, 3) := by decide +kernel
theorem dX4_whyNotRoll_24 : decode cX4_whyNotRoll 24 = .ok (.bipush (-3), 2) := by decide +kernel
theorem dX4_whyNotRoll_26 : decode cX4_whyNotRoll 26 = .ok (.goto 4, 3) := by decide +kernel
theorem dX4_whyNotRoll_29 : decode cX4_whyNotRoll 29 = .ok (.iconst 0, 1) := by decide +kernel
theorem dX4_whyNotRoll_30 : decode cX4_whyNotRoll 30 = .ok (.ireturn, 1) := by decide +kernel
theorem dX4_roll_0 : decode cX4_roll 0 = .ok (.aload_n 0, 1) := by decide +kernel
theorem dX4_roll_1 : decode cX4_roll 1 = .ok (.iload_n 1, 1) := by decide +kernel
theorem dX4_roll_2 : decode cX4_roll 2 = .ok (.invokevirtual 117, 3) := by decide +kernel
theorem dX4_roll_5 : decode cX4_roll 5 = .ok (.istore_n 2, 1) := by decide +kernel
theorem dX4_roll_6 : decode cX4_roll 6 = .ok (.iload_n 2, 1) := by decide +kernel
theorem dX4_roll_7 : decode cX4_roll 7 = .ok (.ifCond .ge 5, 3) := by decide +kernel
theorem dX4_roll_10 : decode cX4_roll 10 = .ok (.iload_n 2, 1) := by decide +kernel
theorem dX4_roll_11 : decode cX4_roll 11 = .ok (.ireturn, 1) := by decide +kernel
theorem dX4_roll_12 : decode cX4_roll 12 = .ok (.aload_n 0, 1) := by decide +kernel
theorem dX4_roll_13 : decode cX4_roll 13 = .ok (.invokevirtual 40, 3) := by decide +kernel
theorem dX4_roll_16 : decode cX4_roll 16 = .ok (.aload_n 0, 1) := by decide +kernel
theorem dX4_roll_17 : decode cX4_roll 17 = .ok (.iload_n 1, 1) := by decide +kernel
theorem dX4_roll_18 : decode cX4_roll 18 = .ok (.invokevirtual 120, 3) := by decide +kernel
theorem dX4_roll_21 : decode cX4_roll 21 = .ok (.ireturn, 1) := by decide +kernel
theorem dX4_pass_0 : decode cX4_pass 0 = .ok (.aload_n 0, 1) := by decide +kernel
theorem dX4_pass_1 : decode cX4_pass 1 = .ok (.getfield 7, 3) := by decide +kernel
theorem dX4_pass_4 : decode cX4_pass 4 = .ok (.iconst 1, 1) := by decide +kernel
theorem dX4_pass_5 : decode cX4_pass 5 = .ok (.iaload, 1) := by decide +kernel
theorem dX4_pass_6 : decode cX4_pass 6 = .ok (.ifCond .ne 6, 3) := by decide +kernel
theorem dX4_pass_9 : decode cX4_pass 9 = .ok (.bipush (-3), 2) := by decide +kernel
theorem dX4_pass_11 : decode cX4_pass 11 = .ok (.ireturn, 1) := by decide +kernel
theorem dX4_pass_12 : decode cX4_pass 12 = .ok (.aload_n 0, 1) := by decide +kernel
theorem dX4_pass_13 : decode cX4_pass 13 = .ok (.invokevirtual 40, 3) := by decide +kernel
theorem dX4_pass_16 : decode cX4_pass 16 = .ok (.aload_n 0, 1) := by decide +kernel
theorem dX4_pass_17 : decode cX4_pass 17 = .ok (.invokevirtual 114, 3) := by decide +kernel
theorem dX4_pass_20 : decode cX4_pass 20 = .ok (.aload_n 0, 1) := by decide +kernel
theorem dX4_pass_21 : decode cX4_pass 21 = .ok (.getfield 7, 3) := by decide +kernel
theorem dX4_pass_24 : decode cX4_pass 24 = .ok (.iconst 2, 1) := by decide +kernel
theorem dX4_pass_25 : decode cX4_pass 25 = .ok (.iaload, 1) := by decide +kernel
theorem dX4_pass_26 : decode cX4_pass 26 = .ok (.ireturn, 1) := by decide +kernel
theorem dX4_progress_0 : decode cX4_progress 0 = .ok (.aload_n 0, 1) := by decide +kernel
theorem dX4_progress_1 : decode cX4_progress 1 = .ok (.iload_n 1, 1) := by decide +kernel
theorem dX4_progress_2 : decode cX4_progress 2 = .ok (.iconst 1, 1) := by decide +kernel
theorem dX4_progress_3 : decode cX4_progress 3 = .ok (.invokevirtual 54, 3) := by decide +kernel
theorem dX4_progress_6 : decode cX4_progress 6 = .ok (.aload_n 0, 1) := by decide +kernel
theorem dX4_progress_7 : decode cX4_progress 7 = .ok (.getfield 7, 3) := by decide +kernel
theorem dX4_progress_10 : decode cX4_progress 10 = .ok (.iconst 0, 1) := by decide +kernel
theorem dX4_progress_11 : decode cX4_progress 11 = .ok (.iaload, 1) := by decide +kernel
theorem dX4_progress_12 : decode cX4_progress 12 = .ok (.imul, 1) := by decide +kernel
theorem dX4_progress_13 : decode cX4_progress 13 = .ok (.aload_n 0, 1) := by decide +kernel
theorem dX4_progress_14 : decode cX4_progress 14 = .ok (.iload_n 1, 1) := by decide +kernel
theorem dX4_progress_15 : decode cX4_progress 15 = .ok (.iconst 0, 1) := by decide +kernel
theorem dX4_progress_16 : decode cX4_progress 16 = .ok (.invokevirtual 54, 3) := by decide +kernel
theorem dX4_progress_19 : decode cX4_progress 19 = .ok (.iadd, 1) := by decide +kernel
theorem dX4_progress_20 : decode cX4_progress 20 = .ok (.ireturn, 1) := by decide +kernel
theorem dX4_isClimber_0 : decode cX4_isClimber 0 = .ok (.iload_n 1, 1) := by decide +kernel
theorem dX4_isClimber_1 : decode cX4_isClimber 1 = .ok (.iconst 0, 1) := by decide +kernel
theorem dX4_isClimber_2 : decode cX4_isClimber 2 = .ok (.aload_n 0, 1) := by decide +kernel
theorem dX4_isClimber_3 : decode cX4_isClimber 3 = .ok (.getfield 7, 3) := by decide +kernel
theorem dX4_isClimber_6 : decode cX4_isClimber 6 = .ok (.iconst 1, 1) := by decide +kernel
theorem dX4_isClimber_7 : decode cX4_isClimber 7 = .ok (.iaload, 1) := by decide +kernel
theorem dX4_isClimber_8 : decode cX4_isClimber 8 = .ok (.iconst 1, 1) := by decide +kernel
theorem dX4_isClimber_9 : decode cX4_isClimber 9 = .ok (.isub, 1) := by decide +kernel
theorem dX4_isClimber_10 : decode cX4_isClimber 10 = .ok (.invokestatic 43, 3) := by decide +kernel
theorem dX4_isClimber_13 : decode cX4_isClimber 13 = .ok (.ireturn, 1) := by decide +kernel
theorem dX4_climber_0 : decode cX4_climber 0 = .ok (.aload_n 0, 1) := by decide +kernel
theorem dX4_climber_1 : decode cX4_climber 1 = .ok (.iload_n 1, 1) := by decide +kernel
theorem dX4_climber_2 : decode cX4_climber 2 = .ok (.invokevirtual 123, 3) := by decide +kernel
theorem dX4_climber_5 : decode cX4_climber 5 = .ok (.ifCond .ne 5, 3) := by decide +kernel
theorem dX4_climber_8 : decode cX4_climber 8 = .ok (.iconst (-1), 1) := by decide +kernel
theorem dX4_climber_9 : decode cX4_climber 9 = .ok (.ireturn, 1) := by decide +kernel
theorem dX4_climber_10 : decode cX4_climber 10 = .ok (.iload_n 2, 1) := by decide +kernel
theorem dX4_climber_11 : decode cX4_climber 11 = .ok (.bipush 6, 2) := by decide +kernel
theorem dX4_climber_13 : decode cX4_climber 13 = .ok (.if_icmp .ne 11, 3) := by decide +kernel
theorem dX4_climber_16 : decode cX4_climber 16 = .ok (.aload_n 0, 1) := by decide +kernel
theorem dX4_climber_17 : decode cX4_climber 17 = .ok (.iload_n 1, 1) := by decide +kernel
theorem dX4_climber_18 : decode cX4_climber 18 = .ok (.invokevirtual 126, 3) := by decide +kernel
theorem dX4_climber_21 : decode cX4_climber 21 = .ok (.goto 23, 3) := by decide +kernel
theorem dX4_climber_24 : decode cX4_climber 24 = .ok (.iload_n 2, 1) := by decide +kernel
theorem dX4_climber_25 : decode cX4_climber 25 = .ok (.iconst 0, 1) := by decide +kernel
theorem dX4_climber_26 : decode cX4_climber 26 = .ok (.iconst 5, 1) := by decide +kernel
theorem dX4_climber_27 : decode cX4_climber 27 = .ok (.invokestatic 43, 3) := by decide +kernel
theorem dX4_climber_30 : decode cX4_climber 30 = .ok (.ifCond .eq 12, 3) := by decide +kernel
theorem dX4_climber_33 : decode cX4_climber 33 = .ok (.aload_n 0, 1) := by decide +kernel
theorem dX4_climber_34 : decode cX4_climber 34 = .ok (.iload_n 1, 1) := by decide +kernel
theorem dX4_climber_35 : decode cX4_climber 35 = .ok (.iload_n 2, 1) := by decide +kernel
theorem dX4_climber_36 : decode cX4_climber 36 = .ok (.invokevirtual 54, 3) := by decide +kernel
theorem dX4_climber_39 : decode cX4_climber 39 = .ok (.goto 5, 3) := by decide +kernel
theorem dX4_climber_42 : decode cX4_climber 42 = .ok (.bipush (-2), 2) := by decide +kernel
theorem dX4_climber_44 : decode cX4_climber 44 = .ok (.ireturn, 1) := by decide +kernel
theorem dX4_turn_0 : decode cX4_turn 0 = .ok (.aload_n 0, 1) := by decide +kernel
theorem dX4_turn_1 : decode cX4_turn 1 = .ok (.getfield 7, 3) := by decide +kernel
theorem dX4_turn_4 : decode cX4_turn 4 = .ok (.iconst 1, 1) := by decide +kernel
theorem dX4_turn_5 : decode cX4_turn 5 = .ok (.iaload, 1) := by decide +kernel
theorem dX4_turn_6 : decode cX4_turn 6 = .ok (.ifCond .ne 8, 3) := by decide +kernel
theorem dX4_turn_9 : decode cX4_turn 9 = .ok (.bipush (-6), 2) := by decide +kernel
theorem dX4_turn_11 : decode cX4_turn 11 = .ok (.goto 9, 3) := by decide +kernel
theorem dX4_turn_14 : decode cX4_turn 14 = .ok (.aload_n 0, 1) := by decide +kernel
theorem dX4_turn_15 : decode cX4_turn 15 = .ok (.getfield 7, 3) := by decide +kernel
theorem dX4_turn_18 : decode cX4_turn 18 = .ok (.iconst 2, 1) := by decide +kernel
theorem dX4_turn_19 : decode cX4_turn 19 = .ok (.iaload, 1) := by decide +kernel
theorem dX4_turn_20 : decode cX4_turn 20 = .ok (.ireturn, 1) := by decide +kernel
theorem dX4_on_0 : decode cX4_on 0 = .ok (.iload_n 1, 1) := by decide +kernel
theorem dX4_on_1 : decode cX4_on 1 = .ok (.iconst 0, 1) := by decide +kernel
theorem dX4_on_2 : decode cX4_on 2 = .ok (.aload_n 0, 1) := by decide +kernel
theorem dX4_on_3 : decode cX4_on 3 = .ok (.getfield 7, 3) := by decide +kernel
theorem dX4_on_6 : decode cX4_on 6 = .ok (.iconst 0, 1) := by decide +kernel
theorem dX4_on_7 : decode cX4_on 7 = .ok (.iaload, 1) := by decide +kernel
theorem dX4_on_8 : decode cX4_on 8 = .ok (.iconst 1, 1) := by decide +kernel
theorem dX4_on_9 : decode cX4_on 9 = .ok (.isub, 1) := by decide +kernel
theorem dX4_on_10 : decode cX4_on 10 = .ok (.invokestatic 43, 3) := by decide +kernel
theorem dX4_on_13 : decode cX4_on 13 = .ok (.ifCond .eq 11, 3) := by decide +kernel
theorem dX4_on_16 : decode cX4_on 16 = .ok (.aload_n 0, 1) := by decide +kernel
theorem dX4_on_17 : decode cX4_on 17 = .ok (.iload_n 1, 1) := by decide +kernel
theorem dX4_on_18 : decode cX4_on 18 = .ok (.invokevirtual 58, 3) := by decide +kernel
theorem dX4_on_21 : decode cX4_on 21 = .ok (.goto 4, 3) := by decide +kernel
theorem dX4_on_24 : decode cX4_on 24 = .ok (.iconst (-1), 1) := by decide +kernel
theorem dX4_on_25 : decode cX4_on 25 = .ok (.ireturn, 1) := by decide +kernel
theorem dX4_step_0 : decode cX4_step 0 = .ok (.iload_n 1, 1) := by decide +kernel
theorem dX4_step_1 : decode cX4_step 1 = .ok (.iconst 0, 1) := by decide +kernel
theorem dX4_step_2 : decode cX4_step 2 = .ok (.aload_n 0, 1) := by decide +kernel
theorem dX4_step_3 : decode cX4_step 3 = .ok (.getfield 7, 3) := by decide +kernel
theorem dX4_step_6 : decode cX4_step 6 = .ok (.iconst 0, 1) := by decide +kernel
theorem dX4_step_7 : decode cX4_step 7 = .ok (.iaload, 1) := by decide +kernel
theorem dX4_step_8 : decode cX4_step 8 = .ok (.invokestatic 43, 3) := by decide +kernel
theorem dX4_step_11 : decode cX4_step 11 = .ok (.ifCond .ne 5, 3) := by decide +kernel
theorem dX4_step_14 : decode cX4_step 14 = .ok (.iconst (-1), 1) := by decide +kernel
theorem dX4_step_15 : decode cX4_step 15 = .ok (.ireturn, 1) := by decide +kernel
theorem dX4_step_16 : decode cX4_step 16 = .ok (.aload_n 0, 1) := by decide +kernel
theorem dX4_step_17 : decode cX4_step 17 = .ok (.iload_n 1, 1) := by decide +kernel
theorem dX4_step_18 : decode cX4_step 18 = .ok (.invokevirtual 65, 3) := by decide +kernel
theorem dX4_step_21 : decode cX4_step 21 = .ok (.istore_n 3, 1) := by decide +kernel
theorem dX4_step_22 : decode cX4_step 22 = .ok (.iload_n 2, 1) := by decide +kernel
theorem dX4_step_23 : decode cX4_step 23 = .ok (.tableswitch 58 0 2 #[25, 35, 52], 25) := by decide +kernel
theorem dX4_step_48 : decode cX4_step 48 = .ok (.aload_n 0, 1) := by decide +kernel
theorem dX4_step_49 : decode cX4_step 49 = .ok (.getfield 7, 3) := by decide +kernel
theorem dX4_step_52 : decode cX4_step 52 = .ok (.bipush 57, 2) := by decide +kernel
theorem dX4_step_54 : decode cX4_step 54 = .ok (.iload_n 1, 1) := by decide +kernel
theorem dX4_step_55 : decode cX4_step 55 = .ok (.iadd, 1) := by decide +kernel
theorem dX4_step_56 : decode cX4_step 56 = .ok (.iaload, 1) := by decide +kernel
theorem dX4_step_57 : decode cX4_step 57 = .ok (.ireturn, 1) := by decide +kernel
theorem dX4_step_58 : decode cX4_step 58 = .ok (.iload_n 3, 1) := by decide +kernel
theorem dX4_step_59 : decode cX4_step 59 = .ok (.bipush (-6), 2) := by decide +kernel
theorem dX4_step_61 : decode cX4_step 61 = .ok (.if_icmp .ne 8, 3) := by decide +kernel
theorem dX4_step_64 : decode cX4_step 64 = .ok (.bipush (-6), 2) := by decide +kernel
theorem dX4_step_66 : decode cX4_step 66 = .ok (.goto 8, 3) := by decide +kernel
theorem dX4_step_69 : decode cX4_step 69 = .ok (.aload_n 0, 1) := by decide +kernel
theorem dX4_step_70 : decode cX4_step 70 = .ok (.iload_n 3, 1) := by decide +kernel
theorem dX4_step_71 : decode cX4_step 71 = .ok (.invokevirtual 51, 3) := by decide +kernel
theorem dX4_step_74 : decode cX4_step 74 = .ok (.ireturn, 1) := by decide +kernel
theorem dX4_step_75 : decode cX4_step 75 = .ok (.aload_n 0, 1) := by decide +kernel
theorem dX4_step_76 : decode cX4_step 76 = .ok (.iload_n 1, 1) := by decide +kernel
theorem dX4_step_77 : decode cX4_step 77 = .ok (.invokevirtual 71, 3) := by decide +kernel
theorem dX4_step_80 : decode cX4_step 80 = .ok (.ireturn, 1) := by decide +kernel
theorem dX4_step_81 : decode cX4_step 81 = .ok (.bipush (-2), 2) := by decide +kernel
theorem dX4_step_83 : decode cX4_step 83 = .ok (.ireturn, 1) := by decide +kernel
theorem dX4_allTops_0 : decode cX4_allTops 0 = .ok (.iconst 0, 1) := by decide +kernel
theorem dX4_allTops_1 : decode cX4_allTops 1 = .ok (.istore_n 1, 1) := by decide +kernel
theorem dX4_allTops_2 : decode cX4_allTops 2 = .ok (.iconst 0, 1) := by decide +kernel
theorem dX4_allTops_3 : decode cX4_allTops 3 = .ok (.istore_n 2, 1) := by decide +kernel
theorem dX4_allTops_4 : decode cX4_allTops 4 = .ok (.iload_n 2, 1) := by decide +kernel
theorem dX4_allTops_5 : decode cX4_allTops 5 = .ok (.aload_n 0, 1) := by decide +kernel
theorem dX4_allTops_6 : decode cX4_allTops 6 = .ok (.getfield 7, 3) := by decide +kernel
theorem dX4_allTops_9 : decode cX4_allTops 9 = .ok (.iconst 1, 1) := by decide +kernel
theorem dX4_allTops_10 : decode cX4_allTops 10 = .ok (.iaload, 1) := by decide +kernel
theorem dX4_allTops_11 : decode cX4_allTops 11 = .ok (.if_icmp .ge 18, 3) := by decide +kernel
theorem dX4_allTops_14 : decode cX4_allTops 14 = .ok (.iload_n 1, 1) := by decide +kernel
theorem dX4_allTops_15 : decode cX4_allTops 15 = .ok (.aload_n 0, 1) := by decide +kernel
theorem dX4_allTops_16 : decode cX4_allTops 16 = .ok (.iload_n 2, 1) := by decide +kernel
theorem dX4_allTops_17 : decode cX4_allTops 17 = .ok (.iconst 1, 1) := by decide +kernel
theorem dX4_allTops_18 : decode cX4_allTops 18 = .ok (.invokevirtual 54, 3) := by decide +kernel
theorem dX4_allTops_21 : decode cX4_allTops 21 = .ok (.iadd, 1) := by decide +kernel
theorem dX4_allTops_22 : decode cX4_allTops 22 = .ok (.istore_n 1, 1) := by decide +kernel
theorem dX4_allTops_23 : decode cX4_allTops 23 = .ok (.iinc 2 1, 3) := by decide +kernel
theorem dX4_allTops_26 : decode cX4_allTops 26 = .ok (.goto (-22), 3) := by decide +kernel
theorem dX4_allTops_29 : decode cX4_allTops 29 = .ok (.iload_n 1, 1) := by decide +kernel
theorem dX4_allTops_30 : decode cX4_allTops 30 = .ok (.ireturn, 1) := by decide +kernel
theorem dX4_total_0 : decode cX4_total 0 = .ok (.iload_n 1, 1) := by decide +kernel
theorem dX4_total_1 : decode cX4_total 1 = .ok (.tableswitch 112 0 8 #[51, 58, 65, 72, 77, 84, 91, 99, 104], 51) := by decide +kernel
theorem dX4_total_52 : decode cX4_total 52 = .ok (.aload_n 0, 1) := by decide +kernel
theorem dX4_total_53 : decode cX4_total 53 = .ok (.getfield 7, 3) := by decide +kernel
theorem dX4_total_56 : decode cX4_total 56 = .ok (.iconst 0, 1) := by decide +kernel
theorem dX4_total_57 : decode cX4_total 57 = .ok (.iaload, 1) := by decide +kernel
theorem dX4_total_58 : decode cX4_total 58 = .ok (.ireturn, 1) := by decide +kernel
theorem dX4_total_59 : decode cX4_total 59 = .ok (.aload_n 0, 1) := by decide +kernel
theorem dX4_total_60 : decode cX4_total 60 = .ok (.getfield 7, 3) := by decide +kernel
theorem dX4_total_63 : decode cX4_total 63 = .ok (.iconst 1, 1) := by decide +kernel
theorem dX4_total_64 : decode cX4_total 64 = .ok (.iaload, 1) := by decide +kernel
theorem dX4_total_65 : decode cX4_total 65 = .ok (.ireturn, 1) := by decide +kernel
theorem dX4_total_66 : decode cX4_total 66 = .ok (.aload_n 0, 1) := by decide +kernel
theorem dX4_total_67 : decode cX4_total 67 = .ok (.getfield 7, 3) := by decide +kernel
theorem dX4_total_70 : decode cX4_total 70 = .ok (.iconst 3, 1) := by decide +kernel
theorem dX4_total_71 : decode cX4_total 71 = .ok (.iaload, 1) := by decide +kernel
theorem dX4_total_72 : decode cX4_total 72 = .ok (.ireturn, 1) := by decide +kernel
theorem dX4_total_73 : decode cX4_total 73 = .ok (.aload_n 0, 1) := by decide +kernel
theorem dX4_total_74 : decode cX4_total 74 = .ok (.invokevirtual 80, 3) := by decide +kernel
theorem dX4_total_77 : decode cX4_total 77 = .ok (.ireturn, 1) := by decide +kernel
theorem dX4_total_78 : decode cX4_total 78 = .ok (.aload_n 0, 1) := by decide +kernel
theorem dX4_total_79 : decode cX4_total 79 = .ok (.getfield 7, 3) := by decide +kernel
theorem dX4_total_82 : decode cX4_total 82 = .ok (.iconst 4, 1) := by decide +kernel
theorem dX4_total_83 : decode cX4_total 83 = .ok (.iaload, 1) := by decide +kernel
theorem dX4_total_84 : decode cX4_total 84 = .ok (.ireturn, 1) := by decide +kernel
theorem dX4_total_85 : decode cX4_total 85 = .ok (.aload_n 0, 1) := by decide +kernel
theorem dX4_total_86 : decode cX4_total 86 = .ok (.getfield 7, 3) := by decide +kernel
theorem dX4_total_89 : decode cX4_total 89 = .ok (.iconst 5, 1) := by decide +kernel
theorem dX4_total_90 : decode cX4_total 90 = .ok (.iaload, 1) := by decide +kernel
theorem dX4_total_91 : decode cX4_total 91 = .ok (.ireturn, 1) := by decide +kernel
theorem dX4_total_92 : decode cX4_total 92 = .ok (.aload_n 0, 1) := by decide +kernel
theorem dX4_total_93 : decode cX4_total 93 = .ok (.getfield 7, 3) := by decide +kernel
theorem dX4_total_96 : decode cX4_total 96 = .ok (.bipush 6, 2) := by decide +kernel
theorem dX4_total_98 : decode cX4_total 98 = .ok (.iaload, 1) := by decide +kernel
theorem dX4_total_99 : decode cX4_total 99 = .ok (.ireturn, 1) := by decide +kernel
theorem dX4_total_100 : decode cX4_total 100 = .ok (.aload_n 0, 1) := by decide +kernel
theorem dX4_total_101 : decode cX4_total 101 = .ok (.invokevirtual 129, 3) := by decide +kernel
theorem dX4_total_104 : decode cX4_total 104 = .ok (.ireturn, 1) := by decide +kernel
theorem dX4_total_105 : decode cX4_total 105 = .ok (.aload_n 0, 1) := by decide +kernel
theorem dX4_total_106 : decode cX4_total 106 = .ok (.getfield 7, 3) := by decide +kernel
theorem dX4_total_109 : decode cX4_total 109 = .ok (.bipush 7, 2) := by decide +kernel
theorem dX4_total_111 : decode cX4_total 111 = .ok (.iaload, 1) := by decide +kernel
theorem dX4_total_112 : decode cX4_total 112 = .ok (.ireturn, 1) := by decide +kernel
theorem dX4_total_113 : decode cX4_total 113 = .ok (.bipush (-2), 2) := by decide +kernel
theorem dX4_total_115 : decode cX4_total 115 = .ok (.ireturn, 1) := by decide +kernel
theorem dX4_ahead_0 : decode cX4_ahead 0 = .ok (.iconst 0, 1) := by decide +kernel
theorem dX4_ahead_1 : decode cX4_ahead 1 = .ok (.istore_n 2, 1) := by decide +kernel
theorem dX4_ahead_2 : decode cX4_ahead 2 = .ok (.iconst 0, 1) := by decide +kernel
theorem dX4_ahead_3 : decode cX4_ahead 3 = .ok (.istore_n 3, 1) := by decide +kernel
theorem dX4_ahead_4 : decode cX4_ahead 4 = .ok (.iload_n 3, 1) := by decide +kernel
theorem dX4_ahead_5 : decode cX4_ahead 5 = .ok (.aload_n 0, 1) := by decide +kernel
theorem dX4_ahead_6 : decode cX4_ahead 6 = .ok (.getfield 7, 3) := by decide +kernel
theorem dX4_ahead_9 : decode cX4_ahead 9 = .ok (.iconst 1, 1) := by decide +kernel
theorem dX4_ahead_10 : decode cX4_ahead 10 = .ok (.iaload, 1) := by decide +kernel
theorem dX4_ahead_11 : decode cX4_ahead 11 = .ok (.if_icmp .ge 48, 3) := by decide +kernel
theorem dX4_ahead_14 : decode cX4_ahead 14 = .ok (.iload_n 2, 1) := by decide +kernel
theorem dX4_ahead_15 : decode cX4_ahead 15 = .ok (.aload_n 0, 1) := by decide +kernel
theorem dX4_ahead_16 : decode cX4_ahead 16 = .ok (.iload_n 3, 1) := by decide +kernel
theorem dX4_ahead_17 : decode cX4_ahead 17 = .ok (.invokevirtual 126, 3) := by decide +kernel
theorem dX4_ahead_20 : decode cX4_ahead 20 = .ok (.aload_n 0, 1) := by decide +kernel
theorem dX4_ahead_21 : decode cX4_ahead 21 = .ok (.iload_n 1, 1) := by decide +kernel
theorem dX4_ahead_22 : decode cX4_ahead 22 = .ok (.invokevirtual 126, 3) := by decide +kernel
theorem dX4_ahead_25 : decode cX4_ahead 25 = .ok (.if_icmp .gt 21, 3) := by decide +kernel
theorem dX4_ahead_28 : decode cX4_ahead 28 = .ok (.aload_n 0, 1) := by decide +kernel
theorem dX4_ahead_29 : decode cX4_ahead 29 = .ok (.iload_n 3, 1) := by decide +kernel
theorem dX4_ahead_30 : decode cX4_ahead 30 = .ok (.invokevirtual 126, 3) := by decide +kernel
theorem dX4_ahead_33 : decode cX4_ahead 33 = .ok (.aload_n 0, 1) := by decide +kernel
theorem dX4_ahead_34 : decode cX4_ahead 34 = .ok (.iload_n 1, 1) := by decide +kernel
theorem dX4_ahead_35 : decode cX4_ahead 35 = .ok (.invokevirtual 126, 3) := by decide +kernel
theorem dX4_ahead_38 : decode cX4_ahead 38 = .ok (.if_icmp .ne 12, 3) := by decide +kernel
theorem dX4_ahead_41 : decode cX4_ahead 41 = .ok (.iload_n 3, 1) := by decide +kernel
theorem dX4_ahead_42 : decode cX4_ahead 42 = .ok (.iload_n 1, 1) := by decide +kernel
theorem dX4_ahead_43 : decode cX4_ahead 43 = .ok (.if_icmp .ge 7, 3) := by decide +kernel
theorem dX4_ahead_46 : decode cX4_ahead 46 = .ok (.iconst 1, 1) := by decide +kernel
theorem dX4_ahead_47 : decode cX4_ahead 47 = .ok (.goto 4, 3) := by decide +kernel
theorem dX4_ahead_50 : decode cX4_ahead 50 = .ok (.iconst 0, 1) := by decide +kernel
theorem dX4_ahead_51 : decode cX4_ahead 51 = .ok (.iadd, 1) := by decide +kernel
theorem dX4_ahead_52 : decode cX4_ahead 52 = .ok (.istore_n 2, 1) := by decide +kernel
theorem dX4_ahead_53 : decode cX4_ahead 53 = .ok (.iinc 3 1, 3) := by decide +kernel
theorem dX4_ahead_56 : decode cX4_ahead 56 = .ok (.goto (-52), 3) := by decide +kernel
theorem dX4_ahead_59 : decode cX4_ahead 59 = .ok (.iload_n 2, 1) := by decide +kernel
theorem dX4_ahead_60 : decode cX4_ahead 60 = .ok (.ireturn, 1) := by decide +kernel
theorem dX4_rank_0 : decode cX4_rank 0 = .ok (.iload_n 1, 1) := by decide +kernel
theorem dX4_rank_1 : decode cX4_rank 1 = .ok (.ifCond .ge 6, 3) := by decide +kernel
theorem dX4_rank_4 : decode cX4_rank 4 = .ok (.bipush (-2), 2) := by decide +kernel
theorem dX4_rank_6 : decode cX4_rank 6 = .ok (.ireturn, 1) := by decide +kernel
theorem dX4_rank_7 : decode cX4_rank 7 = .ok (.bipush (-6), 2) := by decide +kernel
theorem dX4_rank_9 : decode cX4_rank 9 = .ok (.istore_n 2, 1) := by decide +kernel
theorem dX4_rank_10 : decode cX4_rank 10 = .ok (.iconst 0, 1) := by decide +kernel
theorem dX4_rank_11 : decode cX4_rank 11 = .ok (.istore_n 3, 1) := by decide +kernel
theorem dX4_rank_12 : decode cX4_rank 12 = .ok (.iload_n 3, 1) := by decide +kernel
theorem dX4_rank_13 : decode cX4_rank 13 = .ok (.aload_n 0, 1) := by decide +kernel
theorem dX4_rank_14 : decode cX4_rank 14 = .ok (.getfield 7, 3) := by decide +kernel
theorem dX4_rank_17 : decode cX4_rank 17 = .ok (.iconst 1, 1) := by decide +kernel
theorem dX4_rank_18 : decode cX4_rank 18 = .ok (.iaload, 1) := by decide +kernel
theorem dX4_rank_19 : decode cX4_rank 19 = .ok (.if_icmp .ge 24, 3) := by decide +kernel
theorem dX4_rank_22 : decode cX4_rank 22 = .ok (.aload_n 0, 1) := by decide +kernel
theorem dX4_rank_23 : decode cX4_rank 23 = .ok (.iload_n 3, 1) := by decide +kernel
theorem dX4_rank_24 : decode cX4_rank 24 = .ok (.invokevirtual 132, 3) := by decide +kernel
theorem dX4_rank_27 : decode cX4_rank 27 = .ok (.iload_n 1, 1) := by decide +kernel
theorem dX4_rank_28 : decode cX4_rank 28 = .ok (.if_icmp .ne 7, 3) := by decide +kernel
theorem dX4_rank_31 : decode cX4_rank 31 = .ok (.iload_n 3, 1) := by decide +kernel
theorem dX4_rank_32 : decode cX4_rank 32 = .ok (.goto 4, 3) := by decide +kernel
theorem dX4_rank_35 : decode cX4_rank 35 = .ok (.iload_n 2, 1) := by decide +kernel
theorem dX4_rank_36 : decode cX4_rank 36 = .ok (.istore_n 2, 1) := by decide +kernel
theorem dX4_rank_37 : decode cX4_rank 37 = .ok (.iinc 3 1, 3) := by decide +kernel
theorem dX4_rank_40 : decode cX4_rank 40 = .ok (.goto (-28), 3) := by decide +kernel
theorem dX4_rank_43 : decode cX4_rank 43 = .ok (.iload_n 2, 1) := by decide +kernel
theorem dX4_rank_44 : decode cX4_rank 44 = .ok (.ireturn, 1) := by decide +kernel
theorem dX4_putAside_0 : decode cX4_putAside 0 = .ok (.iconst 0, 1) := by decide +kernel
theorem dX4_putAside_1 : decode cX4_putAside 1 = .ok (.istore_n 1, 1) := by decide +kernel
theorem dX4_putAside_2 : decode cX4_putAside 2 = .ok (.iload_n 1, 1) := by decide +kernel
theorem dX4_putAside_3 : decode cX4_putAside 3 = .ok (.bipush 118, 2) := by decide +kernel
theorem dX4_putAside_5 : decode cX4_putAside 5 = .ok (.if_icmp .ge 21, 3) := by decide +kernel
theorem dX4_putAside_8 : decode cX4_putAside 8 = .ok (.aload_n 0, 1) := by decide +kernel
theorem dX4_putAside_9 : decode cX4_putAside 9 = .ok (.getfield 19, 3) := by decide +kernel
theorem dX4_putAside_12 : decode cX4_putAside 12 = .ok (.iload_n 1, 1) := by decide +kernel
theorem dX4_putAside_13 : decode cX4_putAside 13 = .ok (.aload_n 0, 1) := by decide +kernel
theorem dX4_putAside_14 : decode cX4_putAside 14 = .ok (.getfield 7, 3) := by decide +kernel
theorem dX4_putAside_17 : decode cX4_putAside 17 = .ok (.iload_n 1, 1) := by decide +kernel
theorem dX4_putAside_18 : decode cX4_putAside 18 = .ok (.iaload, 1) := by decide +kernel
theorem dX4_putAside_19 : decode cX4_putAside 19 = .ok (.iastore, 1) := by decide +kernel
theorem dX4_putAside_20 : decode cX4_putAside 20 = .ok (.iinc 1 1, 3) := by decide +kernel
theorem dX4_putAside_23 : decode cX4_putAside 23 = .ok (.goto (-21), 3) := by decide +kernel
theorem dX4_putAside_26 : decode cX4_putAside 26 = .ok (.return_, 1) := by decide +kernel
theorem dX4_takeBack_0 : decode cX4_takeBack 0 = .ok (.iconst 0, 1) := by decide +kernel
theorem dX4_takeBack_1 : decode cX4_takeBack 1 = .ok (.istore_n 1, 1) := by decide +kernel
theorem dX4_takeBack_2 : decode cX4_takeBack 2 = .ok (.iload_n 1, 1) := by decide +kernel
theorem dX4_takeBack_3 : decode cX4_takeBack 3 = .ok (.bipush 118, 2) := by decide +kernel
theorem dX4_takeBack_5 : decode cX4_takeBack 5 = .ok (.if_icmp .ge 21, 3) := by decide +kernel
theorem dX4_takeBack_8 : decode cX4_takeBack 8 = .ok (.aload_n 0, 1) := by decide +kernel
theorem dX4_takeBack_9 : decode cX4_takeBack 9 = .ok (.getfield 7, 3) := by decide +kernel
theorem dX4_takeBack_12 : decode cX4_takeBack 12 = .ok (.iload_n 1, 1) := by decide +kernel
theorem dX4_takeBack_13 : decode cX4_takeBack 13 = .ok (.aload_n 0, 1) := by decide +kernel
theorem dX4_takeBack_14 : decode cX4_takeBack 14 = .ok (.getfield 19, 3) := by decide +kernel
theorem dX4_takeBack_17 : decode cX4_takeBack 17 = .ok (.iload_n 1, 1) := by decide +kernel
theorem dX4_takeBack_18 : decode cX4_takeBack 18 = .ok (.iaload, 1) := by decide +kernel
theorem dX4_takeBack_19 : decode cX4_takeBack 19 = .ok (.iastore, 1) := by decide +kernel
theorem dX4_takeBack_20 : decode cX4_takeBack 20 = .ok (.iinc 1 1, 3) := by decide +kernel
theorem dX4_takeBack_23 : decode cX4_takeBack 23 = .ok (.goto (-21), 3) := by decide +kernel
theorem dX4_takeBack_26 : decode cX4_takeBack 26 = .ok (.return_, 1) := by decide +kernel
theorem dX4_ifRolled_0 : decode cX4_ifRolled 0 = .ok (.iload_n 1, 1) := by decide +kernel
theorem dX4_ifRolled_1 : decode cX4_ifRolled 1 = .ok (.iconst 1, 1) := by decide +kernel
theorem dX4_ifRolled_2 : decode cX4_ifRolled 2 = .ok (.bipush 6, 2) := by decide +kernel
theorem dX4_ifRolled_4 : decode cX4_ifRolled 4 = .ok (.invokestatic 43, 3) := by decide +kernel
theorem dX4_ifRolled_7 : decode cX4_ifRolled 7 = .ok (.ifCond .eq 12, 3) := by decide +kernel
theorem dX4_ifRolled_10 : decode cX4_ifRolled 10 = .ok (.iload_n 2, 1) := by decide +kernel
theorem dX4_ifRolled_11 : decode cX4_ifRolled 11 = .ok (.iconst 0, 1) := by decide +kernel
theorem dX4_ifRolled_12 : decode cX4_ifRolled 12 = .ok (.iconst 4, 1) := by decide +kernel
theorem dX4_ifRolled_13 : decode cX4_ifRolled 13 = .ok (.invokestatic 43, 3) := by decide +kernel
theorem dX4_ifRolled_16 : decode cX4_ifRolled 16 = .ok (.ifCond .ne 6, 3) := by decide +kernel
theorem dX4_ifRolled_19 : decode cX4_ifRolled 19 = .ok (.bipush (-2), 2) := by decide +kernel
theorem dX4_ifRolled_21 : decode cX4_ifRolled 21 = .ok (.ireturn, 1) := by decide +kernel
theorem dX4_ifRolled_22 : decode cX4_ifRolled 22 = .ok (.aload_n 0, 1) := by decide +kernel
theorem dX4_ifRolled_23 : decode cX4_ifRolled 23 = .ok (.getfield 7, 3) := by decide +kernel
theorem dX4_ifRolled_26 : decode cX4_ifRolled 26 = .ok (.iconst 1, 1) := by decide +kernel
theorem dX4_ifRolled_27 : decode cX4_ifRolled 27 = .ok (.iaload, 1) := by decide +kernel
theorem dX4_ifRolled_28 : decode cX4_ifRolled 28 = .ok (.ifCond .ne 6, 3) := by decide +kernel
theorem dX4_ifRolled_31 : decode cX4_ifRolled 31 = .ok (.bipush (-3), 2) := by decide +kernel
theorem dX4_ifRolled_33 : decode cX4_ifRolled 33 = .ok (.ireturn, 1) := by decide +kernel
theorem dX4_ifRolled_34 : decode cX4_ifRolled 34 = .ok (.aload_n 0, 1) := by decide +kernel
theorem dX4_ifRolled_35 : decode cX4_ifRolled 35 = .ok (.invokevirtual 129, 3) := by decide +kernel
theorem dX4_ifRolled_38 : decode cX4_ifRolled 38 = .ok (.istore_n 3, 1) := by decide +kernel
theorem dX4_ifRolled_39 : decode cX4_ifRolled 39 = .ok (.aload_n 0, 1) := by decide +kernel
theorem dX4_ifRolled_40 : decode cX4_ifRolled 40 = .ok (.invokevirtual 135, 3) := by decide +kernel
theorem dX4_ifRolled_43 : decode cX4_ifRolled 43 = .ok (.aload_n 0, 1) := by decide +kernel
theorem dX4_ifRolled_44 : decode cX4_ifRolled 44 = .ok (.iload_n 1, 1) := by decide +kernel
theorem dX4_ifRolled_45 : decode cX4_ifRolled 45 = .ok (.invokevirtual 120, 3) := by decide +kernel
theorem dX4_ifRolled_48 : decode cX4_ifRolled 48 = .ok (.istore 4, 2) := by decide +kernel
theorem dX4_ifRolled_50 : decode cX4_ifRolled 50 = .ok (.iload_n 2, 1) := by decide +kernel
theorem dX4_ifRolled_51 : decode cX4_ifRolled 51 = .ok (.ifCond .ne 8, 3) := by decide +kernel
theorem dX4_ifRolled_54 : decode cX4_ifRolled 54 = .ok (.iload 4, 2) := by decide +kernel
theorem dX4_ifRolled_56 : decode cX4_ifRolled 56 = .ok (.goto 67, 3) := by decide +kernel
theorem dX4_ifRolled_59 : decode cX4_ifRolled 59 = .ok (.iload_n 2, 1) := by decide +kernel
theorem dX4_ifRolled_60 : decode cX4_ifRolled 60 = .ok (.iconst 1, 1) := by decide +kernel
theorem dX4_ifRolled_61 : decode cX4_ifRolled 61 = .ok (.if_icmp .ne 19, 3) := by decide +kernel
theorem dX4_ifRolled_64 : decode cX4_ifRolled 64 = .ok (.aload_n 0, 1) := by decide +kernel
theorem dX4_ifRolled_65 : decode cX4_ifRolled 65 = .ok (.getfield 7, 3) := by decide +kernel
theorem dX4_ifRolled_68 : decode cX4_ifRolled 68 = .ok (.iconst 5, 1) := by decide +kernel
theorem dX4_ifRolled_69 : decode cX4_ifRolled 69 = .ok (.iaload, 1) := by decide +kernel
theorem dX4_ifRolled_70 : decode cX4_ifRolled 70 = .ok (.aload_n 0, 1) := by decide +kernel
theorem dX4_ifRolled_71 : decode cX4_ifRolled 71 = .ok (.getfield 19, 3) := by decide +kernel
theorem dX4_ifRolled_74 : decode cX4_ifRolled 74 = .ok (.iconst 5, 1) := by decide +kernel
theorem dX4_ifRolled_75 : decode cX4_ifRolled 75 = .ok (.iaload, 1) := by decide +kernel
theorem dX4_ifRolled_76 : decode cX4_ifRolled 76 = .ok (.isub, 1) := by decide +kernel
theorem dX4_ifRolled_77 : decode cX4_ifRolled 77 = .ok (.goto 46, 3) := by decide +kernel
theorem dX4_ifRolled_80 : decode cX4_ifRolled 80 = .ok (.iload_n 2, 1) := by decide +kernel
theorem dX4_ifRolled_81 : decode cX4_ifRolled 81 = .ok (.iconst 2, 1) := by decide +kernel
theorem dX4_ifRolled_82 : decode cX4_ifRolled 82 = .ok (.if_icmp .ne 12, 3) := by decide +kernel
theorem dX4_ifRolled_85 : decode cX4_ifRolled 85 = .ok (.aload_n 0, 1) := by decide +kernel
theorem dX4_ifRolled_86 : decode cX4_ifRolled 86 = .ok (.invokevirtual 129, 3) := by decide +kernel
theorem dX4_ifRolled_89 : decode cX4_ifRolled 89 = .ok (.iload_n 3, 1) := by decide +kernel
theorem dX4_ifRolled_90 : decode cX4_ifRolled 90 = .ok (.isub, 1) := by decide +kernel
theorem dX4_ifRolled_91 : decode cX4_ifRolled 91 = .ok (.goto 32, 3) := by decide +kernel
theorem dX4_ifRolled_94 : decode cX4_ifRolled 94 = .ok (.iload_n 2, 1) := by decide +kernel
theorem dX4_ifRolled_95 : decode cX4_ifRolled 95 = .ok (.iconst 3, 1) := by decide +kernel
theorem dX4_ifRolled_96 : decode cX4_ifRolled 96 = .ok (.if_icmp .ne 21, 3) := by decide +kernel
theorem dX4_ifRolled_99 : decode cX4_ifRolled 99 = .ok (.aload_n 0, 1) := by decide +kernel
theorem dX4_ifRolled_100 : decode cX4_ifRolled 100 = .ok (.getfield 7, 3) := by decide +kernel
theorem dX4_ifRolled_103 : decode cX4_ifRolled 103 = .ok (.bipush 6, 2) := by decide +kernel
theorem dX4_ifRolled_105 : decode cX4_ifRolled 105 = .ok (.iaload, 1) := by decide +kernel
theorem dX4_ifRolled_106 : decode cX4_ifRolled 106 = .ok (.aload_n 0, 1) := by decide +kernel
theorem dX4_ifRolled_107 : decode cX4_ifRolled 107 = .ok (.getfield 19, 3) := by decide +kernel
theorem dX4_ifRolled_110 : decode cX4_ifRolled 110 = .ok (.bipush 6, 2) := by decide +kernel
theorem dX4_ifRolled_112 : decode cX4_ifRolled 112 = .ok (.iaload, 1) := by decide +kernel
theorem dX4_ifRolled_113 : decode cX4_ifRolled 113 = .ok (.isub, 1) := by decide +kernel
theorem dX4_ifRolled_114 : decode cX4_ifRolled 114 = .ok (.goto 9, 3) := by decide +kernel
theorem dX4_ifRolled_117 : decode cX4_ifRolled 117 = .ok (.aload_n 0, 1) := by decide +kernel
theorem dX4_ifRolled_118 : decode cX4_ifRolled 118 = .ok (.getfield 7, 3) := by decide +kernel
theorem dX4_ifRolled_121 : decode cX4_ifRolled 121 = .ok (.iconst 2, 1) := by decide +kernel
theorem dX4_ifRolled_122 : decode cX4_ifRolled 122 = .ok (.iaload, 1) := by decide +kernel
theorem dX4_ifRolled_123 : decode cX4_ifRolled 123 = .ok (.istore 4, 2) := by decide +kernel
theorem dX4_ifRolled_125 : decode cX4_ifRolled 125 = .ok (.aload_n 0, 1) := by decide +kernel
theorem dX4_ifRolled_126 : decode cX4_ifRolled 126 = .ok (.invokevirtual 138, 3) := by decide +kernel
theorem dX4_ifRolled_129 : decode cX4_ifRolled 129 = .ok (.iload 4, 2) := by decide +kernel
theorem dX4_ifRolled_131 : decode cX4_ifRolled 131 = .ok (.ireturn, 1) := by decide +kernel
theorem dX4_worth_0 : decode cX4_worth 0 = .ok (.iconst 2, 1) := by decide +kernel
theorem dX4_worth_1 : decode cX4_worth 1 = .ok (.aload_n 0, 1) := by decide +kernel
theorem dX4_worth_2 : decode cX4_worth 2 = .ok (.iload_n 1, 1) := by decide +kernel
theorem dX4_worth_3 : decode cX4_worth 3 = .ok (.invokevirtual 126, 3) := by decide +kernel
theorem dX4_worth_6 : decode cX4_worth 6 = .ok (.imul, 1) := by decide +kernel
theorem dX4_worth_7 : decode cX4_worth 7 = .ok (.istore_n 2, 1) := by decide +kernel
theorem dX4_worth_8 : decode cX4_worth 8 = .ok (.iconst 0, 1) := by decide +kernel
theorem dX4_worth_9 : decode cX4_worth 9 = .ok (.istore_n 3, 1) := by decide +kernel
theorem dX4_worth_10 : decode cX4_worth 10 = .ok (.iload_n 3, 1) := by decide +kernel
theorem dX4_worth_11 : decode cX4_worth 11 = .ok (.aload_n 0, 1) := by decide +kernel
theorem dX4_worth_12 : decode cX4_worth 12 = .ok (.getfield 7, 3) := by decide +kernel
theorem dX4_worth_15 : decode cX4_worth 15 = .ok (.iconst 1, 1) := by decide +kernel
theorem dX4_worth_16 : decode cX4_worth 16 = .ok (.iaload, 1) := by decide +kernel
theorem dX4_worth_17 : decode cX4_worth 17 = .ok (.if_icmp .ge 17, 3) := by decide +kernel
theorem dX4_worth_20 : decode cX4_worth 20 = .ok (.iload_n 2, 1) := by decide +kernel
theorem dX4_worth_21 : decode cX4_worth 21 = .ok (.aload_n 0, 1) := by decide +kernel
theorem dX4_worth_22 : decode cX4_worth 22 = .ok (.iload_n 3, 1) := by decide +kernel
theorem dX4_worth_23 : decode cX4_worth 23 = .ok (.invokevirtual 126, 3) := by decide +kernel
theorem dX4_worth_26 : decode cX4_worth 26 = .ok (.isub, 1) := by decide +kernel
theorem dX4_worth_27 : decode cX4_worth 27 = .ok (.istore_n 2, 1) := by decide +kernel
theorem dX4_worth_28 : decode cX4_worth 28 = .ok (.iinc 3 1, 3) := by decide +kernel
theorem dX4_worth_31 : decode cX4_worth 31 = .ok (.goto (-21), 3) := by decide +kernel
theorem dX4_worth_34 : decode cX4_worth 34 = .ok (.iload_n 2, 1) := by decide +kernel
theorem dX4_worth_35 : decode cX4_worth 35 = .ok (.ireturn, 1) := by decide +kernel
theorem dX4_bestRoll_0 : decode cX4_bestRoll 0 = .ok (.aload_n 0, 1) := by decide +kernel
theorem dX4_bestRoll_1 : decode cX4_bestRoll 1 = .ok (.getfield 7, 3) := by decide +kernel
theorem dX4_bestRoll_4 : decode cX4_bestRoll 4 = .ok (.iconst 1, 1) := by decide +kernel
theorem dX4_bestRoll_5 : decode cX4_bestRoll 5 = .ok (.iaload, 1) := by decide +kernel
theorem dX4_bestRoll_6 : decode cX4_bestRoll 6 = .ok (.ifCond .ne 6, 3) := by decide +kernel
theorem dX4_bestRoll_9 : decode cX4_bestRoll 9 = .ok (.bipush (-6), 2) := by decide +kernel
theorem dX4_bestRoll_11 : decode cX4_bestRoll 11 = .ok (.ireturn, 1) := by decide +kernel
theorem dX4_bestRoll_12 : decode cX4_bestRoll 12 = .ok (.aload_n 0, 1) := by decide +kernel
theorem dX4_bestRoll_13 : decode cX4_bestRoll 13 = .ok (.getfield 7, 3) := by decide +kernel
theorem dX4_bestRoll_16 : decode cX4_bestRoll 16 = .ok (.iconst 2, 1) := by decide +kernel
theorem dX4_bestRoll_17 : decode cX4_bestRoll 17 = .ok (.iaload, 1) := by decide +kernel
theorem dX4_bestRoll_18 : decode cX4_bestRoll 18 = .ok (.istore_n 1, 1) := by decide +kernel
theorem dX4_bestRoll_19 : decode cX4_bestRoll 19 = .ok (.bipush (-6), 2) := by decide +kernel
theorem dX4_bestRoll_21 : decode cX4_bestRoll 21 = .ok (.istore_n 2, 1) := by decide +kernel
theorem dX4_bestRoll_22 : decode cX4_bestRoll 22 = .ok (.iconst 0, 1) := by decide +kernel
theorem dX4_bestRoll_23 : decode cX4_bestRoll 23 = .ok (.istore_n 3, 1) := by decide +kernel
theorem dX4_bestRoll_24 : decode cX4_bestRoll 24 = .ok (.iconst 1, 1) := by decide +kernel
theorem dX4_bestRoll_25 : decode cX4_bestRoll 25 = .ok (.istore 4, 2) := by decide +kernel
theorem dX4_bestRoll_27 : decode cX4_bestRoll 27 = .ok (.iload 4, 2) := by decide +kernel
theorem dX4_bestRoll_29 : decode cX4_bestRoll 29 = .ok (.bipush 6, 2) := by decide +kernel
theorem dX4_bestRoll_31 : decode cX4_bestRoll 31 = .ok (.if_icmp .gt 74, 3) := by decide +kernel
theorem dX4_bestRoll_34 : decode cX4_bestRoll 34 = .ok (.aload_n 0, 1) := by decide +kernel
theorem dX4_bestRoll_35 : decode cX4_bestRoll 35 = .ok (.invokevirtual 135, 3) := by decide +kernel
theorem dX4_bestRoll_38 : decode cX4_bestRoll 38 = .ok (.aload_n 0, 1) := by decide +kernel
theorem dX4_bestRoll_39 : decode cX4_bestRoll 39 = .ok (.iload 4, 2) := by decide +kernel
theorem dX4_bestRoll_41 : decode cX4_bestRoll 41 = .ok (.invokevirtual 120, 3) := by decide +kernel
theorem dX4_bestRoll_44 : decode cX4_bestRoll 44 = .ok (.pop, 1) := by decide +kernel
theorem dX4_bestRoll_45 : decode cX4_bestRoll 45 = .ok (.aload_n 0, 1) := by decide +kernel
theorem dX4_bestRoll_46 : decode cX4_bestRoll 46 = .ok (.iload_n 1, 1) := by decide +kernel
theorem dX4_bestRoll_47 : decode cX4_bestRoll 47 = .ok (.invokevirtual 141, 3) := by decide +kernel
theorem dX4_bestRoll_50 : decode cX4_bestRoll 50 = .ok (.istore 5, 2) := by decide +kernel
theorem dX4_bestRoll_52 : decode cX4_bestRoll 52 = .ok (.aload_n 0, 1) := by decide +kernel
theorem dX4_bestRoll_53 : decode cX4_bestRoll 53 = .ok (.invokevirtual 138, 3) := by decide +kernel
theorem dX4_bestRoll_56 : decode cX4_bestRoll 56 = .ok (.iload_n 2, 1) := by decide +kernel
theorem dX4_bestRoll_57 : decode cX4_bestRoll 57 = .ok (.bipush (-6), 2) := by decide +kernel
theorem dX4_bestRoll_59 : decode cX4_bestRoll 59 = .ok (.if_icmp .eq 9, 3) := by decide +kernel
theorem dX4_bestRoll_62 : decode cX4_bestRoll 62 = .ok (.iload 5, 2) := by decide +kernel
theorem dX4_bestRoll_64 : decode cX4_bestRoll 64 = .ok (.iload_n 3, 1) := by decide +kernel
theorem dX4_bestRoll_65 : decode cX4_bestRoll 65 = .ok (.if_icmp .le 7, 3) := by decide +kernel
theorem dX4_bestRoll_68 : decode cX4_bestRoll 68 = .ok (.iconst 1, 1) := by decide +kernel
theorem dX4_bestRoll_69 : decode cX4_bestRoll 69 = .ok (.goto 4, 3) := by decide +kernel
theorem dX4_bestRoll_72 : decode cX4_bestRoll 72 = .ok (.iconst 0, 1) := by decide +kernel
theorem dX4_bestRoll_73 : decode cX4_bestRoll 73 = .ok (.istore 6, 2) := by decide +kernel
theorem dX4_bestRoll_75 : decode cX4_bestRoll 75 = .ok (.iload 6, 2) := by decide +kernel
theorem dX4_bestRoll_77 : decode cX4_bestRoll 77 = .ok (.ifCond .eq 8, 3) := by decide +kernel
theorem dX4_bestRoll_80 : decode cX4_bestRoll 80 = .ok (.iload 4, 2) := by decide +kernel
theorem dX4_bestRoll_82 : decode cX4_bestRoll 82 = .ok (.goto 4, 3) := by decide +kernel
theorem dX4_bestRoll_85 : decode cX4_bestRoll 85 = .ok (.iload_n 2, 1) := by decide +kernel
theorem dX4_bestRoll_86 : decode cX4_bestRoll 86 = .ok (.istore_n 2, 1) := by decide +kernel
theorem dX4_bestRoll_87 : decode cX4_bestRoll 87 = .ok (.iload 6, 2) := by decide +kernel
theorem dX4_bestRoll_89 : decode cX4_bestRoll 89 = .ok (.ifCond .eq 8, 3) := by decide +kernel
theorem dX4_bestRoll_92 : decode cX4_bestRoll 92 = .ok (.iload 5, 2) := by decide +kernel
theorem dX4_bestRoll_94 : decode cX4_bestRoll 94 = .ok (.goto 4, 3) := by decide +kernel
theorem dX4_bestRoll_97 : decode cX4_bestRoll 97 = .ok (.iload_n 3, 1) := by decide +kernel
theorem dX4_bestRoll_98 : decode cX4_bestRoll 98 = .ok (.istore_n 3, 1) := by decide +kernel
theorem dX4_bestRoll_99 : decode cX4_bestRoll 99 = .ok (.iinc 4 1, 3) := by decide +kernel
theorem dX4_bestRoll_102 : decode cX4_bestRoll 102 = .ok (.goto (-75), 3) := by decide +kernel
theorem dX4_bestRoll_105 : decode cX4_bestRoll 105 = .ok (.iload_n 2, 1) := by decide +kernel
theorem dX4_bestRoll_106 : decode cX4_bestRoll 106 = .ok (.ireturn, 1) := by decide +kernel
theorem dX4_quietRolls_0 : decode cX4_quietRolls 0 = .ok (.aload_n 0, 1) := by decide +kernel
theorem dX4_quietRolls_1 : decode cX4_quietRolls 1 = .ok (.getfield 7, 3) := by decide +kernel
theorem dX4_quietRolls_4 : decode cX4_quietRolls 4 = .ok (.iconst 1, 1) := by decide +kernel
theorem dX4_quietRolls_5 : decode cX4_quietRolls 5 = .ok (.iaload, 1) := by decide +kernel
theorem dX4_quietRolls_6 : decode cX4_quietRolls 6 = .ok (.ifCond .ne 6, 3) := by decide +kernel
theorem dX4_quietRolls_9 : decode cX4_quietRolls 9 = .ok (.bipush (-6), 2) := by decide +kernel
theorem dX4_quietRolls_11 : decode cX4_quietRolls 11 = .ok (.ireturn, 1) := by decide +kernel
theorem dX4_quietRolls_12 : decode cX4_quietRolls 12 = .ok (.iconst 0, 1) := by decide +kernel
theorem dX4_quietRolls_13 : decode cX4_quietRolls 13 = .ok (.istore_n 1, 1) := by decide +kernel
theorem dX4_quietRolls_14 : decode cX4_quietRolls 14 = .ok (.iconst 1, 1) := by decide +kernel
theorem dX4_quietRolls_15 : decode cX4_quietRolls 15 = .ok (.istore_n 2, 1) := by decide +kernel
theorem dX4_quietRolls_16 : decode cX4_quietRolls 16 = .ok (.iload_n 2, 1) := by decide +kernel
theorem dX4_quietRolls_17 : decode cX4_quietRolls 17 = .ok (.bipush 6, 2) := by decide +kernel
theorem dX4_quietRolls_19 : decode cX4_quietRolls 19 = .ok (.if_icmp .gt 27, 3) := by decide +kernel
theorem dX4_quietRolls_22 : decode cX4_quietRolls 22 = .ok (.iload_n 1, 1) := by decide +kernel
theorem dX4_quietRolls_23 : decode cX4_quietRolls 23 = .ok (.aload_n 0, 1) := by decide +kernel
theorem dX4_quietRolls_24 : decode cX4_quietRolls 24 = .ok (.iload_n 2, 1) := by decide +kernel
theorem dX4_quietRolls_25 : decode cX4_quietRolls 25 = .ok (.invokevirtual 104, 3) := by decide +kernel
theorem dX4_quietRolls_28 : decode cX4_quietRolls 28 = .ok (.ifCond .ne 9, 3) := by decide +kernel
theorem dX4_quietRolls_31 : decode cX4_quietRolls 31 = .ok (.iconst 1, 1) := by decide +kernel
theorem dX4_quietRolls_32 : decode cX4_quietRolls 32 = .ok (.iload_n 2, 1) := by decide +kernel
theorem dX4_quietRolls_33 : decode cX4_quietRolls 33 = .ok (.ishl, 1) := by decide +kernel
theorem dX4_quietRolls_34 : decode cX4_quietRolls 34 = .ok (.goto 4, 3) := by decide +kernel
theorem dX4_quietRolls_37 : decode cX4_quietRolls 37 = .ok (.iconst 0, 1) := by decide +kernel
theorem dX4_quietRolls_38 : decode cX4_quietRolls 38 = .ok (.ior, 1) := by decide +kernel
theorem dX4_quietRolls_39 : decode cX4_quietRolls 39 = .ok (.istore_n 1, 1) := by decide +kernel
theorem dX4_quietRolls_40 : decode cX4_quietRolls 40 = .ok (.iinc 2 1, 3) := by decide +kernel
theorem dX4_quietRolls_43 : decode cX4_quietRolls 43 = .ok (.goto (-27), 3) := by decide +kernel
theorem dX4_quietRolls_46 : decode cX4_quietRolls 46 = .ok (.iload_n 1, 1) := by decide +kernel
theorem dX4_quietRolls_47 : decode cX4_quietRolls 47 = .ok (.ireturn, 1) := by decide +kernel
theorem dX4_rollsToTop_0 : decode cX4_rollsToTop 0 = .ok (.aload_n 0, 1) := by decide +kernel
theorem dX4_rollsToTop_1 : decode cX4_rollsToTop 1 = .ok (.iload_n 1, 1) := by decide +kernel
theorem dX4_rollsToTop_2 : decode cX4_rollsToTop 2 = .ok (.invokevirtual 123, 3) := by decide +kernel
theorem dX4_rollsToTop_5 : decode cX4_rollsToTop 5 = .ok (.ifCond .ne 5, 3) := by decide +kernel
theorem dX4_rollsToTop_8 : decode cX4_rollsToTop 8 = .ok (.iconst (-1), 1) := by decide +kernel
theorem dX4_rollsToTop_9 : decode cX4_rollsToTop 9 = .ok (.ireturn, 1) := by decide +kernel
theorem dX4_rollsToTop_10 : decode cX4_rollsToTop 10 = .ok (.iconst 0, 1) := by decide +kernel
theorem dX4_rollsToTop_11 : decode cX4_rollsToTop 11 = .ok (.istore_n 2, 1) := by decide +kernel
theorem dX4_rollsToTop_12 : decode cX4_rollsToTop 12 = .ok (.iload_n 2, 1) := by decide +kernel
theorem dX4_rollsToTop_13 : decode cX4_rollsToTop 13 = .ok (.bipush 61, 2) := by decide +kernel
theorem dX4_rollsToTop_15 : decode cX4_rollsToTop 15 = .ok (.if_icmp .ge 17, 3) := by decide +kernel
theorem dX4_rollsToTop_18 : decode cX4_rollsToTop 18 = .ok (.aload_n 0, 1) := by decide +kernel
theorem dX4_rollsToTop_19 : decode cX4_rollsToTop 19 = .ok (.getfield 26, 3) := by decide +kernel
theorem dX4_rollsToTop_22 : decode cX4_rollsToTop 22 = .ok (.iload_n 2, 1) := by decide +kernel
theorem dX4_rollsToTop_23 : decode cX4_rollsToTop 23 = .ok (.bipush (-6), 2) := by decide +kernel
theorem dX4_rollsToTop_25 : decode cX4_rollsToTop 25 = .ok (.iastore, 1) := by decide +kernel
theorem dX4_rollsToTop_26 : decode cX4_rollsToTop 26 = .ok (.iinc 2 1, 3) := by decide +kernel
theorem dX4_rollsToTop_29 : decode cX4_rollsToTop 29 = .ok (.goto (-17), 3) := by decide +kernel
theorem dX4_rollsToTop_32 : decode cX4_rollsToTop 32 = .ok (.aload_n 0, 1) := by decide +kernel
theorem dX4_rollsToTop_33 : decode cX4_rollsToTop 33 = .ok (.getfield 26, 3) := by decide +kernel
theorem dX4_rollsToTop_36 : decode cX4_rollsToTop 36 = .ok (.aload_n 0, 1) := by decide +kernel
theorem dX4_rollsToTop_37 : decode cX4_rollsToTop 37 = .ok (.iload_n 1, 1) := by decide +kernel
theorem dX4_rollsToTop_38 : decode cX4_rollsToTop 38 = .ok (.iconst 0, 1) := by decide +kernel
theorem dX4_rollsToTop_39 : decode cX4_rollsToTop 39 = .ok (.invokevirtual 54, 3) := by decide +kernel
theorem dX4_rollsToTop_42 : decode cX4_rollsToTop 42 = .ok (.iconst 0, 1) := by decide +kernel
theorem dX4_rollsToTop_43 : decode cX4_rollsToTop 43 = .ok (.iastore, 1) := by decide +kernel
theorem dX4_rollsToTop_44 : decode cX4_rollsToTop 44 = .ok (.iconst 1, 1) := by decide +kernel
theorem dX4_rollsToTop_45 : decode cX4_rollsToTop 45 = .ok (.istore_n 2, 1) := by decide +kernel
theorem dX4_rollsToTop_46 : decode cX4_rollsToTop 46 = .ok (.iload_n 2, 1) := by decide +kernel
theorem dX4_rollsToTop_47 : decode cX4_rollsToTop 47 = .ok (.bipush 61, 2) := by decide +kernel
theorem dX4_rollsToTop_49 : decode cX4_rollsToTop 49 = .ok (.if_icmp .gt 132, 3) := by decide +kernel
theorem dX4_rollsToTop_52 : decode cX4_rollsToTop 52 = .ok (.iconst 0, 1) := by decide +kernel
theorem dX4_rollsToTop_53 : decode cX4_rollsToTop 53 = .ok (.istore_n 3, 1) := by decide +kernel
theorem dX4_rollsToTop_54 : decode cX4_rollsToTop 54 = .ok (.iload_n 3, 1) := by decide +kernel
theorem dX4_rollsToTop_55 : decode cX4_rollsToTop 55 = .ok (.aload_n 0, 1) := by decide +kernel
theorem dX4_rollsToTop_56 : decode cX4_rollsToTop 56 = .ok (.getfield 7, 3) := by decide +kernel
theorem dX4_rollsToTop_59 : decode cX4_rollsToTop 59 = .ok (.iconst 0, 1) := by decide +kernel
theorem dX4_rollsToTop_60 : decode cX4_rollsToTop 60 = .ok (.iaload, 1) := by decide +kernel
theorem dX4_rollsToTop_61 : decode cX4_rollsToTop 61 = .ok (.if_icmp .ge 114, 3) := by decide +kernel
theorem dX4_rollsToTop_64 : decode cX4_rollsToTop 64 = .ok (.iconst 1, 1) := by decide +kernel
theorem dX4_rollsToTop_65 : decode cX4_rollsToTop 65 = .ok (.istore 4, 2) := by decide +kernel
theorem dX4_rollsToTop_67 : decode cX4_rollsToTop 67 = .ok (.iload 4, 2) := by decide +kernel
theorem dX4_rollsToTop_69 : decode cX4_rollsToTop 69 = .ok (.bipush 6, 2) := by decide +kernel
theorem dX4_rollsToTop_71 : decode cX4_rollsToTop 71 = .ok (.if_icmp .gt 98, 3) := by decide +kernel
theorem dX4_rollsToTop_74 : decode cX4_rollsToTop 74 = .ok (.aload_n 0, 1) := by decide +kernel
theorem dX4_rollsToTop_75 : decode cX4_rollsToTop 75 = .ok (.getfield 26, 3) := by decide +kernel
theorem dX4_rollsToTop_78 : decode cX4_rollsToTop 78 = .ok (.iload_n 3, 1) := by decide +kernel
theorem dX4_rollsToTop_79 : decode cX4_rollsToTop 79 = .ok (.iaload, 1) := by decide +kernel
theorem dX4_rollsToTop_80 : decode cX4_rollsToTop 80 = .ok (.iload_n 2, 1) := by decide +kernel
theorem dX4_rollsToTop_81 : decode cX4_rollsToTop 81 = .ok (.iconst 1, 1) := by decide +kernel
theorem dX4_rollsToTop_82 : decode cX4_rollsToTop 82 = .ok (.isub, 1) := by decide +kernel
theorem dX4_rollsToTop_83 : decode cX4_rollsToTop 83 = .ok (.if_icmp .ne 86, 3) := by decide +kernel
theorem dX4_rollsToTop_86 : decode cX4_rollsToTop 86 = .ok (.iload_n 3, 1) := by decide +kernel
theorem dX4_rollsToTop_87 : decode cX4_rollsToTop 87 = .ok (.iload 4, 2) := by decide +kernel
theorem dX4_rollsToTop_89 : decode cX4_rollsToTop 89 = .ok (.iadd, 1) := by decide +kernel
theorem dX4_rollsToTop_90 : decode cX4_rollsToTop 90 = .ok (.istore 5, 2) := by decide +kernel
theorem dX4_rollsToTop_92 : decode cX4_rollsToTop 92 = .ok (.iload 5, 2) := by decide +kernel
theorem dX4_rollsToTop_94 : decode cX4_rollsToTop 94 = .ok (.aload_n 0, 1) := by decide +kernel
theorem dX4_rollsToTop_95 : decode cX4_rollsToTop 95 = .ok (.getfield 7, 3) := by decide +kernel
theorem dX4_rollsToTop_98 : decode cX4_rollsToTop 98 = .ok (.iconst 0, 1) := by decide +kernel
theorem dX4_rollsToTop_99 : decode cX4_rollsToTop 99 = .ok (.iaload, 1) := by decide +kernel
theorem dX4_rollsToTop_100 : decode cX4_rollsToTop 100 = .ok (.if_icmp .lt 5, 3) := by decide +kernel
theorem dX4_rollsToTop_103 : decode cX4_rollsToTop 103 = .ok (.iload_n 2, 1) := by decide +kernel
theorem dX4_rollsToTop_104 : decode cX4_rollsToTop 104 = .ok (.ireturn, 1) := by decide +kernel
theorem dX4_rollsToTop_105 : decode cX4_rollsToTop 105 = .ok (.aload_n 0, 1) := by decide +kernel
theorem dX4_rollsToTop_106 : decode cX4_rollsToTop 106 = .ok (.iload 5, 2) := by decide +kernel
theorem dX4_rollsToTop_108 : decode cX4_rollsToTop 108 = .ok (.invokevirtual 65, 3) := by decide +kernel
theorem dX4_rollsToTop_111 : decode cX4_rollsToTop 111 = .ok (.istore 6, 2) := by decide +kernel
theorem dX4_rollsToTop_113 : decode cX4_rollsToTop 113 = .ok (.iload 6, 2) := by decide +kernel
theorem dX4_rollsToTop_115 : decode cX4_rollsToTop 115 = .ok (.bipush (-6), 2) := by decide +kernel
theorem dX4_rollsToTop_117 : decode cX4_rollsToTop 117 = .ok (.if_icmp .ne 8, 3) := by decide +kernel
theorem dX4_rollsToTop_120 : decode cX4_rollsToTop 120 = .ok (.iload 5, 2) := by decide +kernel
theorem dX4_rollsToTop_122 : decode cX4_rollsToTop 122 = .ok (.goto 9, 3) := by decide +kernel
theorem dX4_rollsToTop_125 : decode cX4_rollsToTop 125 = .ok (.aload_n 0, 1) := by decide +kernel
theorem dX4_rollsToTop_126 : decode cX4_rollsToTop 126 = .ok (.iload 6, 2) := by decide +kernel
theorem dX4_rollsToTop_128 : decode cX4_rollsToTop 128 = .ok (.invokevirtual 51, 3) := by decide +kernel
theorem dX4_rollsToTop_131 : decode cX4_rollsToTop 131 = .ok (.istore 5, 2) := by decide +kernel
theorem dX4_rollsToTop_133 : decode cX4_rollsToTop 133 = .ok (.aload_n 0, 1) := by decide +kernel
theorem dX4_rollsToTop_134 : decode cX4_rollsToTop 134 = .ok (.getfield 26, 3) := by decide +kernel
theorem dX4_rollsToTop_137 : decode cX4_rollsToTop 137 = .ok (.iload 5, 2) := by decide +kernel
theorem dX4_rollsToTop_139 : decode cX4_rollsToTop 139 = .ok (.aload_n 0, 1) := by decide +kernel
theorem dX4_rollsToTop_140 : decode cX4_rollsToTop 140 = .ok (.getfield 26, 3) := by decide +kernel
theorem dX4_rollsToTop_143 : decode cX4_rollsToTop 143 = .ok (.iload 5, 2) := by decide +kernel
theorem dX4_rollsToTop_145 : decode cX4_rollsToTop 145 = .ok (.iaload, 1) := by decide +kernel
theorem dX4_rollsToTop_146 : decode cX4_rollsToTop 146 = .ok (.bipush (-6), 2) := by decide +kernel
theorem dX4_rollsToTop_148 : decode cX4_rollsToTop 148 = .ok (.if_icmp .ne 7, 3) := by decide +kernel
theorem dX4_rollsToTop_151 : decode cX4_rollsToTop 151 = .ok (.iload_n 2, 1) := by decide +kernel
theorem dX4_rollsToTop_152 : decode cX4_rollsToTop 152 = .ok (.goto 10, 3) := by decide +kernel
theorem dX4_rollsToTop_155 : decode cX4_rollsToTop 155 = .ok (.aload_n 0, 1) := by decide +kernel
theorem dX4_rollsToTop_156 : decode cX4_rollsToTop 156 = .ok (.getfield 26, 3) := by decide +kernel
theorem dX4_rollsToTop_159 : decode cX4_rollsToTop 159 = .ok (.iload 5, 2) := by decide +kernel
theorem dX4_rollsToTop_161 : decode cX4_rollsToTop 161 = .ok (.iaload, 1) := by decide +kernel
theorem dX4_rollsToTop_162 : decode cX4_rollsToTop 162 = .ok (.iastore, 1) := by decide +kernel
theorem dX4_rollsToTop_163 : decode cX4_rollsToTop 163 = .ok (.iinc 4 1, 3) := by decide +kernel
theorem dX4_rollsToTop_166 : decode cX4_rollsToTop 166 = .ok (.goto (-99), 3) := by decide +kernel
theorem dX4_rollsToTop_169 : decode cX4_rollsToTop 169 = .ok (.iinc 3 1, 3) := by decide +kernel
theorem dX4_rollsToTop_172 : decode cX4_rollsToTop 172 = .ok (.goto (-118), 3) := by decide +kernel
theorem dX4_rollsToTop_175 : decode cX4_rollsToTop 175 = .ok (.iinc 2 1, 3) := by decide +kernel
theorem dX4_rollsToTop_178 : decode cX4_rollsToTop 178 = .ok (.goto (-132), 3) := by decide +kernel
theorem dX4_rollsToTop_181 : decode cX4_rollsToTop 181 = .ok (.bipush (-6), 2) := by decide +kernel
theorem dX4_rollsToTop_183 : decode cX4_rollsToTop 183 = .ok (.ireturn, 1) := by decide +kernel
theorem dX4_append_0 : decode cX4_append 0 = .ok (.iload_n 1, 1) := by decide +kernel
theorem dX4_append_1 : decode cX4_append 1 = .ok (.bipush 33, 2) := by decide +kernel
theorem dX4_append_3 : decode cX4_append 3 = .ok (.bipush 126, 2) := by decide +kernel
theorem dX4_append_5 : decode cX4_append 5 = .ok (.invokestatic 43, 3) := by decide +kernel
theorem dX4_append_8 : decode cX4_append 8 = .ok (.ifCond .ne 6, 3) := by decide +kernel
theorem dX4_append_11 : decode cX4_append 11 = .ok (.bipush (-2), 2) := by decide +kernel
theorem dX4_append_13 : decode cX4_append 13 = .ok (.ireturn, 1) := by decide +kernel
theorem dX4_append_14 : decode cX4_append 14 = .ok (.aload_n 0, 1) := by decide +kernel
theorem dX4_append_15 : decode cX4_append 15 = .ok (.getfield 144, 3) := by decide +kernel
theorem dX4_append_18 : decode cX4_append 18 = .ok (.bipush 60, 2) := by decide +kernel
theorem dX4_append_20 : decode cX4_append 20 = .ok (.if_icmp .ne 6, 3) := by decide +kernel
theorem dX4_append_23 : decode cX4_append 23 = .ok (.bipush (-4), 2) := by decide +kernel
theorem dX4_append_25 : decode cX4_append 25 = .ok (.ireturn, 1) := by decide +kernel
theorem dX4_append_26 : decode cX4_append 26 = .ok (.aload_n 0, 1) := by decide +kernel
theorem dX4_append_27 : decode cX4_append 27 = .ok (.getfield 22, 3) := by decide +kernel
theorem dX4_append_30 : decode cX4_append 30 = .ok (.aload_n 0, 1) := by decide +kernel
theorem dX4_append_31 : decode cX4_append 31 = .ok (.getfield 144, 3) := by decide +kernel
theorem dX4_append_34 : decode cX4_append 34 = .ok (.iload_n 1, 1) := by decide +kernel
theorem dX4_append_35 : decode cX4_append 35 = .ok (.i2c, 1) := by decide +kernel
theorem dX4_append_36 : decode cX4_append 36 = .ok (.castore, 1) := by decide +kernel
theorem dX4_append_37 : decode cX4_append 37 = .ok (.aload_n 0, 1) := by decide +kernel
theorem dX4_append_38 : decode cX4_append 38 = .ok (.dup, 1) := by decide +kernel
theorem dX4_append_39 : decode cX4_append 39 = .ok (.getfield 144, 3) := by decide +kernel
theorem dX4_append_42 : decode cX4_append 42 = .ok (.iconst 1, 1) := by decide +kernel
theorem dX4_append_43 : decode cX4_append 43 = .ok (.iadd, 1) := by decide +kernel
theorem dX4_append_44 : decode cX4_append 44 = .ok (.putfield 144, 3) := by decide +kernel
theorem dX4_append_47 : decode cX4_append 47 = .ok (.aload_n 0, 1) := by decide +kernel
theorem dX4_append_48 : decode cX4_append 48 = .ok (.getfield 144, 3) := by decide +kernel
theorem dX4_append_51 : decode cX4_append 51 = .ok (.ireturn, 1) := by decide +kernel
theorem dX4_clearText_0 : decode cX4_clearText 0 = .ok (.aload_n 0, 1) := by decide +kernel
theorem dX4_clearText_1 : decode cX4_clearText 1 = .ok (.getfield 144, 3) := by decide +kernel
theorem dX4_clearText_4 : decode cX4_clearText 4 = .ok (.istore_n 1, 1) := by decide +kernel
theorem dX4_clearText_5 : decode cX4_clearText 5 = .ok (.aload_n 0, 1) := by decide +kernel
theorem dX4_clearText_6 : decode cX4_clearText 6 = .ok (.iconst 0, 1) := by decide +kernel
theorem dX4_clearText_7 : decode cX4_clearText 7 = .ok (.putfield 144, 3) := by decide +kernel
theorem dX4_clearText_10 : decode cX4_clearText 10 = .ok (.iload_n 1, 1) := by decide +kernel
theorem dX4_clearText_11 : decode cX4_clearText 11 = .ok (.ireturn, 1) := by decide +kernel
theorem dX4_letter_0 : decode cX4_letter 0 = .ok (.aload_n 0, 1) := by decide +kernel
theorem dX4_letter_1 : decode cX4_letter 1 = .ok (.getfield 147, 3) := by decide +kernel
theorem dX4_letter_4 : decode cX4_letter 4 = .ok (.aload_n 0, 1) := by decide +kernel
theorem dX4_letter_5 : decode cX4_letter 5 = .ok (.getfield 144, 3) := by decide +kernel
theorem dX4_letter_8 : decode cX4_letter 8 = .ok (.if_icmp .ge 15, 3) := by decide +kernel
theorem dX4_letter_11 : decode cX4_letter 11 = .ok (.aload_n 0, 1) := by decide +kernel
theorem dX4_letter_12 : decode cX4_letter 12 = .ok (.getfield 22, 3) := by decide +kernel
theorem dX4_letter_15 : decode cX4_letter 15 = .ok (.aload_n 0, 1) := by decide +kernel
theorem dX4_letter_16 : decode cX4_letter 16 = .ok (.getfield 147, 3) := by decide +kernel
theorem dX4_letter_19 : decode cX4_letter 19 = .ok (.caload, 1) := by decide +kernel
theorem dX4_letter_20 : decode cX4_letter 20 = .ok (.goto 5, 3) := by decide +kernel
theorem dX4_letter_23 : decode cX4_letter 23 = .ok (.bipush (-6), 2) := by decide +kernel
theorem dX4_letter_25 : decode cX4_letter 25 = .ok (.ireturn, 1) := by decide +kernel
theorem dX4_wants_0 : decode cX4_wants 0 = .ok (.aload_n 0, 1) := by decide +kernel
theorem dX4_wants_1 : decode cX4_wants 1 = .ok (.getfield 150, 3) := by decide +kernel
theorem dX4_wants_4 : decode cX4_wants 4 = .ok (.bipush (-6), 2) := by decide +kernel
theorem dX4_wants_6 : decode cX4_wants 6 = .ok (.if_icmp .ne 30, 3) := by decide +kernel
theorem dX4_wants_9 : decode cX4_wants 9 = .ok (.aload_n 0, 1) := by decide +kernel
theorem dX4_wants_10 : decode cX4_wants 10 = .ok (.iload_n 1, 1) := by decide +kernel
theorem dX4_wants_11 : decode cX4_wants 11 = .ok (.ifCond .eq 8, 3) := by decide +kernel
theorem dX4_wants_14 : decode cX4_wants 14 = .ok (.bipush (-6), 2) := by decide +kernel
theorem dX4_wants_16 : decode cX4_wants 16 = .ok (.goto 7, 3) := by decide +kernel
theorem dX4_wants_19 : decode cX4_wants 19 = .ok (.aload_n 0, 1) := by decide +kernel
theorem dX4_wants_20 : decode cX4_wants 20 = .ok (.getfield 147, 3) := by decide +kernel
theorem dX4_wants_23 : decode cX4_wants 23 = .ok (.putfield 150, 3) := by decide +kernel
theorem dX4_wants_26 : decode cX4_wants 26 = .ok (.aload_n 0, 1) := by decide +kernel
theorem dX4_wants_27 : decode cX4_wants 27 = .ok (.dup, 1) := by decide +kernel
theorem dX4_wants_28 : decode cX4_wants 28 = .ok (.getfield 147, 3) := by decide +kernel
theorem dX4_wants_31 : decode cX4_wants 31 = .ok (.iconst 1, 1) := by decide +kernel
theorem dX4_wants_32 : decode cX4_wants 32 = .ok (.iadd, 1) := by decide +kernel
theorem dX4_wants_33 : decode cX4_wants 33 = .ok (.putfield 147, 3) := by decide +kernel
theorem dX4_wants_36 : decode cX4_wants 36 = .ok (.return_, 1) := by decide +kernel
theorem dX4_number_0 : decode cX4_number 0 = .ok (.aload_n 0, 1) := by decide +kernel
theorem dX4_number_1 : decode cX4_number 1 = .ok (.invokevirtual 153, 3) := by decide +kernel
theorem dX4_number_4 : decode cX4_number 4 = .ok (.bipush 48, 2) := by decide +kernel
theorem dX4_number_6 : decode cX4_number 6 = .ok (.isub, 1) := by decide +kernel
theorem dX4_number_7 : decode cX4_number 7 = .ok (.istore_n 1, 1) := by decide +kernel
theorem dX4_number_8 : decode cX4_number 8 = .ok (.aload_n 0, 1) := by decide +kernel
theorem dX4_number_9 : decode cX4_number 9 = .ok (.iload_n 1, 1) := by decide +kernel
theorem dX4_number_10 : decode cX4_number 10 = .ok (.iconst 0, 1) := by decide +kernel
theorem dX4_number_11 : decode cX4_number 11 = .ok (.bipush 9, 2) := by decide +kernel
theorem dX4_number_13 : decode cX4_number 13 = .ok (.invokestatic 43, 3) := by decide +kernel
theorem dX4_number_16 : decode cX4_number 16 = .ok (.invokevirtual 156, 3) := by decide +kernel
theorem dX4_number_19 : decode cX4_number 19 = .ok (.aload_n 0, 1) := by decide +kernel
theorem dX4_number_20 : decode cX4_number 20 = .ok (.invokevirtual 153, 3) := by decide +kernel
theorem dX4_number_23 : decode cX4_number 23 = .ok (.bipush 48, 2) := by decide +kernel
theorem dX4_number_25 : decode cX4_number 25 = .ok (.isub, 1) := by decide +kernel
theorem dX4_number_26 : decode cX4_number 26 = .ok (.istore_n 2, 1) := by decide +kernel
theorem dX4_number_27 : decode cX4_number 27 = .ok (.aload_n 0, 1) := by decide +kernel
theorem dX4_number_28 : decode cX4_number 28 = .ok (.getfield 150, 3) := by decide +kernel
theorem dX4_number_31 : decode cX4_number 31 = .ok (.bipush (-6), 2) := by decide +kernel
theorem dX4_number_33 : decode cX4_number 33 = .ok (.if_icmp .ne 34, 3) := by decide +kernel
theorem dX4_number_36 : decode cX4_number 36 = .ok (.iload_n 1, 1) := by decide +kernel
theorem dX4_number_37 : decode cX4_number 37 = .ok (.ifCond .le 30, 3) := by decide +kernel
theorem dX4_number_40 : decode cX4_number 40 = .ok (.iload_n 2, 1) := by decide +kernel
theorem dX4_number_41 : decode cX4_number 41 = .ok (.iconst 0, 1) := by decide +kernel
theorem dX4_number_42 : decode cX4_number 42 = .ok (.bipush 9, 2) := by decide +kernel
theorem dX4_number_44 : decode cX4_number 44 = .ok (.invokestatic 43, 3) := by decide +kernel
theorem dX4_number_47 : decode cX4_number 47 = .ok (.ifCond .eq 20, 3) := by decide +kernel
theorem dX4_number_50 : decode cX4_number 50 = .ok (.aload_n 0, 1) := by decide +kernel
theorem dX4_number_51 : decode cX4_number 51 = .ok (.dup, 1) := by decide +kernel
theorem dX4_number_52 : decode cX4_number 52 = .ok (.getfield 147, 3) := by decide +kernel
theorem dX4_number_55 : decode cX4_number 55 = .ok (.iconst 1, 1) := by decide +kernel
theorem dX4_number_56 : decode cX4_number 56 = .ok (.iadd, 1) := by decide +kernel
theorem dX4_number_57 : decode cX4_number 57 = .ok (.putfield 147, 3) := by decide +kernel
theorem dX4_number_60 : decode cX4_number 60 = .ok (.bipush 10, 2) := by decide +kernel
theorem dX4_number_62 : decode cX4_number 62 = .ok (.iload_n 1, 1) := by decide +kernel
theorem dX4_number_63 : decode cX4_number 63 = .ok (.imul, 1) := by decide +kernel
theorem dX4_number_64 : decode cX4_number 64 = .ok (.iload_n 2, 1) := by decide +kernel
theorem dX4_number_65 : decode cX4_number 65 = .ok (.iadd, 1) := by decide +kernel
theorem dX4_number_66 : decode cX4_number 66 = .ok (.ireturn, 1) := by decide +kernel
theorem dX4_number_67 : decode cX4_number 67 = .ok (.iload_n 1, 1) := by decide +kernel
theorem dX4_number_68 : decode cX4_number 68 = .ok (.ireturn, 1) := by decide +kernel
theorem dX4_readMove_0 : decode cX4_readMove 0 = .ok (.aload_n 0, 1) := by decide +kernel
theorem dX4_readMove_1 : decode cX4_readMove 1 = .ok (.invokevirtual 153, 3) := by decide +kernel
theorem dX4_readMove_4 : decode cX4_readMove 4 = .ok (.istore_n 1, 1) := by decide +kernel
theorem dX4_readMove_5 : decode cX4_readMove 5 = .ok (.aload_n 0, 1) := by decide +kernel
theorem dX4_readMove_6 : decode cX4_readMove 6 = .ok (.iload_n 1, 1) := by decide +kernel
theorem dX4_readMove_7 : decode cX4_readMove 7 = .ok (.bipush 49, 2) := by decide +kernel
theorem dX4_readMove_9 : decode cX4_readMove 9 = .ok (.bipush 54, 2) := by decide +kernel
theorem dX4_readMove_11 : decode cX4_readMove 11 = .ok (.invokestatic 43, 3) := by decide +kernel
theorem dX4_readMove_14 : decode cX4_readMove 14 = .ok (.ifCond .ne 27, 3) := by decide +kernel
theorem dX4_readMove_17 : decode cX4_readMove 17 = .ok (.iload_n 1, 1) := by decide +kernel
theorem dX4_readMove_18 : decode cX4_readMove 18 = .ok (.bipush 112, 2) := by decide +kernel
theorem dX4_readMove_20 : decode cX4_readMove 20 = .ok (.if_icmp .eq 21, 3) := by decide +kernel
theorem dX4_readMove_23 : decode cX4_readMove 23 = .ok (.iload_n 1, 1) := by decide +kernel
theorem dX4_readMove_24 : decode cX4_readMove 24 = .ok (.bipush 106, 2) := by decide +kernel
theorem dX4_readMove_26 : decode cX4_readMove 26 = .ok (.if_icmp .eq 15, 3) := by decide +kernel
theorem dX4_readMove_29 : decode cX4_readMove 29 = .ok (.iload_n 1, 1) := by decide +kernel
theorem dX4_readMove_30 : decode cX4_readMove 30 = .ok (.bipush 99, 2) := by decide +kernel
theorem dX4_readMove_32 : decode cX4_readMove 32 = .ok (.if_icmp .eq 9, 3) := by decide +kernel
theorem dX4_readMove_35 : decode cX4_readMove 35 = .ok (.iload_n 1, 1) := by decide +kernel
theorem dX4_readMove_36 : decode cX4_readMove 36 = .ok (.bipush 108, 2) := by decide +kernel
theorem dX4_readMove_38 : decode cX4_readMove 38 = .ok (.if_icmp .ne 7, 3) := by decide +kernel
theorem dX4_readMove_41 : decode cX4_readMove 41 = .ok (.iconst 1, 1) := by decide +kernel
theorem dX4_readMove_42 : decode cX4_readMove 42 = .ok (.goto 4, 3) := by decide +kernel
theorem dX4_readMove_45 : decode cX4_readMove 45 = .ok (.iconst 0, 1) := by decide +kernel
theorem dX4_readMove_46 : decode cX4_readMove 46 = .ok (.invokevirtual 156, 3) := by decide +kernel
theorem dX4_readMove_49 : decode cX4_readMove 49 = .ok (.iconst 3, 1) := by decide +kernel
theorem dX4_readMove_50 : decode cX4_readMove 50 = .ok (.aload_n 0, 1) := by decide +kernel
theorem dX4_readMove_51 : decode cX4_readMove 51 = .ok (.getfield 160, 3) := by decide +kernel
theorem dX4_readMove_54 : decode cX4_readMove 54 = .ok (.imul, 1) := by decide +kernel
theorem dX4_readMove_55 : decode cX4_readMove 55 = .ok (.istore_n 2, 1) := by decide +kernel
theorem dX4_readMove_56 : decode cX4_readMove 56 = .ok (.aload_n 0, 1) := by decide +kernel
theorem dX4_readMove_57 : decode cX4_readMove 57 = .ok (.getfield 29, 3) := by decide +kernel
theorem dX4_readMove_60 : decode cX4_readMove 60 = .ok (.iload_n 2, 1) := by decide +kernel
theorem dX4_readMove_61 : decode cX4_readMove 61 = .ok (.iload_n 1, 1) := by decide +kernel
theorem dX4_readMove_62 : decode cX4_readMove 62 = .ok (.iastore, 1) := by decide +kernel
theorem dX4_readMove_63 : decode cX4_readMove 63 = .ok (.iload_n 1, 1) := by decide +kernel
theorem dX4_readMove_64 : decode cX4_readMove 64 = .ok (.bipush 99, 2) := by decide +kernel
theorem dX4_readMove_66 : decode cX4_readMove 66 = .ok (.if_icmp .eq 9, 3) := by decide +kernel
theorem dX4_readMove_69 : decode cX4_readMove 69 = .ok (.iload_n 1, 1) := by decide +kernel
theorem dX4_readMove_70 : decode cX4_readMove 70 = .ok (.bipush 108, 2) := by decide +kernel
theorem dX4_readMove_72 : decode cX4_readMove 72 = .ok (.if_icmp .ne 15, 3) := by decide +kernel
theorem dX4_readMove_75 : decode cX4_readMove 75 = .ok (.aload_n 0, 1) := by decide +kernel
theorem dX4_readMove_76 : decode cX4_readMove 76 = .ok (.getfield 29, 3) := by decide +kernel
theorem dX4_readMove_79 : decode cX4_readMove 79 = .ok (.iload_n 2, 1) := by decide +kernel
theorem dX4_readMove_80 : decode cX4_readMove 80 = .ok (.iconst 1, 1) := by decide +kernel
theorem dX4_readMove_81 : decode cX4_readMove 81 = .ok (.iadd, 1) := by decide +kernel
theorem dX4_readMove_82 : decode cX4_readMove 82 = .ok (.aload_n 0, 1) := by decide +kernel
theorem dX4_readMove_83 : decode cX4_readMove 83 = .ok (.invokevirtual 163, 3) := by decide +kernel
theorem dX4_readMove_86 : decode cX4_readMove 86 = .ok (.iastore, 1) := by decide +kernel
theorem dX4_readMove_87 : decode cX4_readMove 87 = .ok (.iload_n 1, 1) := by decide +kernel
theorem dX4_readMove_88 : decode cX4_readMove 88 = .ok (.bipush 99, 2) := by decide +kernel
theorem dX4_readMove_90 : decode cX4_readMove 90 = .ok (.if_icmp .ne 33, 3) := by decide +kernel
theorem dX4_readMove_93 : decode cX4_readMove 93 = .ok (.aload_n 0, 1) := by decide +kernel
theorem dX4_readMove_94 : decode cX4_readMove 94 = .ok (.aload_n 0, 1) := by decide +kernel
theorem dX4_readMove_95 : decode cX4_readMove 95 = .ok (.invokevirtual 153, 3) := by decide +kernel
theorem dX4_readMove_98 : decode cX4_readMove 98 = .ok (.bipush 62, 2) := by decide +kernel
theorem dX4_readMove_100 : decode cX4_readMove 100 = .ok (.if_icmp .ne 7, 3) := by decide +kernel
theorem dX4_readMove_103 : decode cX4_readMove 103 = .ok (.iconst 1, 1) := by decide +kernel
theorem dX4_readMove_104 : decode cX4_readMove 104 = .ok (.goto 4, 3) := by decide +kernel
theorem dX4_readMove_107 : decode cX4_readMove 107 = .ok (.iconst 0, 1) := by decide +kernel
theorem dX4_readMove_108 : decode cX4_readMove 108 = .ok (.invokevirtual 156, 3) := by decide +kernel
theorem dX4_readMove_111 : decode cX4_readMove 111 = .ok (.aload_n 0, 1) := by decide +kernel
theorem dX4_readMove_112 : decode cX4_readMove 112 = .ok (.getfield 29, 3) := by decide +kernel
theorem dX4_readMove_115 : decode cX4_readMove 115 = .ok (.iload_n 2, 1) := by decide +kernel
theorem dX4_readMove_116 : decode cX4_readMove 116 = .ok (.iconst 2, 1) := by decide +kernel
theorem dX4_readMove_117 : decode cX4_readMove 117 = .ok (.iadd, 1) := by decide +kernel
theorem dX4_readMove_118 : decode cX4_readMove 118 = .ok (.aload_n 0, 1) := by decide +kernel
theorem dX4_readMove_119 : decode cX4_readMove 119 = .ok (.invokevirtual 163, 3) := by decide +kernel
theorem dX4_readMove_122 : decode cX4_readMove 122 = .ok (.iastore, 1) := by decide +kernel
theorem dX4_readMove_123 : decode cX4_readMove 123 = .ok (.aload_n 0, 1) := by decide +kernel
theorem dX4_readMove_124 : decode cX4_readMove 124 = .ok (.dup, 1) := by decide +kernel
theorem dX4_readMove_125 : decode cX4_readMove 125 = .ok (.getfield 160, 3) := by decide +kernel
theorem dX4_readMove_128 : decode cX4_readMove 128 = .ok (.iconst 1, 1) := by decide +kernel
theorem dX4_readMove_129 : decode cX4_readMove 129 = .ok (.iadd, 1) := by decide +kernel
theorem dX4_readMove_130 : decode cX4_readMove 130 = .ok (.putfield 160, 3) := by decide +kernel
theorem dX4_readMove_133 : decode cX4_readMove 133 = .ok (.return_, 1) := by decide +kernel
theorem dX4_errorPosition_0 : decode cX4_errorPosition 0 = .ok (.aload_n 0, 1) := by decide +kernel
theorem dX4_errorPosition_1 : decode cX4_errorPosition 1 = .ok (.iconst 0, 1) := by decide +kernel
theorem dX4_errorPosition_2 : decode cX4_errorPosition 2 = .ok (.putfield 160, 3) := by decide +kernel
theorem dX4_errorPosition_5 : decode cX4_errorPosition 5 = .ok (.aload_n 0, 1) := by decide +kernel
theorem dX4_errorPosition_6 : decode cX4_errorPosition 6 = .ok (.iconst 0, 1) := by decide +kernel
theorem dX4_errorPosition_7 : decode cX4_errorPosition 7 = .ok (.putfield 147, 3) := by decide +kernel
theorem dX4_errorPosition_10 : decode cX4_errorPosition 10 = .ok (.aload_n 0, 1) := by decide +kernel
theorem dX4_errorPosition_11 : decode cX4_errorPosition 11 = .ok (.bipush (-6), 2) := by decide +kernel
theorem dX4_errorPosition_13 : decode cX4_errorPosition 13 = .ok (.putfield 150, 3) := by decide +kernel
theorem dX4_errorPosition_16 : decode cX4_errorPosition 16 = .ok (.iconst 1, 1) := by decide +kernel
theorem dX4_errorPosition_17 : decode cX4_errorPosition 17 = .ok (.istore_n 1, 1) := by decide +kernel
theorem dX4_errorPosition_18 : decode cX4_errorPosition 18 = .ok (.iload_n 1, 1) := by decide +kernel
theorem dX4_errorPosition_19 : decode cX4_errorPosition 19 = .ok (.ifCond .eq 73, 3) := by decide +kernel
theorem dX4_errorPosition_22 : decode cX4_errorPosition 22 = .ok (.aload_n 0, 1) := by decide +kernel
theorem dX4_errorPosition_23 : decode cX4_errorPosition 23 = .ok (.invokevirtual 166, 3) := by decide +kernel
theorem dX4_errorPosition_26 : decode cX4_errorPosition 26 = .ok (.aload_n 0, 1) := by decide +kernel
theorem dX4_errorPosition_27 : decode cX4_errorPosition 27 = .ok (.getfield 150, 3) := by decide +kernel
theorem dX4_errorPosition_30 : decode cX4_errorPosition 30 = .ok (.bipush (-6), 2) := by decide +kernel
theorem dX4_errorPosition_32 : decode cX4_errorPosition 32 = .ok (.if_icmp .ne 18, 3) := by decide +kernel
theorem dX4_errorPosition_35 : decode cX4_errorPosition 35 = .ok (.aload_n 0, 1) := by decide +kernel
theorem dX4_errorPosition_36 : decode cX4_errorPosition 36 = .ok (.getfield 147, 3) := by decide +kernel
theorem dX4_errorPosition_39 : decode cX4_errorPosition 39 = .ok (.aload_n 0, 1) := by decide +kernel
theorem dX4_errorPosition_40 : decode cX4_errorPosition 40 = .ok (.getfield 144, 3) := by decide +kernel
theorem dX4_errorPosition_43 : decode cX4_errorPosition 43 = .ok (.if_icmp .ge 7, 3) := by decide +kernel
theorem dX4_errorPosition_46 : decode cX4_errorPosition 46 = .ok (.iconst 1, 1) := by decide +kernel
theorem dX4_errorPosition_47 : decode cX4_errorPosition 47 = .ok (.goto 4, 3) := by decide +kernel
theorem dX4_errorPosition_50 : decode cX4_errorPosition 50 = .ok (.iconst 0, 1) := by decide +kernel
theorem dX4_errorPosition_51 : decode cX4_errorPosition 51 = .ok (.istore_n 1, 1) := by decide +kernel
theorem dX4_errorPosition_52 : decode cX4_errorPosition 52 = .ok (.iload_n 1, 1) := by decide +kernel
theorem dX4_errorPosition_53 : decode cX4_errorPosition 53 = .ok (.ifCond .eq (-35), 3) := by decide +kernel
theorem dX4_errorPosition_56 : decode cX4_errorPosition 56 = .ok (.aload_n 0, 1) := by decide +kernel
theorem dX4_errorPosition_57 : decode cX4_errorPosition 57 = .ok (.aload_n 0, 1) := by decide +kernel
theorem dX4_errorPosition_58 : decode cX4_errorPosition 58 = .ok (.invokevirtual 153, 3) := by decide +kernel
theorem dX4_errorPosition_61 : decode cX4_errorPosition 61 = .ok (.bipush 44, 2) := by decide +kernel
theorem dX4_errorPosition_63 : decode cX4_errorPosition 63 = .ok (.if_icmp .ne 7, 3) := by decide +kernel
theorem dX4_errorPosition_66 : decode cX4_errorPosition 66 = .ok (.iconst 1, 1) := by decide +kernel
theorem dX4_errorPosition_67 : decode cX4_errorPosition 67 = .ok (.goto 4, 3) := by decide +kernel
theorem dX4_errorPosition_70 : decode cX4_errorPosition 70 = .ok (.iconst 0, 1) := by decide +kernel
theorem dX4_errorPosition_71 : decode cX4_errorPosition 71 = .ok (.invokevirtual 156, 3) := by decide +kernel
theorem dX4_errorPosition_74 : decode cX4_errorPosition 74 = .ok (.aload_n 0, 1) := by decide +kernel
theorem dX4_errorPosition_75 : decode cX4_errorPosition 75 = .ok (.getfield 150, 3) := by decide +kernel
theorem dX4_errorPosition_78 : decode cX4_errorPosition 78 = .ok (.bipush (-6), 2) := by decide +kernel
theorem dX4_errorPosition_80 : decode cX4_errorPosition 80 = .ok (.if_icmp .ne 7, 3) := by decide +kernel
theorem dX4_errorPosition_83 : decode cX4_errorPosition 83 = .ok (.iconst 1, 1) := by decide +kernel
theorem dX4_errorPosition_84 : decode cX4_errorPosition 84 = .ok (.goto 4, 3) := by decide +kernel
theorem dX4_errorPosition_87 : decode cX4_errorPosition 87 = .ok (.iconst 0, 1) := by decide +kernel
theorem dX4_errorPosition_88 : decode cX4_errorPosition 88 = .ok (.istore_n 1, 1) := by decide +kernel
theorem dX4_errorPosition_89 : decode cX4_errorPosition 89 = .ok (.goto (-71), 3) := by decide +kernel
theorem dX4_errorPosition_92 : decode cX4_errorPosition 92 = .ok (.aload_n 0, 1) := by decide +kernel
theorem dX4_errorPosition_93 : decode cX4_errorPosition 93 = .ok (.getfield 150, 3) := by decide +kernel
theorem dX4_errorPosition_96 : decode cX4_errorPosition 96 = .ok (.ireturn, 1) := by decide +kernel
theorem dX4_makeOne_0 : decode cX4_makeOne 0 = .ok (.aload_n 0, 1) := by decide +kernel
theorem dX4_makeOne_1 : decode cX4_makeOne 1 = .ok (.getfield 29, 3) := by decide +kernel
theorem dX4_makeOne_4 : decode cX4_makeOne 4 = .ok (.iload_n 1, 1) := by decide +kernel
theorem dX4_makeOne_5 : decode cX4_makeOne 5 = .ok (.iconst 1, 1) := by decide +kernel
theorem dX4_makeOne_6 : decode cX4_makeOne 6 = .ok (.iadd, 1) := by decide +kernel
theorem dX4_makeOne_7 : decode cX4_makeOne 7 = .ok (.iaload, 1) := by decide +kernel
theorem dX4_makeOne_8 : decode cX4_makeOne 8 = .ok (.istore_n 2, 1) := by decide +kernel
theorem dX4_makeOne_9 : decode cX4_makeOne 9 = .ok (.aload_n 0, 1) := by decide +kernel
theorem dX4_makeOne_10 : decode cX4_makeOne 10 = .ok (.getfield 29, 3) := by decide +kernel
theorem dX4_makeOne_13 : decode cX4_makeOne 13 = .ok (.iload_n 1, 1) := by decide +kernel
theorem dX4_makeOne_14 : decode cX4_makeOne 14 = .ok (.iconst 2, 1) := by decide +kernel
theorem dX4_makeOne_15 : decode cX4_makeOne 15 = .ok (.iadd, 1) := by decide +kernel
theorem dX4_makeOne_16 : decode cX4_makeOne 16 = .ok (.iaload, 1) := by decide +kernel
theorem dX4_makeOne_17 : decode cX4_makeOne 17 = .ok (.istore_n 3, 1) := by decide +kernel
theorem dX4_makeOne_18 : decode cX4_makeOne 18 = .ok (.iconst 0, 1) := by decide +kernel
theorem dX4_makeOne_19 : decode cX4_makeOne 19 = .ok (.istore 4, 2) := by decide +kernel
theorem dX4_makeOne_21 : decode cX4_makeOne 21 = .ok (.aload_n 0, 1) := by decide +kernel
theorem dX4_makeOne_22 : decode cX4_makeOne 22 = .ok (.getfield 29, 3) := by decide +kernel
theorem dX4_makeOne_25 : decode cX4_makeOne 25 = .ok (.iload_n 1, 1) := by decide +kernel
theorem dX4_makeOne_26 : decode cX4_makeOne 26 = .ok (.iaload, 1) := by decide +kernel
theorem dX4_makeOne_27 : decode cX4_makeOne 27 = .ok (.lookupswitch 146 #[(99, 102), (106, 70), (108, 125), (112, 41)], 41) := by decide +kernel
theorem dX4_makeOne_68 : decode cX4_makeOne 68 = .ok (.aload_n 0, 1) := by decide +kernel
theorem dX4_makeOne_69 : decode cX4_makeOne 69 = .ok (.getfield 7, 3) := by decide +kernel
theorem dX4_makeOne_72 : decode cX4_makeOne 72 = .ok (.iconst 1, 1) := by decide +kernel
theorem dX4_makeOne_73 : decode cX4_makeOne 73 = .ok (.iaload, 1) := by decide +kernel
theorem dX4_makeOne_74 : decode cX4_makeOne 74 = .ok (.ifCond .ne 8, 3) := by decide +kernel
theorem dX4_makeOne_77 : decode cX4_makeOne 77 = .ok (.bipush (-3), 2) := by decide +kernel
theorem dX4_makeOne_79 : decode cX4_makeOne 79 = .ok (.goto 4, 3) := by decide +kernel
theorem dX4_makeOne_82 : decode cX4_makeOne 82 = .ok (.iconst 0, 1) := by decide +kernel
theorem dX4_makeOne_83 : decode cX4_makeOne 83 = .ok (.istore 4, 2) := by decide +kernel
theorem dX4_makeOne_85 : decode cX4_makeOne 85 = .ok (.iload 4, 2) := by decide +kernel
theorem dX4_makeOne_87 : decode cX4_makeOne 87 = .ok (.ifCond .ne 120, 3) := by decide +kernel
theorem dX4_makeOne_90 : decode cX4_makeOne 90 = .ok (.aload_n 0, 1) := by decide +kernel
theorem dX4_makeOne_91 : decode cX4_makeOne 91 = .ok (.invokevirtual 114, 3) := by decide +kernel
theorem dX4_makeOne_94 : decode cX4_makeOne 94 = .ok (.goto 113, 3) := by decide +kernel
theorem dX4_makeOne_97 : decode cX4_makeOne 97 = .ok (.aload_n 0, 1) := by decide +kernel
theorem dX4_makeOne_98 : decode cX4_makeOne 98 = .ok (.getfield 7, 3) := by decide +kernel
theorem dX4_makeOne_101 : decode cX4_makeOne 101 = .ok (.iconst 1, 1) := by decide +kernel
theorem dX4_makeOne_102 : decode cX4_makeOne 102 = .ok (.iaload, 1) := by decide +kernel
theorem dX4_makeOne_103 : decode cX4_makeOne 103 = .ok (.bipush 6, 2) := by decide +kernel
theorem dX4_makeOne_105 : decode cX4_makeOne 105 = .ok (.if_icmp .ne 8, 3) := by decide +kernel
theorem dX4_makeOne_108 : decode cX4_makeOne 108 = .ok (.bipush (-4), 2) := by decide +kernel
theorem dX4_makeOne_110 : decode cX4_makeOne 110 = .ok (.goto 4, 3) := by decide +kernel
theorem dX4_makeOne_113 : decode cX4_makeOne 113 = .ok (.iconst 0, 1) := by decide +kernel
theorem dX4_makeOne_114 : decode cX4_makeOne 114 = .ok (.istore 4, 2) := by decide +kernel
theorem dX4_makeOne_116 : decode cX4_makeOne 116 = .ok (.iload 4, 2) := by decide +kernel
theorem dX4_makeOne_118 : decode cX4_makeOne 118 = .ok (.ifCond .ne 89, 3) := by decide +kernel
theorem dX4_makeOne_121 : decode cX4_makeOne 121 = .ok (.aload_n 0, 1) := by decide +kernel
theorem dX4_makeOne_122 : decode cX4_makeOne 122 = .ok (.invokevirtual 97, 3) := by decide +kernel
theorem dX4_makeOne_125 : decode cX4_makeOne 125 = .ok (.pop, 1) := by decide +kernel
theorem dX4_makeOne_126 : decode cX4_makeOne 126 = .ok (.goto 81, 3) := by decide +kernel
theorem dX4_makeOne_129 : decode cX4_makeOne 129 = .ok (.aload_n 0, 1) := by decide +kernel
theorem dX4_makeOne_130 : decode cX4_makeOne 130 = .ok (.iload_n 2, 1) := by decide +kernel
theorem dX4_makeOne_131 : decode cX4_makeOne 131 = .ok (.iload_n 3, 1) := by decide +kernel
theorem dX4_makeOne_132 : decode cX4_makeOne 132 = .ok (.invokevirtual 74, 3) := by decide +kernel
theorem dX4_makeOne_135 : decode cX4_makeOne 135 = .ok (.istore 4, 2) := by decide +kernel
theorem dX4_makeOne_137 : decode cX4_makeOne 137 = .ok (.iload 4, 2) := by decide +kernel
theorem dX4_makeOne_139 : decode cX4_makeOne 139 = .ok (.ifCond .ne 68, 3) := by decide +kernel
theorem dX4_makeOne_142 : decode cX4_makeOne 142 = .ok (.aload_n 0, 1) := by decide +kernel
theorem dX4_makeOne_143 : decode cX4_makeOne 143 = .ok (.iload_n 2, 1) := by decide +kernel
theorem dX4_makeOne_144 : decode cX4_makeOne 144 = .ok (.iload_n 3, 1) := by decide +kernel
theorem dX4_makeOne_145 : decode cX4_makeOne 145 = .ok (.invokevirtual 77, 3) := by decide +kernel
theorem dX4_makeOne_148 : decode cX4_makeOne 148 = .ok (.pop, 1) := by decide +kernel
theorem dX4_makeOne_149 : decode cX4_makeOne 149 = .ok (.goto 58, 3) := by decide +kernel
theorem dX4_makeOne_152 : decode cX4_makeOne 152 = .ok (.aload_n 0, 1) := by decide +kernel
theorem dX4_makeOne_153 : decode cX4_makeOne 153 = .ok (.iload_n 2, 1) := by decide +kernel
theorem dX4_makeOne_154 : decode cX4_makeOne 154 = .ok (.invokevirtual 84, 3) := by decide +kernel
theorem dX4_makeOne_157 : decode cX4_makeOne 157 = .ok (.istore 4, 2) := by decide +kernel
theorem dX4_makeOne_159 : decode cX4_makeOne 159 = .ok (.iload 4, 2) := by decide +kernel
theorem dX4_makeOne_161 : decode cX4_makeOne 161 = .ok (.ifCond .ne 46, 3) := by decide +kernel
theorem dX4_makeOne_164 : decode cX4_makeOne 164 = .ok (.aload_n 0, 1) := by decide +kernel
theorem dX4_makeOne_165 : decode cX4_makeOne 165 = .ok (.iload_n 2, 1) := by decide +kernel
theorem dX4_makeOne_166 : decode cX4_makeOne 166 = .ok (.invokevirtual 87, 3) := by decide +kernel
theorem dX4_makeOne_169 : decode cX4_makeOne 169 = .ok (.pop, 1) := by decide +kernel
theorem dX4_makeOne_170 : decode cX4_makeOne 170 = .ok (.goto 37, 3) := by decide +kernel
theorem dX4_makeOne_173 : decode cX4_makeOne 173 = .ok (.aload_n 0, 1) := by decide +kernel
theorem dX4_makeOne_174 : decode cX4_makeOne 174 = .ok (.aload_n 0, 1) := by decide +kernel
theorem dX4_makeOne_175 : decode cX4_makeOne 175 = .ok (.getfield 29, 3) := by decide +kernel
theorem dX4_makeOne_178 : decode cX4_makeOne 178 = .ok (.iload_n 1, 1) := by decide +kernel
theorem dX4_makeOne_179 : decode cX4_makeOne 179 = .ok (.iaload, 1) := by decide +kernel
theorem dX4_makeOne_180 : decode cX4_makeOne 180 = .ok (.bipush 48, 2) := by decide +kernel
theorem dX4_makeOne_182 : decode cX4_makeOne 182 = .ok (.isub, 1) := by decide +kernel
theorem dX4_makeOne_183 : decode cX4_makeOne 183 = .ok (.invokevirtual 117, 3) := by decide +kernel
theorem dX4_makeOne_186 : decode cX4_makeOne 186 = .ok (.istore 4, 2) := by decide +kernel
theorem dX4_makeOne_188 : decode cX4_makeOne 188 = .ok (.iload 4, 2) := by decide +kernel
theorem dX4_makeOne_190 : decode cX4_makeOne 190 = .ok (.ifCond .ne 17, 3) := by decide +kernel
theorem dX4_makeOne_193 : decode cX4_makeOne 193 = .ok (.aload_n 0, 1) := by decide +kernel
theorem dX4_makeOne_194 : decode cX4_makeOne 194 = .ok (.aload_n 0, 1) := by decide +kernel
theorem dX4_makeOne_195 : decode cX4_makeOne 195 = .ok (.getfield 29, 3) := by decide +kernel
theorem dX4_makeOne_198 : decode cX4_makeOne 198 = .ok (.iload_n 1, 1) := by decide +kernel
theorem dX4_makeOne_199 : decode cX4_makeOne 199 = .ok (.iaload, 1) := by decide +kernel
theorem dX4_makeOne_200 : decode cX4_makeOne 200 = .ok (.bipush 48, 2) := by decide +kernel
theorem dX4_makeOne_202 : decode cX4_makeOne 202 = .ok (.isub, 1) := by decide +kernel
theorem dX4_makeOne_203 : decode cX4_makeOne 203 = .ok (.invokevirtual 120, 3) := by decide +kernel
theorem dX4_makeOne_206 : decode cX4_makeOne 206 = .ok (.pop, 1) := by decide +kernel
theorem dX4_makeOne_207 : decode cX4_makeOne 207 = .ok (.iload 4, 2) := by decide +kernel
theorem dX4_makeOne_209 : decode cX4_makeOne 209 = .ok (.ireturn, 1) := by decide +kernel
theorem dX4_play_0 : decode cX4_play 0 = .ok (.aload_n 0, 1) := by decide +kernel
theorem dX4_play_1 : decode cX4_play 1 = .ok (.invokevirtual 169, 3) := by decide +kernel
theorem dX4_play_4 : decode cX4_play 4 = .ok (.bipush (-6), 2) := by decide +kernel
theorem dX4_play_6 : decode cX4_play 6 = .ok (.if_icmp .eq 6, 3) := by decide +kernel
theorem dX4_play_9 : decode cX4_play 9 = .ok (.bipush (-5), 2) := by decide +kernel
theorem dX4_play_11 : decode cX4_play 11 = .ok (.ireturn, 1) := by decide +kernel
theorem dX4_play_12 : decode cX4_play 12 = .ok (.aload_n 0, 1) := by decide +kernel
theorem dX4_play_13 : decode cX4_play 13 = .ok (.invokevirtual 40, 3) := by decide +kernel
theorem dX4_play_16 : decode cX4_play 16 = .ok (.iconst 0, 1) := by decide +kernel
theorem dX4_play_17 : decode cX4_play 17 = .ok (.istore_n 1, 1) := by decide +kernel
theorem dX4_play_18 : decode cX4_play 18 = .ok (.iload_n 1, 1) := by decide +kernel
theorem dX4_play_19 : decode cX4_play 19 = .ok (.aload_n 0, 1) := by decide +kernel
theorem dX4_play_20 : decode cX4_play 20 = .ok (.getfield 160, 3) := by decide +kernel
theorem dX4_play_23 : decode cX4_play 23 = .ok (.if_icmp .ge 19, 3) := by decide +kernel
theorem dX4_play_26 : decode cX4_play 26 = .ok (.aload_n 0, 1) := by decide +kernel
theorem dX4_play_27 : decode cX4_play 27 = .ok (.iconst 3, 1) := by decide +kernel
theorem dX4_play_28 : decode cX4_play 28 = .ok (.iload_n 1, 1) := by decide +kernel
theorem dX4_play_29 : decode cX4_play 29 = .ok (.imul, 1) := by decide +kernel
theorem dX4_play_30 : decode cX4_play 30 = .ok (.invokevirtual 172, 3) := by decide +kernel
theorem dX4_play_33 : decode cX4_play 33 = .ok (.ifCond .ne 9, 3) := by decide +kernel
theorem dX4_play_36 : decode cX4_play 36 = .ok (.iinc 1 1, 3) := by decide +kernel
theorem dX4_play_39 : decode cX4_play 39 = .ok (.goto (-21), 3) := by decide +kernel
theorem dX4_play_42 : decode cX4_play 42 = .ok (.aload_n 0, 1) := by decide +kernel
theorem dX4_play_43 : decode cX4_play 43 = .ok (.iconst 0, 1) := by decide +kernel
theorem dX4_play_44 : decode cX4_play 44 = .ok (.putfield 144, 3) := by decide +kernel
theorem dX4_play_47 : decode cX4_play 47 = .ok (.iload_n 1, 1) := by decide +kernel
theorem dX4_play_48 : decode cX4_play 48 = .ok (.ireturn, 1) := by decide +kernel
theorem dJ6_bitCount_0f7a4_0 : decode cJ6_bitCount_0f7a4 0 = .ok (.iload_n 0, 1) := by decide +kernel
theorem dJ6_bitCount_0f7a4_1 : decode cJ6_bitCount_0f7a4 1 = .ok (.iload_n 0, 1) := by decide +kernel
theorem dJ6_bitCount_0f7a4_2 : decode cJ6_bitCount_0f7a4 2 = .ok (.iconst 1, 1) := by decide +kernel
theorem dJ6_bitCount_0f7a4_3 : decode cJ6_bitCount_0f7a4 3 = .ok (.iushr, 1) := by decide +kernel
theorem dJ6_bitCount_0f7a4_4 : decode cJ6_bitCount_0f7a4 4 = .ok (.ldc_w 265, 3) := by decide +kernel
theorem dJ6_bitCount_0f7a4_7 : decode cJ6_bitCount_0f7a4 7 = .ok (.iand, 1) := by decide +kernel
theorem dJ6_bitCount_0f7a4_8 : decode cJ6_bitCount_0f7a4 8 = .ok (.isub, 1) := by decide +kernel
theorem dJ6_bitCount_0f7a4_9 : decode cJ6_bitCount_0f7a4 9 = .ok (.istore_n 0, 1) := by decide +kernel
theorem dJ6_bitCount_0f7a4_10 : decode cJ6_bitCount_0f7a4 10 = .ok (.iload_n 0, 1) := by decide +kernel
theorem dJ6_bitCount_0f7a4_11 : decode cJ6_bitCount_0f7a4 11 = .ok (.ldc_w 266, 3) := by decide +kernel
theorem dJ6_bitCount_0f7a4_14 : decode cJ6_bitCount_0f7a4 14 = .ok (.iand, 1) := by decide +kernel
theorem dJ6_bitCount_0f7a4_15 : decode cJ6_bitCount_0f7a4 15 = .ok (.iload_n 0, 1) := by decide +kernel
theorem dJ6_bitCount_0f7a4_16 : decode cJ6_bitCount_0f7a4 16 = .ok (.iconst 2, 1) := by decide +kernel
theorem dJ6_bitCount_0f7a4_17 : decode cJ6_bitCount_0f7a4 17 = .ok (.iushr, 1) := by decide +kernel
theorem dJ6_bitCount_0f7a4_18 : decode cJ6_bitCount_0f7a4 18 = .ok (.ldc_w 266, 3) := by decide +kernel
theorem dJ6_bitCount_0f7a4_21 : decode cJ6_bitCount_0f7a4 21 = .ok (.iand, 1) := by decide +kernel
theorem dJ6_bitCount_0f7a4_22 : decode cJ6_bitCount_0f7a4 22 = .ok (.iadd, 1) := by decide +kernel
theorem dJ6_bitCount_0f7a4_23 : decode cJ6_bitCount_0f7a4 23 = .ok (.istore_n 0, 1) := by decide +kernel
theorem dJ6_bitCount_0f7a4_24 : decode cJ6_bitCount_0f7a4 24 = .ok (.iload_n 0, 1) := by decide +kernel
theorem dJ6_bitCount_0f7a4_25 : decode cJ6_bitCount_0f7a4 25 = .ok (.iload_n 0, 1) := by decide +kernel
theorem dJ6_bitCount_0f7a4_26 : decode cJ6_bitCount_0f7a4 26 = .ok (.iconst 4, 1) := by decide +kernel
theorem dJ6_bitCount_0f7a4_27 : decode cJ6_bitCount_0f7a4 27 = .ok (.iushr, 1) := by decide +kernel
theorem dJ6_bitCount_0f7a4_28 : decode cJ6_bitCount_0f7a4 28 = .ok (.iadd, 1) := by decide +kernel
theorem dJ6_bitCount_0f7a4_29 : decode cJ6_bitCount_0f7a4 29 = .ok (.ldc_w 267, 3) := by decide +kernel
theorem dJ6_bitCount_0f7a4_32 : decode cJ6_bitCount_0f7a4 32 = .ok (.iand, 1) := by decide +kernel
theorem dJ6_bitCount_0f7a4_33 : decode cJ6_bitCount_0f7a4 33 = .ok (.istore_n 0, 1) := by decide +kernel
theorem dJ6_bitCount_0f7a4_34 : decode cJ6_bitCount_0f7a4 34 = .ok (.iload_n 0, 1) := by decide +kernel
theorem dJ6_bitCount_0f7a4_35 : decode cJ6_bitCount_0f7a4 35 = .ok (.iload_n 0, 1) := by decide +kernel
theorem dJ6_bitCount_0f7a4_36 : decode cJ6_bitCount_0f7a4 36 = .ok (.bipush 8, 2) := by decide +kernel
theorem dJ6_bitCount_0f7a4_38 : decode cJ6_bitCount_0f7a4 38 = .ok (.iushr, 1) := by decide +kernel
theorem dJ6_bitCount_0f7a4_39 : decode cJ6_bitCount_0f7a4 39 = .ok (.iadd, 1) := by decide +kernel
theorem dJ6_bitCount_0f7a4_40 : decode cJ6_bitCount_0f7a4 40 = .ok (.istore_n 0, 1) := by decide +kernel
theorem dJ6_bitCount_0f7a4_41 : decode cJ6_bitCount_0f7a4 41 = .ok (.iload_n 0, 1) := by decide +kernel
theorem dJ6_bitCount_0f7a4_42 : decode cJ6_bitCount_0f7a4 42 = .ok (.iload_n 0, 1) := by decide +kernel
theorem dJ6_bitCount_0f7a4_43 : decode cJ6_bitCount_0f7a4 43 = .ok (.bipush 16, 2) := by decide +kernel
theorem dJ6_bitCount_0f7a4_45 : decode cJ6_bitCount_0f7a4 45 = .ok (.iushr, 1) := by decide +kernel
theorem dJ6_bitCount_0f7a4_46 : decode cJ6_bitCount_0f7a4 46 = .ok (.iadd, 1) := by decide +kernel
theorem dJ6_bitCount_0f7a4_47 : decode cJ6_bitCount_0f7a4 47 = .ok (.istore_n 0, 1) := by decide +kernel
theorem dJ6_bitCount_0f7a4_48 : decode cJ6_bitCount_0f7a4 48 = .ok (.iload_n 0, 1) := by decide +kernel
theorem dJ6_bitCount_0f7a4_49 : decode cJ6_bitCount_0f7a4 49 = .ok (.bipush 63, 2) := by decide +kernel
theorem dJ6_bitCount_0f7a4_51 : decode cJ6_bitCount_0f7a4 51 = .ok (.iand, 1) := by decide +kernel
theorem dJ6_bitCount_0f7a4_52 : decode cJ6_bitCount_0f7a4 52 = .ok (.ireturn, 1) := by decide +kernel
theorem dL_law_0 : decode cL_law 0 = .ok (.new 7, 3) := by decide +kernel
theorem dL_law_3 : decode cL_law 3 = .ok (.dup, 1) := by decide +kernel
theorem dL_law_4 : decode cL_law 4 = .ok (.invokespecial 9, 3) := by decide +kernel
theorem dL_law_7 : decode cL_law 7 = .ok (.astore_n 1, 1) := by decide +kernel
theorem dL_law_8 : decode cL_law 8 = .ok (.new 10, 3) := by decide +kernel
theorem dL_law_11 : decode cL_law 11 = .ok (.dup, 1) := by decide +kernel
theorem dL_law_12 : decode cL_law 12 = .ok (.invokespecial 12, 3) := by decide +kernel
theorem dL_law_15 : decode cL_law 15 = .ok (.astore_n 2, 1) := by decide +kernel
theorem dL_law_16 : decode cL_law 16 = .ok (.iconst 0, 1) := by decide +kernel
theorem dL_law_17 : decode cL_law 17 = .ok (.istore_n 3, 1) := by decide +kernel
theorem dL_law_18 : decode cL_law 18 = .ok (.iload_n 3, 1) := by decide +kernel
theorem dL_law_19 : decode cL_law 19 = .ok (.aload_n 0, 1) := by decide +kernel
theorem dL_law_20 : decode cL_law 20 = .ok (.arraylength, 1) := by decide +kernel
theorem dL_law_21 : decode cL_law 21 = .ok (.iconst 3, 1) := by decide +kernel
theorem dL_law_22 : decode cL_law 22 = .ok (.isub, 1) := by decide +kernel
theorem dL_law_23 : decode cL_law 23 = .ok (.if_icmp .gt 636, 3) := by decide +kernel
theorem dL_law_26 : decode cL_law 26 = .ok (.aload_n 0, 1) := by decide +kernel
theorem dL_law_27 : decode cL_law 27 = .ok (.iload_n 3, 1) := by decide +kernel
theorem dL_law_28 : decode cL_law 28 = .ok (.iaload, 1) := by decide +kernel
theorem dL_law_29 : decode cL_law 29 = .ok (.bipush 31, 2) := by decide +kernel
theorem dL_law_31 : decode cL_law 31 = .ok (.iand, 1) := by decide +kernel
theorem dL_law_32 : decode cL_law 32 = .ok (.tableswitch 621 0 24 #[116, 139, 172, 195, 218, 241, 254, 277, 290, 323, 336, 359, 392, 415, 438, 471, 484, 497, 520, 543, 556, 569, 582, 595, 608], 116) := by decide +kernel
theorem dL_law_148 : decode cL_law 148 = .ok (.aload_n 1, 1) := by decide +kernel
theorem dL_law_149 : decode cL_law 149 = .ok (.aload_n 0, 1) := by decide +kernel
theorem dL_law_150 : decode cL_law 150 = .ok (.iload_n 3, 1) := by decide +kernel
theorem dL_law_151 : decode cL_law 151 = .ok (.iconst 1, 1) := by decide +kernel
theorem dL_law_152 : decode cL_law 152 = .ok (.iadd, 1) := by decide +kernel
theorem dL_law_153 : decode cL_law 153 = .ok (.iaload, 1) := by decide +kernel
theorem dL_law_154 : decode cL_law 154 = .ok (.invokevirtual 13, 3) := by decide +kernel
theorem dL_law_157 : decode cL_law 157 = .ok (.aload_n 2, 1) := by decide +kernel
theorem dL_law_158 : decode cL_law 158 = .ok (.aload_n 0, 1) := by decide +kernel
theorem dL_law_159 : decode cL_law 159 = .ok (.iload_n 3, 1) := by decide +kernel
theorem dL_law_160 : decode cL_law 160 = .ok (.iconst 1, 1) := by decide +kernel
theorem dL_law_161 : decode cL_law 161 = .ok (.iadd, 1) := by decide +kernel
theorem dL_law_162 : decode cL_law 162 = .ok (.iaload, 1) := by decide +kernel
theorem dL_law_163 : decode cL_law 163 = .ok (.invokevirtual 17, 3) := by decide +kernel
theorem dL_law_166 : decode cL_law 166 = .ok (.if_icmp .eq 487, 3) := by decide +kernel
theorem dL_law_169 : decode cL_law 169 = .ok (.iconst 0, 1) := by decide +kernel
theorem dL_law_170 : decode cL_law 170 = .ok (.ireturn, 1) := by decide +kernel
theorem dL_law_171 : decode cL_law 171 = .ok (.aload_n 1, 1) := by decide +kernel
theorem dL_law_172 : decode cL_law 172 = .ok (.aload_n 0, 1) := by decide +kernel
theorem dL_law_173 : decode cL_law 173 = .ok (.iload_n 3, 1) := by decide +kernel
theorem dL_law_174 : decode cL_law 174 = .ok (.iconst 1, 1) := by decide +kernel
theorem dL_law_175 : decode cL_law 175 = .ok (.iadd, 1) := by decide +kernel
theorem dL_law_176 : decode cL_law 176 = .ok (.iaload, 1) := by decide +kernel
theorem dL_law_177 : decode cL_law 177 = .ok (.aload_n 0, 1) := by decide +kernel
theorem dL_law_178 : decode cL_law 178 = .ok (.iload_n 3, 1) := by decide +kernel
theorem dL_law_179 : decode cL_law 179 = .ok (.iconst 2, 1) := by decide +kernel
theorem dL_law_180 : decode cL_law 180 = .ok (.iadd, 1) := by decide +kernel
theorem dL_law_181 : decode cL_law 181 = .ok (.iaload, 1) := by decide +kernel
theorem dL_law_182 : decode cL_law 182 = .ok (.invokevirtual 18, 3) := by decide +kernel
theorem dL_law_185 : decode cL_law 185 = .ok (.aload_n 2, 1) := by decide +kernel
theorem dL_law_186 : decode cL_law 186 = .ok (.aload_n 0, 1) := by decide +kernel
theorem dL_law_187 : decode cL_law 187 = .ok (.iload_n 3, 1) := by decide +kernel
theorem dL_law_188 : decode cL_law 188 = .ok (.iconst 1, 1) := by decide +kernel
theorem dL_law_189 : decode cL_law 189 = .ok (.iadd, 1) := by decide +kernel
theorem dL_law_190 : decode cL_law 190 = .ok (.iaload, 1) := by decide +kernel
theorem dL_law_191 : decode cL_law 191 = .ok (.aload_n 0, 1) := by decide +kernel
theorem dL_law_192 : decode cL_law 192 = .ok (.iload_n 3, 1) := by decide +kernel
theorem dL_law_193 : decode cL_law 193 = .ok (.iconst 2, 1) := by decide +kernel
theorem dL_law_194 : decode cL_law 194 = .ok (.iadd, 1) := by decide +kernel
theorem dL_law_195 : decode cL_law 195 = .ok (.iaload, 1) := by decide +kernel
theorem dL_law_196 : decode cL_law 196 = .ok (.invokevirtual 22, 3) := by decide +kernel
theorem dL_law_199 : decode cL_law 199 = .ok (.if_icmp .eq 454, 3) := by decide +kernel
theorem dL_law_202 : decode cL_law 202 = .ok (.iconst 0, 1) := by decide +kernel
theorem dL_law_203 : decode cL_law 203 = .ok (.ireturn, 1) := by decide +kernel
theorem dL_law_204 : decode cL_law 204 = .ok (.aload_n 1, 1) := by decide +kernel
theorem dL_law_205 : decode cL_law 205 = .ok (.aload_n 0, 1) := by decide +kernel
theorem dL_law_206 : decode cL_law 206 = .ok (.iload_n 3, 1) := by decide +kernel
theorem dL_law_207 : decode cL_law 207 = .ok (.iconst 1, 1) := by decide +kernel
theorem dL_law_208 : decode cL_law 208 = .ok (.iadd, 1) := by decide +kernel
theorem dL_law_209 : decode cL_law 209 = .ok (.iaload, 1) := by decide +kernel
theorem dL_law_210 : decode cL_law 210 = .ok (.invokevirtual 23, 3) := by decide +kernel
theorem dL_law_213 : decode cL_law 213 = .ok (.aload_n 2, 1) := by decide +kernel
theorem dL_law_214 : decode cL_law 214 = .ok (.aload_n 0, 1) := by decide +kernel
theorem dL_law_215 : decode cL_law 215 = .ok (.iload_n 3, 1) := by decide +kernel
theorem dL_law_216 : decode cL_law 216 = .ok (.iconst 1, 1) := by decide +kernel
theorem dL_law_217 : decode cL_law 217 = .ok (.iadd, 1) := by decide +kernel
theorem dL_law_218 : decode cL_law 218 = .ok (.iaload, 1) := by decide +kernel
theorem dL_law_219 : decode cL_law 219 = .ok (.invokevirtual 26, 3) := by decide +kernel
theorem dL_law_222 : decode cL_law 222 = .ok (.if_icmp .eq 431, 3) := by decide +kernel
theorem dL_law_225 : decode cL_law 225 = .ok (.iconst 0, 1) := by decide +kernel
theorem dL_law_226 : decode cL_law 226 = .ok (.ireturn, 1) := by decide +kernel
theorem dL_law_227 : decode cL_law 227 = .ok (.aload_n 1, 1) := by decide +kernel
theorem dL_law_228 : decode cL_law 228 = .ok (.aload_n 0, 1) := by decide +kernel
theorem dL_law_229 : decode cL_law 229 = .ok (.iload_n 3, 1) := by decide +kernel
theorem dL_law_230 : decode cL_law 230 = .ok (.iconst 1, 1) := by decide +kernel
theorem dL_law_231 : decode cL_law 231 = .ok (.iadd, 1) := by decide +kernel
theorem dL_law_232 : decode cL_law 232 = .ok (.iaload, 1) := by decide +kernel
theorem dL_law_233 : decode cL_law 233 = .ok (.invokevirtual 27, 3) := by decide +kernel
theorem dL_law_236 : decode cL_law 236 = .ok (.aload_n 2, 1) := by decide +kernel
theorem dL_law_237 : decode cL_law 237 = .ok (.aload_n 0, 1) := by decide +kernel
theorem dL_law_238 : decode cL_law 238 = .ok (.iload_n 3, 1) := by decide +kernel
theorem dL_law_239 : decode cL_law 239 = .ok (.iconst 1, 1) := by decide +kernel
theorem dL_law_240 : decode cL_law 240 = .ok (.iadd, 1) := by decide +kernel
theorem dL_law_241 : decode cL_law 241 = .ok (.iaload, 1) := by decide +kernel
theorem dL_law_242 : decode cL_law 242 = .ok (.invokevirtual 30, 3) := by decide +kernel
theorem dL_law_245 : decode cL_law 245 = .ok (.if_icmp .eq 408, 3) := by decide +kernel
theorem dL_law_248 : decode cL_law 248 = .ok (.iconst 0, 1) := by decide +kernel
theorem dL_law_249 : decode cL_law 249 = .ok (.ireturn, 1) := by decide +kernel
theorem dL_law_250 : decode cL_law 250 = .ok (.aload_n 1, 1) := by decide +kernel
theorem dL_law_251 : decode cL_law 251 = .ok (.aload_n 0, 1) := by decide +kernel
theorem dL_law_252 : decode cL_law 252 = .ok (.iload_n 3, 1) := by decide +kernel
theorem dL_law_253 : decode cL_law 253 = .ok (.iconst 1, 1) := by decide +kernel
theorem dL_law_254 : decode cL_law 254 = .ok (.iadd, 1) := by decide +kernel
theorem dL_law_255 : decode cL_law 255 = .ok (.iaload, 1) := by decide +kernel
theorem dL_law_256 : decode cL_law 256 = .ok (.invokevirtual 31, 3) := by decide +kernel
theorem dL_law_259 : decode cL_law 259 = .ok (.aload_n 2, 1) := by decide +kernel
theorem dL_law_260 : decode cL_law 260 = .ok (.aload_n 0, 1) := by decide +kernel
theorem dL_law_261 : decode cL_law 261 = .ok (.iload_n 3, 1) := by decide +kernel
theorem dL_law_262 : decode cL_law 262 = .ok (.iconst 1, 1) := by decide +kernel
theorem dL_law_263 : decode cL_law 263 = .ok (.iadd, 1) := by decide +kernel
theorem dL_law_264 : decode cL_law 264 = .ok (.iaload, 1) := by decide +kernel
theorem dL_law_265 : decode cL_law 265 = .ok (.invokevirtual 34, 3) := by decide +kernel
theorem dL_law_268 : decode cL_law 268 = .ok (.if_icmp .eq 385, 3) := by decide +kernel
theorem dL_law_271 : decode cL_law 271 = .ok (.iconst 0, 1) := by decide +kernel
theorem dL_law_272 : decode cL_law 272 = .ok (.ireturn, 1) := by decide +kernel
theorem dL_law_273 : decode cL_law 273 = .ok (.aload_n 1, 1) := by decide +kernel
theorem dL_law_274 : decode cL_law 274 = .ok (.invokevirtual 35, 3) := by decide +kernel
theorem dL_law_277 : decode cL_law 277 = .ok (.aload_n 2, 1) := by decide +kernel
theorem dL_law_278 : decode cL_law 278 = .ok (.invokevirtual 39, 3) := by decide +kernel
theorem dL_law_281 : decode cL_law 281 = .ok (.if_icmp .eq 372, 3) := by decide +kernel
theorem dL_law_284 : decode cL_law 284 = .ok (.iconst 0, 1) := by decide +kernel
theorem dL_law_285 : decode cL_law 285 = .ok (.ireturn, 1) := by decide +kernel
theorem dL_law_286 : decode cL_law 286 = .ok (.aload_n 1, 1) := by decide +kernel
theorem dL_law_287 : decode cL_law 287 = .ok (.aload_n 0, 1) := by decide +kernel
theorem dL_law_288 : decode cL_law 288 = .ok (.iload_n 3, 1) := by decide +kernel
theorem dL_law_289 : decode cL_law 289 = .ok (.iconst 1, 1) := by decide +kernel
theorem dL_law_290 : decode cL_law 290 = .ok (.iadd, 1) := by decide +kernel
theorem dL_law_291 : decode cL_law 291 = .ok (.iaload, 1) := by decide +kernel
theorem dL_law_292 : decode cL_law 292 = .ok (.invokevirtual 40, 3) := by decide +kernel
theorem dL_law_295 : decode cL_law 295 = .ok (.aload_n 2, 1) := by decide +kernel
theorem dL_law_296 : decode cL_law 296 = .ok (.aload_n 0, 1) := by decide +kernel
theorem dL_law_297 : decode cL_law 297 = .ok (.iload_n 3, 1) := by decide +kernel
theorem dL_law_298 : decode cL_law 298 = .ok (.iconst 1, 1) := by decide +kernel
theorem dL_law_299 : decode cL_law 299 = .ok (.iadd, 1) := by decide +kernel
theorem dL_law_300 : decode cL_law 300 = .ok (.iaload, 1) := by decide +kernel
theorem dL_law_301 : decode cL_law 301 = .ok (.invokevirtual 43, 3) := by decide +kernel
theorem dL_law_304 : decode cL_law 304 = .ok (.if_icmp .eq 349, 3) := by decide +kernel
theorem dL_law_307 : decode cL_law 307 = .ok (.iconst 0, 1) := by decide +kernel
theorem dL_law_308 : decode cL_law 308 = .ok (.ireturn, 1) := by decide +kernel
theorem dL_law_309 : decode cL_law 309 = .ok (.aload_n 1, 1) := by decide +kernel
theorem dL_law_310 : decode cL_law 310 = .ok (.invokevirtual 44, 3) := by decide +kernel
theorem dL_law_313 : decode cL_law 313 = .ok (.aload_n 2, 1) := by decide +kernel
theorem dL_law_314 : decode cL_law 314 = .ok (.invokevirtual 47, 3) := by decide +kernel
theorem dL_law_317 : decode cL_law 317 = .ok (.if_icmp .eq 336, 3) := by decide +kernel
theorem dL_law_320 : decode cL_law 320 = .ok (.iconst 0, 1) := by decide +kernel
theorem dL_law_321 : decode cL_law 321 = .ok (.ireturn, 1) := by decide +kernel
theorem dL_law_322 : decode cL_law 322 = .ok (.aload_n 1, 1) := by decide +kernel
theorem dL_law_323 : decode cL_law 323 = .ok (.aload_n 0, 1) := by decide +kernel
theorem dL_law_324 : decode cL_law 324 = .ok (.iload_n 3, 1) := by decide +kernel
theorem dL_law_325 : decode cL_law 325 = .ok (.iconst 1, 1) := by decide +kernel
theorem dL_law_326 : decode cL_law 326 = .ok (.iadd, 1) := by decide +kernel
theorem dL_law_327 : decode cL_law 327 = .ok (.iaload, 1) := by decide +kernel
theorem dL_law_328 : decode cL_law 328 = .ok (.aload_n 0, 1) := by decide +kernel
theorem dL_law_329 : decode cL_law 329 = .ok (.iload_n 3, 1) := by decide +kernel
theorem dL_law_330 : decode cL_law 330 = .ok (.iconst 2, 1) := by decide +kernel
theorem dL_law_331 : decode cL_law 331 = .ok (.iadd, 1) := by decide +kernel
theorem dL_law_332 : decode cL_law 332 = .ok (.iaload, 1) := by decide +kernel
theorem dL_law_333 : decode cL_law 333 = .ok (.invokevirtual 48, 3) := by decide +kernel
theorem dL_law_336 : decode cL_law 336 = .ok (.aload_n 2, 1) := by decide +kernel
theorem dL_law_337 : decode cL_law 337 = .ok (.aload_n 0, 1) := by decide +kernel
theorem dL_law_338 : decode cL_law 338 = .ok (.iload_n 3, 1) := by decide +kernel
theorem dL_law_339 : decode cL_law 339 = .ok (.iconst 1, 1) := by decide +kernel
theorem dL_law_340 : decode cL_law 340 = .ok (.iadd, 1) := by decide +kernel
theorem dL_law_341 : decode cL_law 341 = .ok (.iaload, 1) := by decide +kernel
theorem dL_law_342 : decode cL_law 342 = .ok (.aload_n 0, 1) := by decide +kernel
theorem dL_law_343 : decode cL_law 343 = .ok (.iload_n 3, 1) := by decide +kernel
theorem dL_law_344 : decode cL_law 344 = .ok (.iconst 2, 1) := by decide +kernel
theorem dL_law_345 : decode cL_law 345 = .ok (.iadd, 1) := by decide +kernel
theorem dL_law_346 : decode cL_law 346 = .ok (.iaload, 1) := by decide +kernel
theorem dL_law_347 : decode cL_law 347 = .ok (.invokevirtual 51, 3) := by decide +kernel
theorem dL_law_350 : decode cL_law 350 = .ok (.if_icmp .eq 303, 3) := by decide +kernel
theorem dL_law_353 : decode cL_law 353 = .ok (.iconst 0, 1) := by decide +kernel
theorem dL_law_354 : decode cL_law 354 = .ok (.ireturn, 1) := by decide +kernel
theorem dL_law_355 : decode cL_law 355 = .ok (.aload_n 1, 1) := by decide +kernel
theorem dL_law_356 : decode cL_law 356 = .ok (.invokevirtual 52, 3) := by decide +kernel
theorem dL_law_359 : decode cL_law 359 = .ok (.aload_n 2, 1) := by decide +kernel
theorem dL_law_360 : decode cL_law 360 = .ok (.invokevirtual 55, 3) := by decide +kernel
theorem dL_law_363 : decode cL_law 363 = .ok (.if_icmp .eq 290, 3) := by decide +kernel
theorem dL_law_366 : decode cL_law 366 = .ok (.iconst 0, 1) := by decide +kernel
theorem dL_law_367 : decode cL_law 367 = .ok (.ireturn, 1) := by decide +kernel
theorem dL_law_368 : decode cL_law 368 = .ok (.aload_n 1, 1) := by decide +kernel
theorem dL_law_369 : decode cL_law 369 = .ok (.aload_n 0, 1) := by decide +kernel
theorem dL_law_370 : decode cL_law 370 = .ok (.iload_n 3, 1) := by decide +kernel
theorem dL_law_371 : decode cL_law 371 = .ok (.iconst 1, 1) := by decide +kernel
theorem dL_law_372 : decode cL_law 372 = .ok (.iadd, 1) := by decide +kernel
theorem dL_law_373 : decode cL_law 373 = .ok (.iaload, 1) := by decide +kernel
theorem dL_law_374 : decode cL_law 374 = .ok (.invokevirtual 56, 3) := by decide +kernel
theorem dL_law_377 : decode cL_law 377 = .ok (.aload_n 2, 1) := by decide +kernel
theorem dL_law_378 : decode cL_law 378 = .ok (.aload_n 0, 1) := by decide +kernel
theorem dL_law_379 : decode cL_law 379 = .ok (.iload_n 3, 1) := by decide +kernel
theorem dL_law_380 : decode cL_law 380 = .ok (.iconst 1, 1) := by decide +kernel
theorem dL_law_381 : decode cL_law 381 = .ok (.iadd, 1) := by decide +kernel
theorem dL_law_382 : decode cL_law 382 = .ok (.iaload, 1) := by decide +kernel
theorem dL_law_383 : decode cL_law 383 = .ok (.invokevirtual 59, 3) := by decide +kernel
theorem dL_law_386 : decode cL_law 386 = .ok (.if_icmp .eq 267, 3) := by decide +kernel
theorem dL_law_389 : decode cL_law 389 = .ok (.iconst 0, 1) := by decide +kernel
theorem dL_law_390 : decode cL_law 390 = .ok (.ireturn, 1) := by decide +kernel
theorem dL_law_391 : decode cL_law 391 = .ok (.aload_n 1, 1) := by decide +kernel
theorem dL_law_392 : decode cL_law 392 = .ok (.aload_n 0, 1) := by decide +kernel
theorem dL_law_393 : decode cL_law 393 = .ok (.iload_n 3, 1) := by decide +kernel
theorem dL_law_394 : decode cL_law 394 = .ok (.iconst 1, 1) := by decide +kernel
theorem dL_law_395 : decode cL_law 395 = .ok (.iadd, 1) := by decide +kernel
theorem dL_law_396 : decode cL_law 396 = .ok (.iaload, 1) := by decide +kernel
theorem dL_law_397 : decode cL_law 397 = .ok (.aload_n 0, 1) := by decide +kernel
theorem dL_law_398 : decode cL_law 398 = .ok (.iload_n 3, 1) := by decide +kernel
theorem dL_law_399 : decode cL_law 399 = .ok (.iconst 2, 1) := by decide +kernel
theorem dL_law_400 : decode cL_law 400 = .ok (.iadd, 1) := by decide +kernel
theorem dL_law_401 : decode cL_law 401 = .ok (.iaload, 1) := by decide +kernel
theorem dL_law_402 : decode cL_law 402 = .ok (.invokevirtual 60, 3) := by decide +kernel
theorem dL_law_405 : decode cL_law 405 = .ok (.aload_n 2, 1) := by decide +kernel
theorem dL_law_406 : decode cL_law 406 = .ok (.aload_n 0, 1) := by decide +kernel
theorem dL_law_407 : decode cL_law 407 = .ok (.iload_n 3, 1) := by decide +kernel
theorem dL_law_408 : decode cL_law 408 = .ok (.iconst 1, 1) := by decide +kernel
theorem dL_law_409 : decode cL_law 409 = .ok (.iadd, 1) := by decide +kernel
theorem dL_law_410 : decode cL_law 410 = .ok (.iaload, 1) := by decide +kernel
theorem dL_law_411 : decode cL_law 411 = .ok (.aload_n 0, 1) := by decide +kernel
theorem dL_law_412 : decode cL_law 412 = .ok (.iload_n 3, 1) := by decide +kernel
theorem dL_law_413 : decode cL_law 413 = .ok (.iconst 2, 1) := by decide +kernel
theorem dL_law_414 : decode cL_law 414 = .ok (.iadd, 1) := by decide +kernel
theorem dL_law_415 : decode cL_law 415 = .ok (.iaload, 1) := by decide +kernel
theorem dL_law_416 : decode cL_law 416 = .ok (.invokevirtual 63, 3) := by decide +kernel
theorem dL_law_419 : decode cL_law 419 = .ok (.if_icmp .eq 234, 3) := by decide +kernel
theorem dL_law_422 : decode cL_law 422 = .ok (.iconst 0, 1) := by decide +kernel
theorem dL_law_423 : decode cL_law 423 = .ok (.ireturn, 1) := by decide +kernel
theorem dL_law_424 : decode cL_law 424 = .ok (.aload_n 1, 1) := by decide +kernel
theorem dL_law_425 : decode cL_law 425 = .ok (.aload_n 0, 1) := by decide +kernel
theorem dL_law_426 : decode cL_law 426 = .ok (.iload_n 3, 1) := by decide +kernel
theorem dL_law_427 : decode cL_law 427 = .ok (.iconst 1, 1) := by decide +kernel
theorem dL_law_428 : decode cL_law 428 = .ok (.iadd, 1) := by decide +kernel
theorem dL_law_429 : decode cL_law 429 = .ok (.iaload, 1) := by decide +kernel
theorem dL_law_430 : decode cL_law 430 = .ok (.invokevirtual 64, 3) := by decide +kernel
theorem dL_law_433 : decode cL_law 433 = .ok (.aload_n 2, 1) := by decide +kernel
theorem dL_law_434 : decode cL_law 434 = .ok (.aload_n 0, 1) := by decide +kernel
theorem dL_law_435 : decode cL_law 435 = .ok (.iload_n 3, 1) := by decide +kernel
theorem dL_law_436 : decode cL_law 436 = .ok (.iconst 1, 1) := by decide +kernel
theorem dL_law_437 : decode cL_law 437 = .ok (.iadd, 1) := by decide +kernel
theorem dL_law_438 : decode cL_law 438 = .ok (.iaload, 1) := by decide +kernel
theorem dL_law_439 : decode cL_law 439 = .ok (.invokevirtual 67, 3) := by decide +kernel
theorem dL_law_442 : decode cL_law 442 = .ok (.if_icmp .eq 211, 3) := by decide +kernel
theorem dL_law_445 : decode cL_law 445 = .ok (.iconst 0, 1) := by decide +kernel
theorem dL_law_446 : decode cL_law 446 = .ok (.ireturn, 1) := by decide +kernel
theorem dL_law_447 : decode cL_law 447 = .ok (.aload_n 1, 1) := by decide +kernel
theorem dL_law_448 : decode cL_law 448 = .ok (.aload_n 0, 1) := by decide +kernel
theorem dL_law_449 : decode cL_law 449 = .ok (.iload_n 3, 1) := by decide +kernel
theorem dL_law_450 : decode cL_law 450 = .ok (.iconst 1, 1) := by decide +kernel
theorem dL_law_451 : decode cL_law 451 = .ok (.iadd, 1) := by decide +kernel
theorem dL_law_452 : decode cL_law 452 = .ok (.iaload, 1) := by decide +kernel
theorem dL_law_453 : decode cL_law 453 = .ok (.invokevirtual 68, 3) := by decide +kernel
theorem dL_law_456 : decode cL_law 456 = .ok (.aload_n 2, 1) := by decide +kernel
theorem dL_law_457 : decode cL_law 457 = .ok (.aload_n 0, 1) := by decide +kernel
theorem dL_law_458 : decode cL_law 458 = .ok (.iload_n 3, 1) := by decide +kernel
theorem dL_law_459 : decode cL_law 459 = .ok (.iconst 1, 1) := by decide +kernel
theorem dL_law_460 : decode cL_law 460 = .ok (.iadd, 1) := by decide +kernel
theorem dL_law_461 : decode cL_law 461 = .ok (.iaload, 1) := by decide +kernel
theorem dL_law_462 : decode cL_law 462 = .ok (.invokevirtual 71, 3) := by decide +kernel
theorem dL_law_465 : decode cL_law 465 = .ok (.if_icmp .eq 188, 3) := by decide +kernel
theorem dL_law_468 : decode cL_law 468 = .ok (.iconst 0, 1) := by decide +kernel
theorem dL_law_469 : decode cL_law 469 = .ok (.ireturn, 1) := by decide +kernel
theorem dL_law_470 : decode cL_law 470 = .ok (.aload_n 1, 1) := by decide +kernel
theorem dL_law_471 : decode cL_law 471 = .ok (.aload_n 0, 1) := by decide +kernel
theorem dL_law_472 : decode cL_law 472 = .ok (.iload_n 3, 1) := by decide +kernel
theorem dL_law_473 : decode cL_law 473 = .ok (.iconst 1, 1) := by decide +kernel
theorem dL_law_474 : decode cL_law 474 = .ok (.iadd, 1) := by decide +kernel
theorem dL_law_475 : decode cL_law 475 = .ok (.iaload, 1) := by decide +kernel
theorem dL_law_476 : decode cL_law 476 = .ok (.aload_n 0, 1) := by decide +kernel
theorem dL_law_477 : decode cL_law 477 = .ok (.iload_n 3, 1) := by decide +kernel
theorem dL_law_478 : decode cL_law 478 = .ok (.iconst 2, 1) := by decide +kernel
theorem dL_law_479 : decode cL_law 479 = .ok (.iadd, 1) := by decide +kernel
theorem dL_law_480 : decode cL_law 480 = .ok (.iaload, 1) := by decide +kernel
theorem dL_law_481 : decode cL_law 481 = .ok (.invokevirtual 72, 3) := by decide +kernel
theorem dL_law_484 : decode cL_law 484 = .ok (.aload_n 2, 1) := by decide +kernel
theorem dL_law_485 : decode cL_law 485 = .ok (.aload_n 0, 1) := by decide +kernel
theorem dL_law_486 : decode cL_law 486 = .ok (.iload_n 3, 1) := by decide +kernel
theorem dL_law_487 : decode cL_law 487 = .ok (.iconst 1, 1) := by decide +kernel
theorem dL_law_488 : decode cL_law 488 = .ok (.iadd, 1) := by decide +kernel
theorem dL_law_489 : decode cL_law 489 = .ok (.iaload, 1) := by decide +kernel
theorem dL_law_490 : decode cL_law 490 = .ok (.aload_n 0, 1) := by decide +kernel
theorem dL_law_491 : decode cL_law 491 = .ok (.iload_n 3, 1) := by decide +kernel
theorem dL_law_492 : decode cL_law 492 = .ok (.iconst 2, 1) := by decide +kernel
theorem dL_law_493 : decode cL_law 493 = .ok (.iadd, 1) := by decide +kernel
theorem dL_law_494 : decode cL_law 494 = .ok (.iaload, 1) := by decide +kernel
theorem dL_law_495 : decode cL_law 495 = .ok (.invokevirtual 75, 3) := by decide +kernel
theorem dL_law_498 : decode cL_law 498 = .ok (.if_icmp .eq 155, 3) := by decide +kernel
theorem dL_law_501 : decode cL_law 501 = .ok (.iconst 0, 1) := by decide +kernel
theorem dL_law_502 : decode cL_law 502 = .ok (.ireturn, 1) := by decide +kernel
theorem dL_law_503 : decode cL_law 503 = .ok (.aload_n 1, 1) := by decide +kernel
theorem dL_law_504 : decode cL_law 504 = .ok (.invokevirtual 76, 3) := by decide +kernel
theorem dL_law_507 : decode cL_law 507 = .ok (.aload_n 2, 1) := by decide +kernel
theorem dL_law_508 : decode cL_law 508 = .ok (.invokevirtual 79, 3) := by decide +kernel
theorem dL_law_511 : decode cL_law 511 = .ok (.if_icmp .eq 142, 3) := by decide +kernel
theorem dL_law_514 : decode cL_law 514 = .ok (.iconst 0, 1) := by decide +kernel
theorem dL_law_515 : decode cL_law 515 = .ok (.ireturn, 1) := by decide +kernel
theorem dL_law_516 : decode cL_law 516 = .ok (.aload_n 1, 1) := by decide +kernel
theorem dL_law_517 : decode cL_law 517 = .ok (.invokevirtual 80, 3) := by decide +kernel
theorem dL_law_520 : decode cL_law 520 = .ok (.aload_n 2, 1) := by decide +kernel
theorem dL_law_521 : decode cL_law 521 = .ok (.invokevirtual 83, 3) := by decide +kernel
theorem dL_law_524 : decode cL_law 524 = .ok (.if_icmp .eq 129, 3) := by decide +kernel
theorem dL_law_527 : decode cL_law 527 = .ok (.iconst 0, 1) := by decide +kernel
theorem dL_law_528 : decode cL_law 528 = .ok (.ireturn, 1) := by decide +kernel
theorem dL_law_529 : decode cL_law 529 = .ok (.aload_n 1, 1) := by decide +kernel
theorem dL_law_530 : decode cL_law 530 = .ok (.aload_n 0, 1) := by decide +kernel
theorem dL_law_531 : decode cL_law 531 = .ok (.iload_n 3, 1) := by decide +kernel
theorem dL_law_532 : decode cL_law 532 = .ok (.iconst 1, 1) := by decide +kernel
theorem dL_law_533 : decode cL_law 533 = .ok (.iadd, 1) := by decide +kernel
theorem dL_law_534 : decode cL_law 534 = .ok (.iaload, 1) := by decide +kernel
theorem dL_law_535 : decode cL_law 535 = .ok (.invokevirtual 84, 3) := by decide +kernel
theorem dL_law_538 : decode cL_law 538 = .ok (.aload_n 2, 1) := by decide +kernel
theorem dL_law_539 : decode cL_law 539 = .ok (.aload_n 0, 1) := by decide +kernel
theorem dL_law_540 : decode cL_law 540 = .ok (.iload_n 3, 1) := by decide +kernel
theorem dL_law_541 : decode cL_law 541 = .ok (.iconst 1, 1) := by decide +kernel
theorem dL_law_542 : decode cL_law 542 = .ok (.iadd, 1) := by decide +kernel
theorem dL_law_543 : decode cL_law 543 = .ok (.iaload, 1) := by decide +kernel
theorem dL_law_544 : decode cL_law 544 = .ok (.invokevirtual 87, 3) := by decide +kernel
theorem dL_law_547 : decode cL_law 547 = .ok (.if_icmp .eq 106, 3) := by decide +kernel
theorem dL_law_550 : decode cL_law 550 = .ok (.iconst 0, 1) := by decide +kernel
theorem dL_law_551 : decode cL_law 551 = .ok (.ireturn, 1) := by decide +kernel
theorem dL_law_552 : decode cL_law 552 = .ok (.aload_n 1, 1) := by decide +kernel
theorem dL_law_553 : decode cL_law 553 = .ok (.aload_n 0, 1) := by decide +kernel
theorem dL_law_554 : decode cL_law 554 = .ok (.iload_n 3, 1) := by decide +kernel
theorem dL_law_555 : decode cL_law 555 = .ok (.iconst 1, 1) := by decide +kernel
theorem dL_law_556 : decode cL_law 556 = .ok (.iadd, 1) := by decide +kernel
theorem dL_law_557 : decode cL_law 557 = .ok (.iaload, 1) := by decide +kernel
theorem dL_law_558 : decode cL_law 558 = .ok (.invokevirtual 88, 3) := by decide +kernel
theorem dL_law_561 : decode cL_law 561 = .ok (.aload_n 2, 1) := by decide +kernel
theorem dL_law_562 : decode cL_law 562 = .ok (.aload_n 0, 1) := by decide +kernel
theorem dL_law_563 : decode cL_law 563 = .ok (.iload_n 3, 1) := by decide +kernel
theorem dL_law_564 : decode cL_law 564 = .ok (.iconst 1, 1) := by decide +kernel
theorem dL_law_565 : decode cL_law 565 = .ok (.iadd, 1) := by decide +kernel
theorem dL_law_566 : decode cL_law 566 = .ok (.iaload, 1) := by decide +kernel
theorem dL_law_567 : decode cL_law 567 = .ok (.invokevirtual 91, 3) := by decide +kernel
theorem dL_law_570 : decode cL_law 570 = .ok (.if_icmp .eq 83, 3) := by decide +kernel
theorem dL_law_573 : decode cL_law 573 = .ok (.iconst 0, 1) := by decide +kernel
theorem dL_law_574 : decode cL_law 574 = .ok (.ireturn, 1) := by decide +kernel
theorem dL_law_575 : decode cL_law 575 = .ok (.aload_n 1, 1) := by decide +kernel
theorem dL_law_576 : decode cL_law 576 = .ok (.invokevirtual 92, 3) := by decide +kernel
theorem dL_law_579 : decode cL_law 579 = .ok (.aload_n 2, 1) := by decide +kernel
theorem dL_law_580 : decode cL_law 580 = .ok (.invokevirtual 95, 3) := by decide +kernel
theorem dL_law_583 : decode cL_law 583 = .ok (.if_icmp .eq 70, 3) := by decide +kernel
theorem dL_law_586 : decode cL_law 586 = .ok (.iconst 0, 1) := by decide +kernel
theorem dL_law_587 : decode cL_law 587 = .ok (.ireturn, 1) := by decide +kernel
theorem dL_law_588 : decode cL_law 588 = .ok (.aload_n 1, 1) := by decide +kernel
theorem dL_law_589 : decode cL_law 589 = .ok (.invokevirtual 96, 3) := by decide +kernel
theorem dL_law_592 : decode cL_law 592 = .ok (.aload_n 2, 1) := by decide +kernel
theorem dL_law_593 : decode cL_law 593 = .ok (.invokevirtual 99, 3) := by decide +kernel
theorem dL_law_596 : decode cL_law 596 = .ok (.if_icmp .eq 57, 3) := by decide +kernel
theorem dL_law_599 : decode cL_law 599 = .ok (.iconst 0, 1) := by decide +kernel
theorem dL_law_600 : decode cL_law 600 = .ok (.ireturn, 1) := by decide +kernel
theorem dL_law_601 : decode cL_law 601 = .ok (.aload_n 1, 1) := by decide +kernel
theorem dL_law_602 : decode cL_law 602 = .ok (.invokevirtual 100, 3) := by decide +kernel
theorem dL_law_605 : decode cL_law 605 = .ok (.aload_n 2, 1) := by decide +kernel
theorem dL_law_606 : decode cL_law 606 = .ok (.invokevirtual 103, 3) := by decide +kernel
theorem dL_law_609 : decode cL_law 609 = .ok (.if_icmp .eq 44, 3) := by decide +kernel
theorem dL_law_612 : decode cL_law 612 = .ok (.iconst 0, 1) := by decide +kernel
theorem dL_law_613 : decode cL_law 613 = .ok (.ireturn, 1) := by decide +kernel
theorem dL_law_614 : decode cL_law 614 = .ok (.aload_n 1, 1) := by decide +kernel
theorem dL_law_615 : decode cL_law 615 = .ok (.invokevirtual 104, 3) := by decide +kernel
theorem dL_law_618 : decode cL_law 618 = .ok (.aload_n 2, 1) := by decide +kernel
theorem dL_law_619 : decode cL_law 619 = .ok (.invokevirtual 107, 3) := by decide +kernel
theorem dL_law_622 : decode cL_law 622 = .ok (.if_icmp .eq 31, 3) := by decide +kernel
theorem dL_law_625 : decode cL_law 625 = .ok (.iconst 0, 1) := by decide +kernel
theorem dL_law_626 : decode cL_law 626 = .ok (.ireturn, 1) := by decide +kernel
theorem dL_law_627 : decode cL_law 627 = .ok (.aload_n 1, 1) := by decide +kernel
theorem dL_law_628 : decode cL_law 628 = .ok (.invokevirtual 108, 3) := by decide +kernel
theorem dL_law_631 : decode cL_law 631 = .ok (.aload_n 2, 1) := by decide +kernel
theorem dL_law_632 : decode cL_law 632 = .ok (.invokevirtual 111, 3) := by decide +kernel
theorem dL_law_635 : decode cL_law 635 = .ok (.if_icmp .eq 18, 3) := by decide +kernel
theorem dL_law_638 : decode cL_law 638 = .ok (.iconst 0, 1) := by decide +kernel
theorem dL_law_639 : decode cL_law 639 = .ok (.ireturn, 1) := by decide +kernel
theorem dL_law_640 : decode cL_law 640 = .ok (.aload_n 1, 1) := by decide +kernel
theorem dL_law_641 : decode cL_law 641 = .ok (.invokevirtual 112, 3) := by decide +kernel
theorem dL_law_644 : decode cL_law 644 = .ok (.aload_n 2, 1) := by decide +kernel
theorem dL_law_645 : decode cL_law 645 = .ok (.invokevirtual 115, 3) := by decide +kernel
theorem dL_law_648 : decode cL_law 648 = .ok (.if_icmp .eq 5, 3) := by decide +kernel
theorem dL_law_651 : decode cL_law 651 = .ok (.iconst 0, 1) := by decide +kernel
theorem dL_law_652 : decode cL_law 652 = .ok (.ireturn, 1) := by decide +kernel
theorem dL_law_653 : decode cL_law 653 = .ok (.iinc 3 3, 3) := by decide +kernel
theorem dL_law_656 : decode cL_law 656 = .ok (.goto (-638), 3) := by decide +kernel
theorem dL_law_659 : decode cL_law 659 = .ok (.iconst 1, 1) := by decide +kernel
theorem dL_law_660 : decode cL_law 660 = .ok (.ireturn, 1) := by decide +kernel
abbrev vwCl : List vw_C := [(RX0, TX0, 13), (RX1, TX1, 2), (RX2, TX2, 2), (RX3, TX3, 7), (RX4, TX4, 13)]
end
section
/-! THE MACHINE THROUGH ONE LIST OF CELLS. All cells that the law's run makes stand, in the order of their making, from the address B on: the cell of the number i at B + i. A memory is a list of contents; a reference in it is a number. Arrays name their class by a number: 0 int, 1 boolean, 2 char, 3 objects of class RX0. A float stands for the script's reference. -/
abbrev xI : Type := MethodName × ByteArray × Nat × Option FieldType × Nat × Nat × Nat × Nat
abbrev xG : Type := Launch × va_G × (Nat → ClassId) × Nat × Nat × Nat × (Nat → Int32)
abbrev xM : Type := List va_E
def x_rm (k : xI) : Room := { frames := k.2.2.2.2.1, cells := k.2.2.2.2.2.2.1, slots := k.2.2.2.2.2.2.2, locals := k.2.2.2.2.2.1 }
def x_tbl : List Cond := lw_tbl.filter goodWord
def x_ws (k : xI) : List Cond := .code k.1 k.2.1 k.2.2.1 k.2.2.2.1 :: x_tbl
theorem x_w {w : Cond} (i : Nat) (h : lw_tbl[i]? = some w) (hg : goodWord w = true) : w ∈ x_tbl := List.mem_filter.mpr ⟨List.mem_of_getElem? h, hg⟩
theorem x_in {ws : List Cond} (ps : List Nat) (hp : ws = ps.filterMap (fun i => lw_tbl[i]?)) (h : ws.all goodWord = true) : ∀ w ∈ ws, w ∈ x_tbl := by
  intro w hw
  have h1 := List.all_eq_true.mp h w hw
  rw [hp] at hw
  obtain ⟨i, -, hi⟩ := List.mem_filterMap.mp hw
  exact x_w i hi h1
theorem x_good {k : xI} (h : Cond.code k.1 k.2.1 k.2.2.1 k.2.2.2.1 ∈ x_tbl) : GoodIn x_tbl (x_ws k) := by
  intro w hw
  have hm : w ∈ x_tbl := by
    rcases List.mem_cons.mp hw with rfl | hw
    · exact h
    · exact hw
  exact ⟨hm, good_of_word (List.mem_filter.mp hm).2⟩
def x_v (G : xG) : Value → Value
  | .ref i => .ref (G.2.2.2.1 + i)
  | .float _ => .ref G.2.2.2.2.1
  | v => v
theorem x_cat (G : xG) (v : Value) : (x_v G v).category = v.category := by cases v <;> rfl
def x_a (G : xG) : vp_A → vp_A
  | (n, .inr (.inr (.inr (.inr f)))) => (n, .inr (.inr (.inr (.inr (fun j => (f j).map (fun i => G.2.2.2.1 + i))))))
  | a => a
def x_c (G : xG) : va_E → va_E
  | .inl (t, a) => .inl (G.2.2.1 t, x_a G a)
  | .inr (c, fs) => .inr (c, fs.map (x_v G))
def xRep (G : xG) (mem : xM) (H : Heap) : Prop := H.size = G.2.2.2.1 + mem.length ∧ ∀ (i : Nat) (c : va_E), mem[i]? = some c → va_at G.2.1 vwCl (G.2.2.2.1 + i, x_c G c) H
def xFr (G : xG) (s : State) (H : Heap) (locs : List Loc) : Prop := G.2.2.2.1 ≤ s.heap.size ∧ (∀ q : Nat, q < G.2.2.2.1 → H[q]? = s.heap[q]?) ∧ ∀ q ∈ locs, G.2.2.2.1 ≤ q.base
abbrev x_tys (G : xG) : List (ClassId × FieldType) := [(G.2.2.1 0, .int), (G.2.2.1 1, .boolean), (G.2.2.1 2, .char), (G.2.2.1 3, .object RX0)]
def x_nestW : Cond → Bool
  | .methodLinkNest _ _ _ _ => true
  | .fieldLinkNest _ _ _ _ _ _ => true
  | _ => false
def x_nests : List Cond := lw_tbl.filter x_nestW
theorem x_wn {w : Cond} (i : Nat) (h : lw_tbl[i]? = some w) (hg : x_nestW w = true) : w ∈ x_nests := List.mem_filter.mpr ⟨List.mem_of_getElem? h, hg⟩
theorem x_nest_warm {w : Cond} (hw : w ∈ x_nests) {s U : State} (hW : s.WarmedH U.vm) (h : va_Nw w s) : va_Nw w U := by
  have hg := (List.mem_filter.mp hw).2
  cases w <;> first | (simp [x_nestW] at hg; done) | exact h.warmM hW | exact h.warmF hW
theorem x_nest_same {w : Cond} (hw : w ∈ x_nests) {s U : State} (hW : s.vm = U.vm) (h : va_Nw w s) : va_Nw w U := by
  have hg := (List.mem_filter.mp hw).2
  cases w <;> first | (simp [x_nestW] at hg; done) | exact h.same rfl hW
def xEn (G : xG) (U : State) : Prop := va_K G.2.1 vwCl (x_tys G) U ∧ va_AO RX0 U ∧ va_X G.2.2.2.2.1 G.2.2.2.2.2.1 G.2.2.2.2.2.2 U U.heap ∧ G.2.2.2.2.1 < G.2.2.2.1 ∧ ∀ w ∈ x_nests, va_Nw w U
theorem xRep.set {G : xG} {mem : xM} {H H1 : Heap} {i : Nat} {c0 c1 : va_E} (h : xRep G mem H) (hi : mem[i]? = some c0) (z : H1.size = H.size) (he : va_at G.2.1 vwCl (G.2.2.2.1 + i, x_c G c1) H1) (oq : ∀ q : Nat, q ≠ G.2.2.2.1 + i → H1[q]? = H[q]?) : xRep G (mem.set i c1) H1 := by
  refine ⟨by rw [z, List.length_set]; exact h.1, fun j c hj => ?_⟩
  have hl := (List.getElem?_eq_some_iff.mp hi).1
  by_cases hji : j = i
  · subst hji
    rw [List.getElem?_set_self hl] at hj
    cases hj
    exact he
  · rw [List.getElem?_set_ne (Ne.symm hji)] at hj
    exact (h.2 j c hj).kept (oq (G.2.2.2.1 + j) (by omega))
theorem xRep.push {G : xG} {mem : xM} {H H1 : Heap} {c1 : va_E} (h : xRep G mem H) (z : H1.size = H.size + 1) (he : va_at G.2.1 vwCl (G.2.2.2.1 + mem.length, x_c G c1) H1) (oq : ∀ q : Nat, q < H.size → H1[q]? = H[q]?) : xRep G (mem ++ [c1]) H1 := by
  refine ⟨by rw [z, List.length_append, h.1]; simp only [List.length_cons, List.length_nil]; omega, fun j c hj => ?_⟩
  by_cases hl : j < mem.length
  · rw [List.getElem?_append_left hl] at hj
    exact (h.2 j c hj).kept (oq (G.2.2.2.1 + j) (by rw [h.1]; omega))
  · rw [List.getElem?_append_right (by omega)] at hj
    have hz : j - mem.length < 1 := (List.getElem?_eq_some_iff.mp hj).1
    have e : j = mem.length := by omega
    subst e
    rw [Nat.sub_self] at hj
    cases hj
    exact he
theorem xFr.put {G : xG} {s : State} {H H1 : Heap} {locs : List Loc} {i j : Nat} (h : xFr G s H locs) (oq : ∀ q : Nat, q ≠ G.2.2.2.1 + i → H1[q]? = H[q]?) : xFr G s H1 (locs ++ [⟨G.2.2.2.1 + i, j⟩]) := by
  refine ⟨h.1, fun q hq => ?_, fun q hq => ?_⟩
  · rw [oq q (by omega)]
    exact h.2.1 q hq
  · rcases List.mem_append.mp hq with hq | hq
    · exact h.2.2 q hq
    · rw [List.mem_singleton.mp hq]
      show G.2.2.2.1 ≤ G.2.2.2.1 + i
      omega
theorem xFr.kept {G : xG} {s : State} {H H1 : Heap} {locs : List Loc} (h : xFr G s H locs) (hz : G.2.2.2.1 ≤ H.size) (oq : ∀ q : Nat, q < H.size → H1[q]? = H[q]?) : xFr G s H1 locs :=
  ⟨h.1, fun q hq => by rw [oq q (by omega)]; exact h.2.1 q hq, h.2.2⟩
theorem xRep.one {G : xG} {mem : xM} {H : Heap} {i : Nat} {c : va_E} (h : xRep G mem H) (hi : mem[i]? = some c) : va_P G.2.1 vwCl [(G.2.2.2.1 + i, x_c G c)] H := by
  intro k q hk
  match k, hk with
  | 0, hk => cases hk; exact h.2 i c hi
  | k + 1, hk => simp at hk
/-! locals: a function -/
def x_get : List (Nat × Value) → Nat → Option Value
  | [], _ => none
  | q :: l, i => bif Nat.beq q.1 i then some q.2 else x_get l i
def x_L (l : List (Nat × Value)) : Nat → Option Value := fun i => x_get l i
def x_up (loc : Nat → Option Value) (i : Nat) (v : Value) : Nat → Option Value := fun j => bif Nat.beq i j then some v else loc j
def x_dn (loc : Nat → Option Value) (i : Nat) : Nat → Option Value := fun j => bif Nat.beq i j then none else loc j
def x_c1 : Option Value → Bool
  | some v => Nat.beq v.category 1
  | none => true
def x_p (loc : Nat → Option Value) : Nat → Bool
  | 0 => true
  | j + 1 => x_c1 (loc j)
def x_ls (G : xG) (ls : Array Slot) (nL : Nat) (loc : Nat → Option Value) : Prop := ls.size = nL ∧ lv_wf ls ∧ ∀ (i : Nat) (v : Value), loc i = some v → ls[i]? = some (.val (x_v G v))
theorem x_beq {a b : Nat} : Nat.beq a b = true ↔ a = b := ⟨Nat.eq_of_beq_eq_true, fun h => by subst h; exact Nat.beq_refl a⟩
theorem x_get_mem : ∀ (l : List (Nat × Value)) (i : Nat) (v : Value), x_get l i = some v → (i, v) ∈ l
  | [], i, v, h => by cases h
  | q :: l, i, v, h => by
    unfold x_get at h
    cases hb : Nat.beq q.1 i with
    | true =>
      rw [hb] at h
      cases h
      have e := x_beq.mp hb
      rw [← e]
      exact List.mem_cons_self
    | false =>
      rw [hb] at h
      exact List.mem_cons_of_mem _ (x_get_mem l i v h)
def x_has (loc : Nat → Option Value) : List (Nat × Value) → Prop
  | [] => True
  | q :: l => loc q.1 = some q.2 ∧ x_has loc l
theorem x_has_mem {loc : Nat → Option Value} : ∀ (l : List (Nat × Value)), x_has loc l → ∀ q ∈ l, loc q.1 = some q.2
  | [], _, q, h => by cases h
  | a :: l, h, q, hq => by
    rcases List.mem_cons.mp hq with rfl | hq
    · exact h.1
    · exact x_has_mem l h.2 q hq
theorem x_ls_sub {G : xG} {ls : Array Slot} {nL : Nat} {loc : Nat → Option Value} (h : x_ls G ls nL loc) (l : List (Nat × Value)) (hl : x_has loc l) : x_ls G ls nL (x_L l) :=
  ⟨h.1, h.2.1, fun i v hv => h.2.2 i v (x_has_mem l hl (i, v) (x_get_mem l i v hv))⟩
def x_list (G : xG) (loc : Nat → Option Value) (nL : Nat) : List (Nat × Value) := (List.range nL).filterMap (fun j => (loc j).map (fun v => (j, x_v G v)))
theorem x_ls_list {G : xG} {ls : Array Slot} {nL : Nat} {loc : Nat → Option Value} (h : x_ls G ls nL loc) : lv_has ls nL (x_list G loc nL) := by
  refine ⟨h.1, h.2.1, fun q hq => ?_⟩
  obtain ⟨j, -, hj⟩ := List.mem_filterMap.mp hq
  cases hv : loc j with
  | none => rw [hv] at hj; cases hj
  | some v =>
    rw [hv] at hj
    cases hj
    exact h.2.2 j v hv
theorem x_list_mem {G : xG} {ls : Array Slot} {nL : Nat} {loc : Nat → Option Value} (h : x_ls G ls nL loc) {i : Nat} {v : Value} (hv : loc i = some v) : (i, x_v G v) ∈ x_list G loc nL := by
  have hi : i < nL := by rw [← h.1]; exact lv_lt (h.2.2 i v hv)
  exact List.mem_filterMap.mpr ⟨i, List.mem_range.mpr hi, by rw [hv]; rfl⟩
theorem x_c1_ok {v : Value} (h : x_c1 (some v) = true) : v.category = 1 := x_beq.mp h
theorem x_ls_up {G : xG} {ls ls' : Array Slot} {nL i : Nat} {loc : Nat → Option Value} {w : Value} (h : x_ls G ls nL loc) (hp : x_p loc i = true)
    (h' : lv_has ls' nL ((i, x_v G w) :: (x_list G loc nL).filter (fun q => !(q.1 == i) && !(q.1 + 1 == i && q.2.category == 2)))) : x_ls G ls' nL (x_up loc i w) := by
  refine ⟨h'.1, h'.2.1, fun j v hv => ?_⟩
  unfold x_up at hv
  cases hb : Nat.beq i j with
  | true =>
    rw [hb] at hv
    cases hv
    have e := x_beq.mp hb
    subst e
    exact h'.2.2 _ List.mem_cons_self
  | false =>
    rw [hb] at hv
    have hv : loc j = some v := hv
    have hne : ¬ j = i := fun e => by rw [e, x_beq.mpr rfl] at hb; cases hb
    refine h'.2.2 (j, x_v G v) (List.mem_cons_of_mem _ (List.mem_filter.mpr ⟨x_list_mem h hv, ?_⟩))
    have h1 : (j == i) = false := by simpa using hne
    by_cases h2 : j + 1 = i
    · subst h2
      have h3 : v.category = 1 := x_c1_ok (by rw [← hv]; exact hp)
      have h4 : ((x_v G v).category == 2) = false := by rw [x_cat, h3]; rfl
      simp [h1, h4]
    · have h3 : (j + 1 == i) = false := by simpa using h2
      simp [h1, h3]
theorem x_ls_up2 {G : xG} {ls ls' : Array Slot} {nL i : Nat} {loc : Nat → Option Value} {w : Value} (h : x_ls G ls nL loc) (hp : x_p loc i = true)
    (h' : lv_has ls' nL ((i, x_v G w) :: (x_list G loc nL).filter (fun q => !(q.1 == i) && (!(q.1 == i + 1) && !(q.1 + 1 == i && q.2.category == 2))))) : x_ls G ls' nL (x_up (x_dn loc (i + 1)) i w) := by
  refine ⟨h'.1, h'.2.1, fun j v hv => ?_⟩
  unfold x_up x_dn at hv
  cases hb : Nat.beq i j with
  | true =>
    rw [hb] at hv
    cases hv
    have e := x_beq.mp hb
    subst e
    exact h'.2.2 _ List.mem_cons_self
  | false =>
    rw [hb] at hv
    cases hb2 : Nat.beq (i + 1) j with
    | true => rw [hb2] at hv; cases hv
    | false =>
      rw [hb2] at hv
      have hv : loc j = some v := hv
      have hne : ¬ j = i := fun e => by rw [e, x_beq.mpr rfl] at hb; cases hb
      have hne2 : ¬ j = i + 1 := fun e => by rw [e, x_beq.mpr rfl] at hb2; cases hb2
      refine h'.2.2 (j, x_v G v) (List.mem_cons_of_mem _ (List.mem_filter.mpr ⟨x_list_mem h hv, ?_⟩))
      have h1 : (j == i) = false := by simpa using hne
      have h5 : (j == i + 1) = false := by simpa using hne2
      by_cases h2 : j + 1 = i
      · subst h2
        have h3 : v.category = 1 := x_c1_ok (by rw [← hv]; exact hp)
        have h4 : ((x_v G v).category == 2) = false := by rw [x_cat, h3]; rfl
        simp [h1, h4, h5]
      · have h3 : (j + 1 == i) = false := by simpa using h2
        simp [h1, h3, h5]
/-! a run -/
def xRet (G : xG) (k : xI) (R : Option Value → xM → Prop) (p : Program) (e : Env) (s : State) (m : MethodId) (args : Array Value) (below : List Frame) (meth : Method) (c : Code) (Q : State → Prop) : Prop :=
  (∀ (x : Int32) (mem : xM) (H : Heap) (locs : List Loc) (ls : Array Slot) (pc : Nat), decode k.2.1 pc = .ok (.ireturn, 1) → (∃ ty : FieldType, k.2.2.2.1 = some ty ∧ narrow ty (.int x) = .int x) → R (some (.int x)) mem → xRep G mem H → xFr G s H locs → W p G.1 e (x_rm k) s m args below meth c H locs k.2.2.2.2.2.2.1 k.2.2.2.2.2.2.2 Q (F0 m pc ls [.int x])) ∧
  (∀ (mem : xM) (H : Heap) (locs : List Loc) (ls : Array Slot) (pc : Nat), decode k.2.1 pc = .ok (.return_, 1) → k.2.2.2.1 = none → R none mem → xRep G mem H → xFr G s H locs → W p G.1 e (x_rm k) s m args below meth c H locs k.2.2.2.2.2.2.1 k.2.2.2.2.2.2.2 Q (F0 m pc ls [])) ∧
  (∀ (x : Int64) (mem : xM) (H : Heap) (locs : List Loc) (ls : Array Slot) (pc : Nat), decode k.2.1 pc = .ok (.lreturn, 1) → k.2.2.2.1 = some .long → R (some (.long x)) mem → xRep G mem H → xFr G s H locs → W p G.1 e (x_rm k) s m args below meth c H locs k.2.2.2.2.2.2.1 k.2.2.2.2.2.2.2 Q (F0 m pc ls [.long x]))
def xFix (G : xG) (k : xI) (R : Option Value → xM → Prop) (p : Program) (e : Env) (s : State) (m : MethodId) (args : Array Value) (below : List Frame) (meth : Method) (c : Code) (Q : State → Prop) : Prop :=
  p.tables.exec = Jvm.exec ∧ c.code = k.2.1 ∧ c.maxLocals = k.2.2.1 ∧ s.vm.findClass k.1.cls = some m.cls ∧ (∀ w ∈ x_tbl, w.before args s = true) ∧ meth.name = k.1.name ∧ xEn G s ∧ xRet G k R p e s m args below meth c Q
def E (G : xG) (k : xI) (R : Option Value → xM → Prop) (ce sl : Nat) (mem : xM) (pc : Nat) (loc : Nat → Option Value) (st : List Value) : Prop :=
  ∀ (p : Program) (e : Env) (s : State) (m : MethodId) (args : Array Value) (below : List Frame) (meth : Method) (c : Code) (Q : State → Prop), xFix G k R p e s m args below meth c Q →
    ∀ (H : Heap) (locs : List Loc) (ls : Array Slot), xRep G mem H → xFr G s H locs → x_ls G ls k.2.2.1 loc → W p G.1 e (x_rm k) s m args below meth c H locs ce sl Q (F0 m pc ls (st.map (x_v G)))
section X
variable {G : xG} {k : xI} {R : Option Value → xM → Prop} {ce sl : Nat} {mem : xM} {pc : Nat} {loc : Nat → Option Value} {st : List Value}
theorem E_loc (l : List (Nat × Value)) (hl : x_has loc l) (kk : E G k R ce sl mem pc (x_L l) st) : E G k R ce sl mem pc loc st :=
  fun p e s m args below meth c Q hF H locs ls hR hS hL => kk p e s m args below meth c Q hF H locs ls hR hS (x_ls_sub hL l hl)
theorem E_widen {ce' sl' : Nat} (h1 : ce ≤ ce') (h2 : sl ≤ sl') (kk : E G k R ce' sl' mem pc loc st) : E G k R ce sl mem pc loc st :=
  fun p e s m args below meth c Q hF H locs ls hR hS hL => W.widen h1 h2 (kk p e s m args below meth c Q hF H locs ls hR hS hL)
theorem i_lt {x y : Int32} : x < y ↔ x.toInt < y.toInt := Int32.lt_iff_toInt_lt
theorem i_le {x y : Int32} : x ≤ y ↔ x.toInt ≤ y.toInt := Int32.le_iff_toInt_le
theorem i_eq {x y : Int32} : x = y ↔ x.toInt = y.toInt := Int32.toInt_inj.symm
theorem E_topi {x : Int32} (kk : ∀ y : Int32, y = x → E G k R ce sl mem pc loc (.int y :: st)) : E G k R ce sl mem pc loc (.int x :: st) := kk x rfl

theorem E_iconst {n : Int} {v : Int32} (hd : decode k.2.1 pc = .ok (.iconst n, 1)) (hv : Int32.ofInt n = v) (kk : E G k R ce sl mem (pc + 1) loc (.int v :: st)) : E G k R ce sl mem pc loc (st) := by
  intro p e s m args below meth c Q hF H locs ls hR hS hL
  obtain ⟨hx, hb, -⟩ := id hF
  exact lv_iconst hx hb hd hv (kk p e s m args below meth c Q hF H locs ls hR hS hL)
theorem E_bipush {n : Int} {v : Int32} (hd : decode k.2.1 pc = .ok (.bipush n, 2)) (hv : (Int8.ofInt n).toInt32 = v) (kk : E G k R ce sl mem (pc + 2) loc (.int v :: st)) : E G k R ce sl mem pc loc (st) := by
  intro p e s m args below meth c Q hF H locs ls hR hS hL
  obtain ⟨hx, hb, -⟩ := id hF
  exact lv_bipush hx hb hd hv (kk p e s m args below meth c Q hF H locs ls hR hS hL)
theorem E_sipush {n : Int} {v : Int32} (hd : decode k.2.1 pc = .ok (.sipush n, 3)) (hv : (Int16.ofInt n).toInt32 = v) (kk : E G k R ce sl mem (pc + 3) loc (.int v :: st)) : E G k R ce sl mem pc loc (st) := by
  intro p e s m args below meth c Q hF H locs ls hR hS hL
  obtain ⟨hx, hb, -⟩ := id hF
  exact lv_sipush hx hb hd hv (kk p e s m args below meth c Q hF H locs ls hR hS hL)
theorem E_lconst {n : Fin 2} {v : Int64} (hd : decode k.2.1 pc = .ok (.lconst n, 1)) (hv : Int64.ofNat (n : Nat) = v) (kk : E G k R ce sl mem (pc + 1) loc (.long v :: st)) : E G k R ce sl mem pc loc (st) := by
  intro p e s m args below meth c Q hF H locs ls hR hS hL
  obtain ⟨hx, hb, -⟩ := id hF
  exact lv_lconst hx hb hd hv (kk p e s m args below meth c Q hF H locs ls hR hS hL)
theorem E_iload_n {j : Fin 4} {x : Int32} (hd : decode k.2.1 pc = .ok (.iload_n j, 1)) (hv : loc (j : Nat) = some (.int x)) (kk : E G k R ce sl mem (pc + 1) loc (.int x :: st)) : E G k R ce sl mem pc loc (st) := by
  intro p e s m args below meth c Q hF H locs ls hR hS hL
  obtain ⟨hx, hb, -⟩ := id hF
  exact lv_iload_n hx hb hd rfl (hL.2.2 _ _ hv) (kk p e s m args below meth c Q hF H locs ls hR hS hL)
theorem E_iload {i : Nat} {x : Int32} (hd : decode k.2.1 pc = .ok (.iload i, 2)) (hv : loc i = some (.int x)) (kk : E G k R ce sl mem (pc + 2) loc (.int x :: st)) : E G k R ce sl mem pc loc (st) := by
  intro p e s m args below meth c Q hF H locs ls hR hS hL
  obtain ⟨hx, hb, -⟩ := id hF
  exact lv_iload hx hb hd (hL.2.2 _ _ hv) (kk p e s m args below meth c Q hF H locs ls hR hS hL)
theorem E_lload_n {j : Fin 4} {x : Int64} (hd : decode k.2.1 pc = .ok (.lload_n j, 1)) (hv : loc (j : Nat) = some (.long x)) (kk : E G k R ce sl mem (pc + 1) loc (.long x :: st)) : E G k R ce sl mem pc loc (st) := by
  intro p e s m args below meth c Q hF H locs ls hR hS hL
  obtain ⟨hx, hb, -⟩ := id hF
  exact lv_lload_n hx hb hd rfl (hL.2.2 _ _ hv) (kk p e s m args below meth c Q hF H locs ls hR hS hL)
theorem E_lload {i : Nat} {x : Int64} (hd : decode k.2.1 pc = .ok (.lload i, 2)) (hv : loc i = some (.long x)) (kk : E G k R ce sl mem (pc + 2) loc (.long x :: st)) : E G k R ce sl mem pc loc (st) := by
  intro p e s m args below meth c Q hF H locs ls hR hS hL
  obtain ⟨hx, hb, -⟩ := id hF
  exact lv_lload hx hb hd (hL.2.2 _ _ hv) (kk p e s m args below meth c Q hF H locs ls hR hS hL)
theorem E_aload_n {j : Fin 4} {r : Nat} (hd : decode k.2.1 pc = .ok (.aload_n j, 1)) (hv : loc (j : Nat) = some (.ref r)) (kk : E G k R ce sl mem (pc + 1) loc (.ref r :: st)) : E G k R ce sl mem pc loc (st) := by
  intro p e s m args below meth c Q hF H locs ls hR hS hL
  obtain ⟨hx, hb, -⟩ := id hF
  exact lv_aload_n hx hb hd rfl (hL.2.2 _ _ hv) (kk p e s m args below meth c Q hF H locs ls hR hS hL)
theorem E_aload {i : Nat} {r : Nat} (hd : decode k.2.1 pc = .ok (.aload i, 2)) (hv : loc i = some (.ref r)) (kk : E G k R ce sl mem (pc + 2) loc (.ref r :: st)) : E G k R ce sl mem pc loc (st) := by
  intro p e s m args below meth c Q hF H locs ls hR hS hL
  obtain ⟨hx, hb, -⟩ := id hF
  exact lv_aload hx hb hd (hL.2.2 _ _ hv) (kk p e s m args below meth c Q hF H locs ls hR hS hL)
theorem E_sload_n {j : Fin 4} {r : UInt32} (hd : decode k.2.1 pc = .ok (.aload_n j, 1)) (hv : loc (j : Nat) = some (.float r)) (kk : E G k R ce sl mem (pc + 1) loc (.float r :: st)) : E G k R ce sl mem pc loc (st) := by
  intro p e s m args below meth c Q hF H locs ls hR hS hL
  obtain ⟨hx, hb, -⟩ := id hF
  exact lv_aload_n hx hb hd rfl (hL.2.2 _ _ hv) (kk p e s m args below meth c Q hF H locs ls hR hS hL)
theorem E_sload {i : Nat} {r : UInt32} (hd : decode k.2.1 pc = .ok (.aload i, 2)) (hv : loc i = some (.float r)) (kk : E G k R ce sl mem (pc + 2) loc (.float r :: st)) : E G k R ce sl mem pc loc (st) := by
  intro p e s m args below meth c Q hF H locs ls hR hS hL
  obtain ⟨hx, hb, -⟩ := id hF
  exact lv_aload hx hb hd (hL.2.2 _ _ hv) (kk p e s m args below meth c Q hF H locs ls hR hS hL)
theorem E_iadd {x y : Int32} (hd : decode k.2.1 pc = .ok (.iadd, 1)) (kk : E G k R ce sl mem (pc + 1) loc (.int (x + y) :: st)) : E G k R ce sl mem pc loc (.int y :: .int x :: st) := by
  intro p e s m args below meth c Q hF H locs ls hR hS hL
  obtain ⟨hx, hb, -⟩ := id hF
  exact lv_iadd hx hb hd (kk p e s m args below meth c Q hF H locs ls hR hS hL)
theorem E_isub {x y : Int32} (hd : decode k.2.1 pc = .ok (.isub, 1)) (kk : E G k R ce sl mem (pc + 1) loc (.int (x - y) :: st)) : E G k R ce sl mem pc loc (.int y :: .int x :: st) := by
  intro p e s m args below meth c Q hF H locs ls hR hS hL
  obtain ⟨hx, hb, -⟩ := id hF
  exact lv_isub hx hb hd (kk p e s m args below meth c Q hF H locs ls hR hS hL)
theorem E_imul {x y : Int32} (hd : decode k.2.1 pc = .ok (.imul, 1)) (kk : E G k R ce sl mem (pc + 1) loc (.int (x * y) :: st)) : E G k R ce sl mem pc loc (.int y :: .int x :: st) := by
  intro p e s m args below meth c Q hF H locs ls hR hS hL
  obtain ⟨hx, hb, -⟩ := id hF
  exact lv_imul hx hb hd (kk p e s m args below meth c Q hF H locs ls hR hS hL)
theorem E_iand {x y : Int32} (hd : decode k.2.1 pc = .ok (.iand, 1)) (kk : E G k R ce sl mem (pc + 1) loc (.int (x &&& y) :: st)) : E G k R ce sl mem pc loc (.int y :: .int x :: st) := by
  intro p e s m args below meth c Q hF H locs ls hR hS hL
  obtain ⟨hx, hb, -⟩ := id hF
  exact lv_iand hx hb hd (kk p e s m args below meth c Q hF H locs ls hR hS hL)
theorem E_ior {x y : Int32} (hd : decode k.2.1 pc = .ok (.ior, 1)) (kk : E G k R ce sl mem (pc + 1) loc (.int (x ||| y) :: st)) : E G k R ce sl mem pc loc (.int y :: .int x :: st) := by
  intro p e s m args below meth c Q hF H locs ls hR hS hL
  obtain ⟨hx, hb, -⟩ := id hF
  exact lv_ior hx hb hd (kk p e s m args below meth c Q hF H locs ls hR hS hL)
theorem E_ixor {x y : Int32} (hd : decode k.2.1 pc = .ok (.ixor, 1)) (kk : E G k R ce sl mem (pc + 1) loc (.int (x ^^^ y) :: st)) : E G k R ce sl mem pc loc (.int y :: .int x :: st) := by
  intro p e s m args below meth c Q hF H locs ls hR hS hL
  obtain ⟨hx, hb, -⟩ := id hF
  exact lv_ixor hx hb hd (kk p e s m args below meth c Q hF H locs ls hR hS hL)
theorem E_ineg {x : Int32} (hd : decode k.2.1 pc = .ok (.ineg, 1)) (kk : E G k R ce sl mem (pc + 1) loc (.int (-x) :: st)) : E G k R ce sl mem pc loc (.int x :: st) := by
  intro p e s m args below meth c Q hF H locs ls hR hS hL
  obtain ⟨hx, hb, -⟩ := id hF
  exact lv_ineg hx hb hd (kk p e s m args below meth c Q hF H locs ls hR hS hL)
theorem E_ishl {x y : Int32} (hd : decode k.2.1 pc = .ok (.ishl, 1)) (kk : E G k R ce sl mem (pc + 1) loc (.int (x <<< (y &&& 31)) :: st)) : E G k R ce sl mem pc loc (.int y :: .int x :: st) := by
  intro p e s m args below meth c Q hF H locs ls hR hS hL
  obtain ⟨hx, hb, -⟩ := id hF
  exact lv_ishl hx hb hd (kk p e s m args below meth c Q hF H locs ls hR hS hL)
theorem E_ishr {x y : Int32} (hd : decode k.2.1 pc = .ok (.ishr, 1)) (kk : E G k R ce sl mem (pc + 1) loc (.int (x >>> (y &&& 31)) :: st)) : E G k R ce sl mem pc loc (.int y :: .int x :: st) := by
  intro p e s m args below meth c Q hF H locs ls hR hS hL
  obtain ⟨hx, hb, -⟩ := id hF
  exact lv_ishr hx hb hd (kk p e s m args below meth c Q hF H locs ls hR hS hL)
theorem E_ladd {x y : Int64} (hd : decode k.2.1 pc = .ok (.ladd, 1)) (kk : E G k R ce sl mem (pc + 1) loc (.long (x + y) :: st)) : E G k R ce sl mem pc loc (.long y :: .long x :: st) := by
  intro p e s m args below meth c Q hF H locs ls hR hS hL
  obtain ⟨hx, hb, -⟩ := id hF
  exact lv_ladd hx hb hd (kk p e s m args below meth c Q hF H locs ls hR hS hL)
theorem E_lsub {x y : Int64} (hd : decode k.2.1 pc = .ok (.lsub, 1)) (kk : E G k R ce sl mem (pc + 1) loc (.long (x - y) :: st)) : E G k R ce sl mem pc loc (.long y :: .long x :: st) := by
  intro p e s m args below meth c Q hF H locs ls hR hS hL
  obtain ⟨hx, hb, -⟩ := id hF
  exact lv_lsub hx hb hd (kk p e s m args below meth c Q hF H locs ls hR hS hL)
theorem E_land {x y : Int64} (hd : decode k.2.1 pc = .ok (.land, 1)) (kk : E G k R ce sl mem (pc + 1) loc (.long (x &&& y) :: st)) : E G k R ce sl mem pc loc (.long y :: .long x :: st) := by
  intro p e s m args below meth c Q hF H locs ls hR hS hL
  obtain ⟨hx, hb, -⟩ := id hF
  exact lv_land hx hb hd (kk p e s m args below meth c Q hF H locs ls hR hS hL)
theorem E_lor {x y : Int64} (hd : decode k.2.1 pc = .ok (.lor, 1)) (kk : E G k R ce sl mem (pc + 1) loc (.long (x ||| y) :: st)) : E G k R ce sl mem pc loc (.long y :: .long x :: st) := by
  intro p e s m args below meth c Q hF H locs ls hR hS hL
  obtain ⟨hx, hb, -⟩ := id hF
  exact lv_lor hx hb hd (kk p e s m args below meth c Q hF H locs ls hR hS hL)
theorem E_irem {x y : Int32} (hd : decode k.2.1 pc = .ok (.irem, 1)) (hne : ¬ y = 0) (kk : E G k R ce sl mem (pc + 1) loc (.int (x - x / y * y) :: st)) : E G k R ce sl mem pc loc (.int y :: .int x :: st) := by
  intro p e s m args below meth c Q hF H locs ls hR hS hL
  obtain ⟨hx, hb, -⟩ := id hF
  exact lv_irem hx hb hd hne (kk p e s m args below meth c Q hF H locs ls hR hS hL)
theorem E_iushr {x y v : Int32} (hd : decode k.2.1 pc = .ok (.iushr, 1)) (hv : (x.toUInt32 >>> (y.toUInt32 &&& Int32.toUInt32 31)).toInt32 = v) (kk : E G k R ce sl mem (pc + 1) loc (.int v :: st)) : E G k R ce sl mem pc loc (.int y :: .int x :: st) := by
  intro p e s m args below meth c Q hF H locs ls hR hS hL
  obtain ⟨hx, hb, -⟩ := id hF
  exact lv_iushr hx hb hd hv (kk p e s m args below meth c Q hF H locs ls hR hS hL)
theorem E_lushr {x v : Int64} {y : Int32} (hd : decode k.2.1 pc = .ok (.lushr, 1)) (hv : (x.toUInt64 >>> (y.toInt64.toUInt64 &&& Int64.toUInt64 63)).toInt64 = v) (kk : E G k R ce sl mem (pc + 1) loc (.long v :: st)) : E G k R ce sl mem pc loc (.int y :: .long x :: st) := by
  intro p e s m args below meth c Q hF H locs ls hR hS hL
  obtain ⟨hx, hb, -⟩ := id hF
  exact lv_lushr hx hb hd hv (kk p e s m args below meth c Q hF H locs ls hR hS hL)
theorem E_lshl {x v : Int64} {y : Int32} (hd : decode k.2.1 pc = .ok (.lshl, 1)) (hv : x <<< (y.toInt64 &&& 63) = v) (kk : E G k R ce sl mem (pc + 1) loc (.long v :: st)) : E G k R ce sl mem pc loc (.int y :: .long x :: st) := by
  intro p e s m args below meth c Q hF H locs ls hR hS hL
  obtain ⟨hx, hb, -⟩ := id hF
  exact lv_lshl hx hb hd hv (kk p e s m args below meth c Q hF H locs ls hR hS hL)
theorem E_lcmp {x y : Int64} (hd : decode k.2.1 pc = .ok (.lcmp, 1)) (kk : E G k R ce sl mem (pc + 1) loc (.int (lg_cmp x y) :: st)) : E G k R ce sl mem pc loc (.long y :: .long x :: st) := by
  intro p e s m args below meth c Q hF H locs ls hR hS hL
  obtain ⟨hx, hb, -⟩ := id hF
  exact W.lcmp hx hb hd (kk p e s m args below meth c Q hF H locs ls hR hS hL)
theorem E_i2c {x v : Int32} (hd : decode k.2.1 pc = .ok (.i2c, 1)) (hv : (x.toUInt32 % 65536).toInt32 = v) (kk : E G k R ce sl mem (pc + 1) loc (.int v :: st)) : E G k R ce sl mem pc loc (.int x :: st) := by
  intro p e s m args below meth c Q hF H locs ls hR hS hL
  obtain ⟨hx, hb, -⟩ := id hF
  exact lv_i2c hx hb hd hv (kk p e s m args below meth c Q hF H locs ls hR hS hL)
theorem E_dup {va : Value} (hd : decode k.2.1 pc = .ok (.dup, 1)) (hva : va.category = 1) (kk : E G k R ce sl mem (pc + 1) loc (va :: va :: st)) : E G k R ce sl mem pc loc (va :: st) := by
  intro p e s m args below meth c Q hF H locs ls hR hS hL
  obtain ⟨hx, hb, -⟩ := id hF
  exact lv_dup hx hb hd (by rw [x_cat]; exact hva) (kk p e s m args below meth c Q hF H locs ls hR hS hL)
theorem E_pop {va : Value} (hd : decode k.2.1 pc = .ok (.pop, 1)) (hva : va.category = 1) (kk : E G k R ce sl mem (pc + 1) loc (st)) : E G k R ce sl mem pc loc (va :: st) := by
  intro p e s m args below meth c Q hF H locs ls hR hS hL
  obtain ⟨hx, hb, -⟩ := id hF
  exact lv_pop hx hb hd (by rw [x_cat]; exact hva) (kk p e s m args below meth c Q hF H locs ls hR hS hL)
theorem E_dup2 {va vb : Value} (hd : decode k.2.1 pc = .ok (.dup2, 1)) (hva : va.category = 1) (hvb : vb.category = 1) (kk : E G k R ce sl mem (pc + 1) loc (va :: vb :: va :: vb :: st)) : E G k R ce sl mem pc loc (va :: vb :: st) := by
  intro p e s m args below meth c Q hF H locs ls hR hS hL
  obtain ⟨hx, hb, -⟩ := id hF
  exact lv_dup2_11 hx hb hd (by rw [x_cat]; exact hva) (by rw [x_cat]; exact hvb) (kk p e s m args below meth c Q hF H locs ls hR hS hL)
theorem E_ldcw {own : String} {index : Nat} {v : Int32} (hd : decode k.2.1 pc = .ok (.ldc_w index, 3)) (hown : k.1.cls = own) (hc : Cond.constant own index v ∈ x_tbl) (kk : E G k R ce sl mem (pc + 3) loc (.int v :: st)) : E G k R ce sl mem pc loc st := by
  intro p e s m args below meth c Q hF H locs ls hR hS hL
  obtain ⟨hx, hb, hml, hw, hts, -⟩ := id hF
  exact lv_ldcw hx hb (by rw [← hown]; exact hw) (hts _ hc) hd (kk p e s m args below meth c Q hF H locs ls hR hS hL)
theorem E_goto {off : Int} {tgt : Nat} (hd : decode k.2.1 pc = .ok (.goto off, 3)) (ht : (pc : Int) + off = (tgt : Int)) (kk : E G k R ce sl mem tgt loc st) : E G k R ce sl mem pc loc st := by
  intro p e s m args below meth c Q hF H locs ls hR hS hL
  obtain ⟨hx, hb, -⟩ := id hF
  exact lv_goto hx hb hd ht (kk p e s m args below meth c Q hF H locs ls hR hS hL)
theorem E_if_eq {x : Int32} {off : Int} {tgt : Nat} (hd : decode k.2.1 pc = .ok (.ifCond .eq off, 3)) (ht : (pc : Int) + off = (tgt : Int)) (kt : x.toInt = 0 → E G k R ce sl mem tgt loc st) (kf : ¬ x.toInt = 0 → E G k R ce sl mem (pc + 3) loc st) : E G k R ce sl mem pc loc (.int x :: st) := by
  intro p e s m args below meth c Q hF H locs ls hR hS hL
  obtain ⟨hx, hb, -⟩ := id hF
  exact lv_if_eq hx hb hd ht (fun h => kt (congrArg Int32.toInt h) p e s m args below meth c Q hF H locs ls hR hS hL) (fun h => kf (fun e => h (Int32.toInt_inj.mp e)) p e s m args below meth c Q hF H locs ls hR hS hL)
theorem E_icmp_eq {x y : Int32} {off : Int} {tgt : Nat} (n : Int) (hn : y.toInt = n) (hd : decode k.2.1 pc = .ok (.if_icmp .eq off, 3)) (ht : (pc : Int) + off = (tgt : Int)) (kt : x.toInt = n → E G k R ce sl mem tgt loc st) (kf : ¬ x.toInt = n → E G k R ce sl mem (pc + 3) loc st) : E G k R ce sl mem pc loc (.int y :: .int x :: st) := by
  subst hn
  intro p e s m args below meth c Q hF H locs ls hR hS hL
  obtain ⟨hx, hb, -⟩ := id hF
  exact lv_icmp_eq hx hb hd ht (fun h => kt (congrArg Int32.toInt h) p e s m args below meth c Q hF H locs ls hR hS hL) (fun h => kf (fun e => h (Int32.toInt_inj.mp e)) p e s m args below meth c Q hF H locs ls hR hS hL)
theorem E_if_ne {x : Int32} {off : Int} {tgt : Nat} (hd : decode k.2.1 pc = .ok (.ifCond .ne off, 3)) (ht : (pc : Int) + off = (tgt : Int)) (kt : ¬ x.toInt = 0 → E G k R ce sl mem tgt loc st) (kf : x.toInt = 0 → E G k R ce sl mem (pc + 3) loc st) : E G k R ce sl mem pc loc (.int x :: st) := by
  intro p e s m args below meth c Q hF H locs ls hR hS hL
  obtain ⟨hx, hb, -⟩ := id hF
  exact lv_if_ne hx hb hd ht (fun h => kt (fun e => h (Int32.toInt_inj.mp e)) p e s m args below meth c Q hF H locs ls hR hS hL) (fun h => kf (congrArg Int32.toInt h) p e s m args below meth c Q hF H locs ls hR hS hL)
theorem E_icmp_ne {x y : Int32} {off : Int} {tgt : Nat} (n : Int) (hn : y.toInt = n) (hd : decode k.2.1 pc = .ok (.if_icmp .ne off, 3)) (ht : (pc : Int) + off = (tgt : Int)) (kt : ¬ x.toInt = n → E G k R ce sl mem tgt loc st) (kf : x.toInt = n → E G k R ce sl mem (pc + 3) loc st) : E G k R ce sl mem pc loc (.int y :: .int x :: st) := by
  subst hn
  intro p e s m args below meth c Q hF H locs ls hR hS hL
  obtain ⟨hx, hb, -⟩ := id hF
  exact lv_icmp_ne hx hb hd ht (fun h => kt (fun e => h (Int32.toInt_inj.mp e)) p e s m args below meth c Q hF H locs ls hR hS hL) (fun h => kf (congrArg Int32.toInt h) p e s m args below meth c Q hF H locs ls hR hS hL)
theorem E_if_lt {x : Int32} {off : Int} {tgt : Nat} (hd : decode k.2.1 pc = .ok (.ifCond .lt off, 3)) (ht : (pc : Int) + off = (tgt : Int)) (kt : x.toInt < 0 → E G k R ce sl mem tgt loc st) (kf : ¬ x.toInt < 0 → E G k R ce sl mem (pc + 3) loc st) : E G k R ce sl mem pc loc (.int x :: st) := by
  intro p e s m args below meth c Q hF H locs ls hR hS hL
  obtain ⟨hx, hb, -⟩ := id hF
  exact lv_if_lt hx hb hd ht (fun h => kt (i_lt.mp h) p e s m args below meth c Q hF H locs ls hR hS hL) (fun h => kf (fun e => h (i_lt.mpr e)) p e s m args below meth c Q hF H locs ls hR hS hL)
theorem E_icmp_lt {x y : Int32} {off : Int} {tgt : Nat} (n : Int) (hn : y.toInt = n) (hd : decode k.2.1 pc = .ok (.if_icmp .lt off, 3)) (ht : (pc : Int) + off = (tgt : Int)) (kt : x.toInt < n → E G k R ce sl mem tgt loc st) (kf : ¬ x.toInt < n → E G k R ce sl mem (pc + 3) loc st) : E G k R ce sl mem pc loc (.int y :: .int x :: st) := by
  subst hn
  intro p e s m args below meth c Q hF H locs ls hR hS hL
  obtain ⟨hx, hb, -⟩ := id hF
  exact lv_icmp_lt hx hb hd ht (fun h => kt (i_lt.mp h) p e s m args below meth c Q hF H locs ls hR hS hL) (fun h => kf (fun e => h (i_lt.mpr e)) p e s m args below meth c Q hF H locs ls hR hS hL)
theorem E_if_ge {x : Int32} {off : Int} {tgt : Nat} (hd : decode k.2.1 pc = .ok (.ifCond .ge off, 3)) (ht : (pc : Int) + off = (tgt : Int)) (kt : 0 ≤ x.toInt → E G k R ce sl mem tgt loc st) (kf : ¬ 0 ≤ x.toInt → E G k R ce sl mem (pc + 3) loc st) : E G k R ce sl mem pc loc (.int x :: st) := by
  intro p e s m args below meth c Q hF H locs ls hR hS hL
  obtain ⟨hx, hb, -⟩ := id hF
  exact lv_if_ge hx hb hd ht (fun h => kt (i_le.mp h) p e s m args below meth c Q hF H locs ls hR hS hL) (fun h => kf (fun e => h (i_le.mpr e)) p e s m args below meth c Q hF H locs ls hR hS hL)
theorem E_icmp_ge {x y : Int32} {off : Int} {tgt : Nat} (n : Int) (hn : y.toInt = n) (hd : decode k.2.1 pc = .ok (.if_icmp .ge off, 3)) (ht : (pc : Int) + off = (tgt : Int)) (kt : n ≤ x.toInt → E G k R ce sl mem tgt loc st) (kf : ¬ n ≤ x.toInt → E G k R ce sl mem (pc + 3) loc st) : E G k R ce sl mem pc loc (.int y :: .int x :: st) := by
  subst hn
  intro p e s m args below meth c Q hF H locs ls hR hS hL
  obtain ⟨hx, hb, -⟩ := id hF
  exact lv_icmp_ge hx hb hd ht (fun h => kt (i_le.mp h) p e s m args below meth c Q hF H locs ls hR hS hL) (fun h => kf (fun e => h (i_le.mpr e)) p e s m args below meth c Q hF H locs ls hR hS hL)
theorem E_if_gt {x : Int32} {off : Int} {tgt : Nat} (hd : decode k.2.1 pc = .ok (.ifCond .gt off, 3)) (ht : (pc : Int) + off = (tgt : Int)) (kt : 0 < x.toInt → E G k R ce sl mem tgt loc st) (kf : ¬ 0 < x.toInt → E G k R ce sl mem (pc + 3) loc st) : E G k R ce sl mem pc loc (.int x :: st) := by
  intro p e s m args below meth c Q hF H locs ls hR hS hL
  obtain ⟨hx, hb, -⟩ := id hF
  exact lv_if_gt hx hb hd ht (fun h => kt (i_lt.mp h) p e s m args below meth c Q hF H locs ls hR hS hL) (fun h => kf (fun e => h (i_lt.mpr e)) p e s m args below meth c Q hF H locs ls hR hS hL)
theorem E_icmp_gt {x y : Int32} {off : Int} {tgt : Nat} (n : Int) (hn : y.toInt = n) (hd : decode k.2.1 pc = .ok (.if_icmp .gt off, 3)) (ht : (pc : Int) + off = (tgt : Int)) (kt : n < x.toInt → E G k R ce sl mem tgt loc st) (kf : ¬ n < x.toInt → E G k R ce sl mem (pc + 3) loc st) : E G k R ce sl mem pc loc (.int y :: .int x :: st) := by
  subst hn
  intro p e s m args below meth c Q hF H locs ls hR hS hL
  obtain ⟨hx, hb, -⟩ := id hF
  exact lv_icmp_gt hx hb hd ht (fun h => kt (i_lt.mp h) p e s m args below meth c Q hF H locs ls hR hS hL) (fun h => kf (fun e => h (i_lt.mpr e)) p e s m args below meth c Q hF H locs ls hR hS hL)
theorem E_if_le {x : Int32} {off : Int} {tgt : Nat} (hd : decode k.2.1 pc = .ok (.ifCond .le off, 3)) (ht : (pc : Int) + off = (tgt : Int)) (kt : x.toInt ≤ 0 → E G k R ce sl mem tgt loc st) (kf : ¬ x.toInt ≤ 0 → E G k R ce sl mem (pc + 3) loc st) : E G k R ce sl mem pc loc (.int x :: st) := by
  intro p e s m args below meth c Q hF H locs ls hR hS hL
  obtain ⟨hx, hb, -⟩ := id hF
  exact lv_if_le hx hb hd ht (fun h => kt (i_le.mp h) p e s m args below meth c Q hF H locs ls hR hS hL) (fun h => kf (fun e => h (i_le.mpr e)) p e s m args below meth c Q hF H locs ls hR hS hL)
theorem E_icmp_le {x y : Int32} {off : Int} {tgt : Nat} (n : Int) (hn : y.toInt = n) (hd : decode k.2.1 pc = .ok (.if_icmp .le off, 3)) (ht : (pc : Int) + off = (tgt : Int)) (kt : x.toInt ≤ n → E G k R ce sl mem tgt loc st) (kf : ¬ x.toInt ≤ n → E G k R ce sl mem (pc + 3) loc st) : E G k R ce sl mem pc loc (.int y :: .int x :: st) := by
  subst hn
  intro p e s m args below meth c Q hF H locs ls hR hS hL
  obtain ⟨hx, hb, -⟩ := id hF
  exact lv_icmp_le hx hb hd ht (fun h => kt (i_le.mp h) p e s m args below meth c Q hF H locs ls hR hS hL) (fun h => kf (fun e => h (i_le.mpr e)) p e s m args below meth c Q hF H locs ls hR hS hL)
theorem E_ifnonnull {r : Nat} {off : Int} {tgt : Nat} (hd : decode k.2.1 pc = .ok (.ifnonnull off, 3)) (ht : (pc : Int) + off = (tgt : Int)) (kk : E G k R ce sl mem tgt loc st) : E G k R ce sl mem pc loc (.ref r :: st) := by
  intro p e s m args below meth c Q hF H locs ls hR hS hL
  obtain ⟨hx, hb, -⟩ := id hF
  exact lv_ifnonnull hx hb hd ht (kk p e s m args below meth c Q hF H locs ls hR hS hL)
theorem E_ifnull {r : Nat} {off : Int} (hd : decode k.2.1 pc = .ok (.ifnull off, 3)) (kk : E G k R ce sl mem (pc + 3) loc st) : E G k R ce sl mem pc loc (.ref r :: st) := by
  intro p e s m args below meth c Q hF H locs ls hR hS hL
  obtain ⟨hx, hb, -⟩ := id hF
  exact lv_ifnull hx hb hd (kk p e s m args below meth c Q hF H locs ls hR hS hL)
theorem E_tableOut {dflt lo hi : Int} {offs : Array Int} {len : Nat} {x : Int32} {tgt : Nat} (hd : decode k.2.1 pc = .ok (.tableswitch dflt lo hi offs, len)) (h : x.toInt < lo ∨ hi < x.toInt) (ht : (pc : Int) + dflt = (tgt : Int)) (kk : E G k R ce sl mem tgt loc st) : E G k R ce sl mem pc loc (.int x :: st) := by
  intro p e s m args below meth c Q hF H locs ls hR hS hL
  obtain ⟨hx, hb, -⟩ := id hF
  exact lv_tableOut hx hb hd h ht (kk p e s m args below meth c Q hF H locs ls hR hS hL)
theorem E_tableIn {dflt lo hi : Int} {offs : Array Int} {len : Nat} {x : Int32} {off : Int} {tgt : Nat} (hd : decode k.2.1 pc = .ok (.tableswitch dflt lo hi offs, len)) (h1 : ¬ x.toInt < lo) (h2 : ¬ hi < x.toInt) (ho : offs[(x.toInt - lo).toNat]? = some off) (ht : (pc : Int) + off = (tgt : Int)) (kk : E G k R ce sl mem tgt loc st) : E G k R ce sl mem pc loc (.int x :: st) := by
  intro p e s m args below meth c Q hF H locs ls hR hS hL
  obtain ⟨hx, hb, -⟩ := id hF
  exact lv_tableIn hx hb hd h1 h2 ho ht (kk p e s m args below meth c Q hF H locs ls hR hS hL)
theorem E_lookup {dflt : Int} {ps : Array (Int × Int)} {len : Nat} {x : Int32} {off : Int} {tgt : Nat} (hd : decode k.2.1 pc = .ok (.lookupswitch dflt ps, len)) (hp : (ps.toList.zip (ps.toList.drop 1)).all (fun (a, next) => a.1 < next.1) = true) (ho : Op.lookupswitch.offset ps.toList dflt x.toInt = off) (ht : (pc : Int) + off = (tgt : Int)) (kk : E G k R ce sl mem tgt loc st) : E G k R ce sl mem pc loc (.int x :: st) := by
  intro p e s m args below meth c Q hF H locs ls hR hS hL
  obtain ⟨hx, hb, -⟩ := id hF
  exact lv_lookup hx hb hd hp ho ht (kk p e s m args below meth c Q hF H locs ls hR hS hL)
theorem E_istore_n {j : Fin 4} {x : Int32} (hd : decode k.2.1 pc = .ok (.istore_n j, 1)) (hi : (j : Nat) < k.2.2.1) (hp : x_p loc (j : Nat) = true) (kk : E G k R ce sl mem (pc + 1) (x_up loc (j : Nat) (.int x)) st) : E G k R ce sl mem pc loc (.int x :: st) := by
  intro p e s m args below meth c Q hF H locs ls hR hS hL
  obtain ⟨hx, hb, -⟩ := id hF
  exact lv_istore_n hx hb hd rfl (x_ls_list hL) hi rfl (fun ls1 h1 => kk p e s m args below meth c Q hF H locs ls1 hR hS (x_ls_up hL hp h1))
theorem E_istore {i : Nat} {x : Int32} (hd : decode k.2.1 pc = .ok (.istore i, 2)) (hi : i < k.2.2.1) (hp : x_p loc i = true) (kk : E G k R ce sl mem (pc + 2) (x_up loc i (.int x)) st) : E G k R ce sl mem pc loc (.int x :: st) := by
  intro p e s m args below meth c Q hF H locs ls hR hS hL
  obtain ⟨hx, hb, -⟩ := id hF
  exact lv_istore hx hb hd (x_ls_list hL) hi rfl (fun ls1 h1 => kk p e s m args below meth c Q hF H locs ls1 hR hS (x_ls_up hL hp h1))
theorem E_astore_n {j : Fin 4} {x : Nat} (hd : decode k.2.1 pc = .ok (.astore_n j, 1)) (hi : (j : Nat) < k.2.2.1) (hp : x_p loc (j : Nat) = true) (kk : E G k R ce sl mem (pc + 1) (x_up loc (j : Nat) (.ref x)) st) : E G k R ce sl mem pc loc (.ref x :: st) := by
  intro p e s m args below meth c Q hF H locs ls hR hS hL
  obtain ⟨hx, hb, -⟩ := id hF
  exact lv_astore_n hx hb hd rfl (x_ls_list hL) hi rfl (fun ls1 h1 => kk p e s m args below meth c Q hF H locs ls1 hR hS (x_ls_up hL hp h1))
theorem E_astore {i : Nat} {x : Nat} (hd : decode k.2.1 pc = .ok (.astore i, 2)) (hi : i < k.2.2.1) (hp : x_p loc i = true) (kk : E G k R ce sl mem (pc + 2) (x_up loc i (.ref x)) st) : E G k R ce sl mem pc loc (.ref x :: st) := by
  intro p e s m args below meth c Q hF H locs ls hR hS hL
  obtain ⟨hx, hb, -⟩ := id hF
  exact lv_astore hx hb hd (x_ls_list hL) hi rfl (fun ls1 h1 => kk p e s m args below meth c Q hF H locs ls1 hR hS (x_ls_up hL hp h1))
theorem E_lstore_n {j : Fin 4} {x : Int64} (hd : decode k.2.1 pc = .ok (.lstore_n j, 1)) (hi : (j : Nat) + 1 < k.2.2.1) (hp : x_p loc (j : Nat) = true) (kk : E G k R ce sl mem (pc + 1) (x_up (x_dn loc ((j : Nat) + 1)) (j : Nat) (.long x)) st) : E G k R ce sl mem pc loc (.long x :: st) := by
  intro p e s m args below meth c Q hF H locs ls hR hS hL
  obtain ⟨hx, hb, -⟩ := id hF
  exact lv_lstore_n hx hb hd rfl (x_ls_list hL) hi rfl (fun ls1 h1 => kk p e s m args below meth c Q hF H locs ls1 hR hS (x_ls_up2 hL hp h1))
theorem E_lstore {i : Nat} {x : Int64} (hd : decode k.2.1 pc = .ok (.lstore i, 2)) (hi : i + 1 < k.2.2.1) (hp : x_p loc i = true) (kk : E G k R ce sl mem (pc + 2) (x_up (x_dn loc (i + 1)) i (.long x)) st) : E G k R ce sl mem pc loc (.long x :: st) := by
  intro p e s m args below meth c Q hF H locs ls hR hS hL
  obtain ⟨hx, hb, -⟩ := id hF
  exact lv_lstore hx hb hd (x_ls_list hL) hi rfl (fun ls1 h1 => kk p e s m args below meth c Q hF H locs ls1 hR hS (x_ls_up2 hL hp h1))
theorem E_iinc {i : Nat} {n : Int} {x d : Int32} (hd : decode k.2.1 pc = .ok (.iinc i n, 3)) (hv : loc i = some (.int x)) (hn : Int32.ofInt n = d) (hi : i < k.2.2.1) (hp : x_p loc i = true) (kk : E G k R ce sl mem (pc + 3) (x_up loc i (.int (x + d))) st) : E G k R ce sl mem pc loc st := by
  intro p e s m args below meth c Q hF H locs ls hR hS hL
  obtain ⟨hx, hb, -⟩ := id hF
  subst hn
  obtain ⟨j, hj⟩ := List.getElem?_of_mem (x_list_mem hL hv)
  exact lv_iinc hx hb hd (x_ls_list hL) (k := j) hj rfl hi rfl (fun ls1 h1 => kk p e s m args below meth c Q hF H locs ls1 hR hS (x_ls_up hL hp h1))
theorem E_getf {r ci kf index N : Nat} {own C : String} {T : u_T} {fs : List Value} {v : Value} (hd : decode k.2.1 pc = .ok (.getfield index, 3)) (hin : ∀ w ∈ u_ws C T N, w ∈ x_tbl) (hown : k.1.cls = own) (hc : vwCl[ci]? = some (C, T, N)) (hk : kf < N) (howner : (T kf).1 = C) (hlink : Cond.fieldLink own index C (T kf).2.1 (T kf).2.2.1 ∈ x_tbl) (hm : mem[r]? = some (.inr (ci, fs))) (hv : fs[kf]? = some v) (kk : E G k R ce sl mem (pc + 3) loc (v :: st)) : E G k R ce sl mem pc loc (.ref r :: st) := by
  intro p e s m args below meth c Q hF H locs ls hR hS hL
  obtain ⟨hx, hb, hml, hw, hts, hnm, hE, -⟩ := id hF
  exact va_get (ci := ci) (C := C) (T := T) (N := N) (ref := C) (own := own) (Ts := x_tbl) hx hb hts hin (by rw [← hown]; exact hw) hE.1 (hR.one hm) 0 (fs := fs.map (x_v G)) rfl hc kf hk (hts _ hlink) (fun z hz => by rw [howner] at hz; exact hz) (v := x_v G v) (by rw [List.getElem?_map, hv]; rfl) hd (kk p e s m args below meth c Q hF H locs ls hR hS hL)
theorem E_getfN {r ci kf index N : Nat} {own C host : String} {T : u_T} {fs : List Value} {v : Value} (hd : decode k.2.1 pc = .ok (.getfield index, 3)) (hin : ∀ w ∈ u_ws C T N, w ∈ x_tbl) (hown : k.1.cls = own) (hc : vwCl[ci]? = some (C, T, N)) (hk : kf < N) (howner : (T kf).1 = C) (hlink : Cond.fieldLinkNest own index C (T kf).2.1 (T kf).2.2.1 host ∈ x_nests) (hm : mem[r]? = some (.inr (ci, fs))) (hv : fs[kf]? = some v) (kk : E G k R ce sl mem (pc + 3) loc (v :: st)) : E G k R ce sl mem pc loc (.ref r :: st) := by
  intro p e s m args below meth c Q hF H locs ls hR hS hL
  obtain ⟨hx, hb, hml, hw, hts, hnm, hE, -⟩ := id hF
  exact va_getN (ci := ci) (C := C) (T := T) (N := N) (ref := C) (own := own) (host := host) (Ts := x_tbl) hx hb hts hin (by rw [← hown]; exact hw) hE.1 (hR.one hm) 0 (fs := fs.map (x_v G)) rfl hc kf hk (va_Nw.use rfl (hE.2.2.2.2 _ hlink)) (fun z hz => by rw [howner] at hz; exact hz) (v := x_v G v) (by rw [List.getElem?_map, hv]; rfl) hd (kk p e s m args below meth c Q hF H locs ls hR hS hL)
theorem x_fieldAt {G : xG} {s : State} {args : Array Value} {H : Heap} {mem : xM} {r ci kf N : Nat} {C : String} {T : u_T} {fs : List Value} (hts : ∀ w ∈ x_tbl, w.before args s = true) (hK : va_K G.2.1 vwCl (x_tys G) s) (hR : xRep G mem H) (hin : ∀ w ∈ u_ws C T N, w ∈ x_tbl) (hc : vwCl[ci]? = some (C, T, N)) (hk : kf < N) (hm : mem[r]? = some (.inr (ci, fs))) : ∃ cell : Cell, H[G.2.2.2.1 + r]? = some cell ∧ cell.cls = G.2.1.1 ci ∧ cell.vm = .none ∧ ∀ j, j < N → cell.slots[G.2.1.2 ci j]? = some (vp_V (fs.map (x_v G)) j) := by
  obtain ⟨q, h1, h2⟩ := hR.2 r _ hm
  have e : q = (C, T, N) := Option.some.inj (h1.symm.trans hc)
  subst e
  exact h2
theorem E_putf {r ci kf index N : Nat} {own C : String} {T : u_T} {fs : List Value} {v : Value} {ty0 : Nat → FieldType} (hd : decode k.2.1 pc = .ok (.putfield index, 3)) (hin : ∀ w ∈ u_ws C T N, w ∈ x_tbl) (hty : ∀ k, k < N → parseFieldDescriptor (T k).2.2.1 = some (ty0 k)) (hnm : ∀ a, a < N → ∀ b, b < N → a ≠ b → (T a).2.1 ≠ (T b).2.1) (hown : k.1.cls = own) (hc : vwCl[ci]? = some (C, T, N)) (hk : kf < N) (howner : (T kf).1 = C) (hlink : Cond.fieldLink own index C (T kf).2.1 (T kf).2.2.1 ∈ x_tbl) (hfin : (T kf).2.2.2 = false) (hm : mem[r]? = some (.inr (ci, fs))) (hn : narrow (ty0 kf) (x_v G v) = x_v G v) (hfit : fits (ty0 kf) (x_v G v) = true) (hl : kf < fs.length) (kk : E G k R ce sl (mem.set r (.inr (ci, fs.set kf v))) (pc + 3) loc st) : E G k R ce sl mem pc loc (v :: .ref r :: st) := by
  intro p e s m args below meth c Q hF H locs ls hR hS hL
  obtain ⟨hx, hb, hml, hw, hts, hme, hE, -⟩ := id hF
  have hK := hE.1
  have hw' : s.vm.findClass own = some m.cls := by rw [← hown]; exact hw
  have hap := va_apart (own := own) hts hin ty0 hty hnm hK hc
  obtain ⟨cell, q1, q2, q3, q4⟩ := x_fieldAt hts hK hR hin hc hk hm
  obtain ⟨hSl, hfc, kC, hkC, hkind⟩ := hK.1 ci _ hc
  obtain ⟨cf, kfc, fi, f, hi, hsl⟩ := hSl kf hk
  have hlay := hts _ (hin _ (u_in_lay hk))
  unfold u_lay at hlay
  rw [if_neg (by rw [hfin]; decide)] at hlay
  have hst := (u_facts hfc hkC (u_lays hts hin hk) hi).1
  have h6 := u_store hfc hkC hkind hlay hi (hty kf hk) hn hfit
  refine W.putK hx hb (f := f) ⟨hw', hts _ hlink, ⟨_, _, _, by rw [← howner]; exact hi⟩, hst⟩ (by rw [q2]; exact h6) q1 q3 (by rw [hsl]; exact k2_hasslot (q4 kf hk)) rfl rfl hd fun H' e1 e2 e3 => ?_
  rw [hsl] at e1 ⊢
  refine kk p e s m args below meth c Q hF H' _ ls (hR.set hm e2 ⟨_, hc, ?_⟩ e3) (hS.put e3) hL
  refine t_OB.to (V := updV (vp_V (fs.map (x_v G))) kf (x_v G v)) ⟨_, e1, q2, q3, t_set q4 hap hk (x_v G v)⟩ (fun j _ => ?_)
  rw [vp_updV_set (by rw [List.length_map]; exact hl), List.map_set]
theorem E_putF {r ci kf index N : Nat} {own C : String} {T : u_T} {fs : List Value} {v : Value} {ty0 : Nat → FieldType} (hd : decode k.2.1 pc = .ok (.putfield index, 3)) (hin : ∀ w ∈ u_ws C T N, w ∈ x_tbl) (hty : ∀ k, k < N → parseFieldDescriptor (T k).2.2.1 = some (ty0 k)) (hnm : ∀ a, a < N → ∀ b, b < N → a ≠ b → (T a).2.1 ≠ (T b).2.1) (hown : k.1.cls = own) (hinit : k.1.name = "<init>") (hc : vwCl[ci]? = some (C, T, N)) (hk : kf < N) (howner : (T kf).1 = own) (hCo : C = own) (hlink : Cond.fieldLink own index C (T kf).2.1 (T kf).2.2.1 ∈ x_tbl) (hfin : (T kf).2.2.2 = true) (hm : mem[r]? = some (.inr (ci, fs))) (hn : narrow (ty0 kf) (x_v G v) = x_v G v) (hfit : fits (ty0 kf) (x_v G v) = true) (hl : kf < fs.length) (kk : E G k R ce sl (mem.set r (.inr (ci, fs.set kf v))) (pc + 3) loc st) : E G k R ce sl mem pc loc (v :: .ref r :: st) := by
  intro p e s m args below meth c Q hF H locs ls hR hS hL
  obtain ⟨hx, hb, hml, hw, hts, hme, hE, -⟩ := id hF
  have hK := hE.1
  have hw' : s.vm.findClass own = some m.cls := by rw [← hown]; exact hw
  have hap := va_apart (own := own) hts hin ty0 hty hnm hK hc
  obtain ⟨cell, q1, q2, q3, q4⟩ := x_fieldAt hts hK hR hin hc hk hm
  obtain ⟨hSl, hfc, kC, hkC, hkind⟩ := hK.1 ci _ hc
  obtain ⟨cf, kfc, fi, f, hi, hsl⟩ := hSl kf hk
  have hlay := hts _ (hin _ (u_in_lay hk))
  unfold u_lay at hlay
  rw [if_pos hfin] at hlay
  have hst := (u_facts hfc hkC (u_lays hts hin hk) hi).1
  have hcf : m.cls = cf := by
    obtain ⟨_, _, c', _, _, _, -, -, hf', -, -, -, hown2, -⟩ := Cond.laysFinal_spec hlay
    have e1 : c' = cf := by have := hi.symm.trans hf'; simp at this; exact this.1.symm
    rw [howner] at hown2
    rw [← e1]; exact Option.some.inj (hw'.symm.trans hown2)
  have h6 := u_fits hfc hkC hkind (Or.inr hlay) hi (hty kf hk) hn hfit
  refine W.putFinK hx hb hw' (hts _ hlink) (by rw [hCo, ← howner]; exact hi) hst hcf (by rw [hme]; exact hinit) (by rw [q2]; exact h6) q1 q3 (by rw [hsl]; exact k2_hasslot (q4 kf hk)) rfl rfl hd fun H' e1 e2 e3 => ?_
  rw [hsl] at e1 ⊢
  refine kk p e s m args below meth c Q hF H' _ ls (hR.set hm e2 ⟨_, hc, ?_⟩ e3) (hS.put e3) hL
  refine t_OB.to (V := updV (vp_V (fs.map (x_v G))) kf (x_v G v)) ⟨_, e1, q2, q3, t_set q4 hap hk (x_v G v)⟩ (fun j _ => ?_)
  rw [vp_updV_set (by rw [List.length_map]; exact hl), List.map_set]
theorem E_iald {r n : Nat} {f : Nat → Int32} {i : Int32} (hd : decode k.2.1 pc = .ok (.iaload, 1)) (hm : mem[r]? = some (.inl (0, n, .inl f))) (hi : vp_in i n) (kk : E G k R ce sl mem (pc + 1) loc (.int (f i.toNatClampNeg) :: st)) : E G k R ce sl mem pc loc (.int i :: .ref r :: st) := by
  intro p e s m args below meth c Q hF H locs ls hR hS hL
  obtain ⟨hx, hb, hml, hw, hts, hnm, hE, -⟩ := id hF
  exact va_iald (tys := x_tys G) hx hb hE.1 (hR.one hm) 0 0 rfl rfl hi hd (kk p e s m args below meth c Q hF H locs ls hR hS hL)
theorem E_zald {r n : Nat} {f : Nat → Int32} {i : Int32} (hd : decode k.2.1 pc = .ok (.baload, 1)) (hm : mem[r]? = some (.inl (1, n, .inl f))) (hi : vp_in i n) (kk : E G k R ce sl mem (pc + 1) loc (.int (f i.toNatClampNeg) :: st)) : E G k R ce sl mem pc loc (.int i :: .ref r :: st) := by
  intro p e s m args below meth c Q hF H locs ls hR hS hL
  obtain ⟨hx, hb, hml, hw, hts, hnm, hE, -⟩ := id hF
  exact va_zald (tys := x_tys G) hx hb hE.1 (hR.one hm) 0 1 rfl rfl hi hd (kk p e s m args below meth c Q hF H locs ls hR hS hL)
theorem E_cald {r n : Nat} {f : Nat → Int32} {i : Int32} (hd : decode k.2.1 pc = .ok (.caload, 1)) (hm : mem[r]? = some (.inl (2, n, .inl f))) (hi : vp_in i n) (kk : E G k R ce sl mem (pc + 1) loc (.int (f i.toNatClampNeg) :: st)) : E G k R ce sl mem pc loc (.int i :: .ref r :: st) := by
  intro p e s m args below meth c Q hF H locs ls hR hS hL
  obtain ⟨hx, hb, hml, hw, hts, hnm, hE, -⟩ := id hF
  exact va_cald (tys := x_tys G) hx hb hE.1 (hR.one hm) 0 2 rfl rfl hi hd (kk p e s m args below meth c Q hF H locs ls hR hS hL)
theorem E_aald {r n : Nat} {f : Nat → Option Nat} {i : Int32} {a : Nat} (hd : decode k.2.1 pc = .ok (.aaload, 1)) (hm : mem[r]? = some (.inl (3, n, .inr (.inr (.inr (.inr f)))))) (hi : vp_in i n) (hv : f i.toNatClampNeg = some a) (kk : E G k R ce sl mem (pc + 1) loc (.ref a :: st)) : E G k R ce sl mem pc loc (.int i :: .ref r :: st) := by
  intro p e s m args below meth c Q hF H locs ls hR hS hL
  obtain ⟨hx, hb, hml, hw, hts, hnm, hE, -⟩ := id hF
  refine va_aldq (tys := x_tys G) hx hb hE.1 (hR.one hm) 0 3 rfl rfl hi hd ?_
  rw [hv]
  exact kk p e s m args below meth c Q hF H locs ls hR hS hL
theorem E_alen {r n t : Nat} {y : (Nat → Int32) ⊕ (Nat → Int64) ⊕ (Nat → UInt32) ⊕ (Nat → UInt64) ⊕ (Nat → Option Nat)} {ty : FieldType} {v : Int32} (hd : decode k.2.1 pc = .ok (.arraylength, 1)) (hm : mem[r]? = some (.inl (t, n, y))) (ht : (x_tys G)[t]? = some (G.2.2.1 t, ty)) (hv : Int32.ofNat n = v) (kk : E G k R ce sl mem (pc + 1) loc (.int v :: st)) : E G k R ce sl mem pc loc (.ref r :: st) := by
  intro p e s m args below meth c Q hF H locs ls hR hS hL
  obtain ⟨hx, hb, hml, hw, hts, hnm, hE, -⟩ := id hF
  refine va_alen (tys := x_tys G) hx hb hE.1 (hR.one hm) 0 t rfl ht (v := v) ?_ hd (kk p e s m args below meth c Q hF H locs ls hR hS hL)
  rw [← hv]
  obtain f | f | f | f | f := y <;> rfl
theorem E_sld {i : Int32} {z : UInt32} (hd : decode k.2.1 pc = .ok (.iaload, 1)) (hi : vp_in i G.2.2.2.2.2.1) (kk : E G k R ce sl mem (pc + 1) loc (.int (G.2.2.2.2.2.2 i.toNatClampNeg) :: st)) : E G k R ce sl mem pc loc (.int i :: .float z :: st) := by
  intro p e s m args below meth c Q hF H locs ls hR hS hL
  obtain ⟨hx, hb, hml, hw, hts, hnm, hE, -⟩ := id hF
  have hbB := hE.2.2.2.1
  exact va_sld (A := fun q => G.2.2.2.1 ≤ q) (H0 := H) hx hb (hE.2.2.1.kept (hS.2.1 _ hbB)) (by rw [hR.1]; omega) (by omega) ⟨Nat.le_refl _, fun _ _ _ => rfl, hS.2.2⟩ hi hd (kk p e s m args below meth c Q hF H locs ls hR hS hL)
theorem E_slen {z : UInt32} {v : Int32} (hd : decode k.2.1 pc = .ok (.arraylength, 1)) (hv : Int32.ofNat G.2.2.2.2.2.1 = v) (kk : E G k R ce sl mem (pc + 1) loc (.int v :: st)) : E G k R ce sl mem pc loc (.float z :: st) := by
  intro p e s m args below meth c Q hF H locs ls hR hS hL
  obtain ⟨hx, hb, hml, hw, hts, hnm, hE, -⟩ := id hF
  have hbB := hE.2.2.2.1
  subst hv
  exact va_slen (A := fun q => G.2.2.2.1 ≤ q) (H0 := H) hx hb (hE.2.2.1.kept (hS.2.1 _ hbB)) (by rw [hR.1]; omega) (by omega) ⟨Nat.le_refl _, fun _ _ _ => rfl, hS.2.2⟩ hd (kk p e s m args below meth c Q hF H locs ls hR hS hL)
theorem E_iast {r n : Nat} {f : Nat → Int32} {i x : Int32} (hd : decode k.2.1 pc = .ok (.iastore, 1)) (hm : mem[r]? = some (.inl (0, n, .inl f))) (hi : vp_in i n) (kk : E G k R ce sl (mem.set r (.inl (0, n, .inl (upd f i.toNatClampNeg x)))) (pc + 1) loc st) : E G k R ce sl mem pc loc (.int x :: .int i :: .ref r :: st) := by
  intro p e s m args below meth c Q hF H locs ls hR hS hL
  obtain ⟨hx, hb, hml, hw, hts, hnm, hE, -⟩ := id hF
  refine W.iast hx hb (hR.one hm 0 _ rfl) ((hE.1.2 0 _ rfl).1 n (fun j => .int (f j))) (fun q => by cases q) (by show ¬ (i < 0 ∨ (arrV _ _ _).slots.size ≤ _); rw [arrV_size]; exact hi) rfl rfl hd fun H1 e z oq => ?_
  refine kk p _ s m args below meth c Q hF H1 _ ls (hR.set hm z ?_ oq) (hS.put oq) hL
  show H1[G.2.2.2.1 + r]? = some (vp_cell _ _)
  rw [e]
  show some ((vp_cell (G.2.2.1 0) (n, .inl f)).setSlot _ _) = some (vp_cell (G.2.2.1 0) (n, .inl (upd f i.toNatClampNeg x)))
  rw [vp_cell_i, vp_cell_i, arrV_store]
  congr 2
  funext q
  by_cases hq : q = i.toNatClampNeg
  · subst hq
    simp [updV, upd]
  · simp [updV, upd, hq]
theorem E_zast {r n : Nat} {f : Nat → Int32} {i x : Int32} (hd : decode k.2.1 pc = .ok (.bastore, 1)) (hm : mem[r]? = some (.inl (1, n, .inl f))) (hi : vp_in i n) (hn : narrow .boolean (.int x) = .int x) (kk : E G k R ce sl (mem.set r (.inl (1, n, .inl (upd f i.toNatClampNeg x)))) (pc + 1) loc st) : E G k R ce sl mem pc loc (.int x :: .int i :: .ref r :: st) := by
  intro p e s m args below meth c Q hF H locs ls hR hS hL
  obtain ⟨hx, hb, hml, hw, hts, hnm, hE, -⟩ := id hF
  refine W.zast hx hb (hR.one hm 0 _ rfl) ((hE.1.2 1 _ rfl).1 n (fun j => .int (f j))) (fun q => by cases q) (by show ¬ (i < 0 ∨ (arrV _ _ _).slots.size ≤ _); rw [arrV_size]; exact hi) rfl rfl hd fun H1 e z oq => ?_
  refine kk p _ s m args below meth c Q hF H1 _ ls (hR.set hm z ?_ oq) (hS.put oq) hL
  show H1[G.2.2.2.1 + r]? = some (vp_cell _ _)
  rw [e, hn]
  show some ((vp_cell (G.2.2.1 1) (n, .inl f)).setSlot _ _) = some (vp_cell (G.2.2.1 1) (n, .inl (upd f i.toNatClampNeg x)))
  rw [vp_cell_i, vp_cell_i, arrV_store]
  congr 2
  funext q
  by_cases hq : q = i.toNatClampNeg
  · subst hq
    simp [updV, upd]
  · simp [updV, upd, hq]
theorem E_cast {r n : Nat} {f : Nat → Int32} {i x : Int32} (hd : decode k.2.1 pc = .ok (.castore, 1)) (hm : mem[r]? = some (.inl (2, n, .inl f))) (hi : vp_in i n) (hn : narrow .char (.int x) = .int x) (kk : E G k R ce sl (mem.set r (.inl (2, n, .inl (upd f i.toNatClampNeg x)))) (pc + 1) loc st) : E G k R ce sl mem pc loc (.int x :: .int i :: .ref r :: st) := by
  intro p e s m args below meth c Q hF H locs ls hR hS hL
  obtain ⟨hx, hb, hml, hw, hts, hnm, hE, -⟩ := id hF
  refine W.cast hx hb (hR.one hm 0 _ rfl) ((hE.1.2 2 _ rfl).1 n (fun j => .int (f j))) (fun q => by cases q) (by show ¬ (i < 0 ∨ (arrV _ _ _).slots.size ≤ _); rw [arrV_size]; exact hi) rfl rfl hd fun H1 e z oq => ?_
  refine kk p _ s m args below meth c Q hF H1 _ ls (hR.set hm z ?_ oq) (hS.put oq) hL
  show H1[G.2.2.2.1 + r]? = some (vp_cell _ _)
  rw [e, hn]
  show some ((vp_cell (G.2.2.1 2) (n, .inl f)).setSlot _ _) = some (vp_cell (G.2.2.1 2) (n, .inl (upd f i.toNatClampNeg x)))
  rw [vp_cell_i, vp_cell_i, arrV_store]
  congr 2
  funext q
  by_cases hq : q = i.toNatClampNeg
  · subst hq
    simp [updV, upd]
  · simp [updV, upd, hq]
theorem E_newi {n : Int32} {N : Nat} (hd : decode k.2.1 pc = .ok (.newarray .int, 2)) (harr : Cond.arrayClass .int ∈ x_tbl) (hn : ¬ n < 0) (hN : n.toNatClampNeg = N) (hbytes : N * componentBytes .int ≤ 536870912) (hc : ce + 1 ≤ k.2.2.2.2.2.2.1) (hs : sl + N ≤ k.2.2.2.2.2.2.2) (kk : E G k R (ce + 1) (sl + N) (mem ++ [.inl (0, N, .inl (fun _ => 0))]) (pc + 2) loc (.ref mem.length :: st)) : E G k R ce sl mem pc loc (.int n :: st) := by
  intro p e s m args below meth c Q hF H locs ls hR hS hL
  obtain ⟨hx, hb, hml, hw, hts, hnm, hE, -⟩ := id hF
  refine va_newaK (atype := .int) (R := x_rm k) hx hb (hts _ harr) (g := F0 m pc ls ((Value.int n :: st).map (x_v G))) rfl hd rfl hn hN hbytes hc hs hR.1 fun H1 cA e1 z1 o1 hAr hNm => ?_
  have hcA : cA = G.2.2.1 0 := Option.some.inj (hNm.symm.trans ((hE.1.2 0 _ rfl).2))
  subst hcA
  refine kk p e s m args below meth c Q hF H1 locs ls (hR.push (by rw [z1, hR.1]) ?_ (fun q hq => o1 q (by rw [← hR.1]; exact hq))) (hS.kept (by rw [hR.1]; omega) (fun q hq => o1 q (by rw [← hR.1]; exact hq))) hL
  show H1[G.2.2.2.1 + mem.length]? = some (vp_cell _ _)
  rw [e1]
  rfl
theorem E_newz {n : Int32} {N : Nat} (hd : decode k.2.1 pc = .ok (.newarray .boolean, 2)) (harr : Cond.arrayClass .boolean ∈ x_tbl) (hn : ¬ n < 0) (hN : n.toNatClampNeg = N) (hbytes : N * componentBytes .boolean ≤ 536870912) (hc : ce + 1 ≤ k.2.2.2.2.2.2.1) (hs : sl + N ≤ k.2.2.2.2.2.2.2) (kk : E G k R (ce + 1) (sl + N) (mem ++ [.inl (1, N, .inl (fun _ => 0))]) (pc + 2) loc (.ref mem.length :: st)) : E G k R ce sl mem pc loc (.int n :: st) := by
  intro p e s m args below meth c Q hF H locs ls hR hS hL
  obtain ⟨hx, hb, hml, hw, hts, hnm, hE, -⟩ := id hF
  refine va_newaK (atype := .boolean) (R := x_rm k) hx hb (hts _ harr) (g := F0 m pc ls ((Value.int n :: st).map (x_v G))) rfl hd rfl hn hN hbytes hc hs hR.1 fun H1 cA e1 z1 o1 hAr hNm => ?_
  have hcA : cA = G.2.2.1 1 := Option.some.inj (hNm.symm.trans ((hE.1.2 1 _ rfl).2))
  subst hcA
  refine kk p e s m args below meth c Q hF H1 locs ls (hR.push (by rw [z1, hR.1]) ?_ (fun q hq => o1 q (by rw [← hR.1]; exact hq))) (hS.kept (by rw [hR.1]; omega) (fun q hq => o1 q (by rw [← hR.1]; exact hq))) hL
  show H1[G.2.2.2.1 + mem.length]? = some (vp_cell _ _)
  rw [e1]
  rfl
theorem E_newc {n : Int32} {N : Nat} (hd : decode k.2.1 pc = .ok (.newarray .char, 2)) (harr : Cond.arrayClass .char ∈ x_tbl) (hn : ¬ n < 0) (hN : n.toNatClampNeg = N) (hbytes : N * componentBytes .char ≤ 536870912) (hc : ce + 1 ≤ k.2.2.2.2.2.2.1) (hs : sl + N ≤ k.2.2.2.2.2.2.2) (kk : E G k R (ce + 1) (sl + N) (mem ++ [.inl (2, N, .inl (fun _ => 0))]) (pc + 2) loc (.ref mem.length :: st)) : E G k R ce sl mem pc loc (.int n :: st) := by
  intro p e s m args below meth c Q hF H locs ls hR hS hL
  obtain ⟨hx, hb, hml, hw, hts, hnm, hE, -⟩ := id hF
  refine va_newaK (atype := .char) (R := x_rm k) hx hb (hts _ harr) (g := F0 m pc ls ((Value.int n :: st).map (x_v G))) rfl hd rfl hn hN hbytes hc hs hR.1 fun H1 cA e1 z1 o1 hAr hNm => ?_
  have hcA : cA = G.2.2.1 2 := Option.some.inj (hNm.symm.trans ((hE.1.2 2 _ rfl).2))
  subst hcA
  refine kk p e s m args below meth c Q hF H1 locs ls (hR.push (by rw [z1, hR.1]) ?_ (fun q hq => o1 q (by rw [← hR.1]; exact hq))) (hS.kept (by rw [hR.1]; omega) (fun q hq => o1 q (by rw [← hR.1]; exact hq))) hL
  show H1[G.2.2.2.1 + mem.length]? = some (vp_cell _ _)
  rw [e1]
  rfl
theorem E_new {ci index N : Nat} {own C : String} {T : u_T} {ty0 : Nat → FieldType} {fs : List Value} (hd : decode k.2.1 pc = .ok (.new index, 3)) (hin : ∀ w ∈ u_ws C T N, w ∈ x_tbl) (hty : ∀ k, k < N → parseFieldDescriptor (T k).2.2.1 = some (ty0 k)) (hown : k.1.cls = own) (hcl : Cond.classLink own index C ∈ x_tbl) (hinst : Cond.instantiable C N ∈ x_tbl) (hini : Cond.initialized C ∈ x_tbl) (hc : vwCl[ci]? = some (C, T, N)) (hfs : ∀ j, j < N → defaultValue (ty0 j) = vp_V (fs.map (x_v G)) j) (hcc : ce + 1 ≤ k.2.2.2.2.2.2.1) (hs : sl + N ≤ k.2.2.2.2.2.2.2) (kk : E G k R (ce + 1) (sl + N) (mem ++ [.inr (ci, fs)]) (pc + 3) loc (.ref mem.length :: st)) : E G k R ce sl mem pc loc st := by
  intro p e s m args below meth c Q hF H locs ls hR hS hL
  obtain ⟨hx, hb, hml, hw, hts, hnm, hE, -⟩ := id hF
  have hKn := hE.1.1 ci _ hc
  refine W.newcK (R := x_rm k) hx hb (by rw [← hown]; exact hw) (hts _ hcl) (hts _ hinst) (hts _ hini) (g := F0 m pc ls (st.map (x_v G))) rfl hd hcc hs hKn.2.1 hR.1 fun H1 kC hkC e1 z1 o1 => ?_
  refine kk p e s m args below meth c Q hF H1 locs ls (hR.push (by rw [z1, hR.1]) ⟨_, hc, (u_born ty0 hts hin hKn hkC e1 hty).to hfs⟩ (fun q hq => o1 q (by rw [← hR.1]; exact hq))) (hS.kept (by rw [hR.1]; omega) (fun q hq => o1 q (by rw [← hR.1]; exact hq))) hL
theorem E_anew {index : Nat} {own : String} {n : Int32} {N : Nat} (hd : decode k.2.1 pc = .ok (.anewarray index, 3)) (hown : k.1.cls = own) (hcl : Cond.classLink own index RX0 ∈ x_tbl) (hn : ¬ n < 0) (hN : n.toNatClampNeg = N) (hbytes : N * 4 ≤ 536870912) (hcc : ce + 1 ≤ k.2.2.2.2.2.2.1) (hs : sl + N ≤ k.2.2.2.2.2.2.2) (kk : E G k R (ce + 1) (sl + N) (mem ++ [.inl (3, N, .inr (.inr (.inr (.inr (fun _ => none)))))]) (pc + 3) loc (.ref mem.length :: st)) : E G k R ce sl mem pc loc (.int n :: st) := by
  intro p e s m args below meth c Q hF H locs ls hR hS hL
  obtain ⟨hx, hb, hml, hw, hts, hnm, hE, -⟩ := id hF
  subst hN
  refine W.anew (R := x_rm k) hx hb (by rw [← hown]; exact hw) (hts _ hcl) (va_AO.use hE.2.1) (g := F0 m pc ls ((Value.int n :: st).map (x_v G))) rfl hd rfl hn hbytes hcc hs fun cA kA comp f1 f2 f3 f4 => ?_
  obtain ⟨kA', comp', g1, g2, g3, g4⟩ := (hE.1.2 3 _ rfl).2
  have hcA : cA = G.2.2.1 3 := Option.some.inj (f1.symm.trans g4)
  subst hcA
  rw [hR.1]
  generalize hH1 : H.push ({ cls := G.2.2.1 3, slots := Array.replicate n.toNatClampNeg .null, vm := .none } : Cell) = H1
  have z1 : H1.size = H.size + 1 := by rw [← hH1, Array.size_push]
  have e1 : H1[H.size]? = some (arrV (G.2.2.1 3) n.toNatClampNeg (fun _ => .null)) := by rw [← hH1, Array.getElem?_push_size, ← arrV_new]
  have o1 : ∀ q : Nat, q < H.size → H1[q]? = H[q]? := fun q hq => by rw [← hH1, Array.getElem?_push, if_neg (Nat.ne_of_lt hq)]
  refine kk p e s m args below meth c Q hF H1 locs ls (hR.push z1 ?_ o1) (hS.kept (by rw [hR.1]; omega) o1) hL
  show H1[G.2.2.2.1 + mem.length]? = some (vp_cell _ _)
  rw [← hR.1, e1]
  rfl
theorem E_aast {r n a : Nat} {f : Nat → Option Nat} {vs : List Value} {i : Int32} (hd : decode k.2.1 pc = .ok (.aastore, 1)) (hm : mem[r]? = some (.inl (3, n, .inr (.inr (.inr (.inr f)))))) (ha : mem[a]? = some (.inr (0, vs))) (hi : vp_in i n) (kk : E G k R ce sl (mem.set r (.inl (3, n, .inr (.inr (.inr (.inr (va_up f i.toNatClampNeg (some a)))))))) (pc + 1) loc st) : E G k R ce sl mem pc loc (.ref a :: .int i :: .ref r :: st) := by
  intro p e s m args below meth c Q hF H locs ls hR hS hL
  obtain ⟨hx, hb, hml, hw, hts, hnm, hE, -⟩ := id hF
  have hlt : i.toNatClampNeg < n := Nat.not_le.mp fun q => hi (Or.inr q)
  have h0 : ¬ i < 0 := fun q => hi (Or.inl q)
  obtain ⟨r', hr', cellV, g1, g2, g3, -⟩ := hR.2 a _ ha
  have hcls := (hE.1.1 0 (RX0, TX0, 13) rfl).2
  obtain ⟨kA, comp, k1, k2, k3, -⟩ := (hE.1.2 3 _ rfl).2
  have hcomp : comp = G.2.1.1 0 := Option.some.inj (k3.symm.trans hcls.1)
  subst hcomp
  obtain ⟨kC, hkC, -⟩ := hcls.2
  refine W.aast hx hb (hR.one hm 0 _ rfl) (fun q h => by cases h) (fun h => by cases h) k1 k2 rfl hkC ⟨h0, by show _ < (arrV _ _ _).slots.size; rw [arrV_size]; exact hlt⟩ g1 (fun q h => by rw [g3] at h; cases h) (by rw [g2]; exact hkC) (by rw [g2]; exact va_assign hcls) rfl rfl hd fun H1 e z oq => ?_
  refine kk p _ s m args below meth c Q hF H1 _ ls (hR.set hm z ?_ oq) (hS.put oq) hL
  show H1[G.2.2.2.1 + r]? = some (vp_cell _ _)
  rw [e]
  show some ((vp_cell (G.2.2.1 3) (n, .inr (.inr (.inr (.inr (fun j => (f j).map (fun i => G.2.2.2.1 + i))))))).setSlot _ _) = some (vp_cell (G.2.2.1 3) (n, .inr (.inr (.inr (.inr (fun j => (va_up f i.toNatClampNeg (some a) j).map (fun i => G.2.2.2.1 + i)))))))
  rw [vp_cell_q, vp_cell_q, arrV_store]
  congr 2
  funext q
  by_cases hq : q = i.toNatClampNeg
  · subst hq
    simp [updV, va_up, va_rf, x_v]
  · simp [updV, va_up, hq]
theorem E_copy {index r0 r n0 n1 t : Nat} {own : String} {ty : FieldType} {f g : Nat → Int32} {sp dp n : Int32} (hd : decode k.2.1 pc = .ok (.invokestatic index, 3)) (hown : k.1.cls = own) (hlink : Cond.methodLink own index arraycopyName ∈ x_tbl) (hnat : Cond.native arraycopyName ∈ x_tbl) (hstat : Cond.static arraycopyName ∈ x_tbl) (hini : Cond.initialized "java/lang/System" ∈ x_tbl) (ht : (x_tys G)[t]? = some (G.2.2.1 t, ty)) (hprim : refKind ty = false) (hm0 : mem[r0]? = some (.inl (t, n0, .inl f))) (hm1 : mem[r]? = some (.inl (t, n1, .inl g))) (h1 : ¬ sp < 0) (h2 : ¬ dp < 0) (h3 : ¬ n < 0) (h4 : sp.toNatClampNeg + n.toNatClampNeg ≤ n0) (h5 : dp.toNatClampNeg + n.toNatClampNeg ≤ n1) (hfit : ∀ i, i < n.toNatClampNeg → fits ty (.int (f (sp.toNatClampNeg + i))) = true) (hframes : 1 ≤ k.2.2.2.2.1) (hlocals : (st.map fun v => v.category).sum + 18 ≤ k.2.2.2.2.2.1) (kk : E G k R ce sl (mem.set r (.inl (t, n1, .inl (va_cpy f g sp.toNatClampNeg dp.toNatClampNeg n.toNatClampNeg)))) (pc + 3) loc st) : E G k R ce sl mem pc loc (.int n :: .int dp :: .ref r :: .int sp :: .ref r0 :: st) := by
  intro p e s m args below meth c Q hF H locs ls hR hS hL
  obtain ⟨hx, hb, hml, hw, hts, hnm, hE, -⟩ := id hF
  have nn : ∀ z : Int32, ¬ z < 0 → z.toInt = (z.toNatClampNeg : Int) := by
    intro z hz
    have hz0 : (0 : Int) ≤ z.toInt := by
      have := Int32.not_lt.mp hz
      simpa using Int32.le_iff_toInt_le.mp this
    show z.toInt = ((z.toInt.toNat : Nat) : Int)
    omega
  intro T hT X
  have hc0 : H[G.2.2.2.1 + r0]? = some (vp_cell (G.2.2.1 t) (n0, .inl f)) := hR.2 r0 _ hm0
  have hc1 : H[G.2.2.2.1 + r]? = some (vp_cell (G.2.2.1 t) (n1, .inl g)) := hR.2 r _ hm1
  obtain ⟨-, k0, hk0, cm0, hkk0⟩ := (hE.1.2 t _ ht).1 n0 (fun j => .int (f j))
  obtain ⟨-, k1, hk1, cm1, hkk1⟩ := (hE.1.2 t _ ht).1 n1 (fun j => .int (g j))
  have hsum : ((st.map (x_v G)).map fun v => v.category).sum = (st.map fun v => v.category).sum := by
    rw [List.map_map]
    congr 1
    exact List.map_congr_left (fun v _ => x_cat G v)
  obtain ⟨vm', X', step⟩ := X.arraycopy hx (by rw [← hown]; exact hw) (hts _ hlink) (hts _ hnat) (hts _ hstat) (hts _ hini) (src := G.2.2.2.1 + r0) (dst := G.2.2.2.1 + r) (cs := vp_cell (G.2.2.1 t) (n0, .inl f)) (cd := vp_cell (G.2.2.1 t) (n1, .inl g)) (srcPos := sp) (destPos := dp) (n := n) (by rw [hT]; exact hc0) (by rw [hT]; exact hc1)
    (fun _ h => by cases h) (fun _ h => by cases h) (fun h => by cases h) (fun h => by cases h) hk0 hk1 hkk0 hkk1 (by simp [hprim]) h1 h2 h3
    (by rw [nn sp h1, nn n h3]; show ¬ _ > ((arrV (G.2.2.1 t) n0 (fun j => .int (f j))).slots.size : Int); rw [arrV_size]; omega)
    (by rw [nn dp h2, nn n h3]; show ¬ _ > ((arrV (G.2.2.1 t) n1 (fun j => .int (g j))).slots.size : Int); rw [arrV_size]; omega)
    (fun vm₁ _ i hi => by
      have e : (vp_cell (G.2.2.1 t) (n0, .inl f)).slots.getD (sp.toNatClampNeg + i) .null = .int (f (sp.toNatClampNeg + i)) := by
        show (arrV (G.2.2.1 t) n0 (fun j => .int (f j))).slots.getD _ _ = _
        rw [Array.getD_eq_getD_getElem?, arrV_read _ _ (by omega)]
        rfl
      refine ⟨?_, ?_⟩
      · rw [e]
        exact hfit i hi
      · rw [e]
        exact trivial)
    (g := F0 m pc ls (.int n :: .int dp :: .ref (G.2.2.2.1 + r) :: .int sp :: .ref (G.2.2.2.1 + r0) :: st.map (x_v G))) rfl (by rw [hml]; exact hL.1) (rest := st.map (x_v G)) rfl (by rw [hb]; exact hd) hframes (by rw [hsum]; show 2 * 0 + _ + (7 + 11) ≤ k.2.2.2.2.2.1; omega)
  have e1 : copied (vp_cell (G.2.2.1 t) (n0, .inl f)) (vp_cell (G.2.2.1 t) (n1, .inl g)) sp dp n = vp_cell (G.2.2.1 t) (n1, .inl (va_cpy f g sp.toNatClampNeg dp.toNatClampNeg n.toNatClampNeg)) := va_copied (fun z => .int z) (G.2.2.1 t) (G.2.2.1 t) f g h4
  rw [e1] at X' step
  have hl : G.2.2.2.1 + r < H.size := (Array.getElem?_eq_some_iff.mp hc1).1
  have hheap : ((T.setVm vm').setCell (G.2.2.2.1 + r) (vp_cell (G.2.2.1 t) (n1, .inl (va_cpy f g sp.toNatClampNeg dp.toNatClampNeg n.toNatClampNeg)))).heap = H.setIfInBounds (G.2.2.2.1 + r) (vp_cell (G.2.2.1 t) (n1, .inl (va_cpy f g sp.toNatClampNeg dp.toNatClampNeg n.toNatClampNeg))) := by rw [← hT]; rfl
  have oq : ∀ q : Nat, q ≠ G.2.2.2.1 + r → (H.setIfInBounds (G.2.2.2.1 + r) (vp_cell (G.2.2.1 t) (n1, .inl (va_cpy f g sp.toNatClampNeg dp.toNatClampNeg n.toNatClampNeg))))[q]? = H[q]? := fun q hq => by simp [Array.getElem?_setIfInBounds, Ne.symm hq]
  obtain ⟨t', a1, b1⟩ := kk p e s m args below meth c Q hF _ _ ls (hR.set hm1 (by simp) (show (H.setIfInBounds (G.2.2.2.1 + r) _)[G.2.2.2.1 + r]? = some _ by simp [Array.getElem?_setIfInBounds, hl]; rfl) oq) ⟨hS.1, fun q hq => by rw [oq q (by omega)]; exact hS.2.1 q hq, fun q hq => by
      rcases List.mem_append.mp hq with h | h
      · exact hS.2.2 q h
      · obtain ⟨z, -, hz⟩ := List.mem_map.mp h
        rw [← hz]
        show G.2.2.2.1 ≤ G.2.2.2.1 + r
        omega⟩ hL _ hheap X'
  exact ⟨t', step t' a1, b1⟩
theorem E_mem {mem' : xM} (e : mem = mem') (kk : E G k R ce sl mem' pc loc st) : E G k R ce sl mem pc loc st := by
  rw [e]
  exact kk
theorem E_ext {r t n : Nat} {f f' : Nat → Int32} (hm : mem[r]? = some (.inl (t, n, .inl f))) (hf : ∀ j, j < n → f j = f' j) (kk : E G k R ce sl (mem.set r (.inl (t, n, .inl f'))) pc loc st) : E G k R ce sl mem pc loc st := by
  intro p e s m args below meth c Q hF H locs ls hR hS hL
  refine kk p e s m args below meth c Q hF H locs ls (hR.set hm rfl ?_ (fun _ _ => rfl)) hS hL
  have h1 : H[G.2.2.2.1 + r]? = some (vp_cell (G.2.2.1 t) (n, .inl f)) := hR.2 r _ hm
  show H[G.2.2.2.1 + r]? = some (vp_cell (G.2.2.1 t) (n, .inl f'))
  rw [h1, vp_cell_i, vp_cell_i]
  have e2 : arrV (G.2.2.1 t) n (fun j => Value.int (f j)) = arrV (G.2.2.1 t) n (fun j => Value.int (f' j)) := by
    unfold arrV
    congr 2
    funext j
    show Value.int (f j.val) = Value.int (f' j.val)
    rw [hf j.val j.isLt]
  rw [e2]
theorem E_copyA {index r0 r N t : Nat} {own : String} {ty : FieldType} {f g : Nat → Int32} {n : Int32} (hd : decode k.2.1 pc = .ok (.invokestatic index, 3)) (hown : k.1.cls = own) (hlink : Cond.methodLink own index arraycopyName ∈ x_tbl) (hnat : Cond.native arraycopyName ∈ x_tbl) (hstat : Cond.static arraycopyName ∈ x_tbl) (hini : Cond.initialized "java/lang/System" ∈ x_tbl) (ht : (x_tys G)[t]? = some (G.2.2.1 t, ty)) (hprim : refKind ty = false) (hm0 : mem[r0]? = some (.inl (t, N, .inl f))) (hm1 : mem[r]? = some (.inl (t, N, .inl g))) (h3 : ¬ n < 0) (hN : n.toNatClampNeg = N) (hfit : ∀ i, i < N → fits ty (.int (f i)) = true) (hframes : 1 ≤ k.2.2.2.2.1) (hlocals : (st.map fun v => v.category).sum + 18 ≤ k.2.2.2.2.2.1) (kk : E G k R ce sl (mem.set r (.inl (t, N, .inl f))) (pc + 3) loc st) : E G k R ce sl mem pc loc (.int n :: .int 0 :: .ref r :: .int 0 :: .ref r0 :: st) := by
  have z0 : (0 : Int32).toNatClampNeg = 0 := by decide
  subst hN
  refine E_copy hd hown hlink hnat hstat hini ht hprim hm0 hm1 (by decide) (by decide) h3 (by rw [z0]; omega) (by rw [z0]; omega) (fun i hi => by rw [z0, Nat.zero_add]; exact hfit i hi) hframes hlocals ?_
  have hl := (List.getElem?_eq_some_iff.mp hm1).1
  refine E_ext (r := r) (t := t) (n := n.toNatClampNeg) (f' := f) (by rw [List.getElem?_set_self hl]) (fun j hj => ?_) ?_
  · rw [z0, va_cpy, if_pos (by omega)]
    congr 1
    omega
  · rw [List.set_set]
    exact kk
theorem E_objInit {idx r : Nat} {own : String} (hd : decode k.2.1 pc = .ok (.invokespecial idx, 3)) (hown : k.1.cls = own) (hlink : Cond.methodLink own idx objectInit ∈ x_tbl) (hinst : Cond.instanceMethod objectInit ∈ x_tbl) (hcode : Cond.code objectInit ⟨#[0xb1]⟩ 1 none ∈ x_tbl) (hframes : 1 ≤ k.2.2.2.2.1) (hlocals : (st.map fun v => v.category).sum + 12 ≤ k.2.2.2.2.2.1) (kk : E G k R ce sl mem (pc + 3) loc st) : E G k R ce sl mem pc loc (.ref r :: st) := by
  intro p e s m args below meth c Q hF H locs ls hR hS hL
  obtain ⟨hx, hb, hml, hw, hts, hnm, hE, -⟩ := id hF
  have hsum : ((st.map (x_v G)).map fun v => v.category).sum = (st.map fun v => v.category).sum := by
    rw [List.map_map]
    congr 1
    exact List.map_congr_left (fun v _ => x_cat G v)
  exact W.objInit (R := x_rm k) hx hb (by rw [← hown]; exact hw) (hts _ hlink) (hts _ hinst) (hts _ hcode) (g := F0 m pc ls ((Value.ref r :: st).map (x_v G))) rfl (by rw [hml]; exact hL.1) rfl hd hframes (by rw [hsum]; show 2 * 0 + _ + 12 ≤ k.2.2.2.2.2.1; omega) (kk p e s m args below meth c Q hF H locs ls hR hS hL)
theorem E_iret {x : Int32} {ty : FieldType} (hd : decode k.2.1 pc = .ok (.ireturn, 1)) (hty : k.2.2.2.1 = some ty) (hn : narrow ty (.int x) = .int x) (hce : ce ≤ k.2.2.2.2.2.2.1) (hsl : sl ≤ k.2.2.2.2.2.2.2) (h : R (some (.int x)) mem) : E G k R ce sl mem pc loc [.int x] := by
  intro p e s m args below meth c Q hF H locs ls hR hS hL
  exact W.widen hce hsl (hF.2.2.2.2.2.2.2.1 x mem H locs ls pc hd ⟨ty, hty, hn⟩ h hR hS)
theorem E_vret (hd : decode k.2.1 pc = .ok (.return_, 1)) (hty : k.2.2.2.1 = none) (hce : ce ≤ k.2.2.2.2.2.2.1) (hsl : sl ≤ k.2.2.2.2.2.2.2) (h : R none mem) : E G k R ce sl mem pc loc [] := by
  intro p e s m args below meth c Q hF H locs ls hR hS hL
  exact W.widen hce hsl (hF.2.2.2.2.2.2.2.2.1 mem H locs ls pc hd hty h hR hS)
theorem E_lret {x : Int64} (hd : decode k.2.1 pc = .ok (.lreturn, 1)) (hty : k.2.2.2.1 = some .long) (hce : ce ≤ k.2.2.2.2.2.2.1) (hsl : sl ≤ k.2.2.2.2.2.2.2) (h : R (some (.long x)) mem) : E G k R ce sl mem pc loc [.long x] := by
  intro p e s m args below meth c Q hF H locs ls hR hS hL
  exact W.widen hce hsl (hF.2.2.2.2.2.2.2.2.2 x mem H locs ls pc hd hty h hR hS)
/-! contracts and calls -/
def x_Q (G : xG) (R : Option Value → xM → Prop) : Array Value → State → Outcome → State → Prop := fun _ st o t => (∃ (v : Option Value) (mem : xM), o = .returned (v.map (x_v G)) ∧ R v mem ∧ xRep G mem t.heap) ∧ ∀ q : Nat, q < G.2.2.2.1 → t.heap[q]? = st.heap[q]?
def x_P (G : xG) (mem : xM) : State → Prop := fun U => xRep G mem U.heap ∧ xEn G U ∧ G.2.2.2.1 ≤ U.heap.size
def Ct (G : xG) (k : xI) (args : List Value) (mem : xM) (R : Option Value → xM → Prop) : Prop := Met G.1 k.1 (x_ws k) (x_rm k) (va_Pc (args.map (x_v G)) (x_P G mem)) (x_Q G R) k.2.2.2.2.2.2.1 k.2.2.2.2.2.2.2 (fun q => G.2.2.2.1 ≤ q)
theorem xEn.moved {u U : State} (hvm : u.vm.Alike U.vm) (hn : ∀ w ∈ x_nests, va_Nw w u → va_Nw w U) (hb : U.heap[G.2.2.2.2.1]? = u.heap[G.2.2.2.2.1]?) (h : xEn G u) : xEn G U := ⟨va_K.moved hvm h.1, va_AO.moved hvm h.2.1, (h.2.2.1.moved hvm).kept hb, h.2.2.2.1, fun w hw => hn w hw (h.2.2.2.2 w hw)⟩
theorem x_args (vs : List Value) : ∀ (i j : Nat) (v : Value), x_get (lv_args i vs) j = some v → (j, x_v G v) ∈ lv_args i (vs.map (x_v G)) := by
  induction vs with
  | nil => intro i j v h; cases h
  | cons a l ih =>
    intro i j v h
    rcases List.mem_cons.mp (x_get_mem _ _ _ h) with e | hm
    · cases e
      exact List.mem_cons_self
    · unfold lv_args x_get at h
      cases hb : Nat.beq i j with
      | true =>
        rw [show Nat.beq (i, a).1 j = true from hb] at h
        cases h
        rw [← x_beq.mp hb]
        exact List.mem_cons_self
      | false =>
        rw [show Nat.beq (i, a).1 j = false from hb] at h
        show (j, x_v G v) ∈ (i, x_v G a) :: lv_args (if (x_v G a).category = 2 then i + 2 else i + 1) (l.map (x_v G))
        rw [x_cat]
        exact List.mem_cons_of_mem _ (ih _ _ _ h)
theorem x_sl (vs : List Value) : (lg_sl (vs.map (x_v G))).length = (lg_sl vs).length := by
  induction vs with
  | nil => rfl
  | cons a l ih =>
    show ((if (x_v G a).category = 2 then [Slot.val (x_v G a), .second] else [.val (x_v G a)]) ++ lg_sl (l.map (x_v G))).length = ((if a.category = 2 then [Slot.val a, .second] else [.val a]) ++ lg_sl l).length
    rw [x_cat, List.length_append, List.length_append, ih]
    by_cases h : a.category = 2 <;> simp [h]
theorem Ct_of {args : List Value} (hp : plainName k.1.cls = true) (hn : (lg_sl args).length ≤ k.2.2.1) (kk : E G k R 0 0 mem 0 (x_L (lv_args 0 args)) []) : Ct G k args mem R := by
  refine Met.ofW (cc := k.2.1) (maxL := k.2.2.1) (ret := k.2.2.2.1) hp rfl ?_
  intro p e s m as below meth c s₁ B hml hv
  obtain ⟨rfl, hR, hE, hB⟩ := hv
  have hts := atoms_spec (ws := x_ws k) B.pre
  have hlocks := B.notSynchronized
  have hl := lv_entry (args.map (x_v G)) (n := k.2.2.1) (by rw [x_sl]; exact hn)
  rw [lg_entry_eq]
  generalize (lg_sl (args.map (x_v G)) ++ List.replicate (k.2.2.1 - (lg_sl (args.map (x_v G))).length) Slot.unset).toArray = ls at hl ⊢
  refine kk p e s m _ below meth c _ ⟨B.exec, B.bytes, hml, findClass_of_methodNamed B.named, fun w h => hts w (List.mem_cons_of_mem _ h), (name_of_methodNamed B.named B.method).1, hE, ?_, ?_, ?_⟩ s.heap [] ls hR ⟨hB, fun _ _ => rfl, fun q h => by cases h⟩ ⟨hl.1, hl.2.1, fun i v h => hl.2.2 (i, x_v G v) (x_args args 0 i v h)⟩
  · intro x mem1 H locs ls1 pc1 hd hty hRx hR1 hS1
    obtain ⟨ty, h1, h2⟩ := hty
    exact W.zret (v := x) B.exec B.bytes (B.returns.trans h1) h2 (fun t ht _ => ⟨⟨some (.int x), mem1, rfl, hRx, by rw [ht]; exact hR1⟩, fun q hq => by rw [ht]; exact hS1.2.1 q hq⟩) hS1.2.2 hd
  · intro mem1 H locs ls1 pc1 hd hty hRx hR1 hS1
    exact W.vret B.exec B.bytes (B.returns.trans hty) (fun t ht _ => ⟨⟨none, mem1, rfl, hRx, by rw [ht]; exact hR1⟩, fun q hq => by rw [ht]; exact hS1.2.1 q hq⟩) hS1.2.2 hd
  · intro x mem1 H locs ls1 pc1 hd hty hRx hR1 hS1
    exact W.lret (v := x) B.exec B.bytes (B.returns.trans hty) (fun t ht _ => ⟨⟨some (.long x), mem1, rfl, hRx, by rw [ht]; exact hR1⟩, fun q hq => by rw [ht]; exact hS1.2.1 q hq⟩) hS1.2.2 hd
theorem Ct.mono {args : List Value} {R' : Option Value → xM → Prop} (h : Ct G k args mem R) (hi : ∀ v m', R v m' → R' v m') : Ct G k args mem R' := by
  unfold Ct Met at h ⊢
  refine MetFree.mono h (fun _ _ q => q) (fun _ _ _ _ _ _ => trivial) ?_
  intro a st o t _ q
  obtain ⟨⟨⟨v, m', e1, e2, e3⟩, hf⟩, hL⟩ := q
  exact ⟨⟨⟨v, m', e1, hi v m' e2, e3⟩, hf⟩, hL⟩
def xOk (k : xI) (n : Nat) : Prop := plainName k.1.cls = true ∧ (k.1.cls ≠ "java/lang/invoke/MethodHandle" ∧ k.1.cls ≠ "java/lang/invoke/VarHandle" ∧ (parseMethodDescriptor k.1.desc).map (fun d => d.parameters.length) = some n) ∧ Cond.code k.1 k.2.1 k.2.2.1 k.2.2.2.1 ∈ x_tbl ∧ Cond.initialized k.1.cls ∈ x_tbl
theorem x_blind {args : List Value} : FrameBlind (va_Pc (args.map (x_v G)) (x_P G mem)) := by
  intro a U g mk q
  obtain ⟨q0, q1, q2, q3⟩ := q
  exact ⟨q0, q1, xEn.moved (u := U) (U := U.calling g mk a) (Vm.Alike.refl U.vm) (fun w hw h => x_nest_same (s := U) (U := U.calling g mk a) hw rfl h) rfl q2, q3⟩
theorem x_pre {args : List Value} {p : Program} {e : Env} {s : State} {m : MethodId} {as : Array Value} {below : List Frame} {meth : Method} {c : Code} {Q : State → Prop} {H : Heap} {locs : List Loc} (hF : xFix G k R p e s m as below meth c Q) (hR : xRep G mem H) (hS : xFr G s H locs) : ∀ U : State, U.heap = H → s.WarmedH U.vm → va_Pc (args.map (x_v G)) (x_P G mem) (args.map (x_v G)).toArray U := by
  intro U hU hW
  have hE := hF.2.2.2.2.2.2.1
  refine ⟨rfl, by rw [hU]; exact hR, xEn.moved hW.alike (fun w hw h => x_nest_warm hw hW h) ?_ hE, by rw [hU, hR.1]; omega⟩
  rw [hU]
  exact hS.2.1 _ hE.2.2.2.1
theorem x_cont {R' : Option Value → xM → Prop} {p : Program} {e : Env} {s : State} {m : MethodId} {as a : Array Value} {below : List Frame} {meth : Method} {c : Code} {Q : State → Prop} {H : Heap} {locs : List Loc} {ls : Array Slot} {st0 : List Value} {mc ms : Nat} (hF : xFix G k R p e s m as below meth c Q) (hR : xRep G mem H) (hS : xFr G s H locs) (hL : x_ls G ls k.2.2.1 loc)
    (hr : va_Run p G.1 e (x_rm k) s m as below meth c H locs ce sl mc ms (F0 m pc ls st0) (st.map (x_v G)) (x_Q G R' a) (fun q => G.2.2.2.1 ≤ q)) (kk : ∀ (v : Option Value) (mem' : xM), R' v mem' → E G k R (ce + mc) (sl + ms) mem' (pc + 3) loc (v.toList ++ st)) : W p G.1 e (x_rm k) s m as below meth c H locs ce sl Q (F0 m pc ls st0) := by
  intro T hT X
  obtain ⟨v, st₀, t, T', L, h0, X', hLl, e1, e2, ⟨⟨v', mem', hv, hRv, hR'⟩, hfr⟩, st1⟩ := hr T hT X
  cases hv
  have hst : (v'.map (x_v G)).toList ++ st.map (x_v G) = (v'.toList ++ st).map (x_v G) := by cases v' <;> rfl
  have hfr' : ∀ q : Nat, q < G.2.2.2.1 → T'.heap[q]? = s.heap[q]? := fun q hq => by rw [e1, hfr q hq, h0]; exact hS.2.1 q hq
  obtain ⟨t2, a1, b1⟩ := kk v' mem' hRv p e s m as below meth c Q hF T'.heap (locs ++ L) ls (by rw [e1]; exact hR') ⟨hS.1, hfr', fun q hq => by
    rcases List.mem_append.mp hq with h | h
    · exact hS.2.2 q h
    · exact hLl q h⟩ hL T' rfl X'
  rw [← hst] at a1
  exact ⟨t2, st1 t2 a1, b1⟩
theorem x_sum (h : (st.map fun v => v.category).sum ≤ 8) : ((st.map (x_v G)).map fun v => v.category).sum ≤ 8 := by
  rw [List.map_map]
  have e : List.map ((fun v => v.category) ∘ x_v G) st = st.map fun v => v.category := List.map_congr_left (fun v _ => x_cat G v)
  rw [e]
  exact h
theorem x_callB {k' : xI} {n idx : Nat} {own : String} {p : Program} {e : Env} {s : State} {m : MethodId} {as : Array Value} {below : List Frame} {meth : Method} {c : Code} {Q : State → Prop} (hF : xFix G k R p e s m as below meth c Q) (hok : xOk k' n) (hlink : Cond.methodLink own idx k'.1 ∈ x_tbl) (hroom : k'.2.2.2.2.1 + 1 ≤ k.2.2.2.2.1 ∧ 8 + (k'.2.2.1 + 11) + k'.2.2.2.2.2.1 ≤ k.2.2.2.2.2.1) : CallB (x_rm k) s as own idx k'.1 k'.2.1 k'.2.2.1 k'.2.2.2.1 (x_ws k') (x_rm k') k'.2.2.2.2.2.2.1 k'.2.2.2.2.2.2.2 n := by
  obtain ⟨hx, hb, hml, hw, hts, hnm, hE, -⟩ := hF
  obtain ⟨h1, h2, h3, h4⟩ := hok
  exact callB_of n hts (x_good h3) rfl rfl rfl (hts _ h4) (hts _ hlink) h2 hroom
theorem E_callV {k' : xI} {R' : Option Value → xM → Prop} {n idx r ci N : Nat} {own C : String} {T : u_T} {fs As : List Value} (hd : decode k.2.1 pc = .ok (.invokevirtual idx, 3)) (hown : k.1.cls = own) (hok : xOk k' n) (hinst : Cond.instanceMethod k'.1 ∈ x_tbl) (hsel : Cond.selects C k'.1 k'.1 ∈ x_tbl) (hlink : Cond.methodLink own idx k'.1 ∈ x_tbl) (hroom : k'.2.2.2.2.1 + 1 ≤ k.2.2.2.2.1 ∧ 8 + (k'.2.2.1 + 11) + k'.2.2.2.2.2.1 ≤ k.2.2.2.2.2.1) (hcs : ce + k'.2.2.2.2.2.2.1 ≤ k.2.2.2.2.2.2.1 ∧ sl + k'.2.2.2.2.2.2.2 ≤ k.2.2.2.2.2.2.2) (hrest : (st.map fun v => v.category).sum ≤ 8) (hm : mem[r]? = some (.inr (ci, fs))) (hc : vwCl[ci]? = some (C, T, N)) (hn : As.length = n) (hC : Ct G k' (.ref r :: As) mem R') (kk : ∀ (v : Option Value) (mem' : xM), R' v mem' → E G k R (ce + k'.2.2.2.2.2.2.1) (sl + k'.2.2.2.2.2.2.2) mem' (pc + 3) loc (v.toList ++ st)) : E G k R ce sl mem pc loc (As.reverse ++ .ref r :: st) := by
  intro p e s m args below meth c Q hF H locs ls hR hS hL
  obtain ⟨hx, hb, hml, hw, hts, hnm, hE, -⟩ := id hF
  have hcb := x_callB hF hok hlink hroom
  have hr := va_runV (l := G.1) (e := e) (below := below) (meth := meth) (R := x_rm k) (H := H) (locs := locs) (cells := ce) (slots := sl) (As := As.map (x_v G)) (rest := st.map (x_v G)) (g := F0 m pc ls ((As.reverse ++ .ref r :: st).map (x_v G))) ⟨hx, hb, hml, by rw [← hown]; exact hw, hts⟩ hC ⟨hcb, hts _ hinst, hts _ hsel⟩ ⟨x_blind, va_recv hE.1 (hR.one hm) (ci := ci) (q0 := 0) (q := (C, T, N)) hc rfl, x_pre hF hR hS⟩ rfl (by rw [List.length_map]; exact hn) hL.1 (by simp [List.map_append, List.map_reverse, x_v]) (lv_room (x_sum hrest)) hd hcs
  exact x_cont hF hR hS hL hr kk
theorem E_callS {k' : xI} {R' : Option Value → xM → Prop} {n idx : Nat} {own : String} {As : List Value} (hd : decode k.2.1 pc = .ok (.invokestatic idx, 3)) (hown : k.1.cls = own) (hok : xOk k' n) (hstat : Cond.static k'.1 ∈ x_tbl) (hlink : Cond.methodLink own idx k'.1 ∈ x_tbl) (hroom : k'.2.2.2.2.1 + 1 ≤ k.2.2.2.2.1 ∧ 8 + (k'.2.2.1 + 11) + k'.2.2.2.2.2.1 ≤ k.2.2.2.2.2.1) (hcs : ce + k'.2.2.2.2.2.2.1 ≤ k.2.2.2.2.2.2.1 ∧ sl + k'.2.2.2.2.2.2.2 ≤ k.2.2.2.2.2.2.2) (hrest : (st.map fun v => v.category).sum ≤ 8) (hn : As.length = n) (hC : Ct G k' As mem R') (kk : ∀ (v : Option Value) (mem' : xM), R' v mem' → E G k R (ce + k'.2.2.2.2.2.2.1) (sl + k'.2.2.2.2.2.2.2) mem' (pc + 3) loc (v.toList ++ st)) : E G k R ce sl mem pc loc (As.reverse ++ st) := by
  intro p e s m args below meth c Q hF H locs ls hR hS hL
  obtain ⟨hx, hb, hml, hw, hts, hnm, hE, -⟩ := id hF
  have hcb := x_callB hF hok hlink hroom
  have hr := va_runS (l := G.1) (e := e) (below := below) (meth := meth) (R := x_rm k) (H := H) (locs := locs) (cells := ce) (slots := sl) (As := As.map (x_v G)) (rest := st.map (x_v G)) (g := F0 m pc ls ((As.reverse ++ st).map (x_v G))) ⟨hx, hb, hml, by rw [← hown]; exact hw, hts⟩ hC ⟨hcb, hts _ hstat⟩ ⟨x_blind, x_pre hF hR hS⟩ rfl (by rw [List.length_map]; exact hn) hL.1 (by simp [List.map_append, List.map_reverse]) (lv_room (x_sum hrest)) hd hcs
  exact x_cont hF hR hS hL hr kk
theorem E_callI {k' : xI} {R' : Option Value → xM → Prop} {n idx r : Nat} {own : String} {As : List Value} (hd : decode k.2.1 pc = .ok (.invokespecial idx, 3)) (hown : k.1.cls = own) (hok : xOk k' n) (hret : k'.2.2.2.1 = none) (hname : k'.1.name = "<init>") (hinst : Cond.instanceMethod k'.1 ∈ x_tbl) (hlink : Cond.methodLink own idx k'.1 ∈ x_tbl) (hroom : k'.2.2.2.2.1 + 1 ≤ k.2.2.2.2.1 ∧ 8 + (k'.2.2.1 + 11) + k'.2.2.2.2.2.1 ≤ k.2.2.2.2.2.1) (hcs : ce + k'.2.2.2.2.2.2.1 ≤ k.2.2.2.2.2.2.1 ∧ sl + k'.2.2.2.2.2.2.2 ≤ k.2.2.2.2.2.2.2) (hrest : (st.map fun v => v.category).sum ≤ 8) (hn : As.length = n) (hC : Ct G k' (.ref r :: As) mem R') (kk : ∀ (v : Option Value) (mem' : xM), R' v mem' → E G k R (ce + k'.2.2.2.2.2.2.1) (sl + k'.2.2.2.2.2.2.2) mem' (pc + 3) loc (v.toList ++ st)) : E G k R ce sl mem pc loc (As.reverse ++ .ref r :: st) := by
  intro p e s m args below meth c Q hF H locs ls hR hS hL
  obtain ⟨hx, hb, hml, hw, hts, hnm, hE, -⟩ := id hF
  have hcb := x_callB hF hok hlink hroom
  rw [hret] at hcb
  have hr := va_runI (l := G.1) (e := e) (below := below) (meth := meth) (R := x_rm k) (H := H) (locs := locs) (cells := ce) (slots := sl) (As := As.map (x_v G)) (rest := st.map (x_v G)) (g := F0 m pc ls ((As.reverse ++ .ref r :: st).map (x_v G))) ⟨hx, hb, hml, by rw [← hown]; exact hw, hts⟩ hC ⟨hcb, hname, hts _ hinst⟩ ⟨x_blind, x_pre (args := .ref r :: As) hF hR hS⟩ rfl (by rw [List.length_map]; exact hn) hL.1 (by simp [List.map_append, List.map_reverse, x_v]) (lv_room (x_sum hrest)) hd hcs
  exact x_cont hF hR hS hL hr kk
theorem x_callN {k' : xI} {n idx : Nat} {own host : String} {p : Program} {e : Env} {s : State} {m : MethodId} {as : Array Value} {below : List Frame} {meth : Method} {c : Code} {Q : State → Prop} (hF : xFix G k R p e s m as below meth c Q) (hok : xOk k' n) (hlink : Cond.methodLinkNest own idx k'.1 host ∈ x_nests) (hroom : k'.2.2.2.2.1 + 1 ≤ k.2.2.2.2.1 ∧ 8 + (k'.2.2.1 + 11) + k'.2.2.2.2.2.1 ≤ k.2.2.2.2.2.1) : va_CN (x_rm k) s as own idx k'.1 host k'.2.1 k'.2.2.1 k'.2.2.2.1 (x_ws k') (x_rm k') k'.2.2.2.2.2.2.1 k'.2.2.2.2.2.2.2 n := by
  obtain ⟨hx, hb, hml, hw, hts, hnm, hE, -⟩ := hF
  obtain ⟨h1, h2, h3, h4⟩ := hok
  refine ⟨⟨rfl, rfl, hroom.1, hroom.2, pay_in hts (x_good h3), List.mem_cons_self⟩, hts _ h3, hts _ h4, ⟨h2.1, h2.2.1⟩, fun sig h => ?_, va_Nw.use rfl (hE.2.2.2.2 _ hlink)⟩
  have h5 := h2.2.2
  rw [h] at h5
  exact (Option.some.inj h5).symm
theorem E_callSN {k' : xI} {R' : Option Value → xM → Prop} {n idx : Nat} {own host : String} {As : List Value} (hd : decode k.2.1 pc = .ok (.invokestatic idx, 3)) (hown : k.1.cls = own) (hok : xOk k' n) (hstat : Cond.static k'.1 ∈ x_tbl) (hlink : Cond.methodLinkNest own idx k'.1 host ∈ x_nests) (hroom : k'.2.2.2.2.1 + 1 ≤ k.2.2.2.2.1 ∧ 8 + (k'.2.2.1 + 11) + k'.2.2.2.2.2.1 ≤ k.2.2.2.2.2.1) (hcs : ce + k'.2.2.2.2.2.2.1 ≤ k.2.2.2.2.2.2.1 ∧ sl + k'.2.2.2.2.2.2.2 ≤ k.2.2.2.2.2.2.2) (hrest : (st.map fun v => v.category).sum ≤ 8) (hn : As.length = n) (hC : Ct G k' As mem R') (kk : ∀ (v : Option Value) (mem' : xM), R' v mem' → E G k R (ce + k'.2.2.2.2.2.2.1) (sl + k'.2.2.2.2.2.2.2) mem' (pc + 3) loc (v.toList ++ st)) : E G k R ce sl mem pc loc (As.reverse ++ st) := by
  intro p e s m args below meth c Q hF H locs ls hR hS hL
  obtain ⟨hx, hb, hml, hw, hts, hnm, hE, -⟩ := id hF
  have hcb := x_callN hF hok hlink hroom
  have hr := va_runSN (l := G.1) (e := e) (below := below) (meth := meth) (R := x_rm k) (H := H) (locs := locs) (cells := ce) (slots := sl) (As := As.map (x_v G)) (rest := st.map (x_v G)) (g := F0 m pc ls ((As.reverse ++ st).map (x_v G))) ⟨hx, hb, hml, by rw [← hown]; exact hw, hts⟩ hC ⟨hcb, hts _ hstat, trivial⟩ ⟨x_blind, x_pre hF hR hS⟩ rfl (by rw [List.length_map]; exact hn) hL.1 (by simp [List.map_append, List.map_reverse]) (lv_room (x_sum hrest)) hd hcs
  exact x_cont hF hR hS hL hr kk
theorem E_callIN {k' : xI} {R' : Option Value → xM → Prop} {n idx r : Nat} {own host : String} {As : List Value} (hd : decode k.2.1 pc = .ok (.invokespecial idx, 3)) (hown : k.1.cls = own) (hok : xOk k' n) (hret : k'.2.2.2.1 = none) (hname : k'.1.name = "<init>") (hinst : Cond.instanceMethod k'.1 ∈ x_tbl) (hlink : Cond.methodLinkNest own idx k'.1 host ∈ x_nests) (hroom : k'.2.2.2.2.1 + 1 ≤ k.2.2.2.2.1 ∧ 8 + (k'.2.2.1 + 11) + k'.2.2.2.2.2.1 ≤ k.2.2.2.2.2.1) (hcs : ce + k'.2.2.2.2.2.2.1 ≤ k.2.2.2.2.2.2.1 ∧ sl + k'.2.2.2.2.2.2.2 ≤ k.2.2.2.2.2.2.2) (hrest : (st.map fun v => v.category).sum ≤ 8) (hn : As.length = n) (hC : Ct G k' (.ref r :: As) mem R') (kk : ∀ (v : Option Value) (mem' : xM), R' v mem' → E G k R (ce + k'.2.2.2.2.2.2.1) (sl + k'.2.2.2.2.2.2.2) mem' (pc + 3) loc (v.toList ++ st)) : E G k R ce sl mem pc loc (As.reverse ++ .ref r :: st) := by
  intro p e s m args below meth c Q hF H locs ls hR hS hL
  obtain ⟨hx, hb, hml, hw, hts, hnm, hE, -⟩ := id hF
  have hcb := x_callN hF hok hlink hroom
  rw [hret] at hcb
  have hr := va_runIN (l := G.1) (e := e) (below := below) (meth := meth) (R := x_rm k) (H := H) (locs := locs) (cells := ce) (slots := sl) (As := As.map (x_v G)) (rest := st.map (x_v G)) (g := F0 m pc ls ((As.reverse ++ .ref r :: st).map (x_v G))) ⟨hx, hb, hml, by rw [← hown]; exact hw, hts⟩ hC ⟨hcb, hname, hts _ hinst⟩ ⟨x_blind, x_pre (args := .ref r :: As) hF hR hS⟩ rfl (by rw [List.length_map]; exact hn) hL.1 (by simp [List.map_append, List.map_reverse, x_v]) (lv_room (x_sum hrest)) hd hcs
  exact x_cont hF hR hS hL hr kk
/-- a contract whose answer and memory are given -/
abbrev x_R (v : Option Value) (mem2 : xM) : Option Value → xM → Prop := fun v' m => v' = v ∧ m = mem2
def Dt (G : xG) (k : xI) (args : List Value) (mem : xM) (v : Option Value) (mem2 : xM) : Prop := Ct G k args mem (x_R v mem2)
theorem x_i {a b : Int32} (h : a = b) : some (Value.int a) = some (Value.int b) := congrArg (fun z => some (Value.int z)) h
theorem x_l {a b : Int64} (h : a = b) : some (Value.long a) = some (Value.long b) := congrArg (fun z => some (Value.long z)) h
theorem x_leaf {v v' : Option Value} {m : xM} (h : v = v') : x_R v' m v m := ⟨h, rfl⟩
def x_k0 (k : xI) : Prop := k.2.2.2.2.2.2.1 = 0 ∧ k.2.2.2.2.2.2.2 = 0
def xRm (k k' : xI) : Prop := k'.2.2.2.2.1 + 1 ≤ k.2.2.2.2.1 ∧ 8 + (k'.2.2.1 + 11) + k'.2.2.2.2.2.1 ≤ k.2.2.2.2.2.1
theorem E_V0i {k' : xI} {idx : Nat} {own : String} {mem2 : xM} {r : Nat} {ci N : Nat} {C : String} {T : u_T} {fs : List Value} {x : Int32} (hd : decode k.2.1 pc = .ok (.invokevirtual idx, 3)) (hown : k.1.cls = own) (hok : xOk k' 0) (hinst : Cond.instanceMethod k'.1 ∈ x_tbl) (hsel : Cond.selects C k'.1 k'.1 ∈ x_tbl) (hlink : Cond.methodLink own idx k'.1 ∈ x_tbl) (hroom : xRm k k') (h0 : x_k0 k') (hcs : ce ≤ k.2.2.2.2.2.2.1 ∧ sl ≤ k.2.2.2.2.2.2.2) (hrest : (st.map fun v => v.category).sum ≤ 8) (hm : mem[r]? = some (.inr (ci, fs))) (hc : vwCl[ci]? = some (C, T, N)) (hC : Dt G k' [.ref r] mem (some (.int x)) mem2) (kk : E G k R ce sl mem2 (pc + 3) loc (.int x :: st)) : E G k R ce sl mem pc loc (.ref r :: st) := E_callV (As := []) hd hown hok hinst hsel hlink hroom ⟨by rw [h0.1]; exact hcs.1, by rw [h0.2]; exact hcs.2⟩ hrest hm hc rfl hC (fun v mem' hv => by obtain ⟨rfl, rfl⟩ := hv; rw [h0.1, h0.2]; exact kk)
theorem E_V0l {k' : xI} {idx : Nat} {own : String} {mem2 : xM} {r : Nat} {ci N : Nat} {C : String} {T : u_T} {fs : List Value} {x : Int64} (hd : decode k.2.1 pc = .ok (.invokevirtual idx, 3)) (hown : k.1.cls = own) (hok : xOk k' 0) (hinst : Cond.instanceMethod k'.1 ∈ x_tbl) (hsel : Cond.selects C k'.1 k'.1 ∈ x_tbl) (hlink : Cond.methodLink own idx k'.1 ∈ x_tbl) (hroom : xRm k k') (h0 : x_k0 k') (hcs : ce ≤ k.2.2.2.2.2.2.1 ∧ sl ≤ k.2.2.2.2.2.2.2) (hrest : (st.map fun v => v.category).sum ≤ 8) (hm : mem[r]? = some (.inr (ci, fs))) (hc : vwCl[ci]? = some (C, T, N)) (hC : Dt G k' [.ref r] mem (some (.long x)) mem2) (kk : E G k R ce sl mem2 (pc + 3) loc (.long x :: st)) : E G k R ce sl mem pc loc (.ref r :: st) := E_callV (As := []) hd hown hok hinst hsel hlink hroom ⟨by rw [h0.1]; exact hcs.1, by rw [h0.2]; exact hcs.2⟩ hrest hm hc rfl hC (fun v mem' hv => by obtain ⟨rfl, rfl⟩ := hv; rw [h0.1, h0.2]; exact kk)
theorem E_V0v {k' : xI} {idx : Nat} {own : String} {mem2 : xM} {r : Nat} {ci N : Nat} {C : String} {T : u_T} {fs : List Value} (hd : decode k.2.1 pc = .ok (.invokevirtual idx, 3)) (hown : k.1.cls = own) (hok : xOk k' 0) (hinst : Cond.instanceMethod k'.1 ∈ x_tbl) (hsel : Cond.selects C k'.1 k'.1 ∈ x_tbl) (hlink : Cond.methodLink own idx k'.1 ∈ x_tbl) (hroom : xRm k k') (h0 : x_k0 k') (hcs : ce ≤ k.2.2.2.2.2.2.1 ∧ sl ≤ k.2.2.2.2.2.2.2) (hrest : (st.map fun v => v.category).sum ≤ 8) (hm : mem[r]? = some (.inr (ci, fs))) (hc : vwCl[ci]? = some (C, T, N)) (hC : Dt G k' [.ref r] mem (none) mem2) (kk : E G k R ce sl mem2 (pc + 3) loc (st)) : E G k R ce sl mem pc loc (.ref r :: st) := E_callV (As := []) hd hown hok hinst hsel hlink hroom ⟨by rw [h0.1]; exact hcs.1, by rw [h0.2]; exact hcs.2⟩ hrest hm hc rfl hC (fun v mem' hv => by obtain ⟨rfl, rfl⟩ := hv; rw [h0.1, h0.2]; exact kk)
theorem E_V1i {k' : xI} {idx : Nat} {own : String} {mem2 : xM} {r : Nat} {ci N : Nat} {C : String} {T : u_T} {fs : List Value} {a1 : Value} {x : Int32} (hd : decode k.2.1 pc = .ok (.invokevirtual idx, 3)) (hown : k.1.cls = own) (hok : xOk k' 1) (hinst : Cond.instanceMethod k'.1 ∈ x_tbl) (hsel : Cond.selects C k'.1 k'.1 ∈ x_tbl) (hlink : Cond.methodLink own idx k'.1 ∈ x_tbl) (hroom : xRm k k') (h0 : x_k0 k') (hcs : ce ≤ k.2.2.2.2.2.2.1 ∧ sl ≤ k.2.2.2.2.2.2.2) (hrest : (st.map fun v => v.category).sum ≤ 8) (hm : mem[r]? = some (.inr (ci, fs))) (hc : vwCl[ci]? = some (C, T, N)) (hC : Dt G k' [.ref r, a1] mem (some (.int x)) mem2) (kk : E G k R ce sl mem2 (pc + 3) loc (.int x :: st)) : E G k R ce sl mem pc loc (a1 :: .ref r :: st) := E_callV (As := [a1]) hd hown hok hinst hsel hlink hroom ⟨by rw [h0.1]; exact hcs.1, by rw [h0.2]; exact hcs.2⟩ hrest hm hc rfl hC (fun v mem' hv => by obtain ⟨rfl, rfl⟩ := hv; rw [h0.1, h0.2]; exact kk)
theorem E_V1l {k' : xI} {idx : Nat} {own : String} {mem2 : xM} {r : Nat} {ci N : Nat} {C : String} {T : u_T} {fs : List Value} {a1 : Value} {x : Int64} (hd : decode k.2.1 pc = .ok (.invokevirtual idx, 3)) (hown : k.1.cls = own) (hok : xOk k' 1) (hinst : Cond.instanceMethod k'.1 ∈ x_tbl) (hsel : Cond.selects C k'.1 k'.1 ∈ x_tbl) (hlink : Cond.methodLink own idx k'.1 ∈ x_tbl) (hroom : xRm k k') (h0 : x_k0 k') (hcs : ce ≤ k.2.2.2.2.2.2.1 ∧ sl ≤ k.2.2.2.2.2.2.2) (hrest : (st.map fun v => v.category).sum ≤ 8) (hm : mem[r]? = some (.inr (ci, fs))) (hc : vwCl[ci]? = some (C, T, N)) (hC : Dt G k' [.ref r, a1] mem (some (.long x)) mem2) (kk : E G k R ce sl mem2 (pc + 3) loc (.long x :: st)) : E G k R ce sl mem pc loc (a1 :: .ref r :: st) := E_callV (As := [a1]) hd hown hok hinst hsel hlink hroom ⟨by rw [h0.1]; exact hcs.1, by rw [h0.2]; exact hcs.2⟩ hrest hm hc rfl hC (fun v mem' hv => by obtain ⟨rfl, rfl⟩ := hv; rw [h0.1, h0.2]; exact kk)
theorem E_V1v {k' : xI} {idx : Nat} {own : String} {mem2 : xM} {r : Nat} {ci N : Nat} {C : String} {T : u_T} {fs : List Value} {a1 : Value} (hd : decode k.2.1 pc = .ok (.invokevirtual idx, 3)) (hown : k.1.cls = own) (hok : xOk k' 1) (hinst : Cond.instanceMethod k'.1 ∈ x_tbl) (hsel : Cond.selects C k'.1 k'.1 ∈ x_tbl) (hlink : Cond.methodLink own idx k'.1 ∈ x_tbl) (hroom : xRm k k') (h0 : x_k0 k') (hcs : ce ≤ k.2.2.2.2.2.2.1 ∧ sl ≤ k.2.2.2.2.2.2.2) (hrest : (st.map fun v => v.category).sum ≤ 8) (hm : mem[r]? = some (.inr (ci, fs))) (hc : vwCl[ci]? = some (C, T, N)) (hC : Dt G k' [.ref r, a1] mem (none) mem2) (kk : E G k R ce sl mem2 (pc + 3) loc (st)) : E G k R ce sl mem pc loc (a1 :: .ref r :: st) := E_callV (As := [a1]) hd hown hok hinst hsel hlink hroom ⟨by rw [h0.1]; exact hcs.1, by rw [h0.2]; exact hcs.2⟩ hrest hm hc rfl hC (fun v mem' hv => by obtain ⟨rfl, rfl⟩ := hv; rw [h0.1, h0.2]; exact kk)
theorem E_V2i {k' : xI} {idx : Nat} {own : String} {mem2 : xM} {r : Nat} {ci N : Nat} {C : String} {T : u_T} {fs : List Value} {a1 a2 : Value} {x : Int32} (hd : decode k.2.1 pc = .ok (.invokevirtual idx, 3)) (hown : k.1.cls = own) (hok : xOk k' 2) (hinst : Cond.instanceMethod k'.1 ∈ x_tbl) (hsel : Cond.selects C k'.1 k'.1 ∈ x_tbl) (hlink : Cond.methodLink own idx k'.1 ∈ x_tbl) (hroom : xRm k k') (h0 : x_k0 k') (hcs : ce ≤ k.2.2.2.2.2.2.1 ∧ sl ≤ k.2.2.2.2.2.2.2) (hrest : (st.map fun v => v.category).sum ≤ 8) (hm : mem[r]? = some (.inr (ci, fs))) (hc : vwCl[ci]? = some (C, T, N)) (hC : Dt G k' [.ref r, a1, a2] mem (some (.int x)) mem2) (kk : E G k R ce sl mem2 (pc + 3) loc (.int x :: st)) : E G k R ce sl mem pc loc (a2 :: a1 :: .ref r :: st) := E_callV (As := [a1, a2]) hd hown hok hinst hsel hlink hroom ⟨by rw [h0.1]; exact hcs.1, by rw [h0.2]; exact hcs.2⟩ hrest hm hc rfl hC (fun v mem' hv => by obtain ⟨rfl, rfl⟩ := hv; rw [h0.1, h0.2]; exact kk)
theorem E_V2l {k' : xI} {idx : Nat} {own : String} {mem2 : xM} {r : Nat} {ci N : Nat} {C : String} {T : u_T} {fs : List Value} {a1 a2 : Value} {x : Int64} (hd : decode k.2.1 pc = .ok (.invokevirtual idx, 3)) (hown : k.1.cls = own) (hok : xOk k' 2) (hinst : Cond.instanceMethod k'.1 ∈ x_tbl) (hsel : Cond.selects C k'.1 k'.1 ∈ x_tbl) (hlink : Cond.methodLink own idx k'.1 ∈ x_tbl) (hroom : xRm k k') (h0 : x_k0 k') (hcs : ce ≤ k.2.2.2.2.2.2.1 ∧ sl ≤ k.2.2.2.2.2.2.2) (hrest : (st.map fun v => v.category).sum ≤ 8) (hm : mem[r]? = some (.inr (ci, fs))) (hc : vwCl[ci]? = some (C, T, N)) (hC : Dt G k' [.ref r, a1, a2] mem (some (.long x)) mem2) (kk : E G k R ce sl mem2 (pc + 3) loc (.long x :: st)) : E G k R ce sl mem pc loc (a2 :: a1 :: .ref r :: st) := E_callV (As := [a1, a2]) hd hown hok hinst hsel hlink hroom ⟨by rw [h0.1]; exact hcs.1, by rw [h0.2]; exact hcs.2⟩ hrest hm hc rfl hC (fun v mem' hv => by obtain ⟨rfl, rfl⟩ := hv; rw [h0.1, h0.2]; exact kk)
theorem E_V2v {k' : xI} {idx : Nat} {own : String} {mem2 : xM} {r : Nat} {ci N : Nat} {C : String} {T : u_T} {fs : List Value} {a1 a2 : Value} (hd : decode k.2.1 pc = .ok (.invokevirtual idx, 3)) (hown : k.1.cls = own) (hok : xOk k' 2) (hinst : Cond.instanceMethod k'.1 ∈ x_tbl) (hsel : Cond.selects C k'.1 k'.1 ∈ x_tbl) (hlink : Cond.methodLink own idx k'.1 ∈ x_tbl) (hroom : xRm k k') (h0 : x_k0 k') (hcs : ce ≤ k.2.2.2.2.2.2.1 ∧ sl ≤ k.2.2.2.2.2.2.2) (hrest : (st.map fun v => v.category).sum ≤ 8) (hm : mem[r]? = some (.inr (ci, fs))) (hc : vwCl[ci]? = some (C, T, N)) (hC : Dt G k' [.ref r, a1, a2] mem (none) mem2) (kk : E G k R ce sl mem2 (pc + 3) loc (st)) : E G k R ce sl mem pc loc (a2 :: a1 :: .ref r :: st) := E_callV (As := [a1, a2]) hd hown hok hinst hsel hlink hroom ⟨by rw [h0.1]; exact hcs.1, by rw [h0.2]; exact hcs.2⟩ hrest hm hc rfl hC (fun v mem' hv => by obtain ⟨rfl, rfl⟩ := hv; rw [h0.1, h0.2]; exact kk)
theorem E_V3i {k' : xI} {idx : Nat} {own : String} {mem2 : xM} {r : Nat} {ci N : Nat} {C : String} {T : u_T} {fs : List Value} {a1 a2 a3 : Value} {x : Int32} (hd : decode k.2.1 pc = .ok (.invokevirtual idx, 3)) (hown : k.1.cls = own) (hok : xOk k' 3) (hinst : Cond.instanceMethod k'.1 ∈ x_tbl) (hsel : Cond.selects C k'.1 k'.1 ∈ x_tbl) (hlink : Cond.methodLink own idx k'.1 ∈ x_tbl) (hroom : xRm k k') (h0 : x_k0 k') (hcs : ce ≤ k.2.2.2.2.2.2.1 ∧ sl ≤ k.2.2.2.2.2.2.2) (hrest : (st.map fun v => v.category).sum ≤ 8) (hm : mem[r]? = some (.inr (ci, fs))) (hc : vwCl[ci]? = some (C, T, N)) (hC : Dt G k' [.ref r, a1, a2, a3] mem (some (.int x)) mem2) (kk : E G k R ce sl mem2 (pc + 3) loc (.int x :: st)) : E G k R ce sl mem pc loc (a3 :: a2 :: a1 :: .ref r :: st) := E_callV (As := [a1, a2, a3]) hd hown hok hinst hsel hlink hroom ⟨by rw [h0.1]; exact hcs.1, by rw [h0.2]; exact hcs.2⟩ hrest hm hc rfl hC (fun v mem' hv => by obtain ⟨rfl, rfl⟩ := hv; rw [h0.1, h0.2]; exact kk)
theorem E_V3l {k' : xI} {idx : Nat} {own : String} {mem2 : xM} {r : Nat} {ci N : Nat} {C : String} {T : u_T} {fs : List Value} {a1 a2 a3 : Value} {x : Int64} (hd : decode k.2.1 pc = .ok (.invokevirtual idx, 3)) (hown : k.1.cls = own) (hok : xOk k' 3) (hinst : Cond.instanceMethod k'.1 ∈ x_tbl) (hsel : Cond.selects C k'.1 k'.1 ∈ x_tbl) (hlink : Cond.methodLink own idx k'.1 ∈ x_tbl) (hroom : xRm k k') (h0 : x_k0 k') (hcs : ce ≤ k.2.2.2.2.2.2.1 ∧ sl ≤ k.2.2.2.2.2.2.2) (hrest : (st.map fun v => v.category).sum ≤ 8) (hm : mem[r]? = some (.inr (ci, fs))) (hc : vwCl[ci]? = some (C, T, N)) (hC : Dt G k' [.ref r, a1, a2, a3] mem (some (.long x)) mem2) (kk : E G k R ce sl mem2 (pc + 3) loc (.long x :: st)) : E G k R ce sl mem pc loc (a3 :: a2 :: a1 :: .ref r :: st) := E_callV (As := [a1, a2, a3]) hd hown hok hinst hsel hlink hroom ⟨by rw [h0.1]; exact hcs.1, by rw [h0.2]; exact hcs.2⟩ hrest hm hc rfl hC (fun v mem' hv => by obtain ⟨rfl, rfl⟩ := hv; rw [h0.1, h0.2]; exact kk)
theorem E_V3v {k' : xI} {idx : Nat} {own : String} {mem2 : xM} {r : Nat} {ci N : Nat} {C : String} {T : u_T} {fs : List Value} {a1 a2 a3 : Value} (hd : decode k.2.1 pc = .ok (.invokevirtual idx, 3)) (hown : k.1.cls = own) (hok : xOk k' 3) (hinst : Cond.instanceMethod k'.1 ∈ x_tbl) (hsel : Cond.selects C k'.1 k'.1 ∈ x_tbl) (hlink : Cond.methodLink own idx k'.1 ∈ x_tbl) (hroom : xRm k k') (h0 : x_k0 k') (hcs : ce ≤ k.2.2.2.2.2.2.1 ∧ sl ≤ k.2.2.2.2.2.2.2) (hrest : (st.map fun v => v.category).sum ≤ 8) (hm : mem[r]? = some (.inr (ci, fs))) (hc : vwCl[ci]? = some (C, T, N)) (hC : Dt G k' [.ref r, a1, a2, a3] mem (none) mem2) (kk : E G k R ce sl mem2 (pc + 3) loc (st)) : E G k R ce sl mem pc loc (a3 :: a2 :: a1 :: .ref r :: st) := E_callV (As := [a1, a2, a3]) hd hown hok hinst hsel hlink hroom ⟨by rw [h0.1]; exact hcs.1, by rw [h0.2]; exact hcs.2⟩ hrest hm hc rfl hC (fun v mem' hv => by obtain ⟨rfl, rfl⟩ := hv; rw [h0.1, h0.2]; exact kk)
theorem E_V4i {k' : xI} {idx : Nat} {own : String} {mem2 : xM} {r : Nat} {ci N : Nat} {C : String} {T : u_T} {fs : List Value} {a1 a2 a3 a4 : Value} {x : Int32} (hd : decode k.2.1 pc = .ok (.invokevirtual idx, 3)) (hown : k.1.cls = own) (hok : xOk k' 4) (hinst : Cond.instanceMethod k'.1 ∈ x_tbl) (hsel : Cond.selects C k'.1 k'.1 ∈ x_tbl) (hlink : Cond.methodLink own idx k'.1 ∈ x_tbl) (hroom : xRm k k') (h0 : x_k0 k') (hcs : ce ≤ k.2.2.2.2.2.2.1 ∧ sl ≤ k.2.2.2.2.2.2.2) (hrest : (st.map fun v => v.category).sum ≤ 8) (hm : mem[r]? = some (.inr (ci, fs))) (hc : vwCl[ci]? = some (C, T, N)) (hC : Dt G k' [.ref r, a1, a2, a3, a4] mem (some (.int x)) mem2) (kk : E G k R ce sl mem2 (pc + 3) loc (.int x :: st)) : E G k R ce sl mem pc loc (a4 :: a3 :: a2 :: a1 :: .ref r :: st) := E_callV (As := [a1, a2, a3, a4]) hd hown hok hinst hsel hlink hroom ⟨by rw [h0.1]; exact hcs.1, by rw [h0.2]; exact hcs.2⟩ hrest hm hc rfl hC (fun v mem' hv => by obtain ⟨rfl, rfl⟩ := hv; rw [h0.1, h0.2]; exact kk)
theorem E_V4l {k' : xI} {idx : Nat} {own : String} {mem2 : xM} {r : Nat} {ci N : Nat} {C : String} {T : u_T} {fs : List Value} {a1 a2 a3 a4 : Value} {x : Int64} (hd : decode k.2.1 pc = .ok (.invokevirtual idx, 3)) (hown : k.1.cls = own) (hok : xOk k' 4) (hinst : Cond.instanceMethod k'.1 ∈ x_tbl) (hsel : Cond.selects C k'.1 k'.1 ∈ x_tbl) (hlink : Cond.methodLink own idx k'.1 ∈ x_tbl) (hroom : xRm k k') (h0 : x_k0 k') (hcs : ce ≤ k.2.2.2.2.2.2.1 ∧ sl ≤ k.2.2.2.2.2.2.2) (hrest : (st.map fun v => v.category).sum ≤ 8) (hm : mem[r]? = some (.inr (ci, fs))) (hc : vwCl[ci]? = some (C, T, N)) (hC : Dt G k' [.ref r, a1, a2, a3, a4] mem (some (.long x)) mem2) (kk : E G k R ce sl mem2 (pc + 3) loc (.long x :: st)) : E G k R ce sl mem pc loc (a4 :: a3 :: a2 :: a1 :: .ref r :: st) := E_callV (As := [a1, a2, a3, a4]) hd hown hok hinst hsel hlink hroom ⟨by rw [h0.1]; exact hcs.1, by rw [h0.2]; exact hcs.2⟩ hrest hm hc rfl hC (fun v mem' hv => by obtain ⟨rfl, rfl⟩ := hv; rw [h0.1, h0.2]; exact kk)
theorem E_V4v {k' : xI} {idx : Nat} {own : String} {mem2 : xM} {r : Nat} {ci N : Nat} {C : String} {T : u_T} {fs : List Value} {a1 a2 a3 a4 : Value} (hd : decode k.2.1 pc = .ok (.invokevirtual idx, 3)) (hown : k.1.cls = own) (hok : xOk k' 4) (hinst : Cond.instanceMethod k'.1 ∈ x_tbl) (hsel : Cond.selects C k'.1 k'.1 ∈ x_tbl) (hlink : Cond.methodLink own idx k'.1 ∈ x_tbl) (hroom : xRm k k') (h0 : x_k0 k') (hcs : ce ≤ k.2.2.2.2.2.2.1 ∧ sl ≤ k.2.2.2.2.2.2.2) (hrest : (st.map fun v => v.category).sum ≤ 8) (hm : mem[r]? = some (.inr (ci, fs))) (hc : vwCl[ci]? = some (C, T, N)) (hC : Dt G k' [.ref r, a1, a2, a3, a4] mem (none) mem2) (kk : E G k R ce sl mem2 (pc + 3) loc (st)) : E G k R ce sl mem pc loc (a4 :: a3 :: a2 :: a1 :: .ref r :: st) := E_callV (As := [a1, a2, a3, a4]) hd hown hok hinst hsel hlink hroom ⟨by rw [h0.1]; exact hcs.1, by rw [h0.2]; exact hcs.2⟩ hrest hm hc rfl hC (fun v mem' hv => by obtain ⟨rfl, rfl⟩ := hv; rw [h0.1, h0.2]; exact kk)
theorem E_V5i {k' : xI} {idx : Nat} {own : String} {mem2 : xM} {r : Nat} {ci N : Nat} {C : String} {T : u_T} {fs : List Value} {a1 a2 a3 a4 a5 : Value} {x : Int32} (hd : decode k.2.1 pc = .ok (.invokevirtual idx, 3)) (hown : k.1.cls = own) (hok : xOk k' 5) (hinst : Cond.instanceMethod k'.1 ∈ x_tbl) (hsel : Cond.selects C k'.1 k'.1 ∈ x_tbl) (hlink : Cond.methodLink own idx k'.1 ∈ x_tbl) (hroom : xRm k k') (h0 : x_k0 k') (hcs : ce ≤ k.2.2.2.2.2.2.1 ∧ sl ≤ k.2.2.2.2.2.2.2) (hrest : (st.map fun v => v.category).sum ≤ 8) (hm : mem[r]? = some (.inr (ci, fs))) (hc : vwCl[ci]? = some (C, T, N)) (hC : Dt G k' [.ref r, a1, a2, a3, a4, a5] mem (some (.int x)) mem2) (kk : E G k R ce sl mem2 (pc + 3) loc (.int x :: st)) : E G k R ce sl mem pc loc (a5 :: a4 :: a3 :: a2 :: a1 :: .ref r :: st) := E_callV (As := [a1, a2, a3, a4, a5]) hd hown hok hinst hsel hlink hroom ⟨by rw [h0.1]; exact hcs.1, by rw [h0.2]; exact hcs.2⟩ hrest hm hc rfl hC (fun v mem' hv => by obtain ⟨rfl, rfl⟩ := hv; rw [h0.1, h0.2]; exact kk)
theorem E_V5l {k' : xI} {idx : Nat} {own : String} {mem2 : xM} {r : Nat} {ci N : Nat} {C : String} {T : u_T} {fs : List Value} {a1 a2 a3 a4 a5 : Value} {x : Int64} (hd : decode k.2.1 pc = .ok (.invokevirtual idx, 3)) (hown : k.1.cls = own) (hok : xOk k' 5) (hinst : Cond.instanceMethod k'.1 ∈ x_tbl) (hsel : Cond.selects C k'.1 k'.1 ∈ x_tbl) (hlink : Cond.methodLink own idx k'.1 ∈ x_tbl) (hroom : xRm k k') (h0 : x_k0 k') (hcs : ce ≤ k.2.2.2.2.2.2.1 ∧ sl ≤ k.2.2.2.2.2.2.2) (hrest : (st.map fun v => v.category).sum ≤ 8) (hm : mem[r]? = some (.inr (ci, fs))) (hc : vwCl[ci]? = some (C, T, N)) (hC : Dt G k' [.ref r, a1, a2, a3, a4, a5] mem (some (.long x)) mem2) (kk : E G k R ce sl mem2 (pc + 3) loc (.long x :: st)) : E G k R ce sl mem pc loc (a5 :: a4 :: a3 :: a2 :: a1 :: .ref r :: st) := E_callV (As := [a1, a2, a3, a4, a5]) hd hown hok hinst hsel hlink hroom ⟨by rw [h0.1]; exact hcs.1, by rw [h0.2]; exact hcs.2⟩ hrest hm hc rfl hC (fun v mem' hv => by obtain ⟨rfl, rfl⟩ := hv; rw [h0.1, h0.2]; exact kk)
theorem E_V5v {k' : xI} {idx : Nat} {own : String} {mem2 : xM} {r : Nat} {ci N : Nat} {C : String} {T : u_T} {fs : List Value} {a1 a2 a3 a4 a5 : Value} (hd : decode k.2.1 pc = .ok (.invokevirtual idx, 3)) (hown : k.1.cls = own) (hok : xOk k' 5) (hinst : Cond.instanceMethod k'.1 ∈ x_tbl) (hsel : Cond.selects C k'.1 k'.1 ∈ x_tbl) (hlink : Cond.methodLink own idx k'.1 ∈ x_tbl) (hroom : xRm k k') (h0 : x_k0 k') (hcs : ce ≤ k.2.2.2.2.2.2.1 ∧ sl ≤ k.2.2.2.2.2.2.2) (hrest : (st.map fun v => v.category).sum ≤ 8) (hm : mem[r]? = some (.inr (ci, fs))) (hc : vwCl[ci]? = some (C, T, N)) (hC : Dt G k' [.ref r, a1, a2, a3, a4, a5] mem (none) mem2) (kk : E G k R ce sl mem2 (pc + 3) loc (st)) : E G k R ce sl mem pc loc (a5 :: a4 :: a3 :: a2 :: a1 :: .ref r :: st) := E_callV (As := [a1, a2, a3, a4, a5]) hd hown hok hinst hsel hlink hroom ⟨by rw [h0.1]; exact hcs.1, by rw [h0.2]; exact hcs.2⟩ hrest hm hc rfl hC (fun v mem' hv => by obtain ⟨rfl, rfl⟩ := hv; rw [h0.1, h0.2]; exact kk)
theorem E_S0i {k' : xI} {idx : Nat} {own : String} {mem2 : xM} {x : Int32} (hd : decode k.2.1 pc = .ok (.invokestatic idx, 3)) (hown : k.1.cls = own) (hok : xOk k' 0) (hstat : Cond.static k'.1 ∈ x_tbl) (hlink : Cond.methodLink own idx k'.1 ∈ x_tbl) (hroom : xRm k k') (h0 : x_k0 k') (hcs : ce ≤ k.2.2.2.2.2.2.1 ∧ sl ≤ k.2.2.2.2.2.2.2) (hrest : (st.map fun v => v.category).sum ≤ 8) (hC : Dt G k' [] mem (some (.int x)) mem2) (kk : E G k R ce sl mem2 (pc + 3) loc (.int x :: st)) : E G k R ce sl mem pc loc (st) := E_callS (As := []) hd hown hok hstat hlink hroom ⟨by rw [h0.1]; exact hcs.1, by rw [h0.2]; exact hcs.2⟩ hrest rfl hC (fun v mem' hv => by obtain ⟨rfl, rfl⟩ := hv; rw [h0.1, h0.2]; exact kk)
theorem E_S0l {k' : xI} {idx : Nat} {own : String} {mem2 : xM} {x : Int64} (hd : decode k.2.1 pc = .ok (.invokestatic idx, 3)) (hown : k.1.cls = own) (hok : xOk k' 0) (hstat : Cond.static k'.1 ∈ x_tbl) (hlink : Cond.methodLink own idx k'.1 ∈ x_tbl) (hroom : xRm k k') (h0 : x_k0 k') (hcs : ce ≤ k.2.2.2.2.2.2.1 ∧ sl ≤ k.2.2.2.2.2.2.2) (hrest : (st.map fun v => v.category).sum ≤ 8) (hC : Dt G k' [] mem (some (.long x)) mem2) (kk : E G k R ce sl mem2 (pc + 3) loc (.long x :: st)) : E G k R ce sl mem pc loc (st) := E_callS (As := []) hd hown hok hstat hlink hroom ⟨by rw [h0.1]; exact hcs.1, by rw [h0.2]; exact hcs.2⟩ hrest rfl hC (fun v mem' hv => by obtain ⟨rfl, rfl⟩ := hv; rw [h0.1, h0.2]; exact kk)
theorem E_S0v {k' : xI} {idx : Nat} {own : String} {mem2 : xM} (hd : decode k.2.1 pc = .ok (.invokestatic idx, 3)) (hown : k.1.cls = own) (hok : xOk k' 0) (hstat : Cond.static k'.1 ∈ x_tbl) (hlink : Cond.methodLink own idx k'.1 ∈ x_tbl) (hroom : xRm k k') (h0 : x_k0 k') (hcs : ce ≤ k.2.2.2.2.2.2.1 ∧ sl ≤ k.2.2.2.2.2.2.2) (hrest : (st.map fun v => v.category).sum ≤ 8) (hC : Dt G k' [] mem (none) mem2) (kk : E G k R ce sl mem2 (pc + 3) loc (st)) : E G k R ce sl mem pc loc (st) := E_callS (As := []) hd hown hok hstat hlink hroom ⟨by rw [h0.1]; exact hcs.1, by rw [h0.2]; exact hcs.2⟩ hrest rfl hC (fun v mem' hv => by obtain ⟨rfl, rfl⟩ := hv; rw [h0.1, h0.2]; exact kk)
theorem E_S1i {k' : xI} {idx : Nat} {own : String} {mem2 : xM} {a1 : Value} {x : Int32} (hd : decode k.2.1 pc = .ok (.invokestatic idx, 3)) (hown : k.1.cls = own) (hok : xOk k' 1) (hstat : Cond.static k'.1 ∈ x_tbl) (hlink : Cond.methodLink own idx k'.1 ∈ x_tbl) (hroom : xRm k k') (h0 : x_k0 k') (hcs : ce ≤ k.2.2.2.2.2.2.1 ∧ sl ≤ k.2.2.2.2.2.2.2) (hrest : (st.map fun v => v.category).sum ≤ 8) (hC : Dt G k' [a1] mem (some (.int x)) mem2) (kk : E G k R ce sl mem2 (pc + 3) loc (.int x :: st)) : E G k R ce sl mem pc loc (a1 :: st) := E_callS (As := [a1]) hd hown hok hstat hlink hroom ⟨by rw [h0.1]; exact hcs.1, by rw [h0.2]; exact hcs.2⟩ hrest rfl hC (fun v mem' hv => by obtain ⟨rfl, rfl⟩ := hv; rw [h0.1, h0.2]; exact kk)
theorem E_S1l {k' : xI} {idx : Nat} {own : String} {mem2 : xM} {a1 : Value} {x : Int64} (hd : decode k.2.1 pc = .ok (.invokestatic idx, 3)) (hown : k.1.cls = own) (hok : xOk k' 1) (hstat : Cond.static k'.1 ∈ x_tbl) (hlink : Cond.methodLink own idx k'.1 ∈ x_tbl) (hroom : xRm k k') (h0 : x_k0 k') (hcs : ce ≤ k.2.2.2.2.2.2.1 ∧ sl ≤ k.2.2.2.2.2.2.2) (hrest : (st.map fun v => v.category).sum ≤ 8) (hC : Dt G k' [a1] mem (some (.long x)) mem2) (kk : E G k R ce sl mem2 (pc + 3) loc (.long x :: st)) : E G k R ce sl mem pc loc (a1 :: st) := E_callS (As := [a1]) hd hown hok hstat hlink hroom ⟨by rw [h0.1]; exact hcs.1, by rw [h0.2]; exact hcs.2⟩ hrest rfl hC (fun v mem' hv => by obtain ⟨rfl, rfl⟩ := hv; rw [h0.1, h0.2]; exact kk)
theorem E_S1v {k' : xI} {idx : Nat} {own : String} {mem2 : xM} {a1 : Value} (hd : decode k.2.1 pc = .ok (.invokestatic idx, 3)) (hown : k.1.cls = own) (hok : xOk k' 1) (hstat : Cond.static k'.1 ∈ x_tbl) (hlink : Cond.methodLink own idx k'.1 ∈ x_tbl) (hroom : xRm k k') (h0 : x_k0 k') (hcs : ce ≤ k.2.2.2.2.2.2.1 ∧ sl ≤ k.2.2.2.2.2.2.2) (hrest : (st.map fun v => v.category).sum ≤ 8) (hC : Dt G k' [a1] mem (none) mem2) (kk : E G k R ce sl mem2 (pc + 3) loc (st)) : E G k R ce sl mem pc loc (a1 :: st) := E_callS (As := [a1]) hd hown hok hstat hlink hroom ⟨by rw [h0.1]; exact hcs.1, by rw [h0.2]; exact hcs.2⟩ hrest rfl hC (fun v mem' hv => by obtain ⟨rfl, rfl⟩ := hv; rw [h0.1, h0.2]; exact kk)
theorem E_S2i {k' : xI} {idx : Nat} {own : String} {mem2 : xM} {a1 a2 : Value} {x : Int32} (hd : decode k.2.1 pc = .ok (.invokestatic idx, 3)) (hown : k.1.cls = own) (hok : xOk k' 2) (hstat : Cond.static k'.1 ∈ x_tbl) (hlink : Cond.methodLink own idx k'.1 ∈ x_tbl) (hroom : xRm k k') (h0 : x_k0 k') (hcs : ce ≤ k.2.2.2.2.2.2.1 ∧ sl ≤ k.2.2.2.2.2.2.2) (hrest : (st.map fun v => v.category).sum ≤ 8) (hC : Dt G k' [a1, a2] mem (some (.int x)) mem2) (kk : E G k R ce sl mem2 (pc + 3) loc (.int x :: st)) : E G k R ce sl mem pc loc (a2 :: a1 :: st) := E_callS (As := [a1, a2]) hd hown hok hstat hlink hroom ⟨by rw [h0.1]; exact hcs.1, by rw [h0.2]; exact hcs.2⟩ hrest rfl hC (fun v mem' hv => by obtain ⟨rfl, rfl⟩ := hv; rw [h0.1, h0.2]; exact kk)
theorem E_S2l {k' : xI} {idx : Nat} {own : String} {mem2 : xM} {a1 a2 : Value} {x : Int64} (hd : decode k.2.1 pc = .ok (.invokestatic idx, 3)) (hown : k.1.cls = own) (hok : xOk k' 2) (hstat : Cond.static k'.1 ∈ x_tbl) (hlink : Cond.methodLink own idx k'.1 ∈ x_tbl) (hroom : xRm k k') (h0 : x_k0 k') (hcs : ce ≤ k.2.2.2.2.2.2.1 ∧ sl ≤ k.2.2.2.2.2.2.2) (hrest : (st.map fun v => v.category).sum ≤ 8) (hC : Dt G k' [a1, a2] mem (some (.long x)) mem2) (kk : E G k R ce sl mem2 (pc + 3) loc (.long x :: st)) : E G k R ce sl mem pc loc (a2 :: a1 :: st) := E_callS (As := [a1, a2]) hd hown hok hstat hlink hroom ⟨by rw [h0.1]; exact hcs.1, by rw [h0.2]; exact hcs.2⟩ hrest rfl hC (fun v mem' hv => by obtain ⟨rfl, rfl⟩ := hv; rw [h0.1, h0.2]; exact kk)
theorem E_S2v {k' : xI} {idx : Nat} {own : String} {mem2 : xM} {a1 a2 : Value} (hd : decode k.2.1 pc = .ok (.invokestatic idx, 3)) (hown : k.1.cls = own) (hok : xOk k' 2) (hstat : Cond.static k'.1 ∈ x_tbl) (hlink : Cond.methodLink own idx k'.1 ∈ x_tbl) (hroom : xRm k k') (h0 : x_k0 k') (hcs : ce ≤ k.2.2.2.2.2.2.1 ∧ sl ≤ k.2.2.2.2.2.2.2) (hrest : (st.map fun v => v.category).sum ≤ 8) (hC : Dt G k' [a1, a2] mem (none) mem2) (kk : E G k R ce sl mem2 (pc + 3) loc (st)) : E G k R ce sl mem pc loc (a2 :: a1 :: st) := E_callS (As := [a1, a2]) hd hown hok hstat hlink hroom ⟨by rw [h0.1]; exact hcs.1, by rw [h0.2]; exact hcs.2⟩ hrest rfl hC (fun v mem' hv => by obtain ⟨rfl, rfl⟩ := hv; rw [h0.1, h0.2]; exact kk)
theorem E_S3i {k' : xI} {idx : Nat} {own : String} {mem2 : xM} {a1 a2 a3 : Value} {x : Int32} (hd : decode k.2.1 pc = .ok (.invokestatic idx, 3)) (hown : k.1.cls = own) (hok : xOk k' 3) (hstat : Cond.static k'.1 ∈ x_tbl) (hlink : Cond.methodLink own idx k'.1 ∈ x_tbl) (hroom : xRm k k') (h0 : x_k0 k') (hcs : ce ≤ k.2.2.2.2.2.2.1 ∧ sl ≤ k.2.2.2.2.2.2.2) (hrest : (st.map fun v => v.category).sum ≤ 8) (hC : Dt G k' [a1, a2, a3] mem (some (.int x)) mem2) (kk : E G k R ce sl mem2 (pc + 3) loc (.int x :: st)) : E G k R ce sl mem pc loc (a3 :: a2 :: a1 :: st) := E_callS (As := [a1, a2, a3]) hd hown hok hstat hlink hroom ⟨by rw [h0.1]; exact hcs.1, by rw [h0.2]; exact hcs.2⟩ hrest rfl hC (fun v mem' hv => by obtain ⟨rfl, rfl⟩ := hv; rw [h0.1, h0.2]; exact kk)
theorem E_S3l {k' : xI} {idx : Nat} {own : String} {mem2 : xM} {a1 a2 a3 : Value} {x : Int64} (hd : decode k.2.1 pc = .ok (.invokestatic idx, 3)) (hown : k.1.cls = own) (hok : xOk k' 3) (hstat : Cond.static k'.1 ∈ x_tbl) (hlink : Cond.methodLink own idx k'.1 ∈ x_tbl) (hroom : xRm k k') (h0 : x_k0 k') (hcs : ce ≤ k.2.2.2.2.2.2.1 ∧ sl ≤ k.2.2.2.2.2.2.2) (hrest : (st.map fun v => v.category).sum ≤ 8) (hC : Dt G k' [a1, a2, a3] mem (some (.long x)) mem2) (kk : E G k R ce sl mem2 (pc + 3) loc (.long x :: st)) : E G k R ce sl mem pc loc (a3 :: a2 :: a1 :: st) := E_callS (As := [a1, a2, a3]) hd hown hok hstat hlink hroom ⟨by rw [h0.1]; exact hcs.1, by rw [h0.2]; exact hcs.2⟩ hrest rfl hC (fun v mem' hv => by obtain ⟨rfl, rfl⟩ := hv; rw [h0.1, h0.2]; exact kk)
theorem E_S3v {k' : xI} {idx : Nat} {own : String} {mem2 : xM} {a1 a2 a3 : Value} (hd : decode k.2.1 pc = .ok (.invokestatic idx, 3)) (hown : k.1.cls = own) (hok : xOk k' 3) (hstat : Cond.static k'.1 ∈ x_tbl) (hlink : Cond.methodLink own idx k'.1 ∈ x_tbl) (hroom : xRm k k') (h0 : x_k0 k') (hcs : ce ≤ k.2.2.2.2.2.2.1 ∧ sl ≤ k.2.2.2.2.2.2.2) (hrest : (st.map fun v => v.category).sum ≤ 8) (hC : Dt G k' [a1, a2, a3] mem (none) mem2) (kk : E G k R ce sl mem2 (pc + 3) loc (st)) : E G k R ce sl mem pc loc (a3 :: a2 :: a1 :: st) := E_callS (As := [a1, a2, a3]) hd hown hok hstat hlink hroom ⟨by rw [h0.1]; exact hcs.1, by rw [h0.2]; exact hcs.2⟩ hrest rfl hC (fun v mem' hv => by obtain ⟨rfl, rfl⟩ := hv; rw [h0.1, h0.2]; exact kk)
theorem E_S4i {k' : xI} {idx : Nat} {own : String} {mem2 : xM} {a1 a2 a3 a4 : Value} {x : Int32} (hd : decode k.2.1 pc = .ok (.invokestatic idx, 3)) (hown : k.1.cls = own) (hok : xOk k' 4) (hstat : Cond.static k'.1 ∈ x_tbl) (hlink : Cond.methodLink own idx k'.1 ∈ x_tbl) (hroom : xRm k k') (h0 : x_k0 k') (hcs : ce ≤ k.2.2.2.2.2.2.1 ∧ sl ≤ k.2.2.2.2.2.2.2) (hrest : (st.map fun v => v.category).sum ≤ 8) (hC : Dt G k' [a1, a2, a3, a4] mem (some (.int x)) mem2) (kk : E G k R ce sl mem2 (pc + 3) loc (.int x :: st)) : E G k R ce sl mem pc loc (a4 :: a3 :: a2 :: a1 :: st) := E_callS (As := [a1, a2, a3, a4]) hd hown hok hstat hlink hroom ⟨by rw [h0.1]; exact hcs.1, by rw [h0.2]; exact hcs.2⟩ hrest rfl hC (fun v mem' hv => by obtain ⟨rfl, rfl⟩ := hv; rw [h0.1, h0.2]; exact kk)
theorem E_S4l {k' : xI} {idx : Nat} {own : String} {mem2 : xM} {a1 a2 a3 a4 : Value} {x : Int64} (hd : decode k.2.1 pc = .ok (.invokestatic idx, 3)) (hown : k.1.cls = own) (hok : xOk k' 4) (hstat : Cond.static k'.1 ∈ x_tbl) (hlink : Cond.methodLink own idx k'.1 ∈ x_tbl) (hroom : xRm k k') (h0 : x_k0 k') (hcs : ce ≤ k.2.2.2.2.2.2.1 ∧ sl ≤ k.2.2.2.2.2.2.2) (hrest : (st.map fun v => v.category).sum ≤ 8) (hC : Dt G k' [a1, a2, a3, a4] mem (some (.long x)) mem2) (kk : E G k R ce sl mem2 (pc + 3) loc (.long x :: st)) : E G k R ce sl mem pc loc (a4 :: a3 :: a2 :: a1 :: st) := E_callS (As := [a1, a2, a3, a4]) hd hown hok hstat hlink hroom ⟨by rw [h0.1]; exact hcs.1, by rw [h0.2]; exact hcs.2⟩ hrest rfl hC (fun v mem' hv => by obtain ⟨rfl, rfl⟩ := hv; rw [h0.1, h0.2]; exact kk)
theorem E_S4v {k' : xI} {idx : Nat} {own : String} {mem2 : xM} {a1 a2 a3 a4 : Value} (hd : decode k.2.1 pc = .ok (.invokestatic idx, 3)) (hown : k.1.cls = own) (hok : xOk k' 4) (hstat : Cond.static k'.1 ∈ x_tbl) (hlink : Cond.methodLink own idx k'.1 ∈ x_tbl) (hroom : xRm k k') (h0 : x_k0 k') (hcs : ce ≤ k.2.2.2.2.2.2.1 ∧ sl ≤ k.2.2.2.2.2.2.2) (hrest : (st.map fun v => v.category).sum ≤ 8) (hC : Dt G k' [a1, a2, a3, a4] mem (none) mem2) (kk : E G k R ce sl mem2 (pc + 3) loc (st)) : E G k R ce sl mem pc loc (a4 :: a3 :: a2 :: a1 :: st) := E_callS (As := [a1, a2, a3, a4]) hd hown hok hstat hlink hroom ⟨by rw [h0.1]; exact hcs.1, by rw [h0.2]; exact hcs.2⟩ hrest rfl hC (fun v mem' hv => by obtain ⟨rfl, rfl⟩ := hv; rw [h0.1, h0.2]; exact kk)
theorem E_S5i {k' : xI} {idx : Nat} {own : String} {mem2 : xM} {a1 a2 a3 a4 a5 : Value} {x : Int32} (hd : decode k.2.1 pc = .ok (.invokestatic idx, 3)) (hown : k.1.cls = own) (hok : xOk k' 5) (hstat : Cond.static k'.1 ∈ x_tbl) (hlink : Cond.methodLink own idx k'.1 ∈ x_tbl) (hroom : xRm k k') (h0 : x_k0 k') (hcs : ce ≤ k.2.2.2.2.2.2.1 ∧ sl ≤ k.2.2.2.2.2.2.2) (hrest : (st.map fun v => v.category).sum ≤ 8) (hC : Dt G k' [a1, a2, a3, a4, a5] mem (some (.int x)) mem2) (kk : E G k R ce sl mem2 (pc + 3) loc (.int x :: st)) : E G k R ce sl mem pc loc (a5 :: a4 :: a3 :: a2 :: a1 :: st) := E_callS (As := [a1, a2, a3, a4, a5]) hd hown hok hstat hlink hroom ⟨by rw [h0.1]; exact hcs.1, by rw [h0.2]; exact hcs.2⟩ hrest rfl hC (fun v mem' hv => by obtain ⟨rfl, rfl⟩ := hv; rw [h0.1, h0.2]; exact kk)
theorem E_S5l {k' : xI} {idx : Nat} {own : String} {mem2 : xM} {a1 a2 a3 a4 a5 : Value} {x : Int64} (hd : decode k.2.1 pc = .ok (.invokestatic idx, 3)) (hown : k.1.cls = own) (hok : xOk k' 5) (hstat : Cond.static k'.1 ∈ x_tbl) (hlink : Cond.methodLink own idx k'.1 ∈ x_tbl) (hroom : xRm k k') (h0 : x_k0 k') (hcs : ce ≤ k.2.2.2.2.2.2.1 ∧ sl ≤ k.2.2.2.2.2.2.2) (hrest : (st.map fun v => v.category).sum ≤ 8) (hC : Dt G k' [a1, a2, a3, a4, a5] mem (some (.long x)) mem2) (kk : E G k R ce sl mem2 (pc + 3) loc (.long x :: st)) : E G k R ce sl mem pc loc (a5 :: a4 :: a3 :: a2 :: a1 :: st) := E_callS (As := [a1, a2, a3, a4, a5]) hd hown hok hstat hlink hroom ⟨by rw [h0.1]; exact hcs.1, by rw [h0.2]; exact hcs.2⟩ hrest rfl hC (fun v mem' hv => by obtain ⟨rfl, rfl⟩ := hv; rw [h0.1, h0.2]; exact kk)
theorem E_S5v {k' : xI} {idx : Nat} {own : String} {mem2 : xM} {a1 a2 a3 a4 a5 : Value} (hd : decode k.2.1 pc = .ok (.invokestatic idx, 3)) (hown : k.1.cls = own) (hok : xOk k' 5) (hstat : Cond.static k'.1 ∈ x_tbl) (hlink : Cond.methodLink own idx k'.1 ∈ x_tbl) (hroom : xRm k k') (h0 : x_k0 k') (hcs : ce ≤ k.2.2.2.2.2.2.1 ∧ sl ≤ k.2.2.2.2.2.2.2) (hrest : (st.map fun v => v.category).sum ≤ 8) (hC : Dt G k' [a1, a2, a3, a4, a5] mem (none) mem2) (kk : E G k R ce sl mem2 (pc + 3) loc (st)) : E G k R ce sl mem pc loc (a5 :: a4 :: a3 :: a2 :: a1 :: st) := E_callS (As := [a1, a2, a3, a4, a5]) hd hown hok hstat hlink hroom ⟨by rw [h0.1]; exact hcs.1, by rw [h0.2]; exact hcs.2⟩ hrest rfl hC (fun v mem' hv => by obtain ⟨rfl, rfl⟩ := hv; rw [h0.1, h0.2]; exact kk)
theorem E_I0v {k' : xI} {idx : Nat} {own : String} {mem2 : xM} {r : Nat} (hd : decode k.2.1 pc = .ok (.invokespecial idx, 3)) (hown : k.1.cls = own) (hok : xOk k' 0) (hret : k'.2.2.2.1 = none) (hname : k'.1.name = "<init>") (hinst : Cond.instanceMethod k'.1 ∈ x_tbl) (hlink : Cond.methodLink own idx k'.1 ∈ x_tbl) (hroom : xRm k k') (hcs : ce + k'.2.2.2.2.2.2.1 ≤ k.2.2.2.2.2.2.1 ∧ sl + k'.2.2.2.2.2.2.2 ≤ k.2.2.2.2.2.2.2) (hrest : (st.map fun v => v.category).sum ≤ 8) (hC : Dt G k' [.ref r] mem (none) mem2) (kk : E G k R (ce + k'.2.2.2.2.2.2.1) (sl + k'.2.2.2.2.2.2.2) mem2 (pc + 3) loc (st)) : E G k R ce sl mem pc loc (.ref r :: st) := E_callI (As := []) hd hown hok hret hname hinst hlink hroom hcs hrest rfl hC (fun v mem' hv => by obtain ⟨rfl, rfl⟩ := hv; exact kk)
theorem E_SN0i {k' : xI} {idx : Nat} {own host : String} {mem2 : xM} {x : Int32} (hd : decode k.2.1 pc = .ok (.invokestatic idx, 3)) (hown : k.1.cls = own) (hok : xOk k' 0) (hstat : Cond.static k'.1 ∈ x_tbl) (hlink : Cond.methodLinkNest own idx k'.1 host ∈ x_nests) (hroom : xRm k k') (h0 : x_k0 k') (hcs : ce ≤ k.2.2.2.2.2.2.1 ∧ sl ≤ k.2.2.2.2.2.2.2) (hrest : (st.map fun v => v.category).sum ≤ 8) (hC : Dt G k' [] mem (some (.int x)) mem2) (kk : E G k R ce sl mem2 (pc + 3) loc (.int x :: st)) : E G k R ce sl mem pc loc (st) := E_callSN (As := []) hd hown hok hstat hlink hroom ⟨by rw [h0.1]; exact hcs.1, by rw [h0.2]; exact hcs.2⟩ hrest rfl hC (fun v mem' hv => by obtain ⟨rfl, rfl⟩ := hv; rw [h0.1, h0.2]; exact kk)
theorem E_SN1i {k' : xI} {idx : Nat} {own host : String} {mem2 : xM} {a1 : Value} {x : Int32} (hd : decode k.2.1 pc = .ok (.invokestatic idx, 3)) (hown : k.1.cls = own) (hok : xOk k' 1) (hstat : Cond.static k'.1 ∈ x_tbl) (hlink : Cond.methodLinkNest own idx k'.1 host ∈ x_nests) (hroom : xRm k k') (h0 : x_k0 k') (hcs : ce ≤ k.2.2.2.2.2.2.1 ∧ sl ≤ k.2.2.2.2.2.2.2) (hrest : (st.map fun v => v.category).sum ≤ 8) (hC : Dt G k' [a1] mem (some (.int x)) mem2) (kk : E G k R ce sl mem2 (pc + 3) loc (.int x :: st)) : E G k R ce sl mem pc loc (a1 :: st) := E_callSN (As := [a1]) hd hown hok hstat hlink hroom ⟨by rw [h0.1]; exact hcs.1, by rw [h0.2]; exact hcs.2⟩ hrest rfl hC (fun v mem' hv => by obtain ⟨rfl, rfl⟩ := hv; rw [h0.1, h0.2]; exact kk)
theorem E_SN2i {k' : xI} {idx : Nat} {own host : String} {mem2 : xM} {a1 a2 : Value} {x : Int32} (hd : decode k.2.1 pc = .ok (.invokestatic idx, 3)) (hown : k.1.cls = own) (hok : xOk k' 2) (hstat : Cond.static k'.1 ∈ x_tbl) (hlink : Cond.methodLinkNest own idx k'.1 host ∈ x_nests) (hroom : xRm k k') (h0 : x_k0 k') (hcs : ce ≤ k.2.2.2.2.2.2.1 ∧ sl ≤ k.2.2.2.2.2.2.2) (hrest : (st.map fun v => v.category).sum ≤ 8) (hC : Dt G k' [a1, a2] mem (some (.int x)) mem2) (kk : E G k R ce sl mem2 (pc + 3) loc (.int x :: st)) : E G k R ce sl mem pc loc (a2 :: a1 :: st) := E_callSN (As := [a1, a2]) hd hown hok hstat hlink hroom ⟨by rw [h0.1]; exact hcs.1, by rw [h0.2]; exact hcs.2⟩ hrest rfl hC (fun v mem' hv => by obtain ⟨rfl, rfl⟩ := hv; rw [h0.1, h0.2]; exact kk)
theorem E_SN3i {k' : xI} {idx : Nat} {own host : String} {mem2 : xM} {a1 a2 a3 : Value} {x : Int32} (hd : decode k.2.1 pc = .ok (.invokestatic idx, 3)) (hown : k.1.cls = own) (hok : xOk k' 3) (hstat : Cond.static k'.1 ∈ x_tbl) (hlink : Cond.methodLinkNest own idx k'.1 host ∈ x_nests) (hroom : xRm k k') (h0 : x_k0 k') (hcs : ce ≤ k.2.2.2.2.2.2.1 ∧ sl ≤ k.2.2.2.2.2.2.2) (hrest : (st.map fun v => v.category).sum ≤ 8) (hC : Dt G k' [a1, a2, a3] mem (some (.int x)) mem2) (kk : E G k R ce sl mem2 (pc + 3) loc (.int x :: st)) : E G k R ce sl mem pc loc (a3 :: a2 :: a1 :: st) := E_callSN (As := [a1, a2, a3]) hd hown hok hstat hlink hroom ⟨by rw [h0.1]; exact hcs.1, by rw [h0.2]; exact hcs.2⟩ hrest rfl hC (fun v mem' hv => by obtain ⟨rfl, rfl⟩ := hv; rw [h0.1, h0.2]; exact kk)
theorem E_SN4i {k' : xI} {idx : Nat} {own host : String} {mem2 : xM} {a1 a2 a3 a4 : Value} {x : Int32} (hd : decode k.2.1 pc = .ok (.invokestatic idx, 3)) (hown : k.1.cls = own) (hok : xOk k' 4) (hstat : Cond.static k'.1 ∈ x_tbl) (hlink : Cond.methodLinkNest own idx k'.1 host ∈ x_nests) (hroom : xRm k k') (h0 : x_k0 k') (hcs : ce ≤ k.2.2.2.2.2.2.1 ∧ sl ≤ k.2.2.2.2.2.2.2) (hrest : (st.map fun v => v.category).sum ≤ 8) (hC : Dt G k' [a1, a2, a3, a4] mem (some (.int x)) mem2) (kk : E G k R ce sl mem2 (pc + 3) loc (.int x :: st)) : E G k R ce sl mem pc loc (a4 :: a3 :: a2 :: a1 :: st) := E_callSN (As := [a1, a2, a3, a4]) hd hown hok hstat hlink hroom ⟨by rw [h0.1]; exact hcs.1, by rw [h0.2]; exact hcs.2⟩ hrest rfl hC (fun v mem' hv => by obtain ⟨rfl, rfl⟩ := hv; rw [h0.1, h0.2]; exact kk)
theorem E_SN5i {k' : xI} {idx : Nat} {own host : String} {mem2 : xM} {a1 a2 a3 a4 a5 : Value} {x : Int32} (hd : decode k.2.1 pc = .ok (.invokestatic idx, 3)) (hown : k.1.cls = own) (hok : xOk k' 5) (hstat : Cond.static k'.1 ∈ x_tbl) (hlink : Cond.methodLinkNest own idx k'.1 host ∈ x_nests) (hroom : xRm k k') (h0 : x_k0 k') (hcs : ce ≤ k.2.2.2.2.2.2.1 ∧ sl ≤ k.2.2.2.2.2.2.2) (hrest : (st.map fun v => v.category).sum ≤ 8) (hC : Dt G k' [a1, a2, a3, a4, a5] mem (some (.int x)) mem2) (kk : E G k R ce sl mem2 (pc + 3) loc (.int x :: st)) : E G k R ce sl mem pc loc (a5 :: a4 :: a3 :: a2 :: a1 :: st) := E_callSN (As := [a1, a2, a3, a4, a5]) hd hown hok hstat hlink hroom ⟨by rw [h0.1]; exact hcs.1, by rw [h0.2]; exact hcs.2⟩ hrest rfl hC (fun v mem' hv => by obtain ⟨rfl, rfl⟩ := hv; rw [h0.1, h0.2]; exact kk)
theorem E_IN0v {k' : xI} {idx : Nat} {own host : String} {mem2 : xM} {r : Nat} (hd : decode k.2.1 pc = .ok (.invokespecial idx, 3)) (hown : k.1.cls = own) (hok : xOk k' 0) (hret : k'.2.2.2.1 = none) (hname : k'.1.name = "<init>") (hinst : Cond.instanceMethod k'.1 ∈ x_tbl) (hlink : Cond.methodLinkNest own idx k'.1 host ∈ x_nests) (hroom : xRm k k') (hcs : ce + k'.2.2.2.2.2.2.1 ≤ k.2.2.2.2.2.2.1 ∧ sl + k'.2.2.2.2.2.2.2 ≤ k.2.2.2.2.2.2.2) (hrest : (st.map fun v => v.category).sum ≤ 8) (hC : Dt G k' [.ref r] mem (none) mem2) (kk : E G k R (ce + k'.2.2.2.2.2.2.1) (sl + k'.2.2.2.2.2.2.2) mem2 (pc + 3) loc (st)) : E G k R ce sl mem pc loc (.ref r :: st) := E_callIN (As := []) hd hown hok hret hname hinst hlink hroom hcs hrest rfl hC (fun v mem' hv => by obtain ⟨rfl, rfl⟩ := hv; exact kk)
end X
end
section
/-! written by links.py out of the tables and the decode rows: numbers, facts, rows of fields and calls -/
theorem xin_X0 : ∀ w ∈ wsX00, w ∈ x_tbl := x_in [86, 88, 90, 92, 94, 96, 98, 100, 102, 104, 106, 108, 110] (by decide +kernel) (by decide +kernel)
theorem xin_X1 : ∀ w ∈ wsX10, w ∈ x_tbl := x_in [126, 128] (by decide +kernel) (by decide +kernel)
theorem xin_X2 : ∀ w ∈ wsX20, w ∈ x_tbl := x_in [140, 142] (by decide +kernel) (by decide +kernel)
theorem xin_X3 : ∀ w ∈ wsX30, w ∈ x_tbl := x_in [153, 155, 157, 159, 161, 163, 165] (by decide +kernel) (by decide +kernel)
theorem xin_X4 : ∀ w ∈ wsX40, w ∈ x_tbl := x_in [540, 542, 544, 546, 548, 550, 552, 554, 556, 558, 560, 562, 564] (by decide +kernel) (by decide +kernel)
def kX3_init : xI := (yX3_init, cX3_init, 1, none, 3, 58, 85, 1590)
def kX0_init : xI := (yX0_init, cX0_init, 2, none, 1, 16, 8, 156)
def kX1_init : xI := (yX1_init, cX1_init, 2, none, 2, 37, 46, 850)
def kX2_init : xI := (yX2_init, cX2_init, 1, none, 1, 16, 1, 60)
def kX3_setTop : xI := (yX3_setTop, cX3_setTop, 2, (some .int), 4, 82, 0, 0)
def kX0_copyFrom : xI := (yX0_copyFrom, cX0_copyFrom, 2, none, 1, 18, 0, 0)
def kX0_changeTop : xI := (yX0_changeTop, cX0_changeTop, 3, (some .int), 1, 23, 0, 0)
def kX0_isUpperEnd : xI := (yX0_isUpperEnd, cX0_isUpperEnd, 2, (some .boolean), 0, 0, 0, 0)
def kX0_climbersOn : xI := (yX0_climbersOn, cX0_climbersOn, 4, (some .int), 0, 0, 0, 0)
def kX3_recordUnlessError : xI := (yX3_recordUnlessError, cX3_recordUnlessError, 2, (some .int), 3, 61, 0, 0)
def kX1_keep : xI := (yX1_keep, cX1_keep, 3, none, 2, 39, 0, 0)
def kX1_makeOldestLast : xI := (yX1_makeOldestLast, cX1_makeOldestLast, 3, none, 0, 0, 0, 0)
def kX3_lay : xI := (yX3_lay, cX3_lay, 3, (some .int), 4, 82, 0, 0)
def kX0_layCarpet : xI := (yX0_layCarpet, cX0_layCarpet, 3, (some .int), 2, 43, 0, 0)
def kX0_isBelowTop : xI := (yX0_isBelowTop, cX0_isBelowTop, 2, (some .boolean), 0, 0, 0, 0)
def kX0_lowerEndsAt : xI := (yX0_lowerEndsAt, cX0_lowerEndsAt, 4, (some .int), 0, 0, 0, 0)
def kX0_countCarpets : xI := (yX0_countCarpets, cX0_countCarpets, 3, (some .int), 1, 21, 0, 0)
def kX3_take : xI := (yX3_take, cX3_take, 2, (some .int), 4, 82, 0, 0)
def kX0_takeCarpet : xI := (yX0_takeCarpet, cX0_takeCarpet, 3, (some .int), 1, 21, 0, 0)
def kX3_put : xI := (yX3_put, cX3_put, 2, (some .int), 4, 82, 0, 0)
def kX0_putLanding : xI := (yX0_putLanding, cX0_putLanding, 2, (some .int), 2, 43, 0, 0)
def kX0_countLandings : xI := (yX0_countLandings, cX0_countLandings, 3, (some .int), 1, 21, 0, 0)
def kX0_isLanding : xI := (yX0_isLanding, cX0_isLanding, 2, (some .boolean), 0, 0, 0, 0)
def kX3_remove : xI := (yX3_remove, cX3_remove, 2, (some .int), 4, 82, 0, 0)
def kX0_removeLanding : xI := (yX0_removeLanding, cX0_removeLanding, 2, (some .int), 1, 23, 0, 0)
def kJ6_bitCount_0f7a4 : xI := (yJ6_bitCount_0f7a4, cJ6_bitCount_0f7a4, 1, (some .int), 0, 0, 0, 0)
def kX3_join : xI := (yX3_join, cX3_join, 1, (some .int), 4, 82, 0, 0)
def kX0_addClimber : xI := (yX0_addClimber, cX0_addClimber, 1, (some .int), 0, 0, 0, 0)
def kX3_roll : xI := (yX3_roll, cX3_roll, 2, (some .int), 4, 90, 0, 0)
def kX0_makeRoll : xI := (yX0_makeRoll, cX0_makeRoll, 4, (some .int), 3, 67, 0, 0)
def kX3_isRoll : xI := (yX3_isRoll, cX3_isRoll, 1, (some .boolean), 0, 0, 0, 0)
def kX0_hasMover : xI := (yX0_hasMover, cX0_hasMover, 1, (some .boolean), 1, 21, 0, 0)
def kX0_isClimber : xI := (yX0_isClimber, cX0_isClimber, 2, (some .boolean), 0, 0, 0, 0)
def kX0_liftThosePassed : xI := (yX0_liftThosePassed, cX0_liftThosePassed, 3, none, 2, 45, 0, 0)
def kX0_isPassed : xI := (yX0_isPassed, cX0_isPassed, 5, (some .boolean), 1, 21, 0, 0)
def kX0_comeTo : xI := (yX0_comeTo, cX0_comeTo, 3, none, 1, 21, 0, 0)
def kX0_goToNextMover : xI := (yX0_goToNextMover, cX0_goToNextMover, 3, none, 2, 42, 0, 0)
def kX0_behind : xI := (yX0_behind, cX0_behind, 2, (some .int), 1, 21, 0, 0)
def kX3_pass : xI := (yX3_pass, cX3_pass, 1, (some .int), 4, 84, 0, 0)
def kX0_makePass : xI := (yX0_makePass, cX0_makePass, 1, (some .int), 3, 64, 0, 0)
def kX3_climber : xI := (yX3_climber, cX3_climber, 3, (some .int), 3, 64, 0, 0)
def kX0_partOfClimber : xI := (yX0_partOfClimber, cX0_partOfClimber, 3, (some .int), 2, 42, 0, 0)
def kX0_progressOf : xI := (yX0_progressOf, cX0_progressOf, 2, (some .int), 1, 21, 0, 0)
def kX3_turn : xI := (yX3_turn, cX3_turn, 1, (some .int), 2, 41, 0, 0)
def kX3_on : xI := (yX3_on, cX3_on, 2, (some .int), 1, 23, 0, 0)
def kX3_step : xI := (yX3_step, cX3_step, 3, (some .int), 2, 45, 0, 0)
def kX0_partOfStep : xI := (yX0_partOfStep, cX0_partOfStep, 3, (some .int), 1, 23, 0, 0)
def kX3_total : xI := (yX3_total, cX3_total, 2, (some .int), 3, 66, 0, 0)
def kX0_totalOf : xI := (yX0_totalOf, cX0_totalOf, 2, (some .int), 2, 45, 0, 0)
def kX0_liftsOfAll : xI := (yX0_liftsOfAll, cX0_liftsOfAll, 1, (some .int), 1, 25, 0, 0)
def kX0_sumOf : xI := (yX0_sumOf, cX0_sumOf, 6, (some .int), 0, 0, 0, 0)
def kX0_slipsOfAll : xI := (yX0_slipsOfAll, cX0_slipsOfAll, 1, (some .int), 1, 25, 0, 0)
def kX0_topsOfAll : xI := (yX0_topsOfAll, cX0_topsOfAll, 1, (some .int), 1, 25, 0, 0)
def kX3_rank : xI := (yX3_rank, cX3_rank, 2, (some .int), 4, 89, 0, 0)
def kX0_climberAtPlace : xI := (yX0_climberAtPlace, cX0_climberAtPlace, 3, (some .int), 3, 67, 0, 0)
def kX0_climbersAheadOf : xI := (yX0_climbersAheadOf, cX0_climbersAheadOf, 6, (some .int), 2, 42, 0, 0)
def kX3_ifRolled : xI := (yX3_ifRolled, cX3_ifRolled, 4, (some .int), 5, 111, 0, 0)
def kX3_rollInTrial : xI := (yX3_rollInTrial, cX3_rollInTrial, 2, (some .int), 4, 90, 0, 0)
def kX3_bestRoll : xI := (yX3_bestRoll, cX3_bestRoll, 5, (some .int), 6, 135, 0, 0)
def kX3_gainOfRoll : xI := (yX3_gainOfRoll, cX3_gainOfRoll, 5, (some .int), 5, 111, 0, 0)
def kX3_quietRolls : xI := (yX3_quietRolls, cX3_quietRolls, 3, (some .int), 3, 67, 0, 0)
def kX0_wouldLift : xI := (yX0_wouldLift, cX0_wouldLift, 3, (some .boolean), 2, 45, 0, 0)
def kX3_rollsToTop : xI := (yX3_rollsToTop, cX3_rollsToTop, 2, (some .int), 4, 94, 0, 0)
def kX0_fewestRollsOf : xI := (yX0_fewestRollsOf, cX0_fewestRollsOf, 5, (some .int), 3, 70, 0, 0)
def kX0_reachedWithOneMore : xI := (yX0_reachedWithOneMore, cX0_reachedWithOneMore, 6, (some .long), 2, 45, 0, 0)
def kX0_reachedFrom : xI := (yX0_reachedFrom, cX0_reachedFrom, 5, (some .long), 1, 21, 0, 0)
def kX3_append : xI := (yX3_append, cX3_append, 2, (some .int), 1, 21, 0, 0)
def kX2_addSign : xI := (yX2_addSign, cX2_addSign, 2, (some .int), 0, 0, 0, 0)
def kX3_clearText : xI := (yX3_clearText, cX3_clearText, 1, (some .int), 1, 21, 0, 0)
def kX2_dropAll : xI := (yX2_dropAll, cX2_dropAll, 2, (some .int), 0, 0, 0, 0)
def kX3_errorPosition : xI := (yX3_errorPosition, cX3_errorPosition, 1, (some .int), 4, 85, 0, 0)
def kX2_firstError : xI := (yX2_firstError, cX2_firstError, 3, (some .int), 3, 63, 0, 0)
def kX2_wantedBehind : xI := (yX2_wantedBehind, cX2_wantedBehind, 2, (some .int), 2, 42, 0, 0)
def kX2_wantedBehindMoveStart : xI := (yX2_wantedBehindMoveStart, cX2_wantedBehindMoveStart, 1, (some .int), 1, 20, 0, 0)
def kX2_wantedBehindComma : xI := (yX2_wantedBehindComma, cX2_wantedBehindComma, 1, (some .int), 0, 0, 0, 0)
def kX2_wantedBehindNumberStart : xI := (yX2_wantedBehindNumberStart, cX2_wantedBehindNumberStart, 3, (some .int), 1, 20, 0, 0)
def kX2_isDigit : xI := (yX2_isDigit, cX2_isDigit, 1, (some .boolean), 0, 0, 0, 0)
def kX2_wantedBehindArrow : xI := (yX2_wantedBehindArrow, cX2_wantedBehindArrow, 1, (some .int), 0, 0, 0, 0)
def kX3_play : xI := (yX3_play, cX3_play, 2, (some .int), 6, 134, 0, 0)
def kX3_makeMovesOfText : xI := (yX3_makeMovesOfText, cX3_makeMovesOfText, 3, (some .int), 5, 112, 0, 0)
def kX2_isMoveStart : xI := (yX2_isMoveStart, cX2_isMoveStart, 2, (some .boolean), 1, 21, 0, 0)
def kX2_signAt : xI := (yX2_signAt, cX2_signAt, 2, (some .char), 0, 0, 0, 0)
def kX3_makeMoveAt : xI := (yX3_makeMoveAt, cX3_makeMoveAt, 3, (some .int), 4, 90, 0, 0)
def kX2_numberAt : xI := (yX2_numberAt, cX2_numberAt, 4, (some .int), 1, 21, 0, 0)
def kX2_behindArrow : xI := (yX2_behindArrow, cX2_behindArrow, 3, (some .int), 1, 21, 0, 0)
def kX3_undo : xI := (yX3_undo, cX3_undo, 1, (some .int), 3, 60, 0, 0)
def kX1_isEmpty : xI := (yX1_isEmpty, cX1_isEmpty, 1, (some .boolean), 0, 0, 0, 0)
def kX1_moveLatestTo : xI := (yX1_moveLatestTo, cX1_moveLatestTo, 2, (some .int), 2, 39, 0, 0)
def kX3_save : xI := (yX3_save, cX3_save, 1, (some .int), 2, 39, 0, 0)
def kX3_restore : xI := (yX3_restore, cX3_restore, 1, (some .int), 4, 82, 0, 0)
def kX4_init : xI := (yX4_init, cX4_init, 1, none, 1, 16, 7, 1158)
def kX4_undo : xI := (yX4_undo, cX4_undo, 2, (some .int), 0, 0, 0, 0)
def kX4_save : xI := (yX4_save, cX4_save, 2, (some .int), 0, 0, 0, 0)
def kX4_restore : xI := (yX4_restore, cX4_restore, 2, (some .int), 1, 21, 0, 0)
def kX4_record : xI := (yX4_record, cX4_record, 2, none, 0, 0, 0, 0)
def kX4_setTop : xI := (yX4_setTop, cX4_setTop, 3, (some .int), 2, 45, 0, 0)
def kX4_in : xI := (yX4_in, cX4_in, 3, (some .boolean), 0, 0, 0, 0)
def kX4_climbersOn : xI := (yX4_climbersOn, cX4_climbersOn, 4, (some .int), 1, 22, 0, 0)
def kX4_of : xI := (yX4_of, cX4_of, 3, (some .int), 0, 0, 0, 0)
def kX4_isLanding : xI := (yX4_isLanding, cX4_isLanding, 2, (some .boolean), 0, 0, 0, 0)
def kX4_carpetFrom : xI := (yX4_carpetFrom, cX4_carpetFrom, 4, (some .int), 1, 21, 0, 0)
def kX4_upper : xI := (yX4_upper, cX4_upper, 2, (some .int), 0, 0, 0, 0)
def kX4_lay : xI := (yX4_lay, cX4_lay, 4, (some .int), 3, 67, 0, 0)
def kX4_whyNotLay : xI := (yX4_whyNotLay, cX4_whyNotLay, 3, (some .int), 2, 45, 0, 0)
def kX4_isStep : xI := (yX4_isStep, cX4_isStep, 2, (some .boolean), 1, 22, 0, 0)
def kX4_carpetsTo : xI := (yX4_carpetsTo, cX4_carpetsTo, 4, (some .int), 1, 21, 0, 0)
def kX4_lower : xI := (yX4_lower, cX4_lower, 2, (some .int), 0, 0, 0, 0)
def kX4_laysCarpet : xI := (yX4_laysCarpet, cX4_laysCarpet, 3, (some .int), 0, 0, 0, 0)
def kX4_take : xI := (yX4_take, cX4_take, 4, (some .int), 2, 44, 0, 0)
def kX4_put : xI := (yX4_put, cX4_put, 3, (some .int), 3, 65, 0, 0)
def kX4_whyNotPut : xI := (yX4_whyNotPut, cX4_whyNotPut, 2, (some .int), 2, 44, 0, 0)
def kX4_puts : xI := (yX4_puts, cX4_puts, 2, (some .int), 1, 22, 0, 0)
def kX4_landings : xI := (yX4_landings, cX4_landings, 3, (some .int), 0, 0, 0, 0)
def kX4_remove : xI := (yX4_remove, cX4_remove, 2, (some .int), 2, 45, 0, 0)
def kX4_bits : xI := (yX4_bits, cX4_bits, 3, (some .int), 0, 0, 0, 0)
def kX4_join : xI := (yX4_join, cX4_join, 1, (some .int), 2, 44, 0, 0)
def kX4_joins : xI := (yX4_joins, cX4_joins, 2, (some .int), 1, 23, 0, 0)
def kX4_lays : xI := (yX4_lays, cX4_lays, 4, none, 0, 0, 0, 0)
def kX4_roll : xI := (yX4_roll, cX4_roll, 3, (some .int), 4, 93, 0, 0)
def kX4_whyNotRoll : xI := (yX4_whyNotRoll, cX4_whyNotRoll, 2, (some .int), 1, 22, 0, 0)
def kX4_rolls : xI := (yX4_rolls, cX4_rolls, 6, (some .int), 3, 68, 0, 0)
def kX4_passedBy : xI := (yX4_passedBy, cX4_passedBy, 4, (some .int), 2, 45, 0, 0)
def kX4_isPassed : xI := (yX4_isPassed, cX4_isPassed, 4, (some .boolean), 1, 22, 0, 0)
def kX4_highest : xI := (yX4_highest, cX4_highest, 4, (some .int), 1, 22, 0, 0)
def kX4_comes : xI := (yX4_comes, cX4_comes, 4, none, 2, 44, 0, 0)
def kX4_nextMover : xI := (yX4_nextMover, cX4_nextMover, 2, none, 1, 23, 0, 0)
def kX4_pass : xI := (yX4_pass, cX4_pass, 1, (some .int), 2, 44, 0, 0)
def kX4_climber : xI := (yX4_climber, cX4_climber, 3, (some .int), 2, 43, 0, 0)
def kX4_isClimber : xI := (yX4_isClimber, cX4_isClimber, 2, (some .boolean), 1, 22, 0, 0)
def kX4_progress : xI := (yX4_progress, cX4_progress, 2, (some .int), 1, 22, 0, 0)
def kX4_turn : xI := (yX4_turn, cX4_turn, 1, (some .int), 0, 0, 0, 0)
def kX4_on : xI := (yX4_on, cX4_on, 2, (some .int), 2, 45, 0, 0)
def kX4_step : xI := (yX4_step, cX4_step, 4, (some .int), 2, 44, 0, 0)
def kX4_total : xI := (yX4_total, cX4_total, 2, (some .int), 2, 44, 0, 0)
def kX4_allTops : xI := (yX4_allTops, cX4_allTops, 3, (some .int), 1, 22, 0, 0)
def kX4_rank : xI := (yX4_rank, cX4_rank, 4, (some .int), 3, 66, 0, 0)
def kX4_ahead : xI := (yX4_ahead, cX4_ahead, 4, (some .int), 2, 43, 0, 0)
def kX4_ifRolled : xI := (yX4_ifRolled, cX4_ifRolled, 5, (some .int), 4, 93, 0, 0)
def kX4_putAside : xI := (yX4_putAside, cX4_putAside, 2, none, 0, 0, 0, 0)
def kX4_takeBack : xI := (yX4_takeBack, cX4_takeBack, 2, none, 0, 0, 0, 0)
def kX4_bestRoll : xI := (yX4_bestRoll, cX4_bestRoll, 7, (some .int), 4, 93, 0, 0)
def kX4_worth : xI := (yX4_worth, cX4_worth, 4, (some .int), 2, 43, 0, 0)
def kX4_quietRolls : xI := (yX4_quietRolls, cX4_quietRolls, 3, (some .int), 3, 68, 0, 0)
def kX4_rollsToTop : xI := (yX4_rollsToTop, cX4_rollsToTop, 7, (some .int), 2, 44, 0, 0)
def kX4_append : xI := (yX4_append, cX4_append, 2, (some .int), 1, 22, 0, 0)
def kX4_clearText : xI := (yX4_clearText, cX4_clearText, 2, (some .int), 0, 0, 0, 0)
def kX4_errorPosition : xI := (yX4_errorPosition, cX4_errorPosition, 2, (some .int), 3, 66, 0, 0)
def kX4_readMove : xI := (yX4_readMove, cX4_readMove, 3, none, 2, 44, 0, 0)
def kX4_letter : xI := (yX4_letter, cX4_letter, 1, (some .int), 0, 0, 0, 0)
def kX4_wants : xI := (yX4_wants, cX4_wants, 2, none, 0, 0, 0, 0)
def kX4_number : xI := (yX4_number, cX4_number, 3, (some .int), 1, 22, 0, 0)
def kX4_play : xI := (yX4_play, cX4_play, 2, (some .int), 5, 117, 0, 0)
def kX4_makeOne : xI := (yX4_makeOne, cX4_makeOne, 5, (some .int), 4, 93, 0, 0)
def kL_law : xI := (yL_law, cL_law, 4, (some .boolean), 9, 318, 600000, 7302250)
theorem wcX3_init : Cond.code yX3_init cX3_init 1 none ∈ x_tbl := x_w 61 (by decide +kernel) (by decide +kernel)
theorem wn_RX3 : Cond.initialized RX3 ∈ x_tbl := x_w 50 (by decide +kernel) (by decide +kernel)
theorem okX3_init : xOk kX3_init 0 := ⟨by decide +kernel, by decide +kernel, wcX3_init, wn_RX3⟩
theorem wiX3_init : Cond.instanceMethod yX3_init ∈ x_tbl := x_w 60 (by decide +kernel) (by decide +kernel)
theorem wcX0_init : Cond.code yX0_init cX0_init 2 none ∈ x_tbl := x_w 69 (by decide +kernel) (by decide +kernel)
theorem wn_RX0 : Cond.initialized RX0 ∈ x_tbl := x_w 51 (by decide +kernel) (by decide +kernel)
theorem okX0_init : xOk kX0_init 0 := ⟨by decide +kernel, by decide +kernel, wcX0_init, wn_RX0⟩
theorem wiX0_init : Cond.instanceMethod yX0_init ∈ x_tbl := x_w 68 (by decide +kernel) (by decide +kernel)
theorem wcX1_init : Cond.code yX1_init cX1_init 2 none ∈ x_tbl := x_w 119 (by decide +kernel) (by decide +kernel)
theorem wn_RX1 : Cond.initialized RX1 ∈ x_tbl := x_w 52 (by decide +kernel) (by decide +kernel)
theorem okX1_init : xOk kX1_init 0 := ⟨by decide +kernel, by decide +kernel, wcX1_init, wn_RX1⟩
theorem wiX1_init : Cond.instanceMethod yX1_init ∈ x_tbl := x_w 118 (by decide +kernel) (by decide +kernel)
theorem wcX2_init : Cond.code yX2_init cX2_init 1 none ∈ x_tbl := x_w 135 (by decide +kernel) (by decide +kernel)
theorem wn_RX2 : Cond.initialized RX2 ∈ x_tbl := x_w 53 (by decide +kernel) (by decide +kernel)
theorem okX2_init : xOk kX2_init 0 := ⟨by decide +kernel, by decide +kernel, wcX2_init, wn_RX2⟩
theorem wiX2_init : Cond.instanceMethod yX2_init ∈ x_tbl := x_w 134 (by decide +kernel) (by decide +kernel)
theorem wcX3_setTop : Cond.code yX3_setTop cX3_setTop 2 (some .int) ∈ x_tbl := x_w 171 (by decide +kernel) (by decide +kernel)
theorem okX3_setTop : xOk kX3_setTop 1 := ⟨by decide +kernel, by decide +kernel, wcX3_setTop, wn_RX3⟩
theorem wiX3_setTop : Cond.instanceMethod yX3_setTop ∈ x_tbl := x_w 169 (by decide +kernel) (by decide +kernel)
theorem wzX3_setTop : Cond.selects RX3 yX3_setTop yX3_setTop ∈ x_tbl := x_w 170 (by decide +kernel) (by decide +kernel)
theorem wcX0_copyFrom : Cond.code yX0_copyFrom cX0_copyFrom 2 none ∈ x_tbl := x_w 175 (by decide +kernel) (by decide +kernel)
theorem okX0_copyFrom : xOk kX0_copyFrom 1 := ⟨by decide +kernel, by decide +kernel, wcX0_copyFrom, wn_RX0⟩
theorem wiX0_copyFrom : Cond.instanceMethod yX0_copyFrom ∈ x_tbl := x_w 173 (by decide +kernel) (by decide +kernel)
theorem wzX0_copyFrom : Cond.selects RX0 yX0_copyFrom yX0_copyFrom ∈ x_tbl := x_w 174 (by decide +kernel) (by decide +kernel)
theorem wcX0_changeTop : Cond.code yX0_changeTop cX0_changeTop 3 (some .int) ∈ x_tbl := x_w 182 (by decide +kernel) (by decide +kernel)
theorem okX0_changeTop : xOk kX0_changeTop 1 := ⟨by decide +kernel, by decide +kernel, wcX0_changeTop, wn_RX0⟩
theorem wiX0_changeTop : Cond.instanceMethod yX0_changeTop ∈ x_tbl := x_w 180 (by decide +kernel) (by decide +kernel)
theorem wzX0_changeTop : Cond.selects RX0 yX0_changeTop yX0_changeTop ∈ x_tbl := x_w 181 (by decide +kernel) (by decide +kernel)
theorem wcX0_isUpperEnd : Cond.code yX0_isUpperEnd cX0_isUpperEnd 2 (some .boolean) ∈ x_tbl := x_w 186 (by decide +kernel) (by decide +kernel)
theorem okX0_isUpperEnd : xOk kX0_isUpperEnd 1 := ⟨by decide +kernel, by decide +kernel, wcX0_isUpperEnd, wn_RX0⟩
theorem wiX0_isUpperEnd : Cond.instanceMethod yX0_isUpperEnd ∈ x_tbl := x_w 184 (by decide +kernel) (by decide +kernel)
theorem wzX0_isUpperEnd : Cond.selects RX0 yX0_isUpperEnd yX0_isUpperEnd ∈ x_tbl := x_w 185 (by decide +kernel) (by decide +kernel)
theorem wcX0_climbersOn : Cond.code yX0_climbersOn cX0_climbersOn 4 (some .int) ∈ x_tbl := x_w 190 (by decide +kernel) (by decide +kernel)
theorem okX0_climbersOn : xOk kX0_climbersOn 1 := ⟨by decide +kernel, by decide +kernel, wcX0_climbersOn, wn_RX0⟩
theorem wiX0_climbersOn : Cond.instanceMethod yX0_climbersOn ∈ x_tbl := x_w 188 (by decide +kernel) (by decide +kernel)
theorem wzX0_climbersOn : Cond.selects RX0 yX0_climbersOn yX0_climbersOn ∈ x_tbl := x_w 189 (by decide +kernel) (by decide +kernel)
theorem wcX3_recordUnlessError : Cond.code yX3_recordUnlessError cX3_recordUnlessError 2 (some .int) ∈ x_tbl := x_w 194 (by decide +kernel) (by decide +kernel)
theorem okX3_recordUnlessError : xOk kX3_recordUnlessError 1 := ⟨by decide +kernel, by decide +kernel, wcX3_recordUnlessError, wn_RX3⟩
theorem wiX3_recordUnlessError : Cond.instanceMethod yX3_recordUnlessError ∈ x_tbl := x_w 193 (by decide +kernel) (by decide +kernel)
theorem wzX3_recordUnlessError : Cond.selects RX3 yX3_recordUnlessError yX3_recordUnlessError ∈ x_tbl := x_w 0 (by decide +kernel) (by decide +kernel)
theorem wcX1_keep : Cond.code yX1_keep cX1_keep 3 none ∈ x_tbl := x_w 198 (by decide +kernel) (by decide +kernel)
theorem okX1_keep : xOk kX1_keep 1 := ⟨by decide +kernel, by decide +kernel, wcX1_keep, wn_RX1⟩
theorem wiX1_keep : Cond.instanceMethod yX1_keep ∈ x_tbl := x_w 196 (by decide +kernel) (by decide +kernel)
theorem wzX1_keep : Cond.selects RX1 yX1_keep yX1_keep ∈ x_tbl := x_w 197 (by decide +kernel) (by decide +kernel)
theorem wcX1_makeOldestLast : Cond.code yX1_makeOldestLast cX1_makeOldestLast 3 none ∈ x_tbl := x_w 202 (by decide +kernel) (by decide +kernel)
theorem okX1_makeOldestLast : xOk kX1_makeOldestLast 0 := ⟨by decide +kernel, by decide +kernel, wcX1_makeOldestLast, wn_RX1⟩
theorem wiX1_makeOldestLast : Cond.instanceMethod yX1_makeOldestLast ∈ x_tbl := x_w 201 (by decide +kernel) (by decide +kernel)
theorem wzX1_makeOldestLast : Cond.selects RX1 yX1_makeOldestLast yX1_makeOldestLast ∈ x_tbl := x_w 1 (by decide +kernel) (by decide +kernel)
theorem wcX3_lay : Cond.code yX3_lay cX3_lay 3 (some .int) ∈ x_tbl := x_w 207 (by decide +kernel) (by decide +kernel)
theorem okX3_lay : xOk kX3_lay 2 := ⟨by decide +kernel, by decide +kernel, wcX3_lay, wn_RX3⟩
theorem wiX3_lay : Cond.instanceMethod yX3_lay ∈ x_tbl := x_w 205 (by decide +kernel) (by decide +kernel)
theorem wzX3_lay : Cond.selects RX3 yX3_lay yX3_lay ∈ x_tbl := x_w 206 (by decide +kernel) (by decide +kernel)
theorem wcX0_layCarpet : Cond.code yX0_layCarpet cX0_layCarpet 3 (some .int) ∈ x_tbl := x_w 211 (by decide +kernel) (by decide +kernel)
theorem okX0_layCarpet : xOk kX0_layCarpet 2 := ⟨by decide +kernel, by decide +kernel, wcX0_layCarpet, wn_RX0⟩
theorem wiX0_layCarpet : Cond.instanceMethod yX0_layCarpet ∈ x_tbl := x_w 209 (by decide +kernel) (by decide +kernel)
theorem wzX0_layCarpet : Cond.selects RX0 yX0_layCarpet yX0_layCarpet ∈ x_tbl := x_w 210 (by decide +kernel) (by decide +kernel)
theorem wcX0_isBelowTop : Cond.code yX0_isBelowTop cX0_isBelowTop 2 (some .boolean) ∈ x_tbl := x_w 215 (by decide +kernel) (by decide +kernel)
theorem okX0_isBelowTop : xOk kX0_isBelowTop 1 := ⟨by decide +kernel, by decide +kernel, wcX0_isBelowTop, wn_RX0⟩
theorem wiX0_isBelowTop : Cond.instanceMethod yX0_isBelowTop ∈ x_tbl := x_w 213 (by decide +kernel) (by decide +kernel)
theorem wzX0_isBelowTop : Cond.selects RX0 yX0_isBelowTop yX0_isBelowTop ∈ x_tbl := x_w 214 (by decide +kernel) (by decide +kernel)
theorem wcX0_lowerEndsAt : Cond.code yX0_lowerEndsAt cX0_lowerEndsAt 4 (some .int) ∈ x_tbl := x_w 219 (by decide +kernel) (by decide +kernel)
theorem okX0_lowerEndsAt : xOk kX0_lowerEndsAt 1 := ⟨by decide +kernel, by decide +kernel, wcX0_lowerEndsAt, wn_RX0⟩
theorem wiX0_lowerEndsAt : Cond.instanceMethod yX0_lowerEndsAt ∈ x_tbl := x_w 217 (by decide +kernel) (by decide +kernel)
theorem wzX0_lowerEndsAt : Cond.selects RX0 yX0_lowerEndsAt yX0_lowerEndsAt ∈ x_tbl := x_w 218 (by decide +kernel) (by decide +kernel)
theorem wcX0_countCarpets : Cond.code yX0_countCarpets cX0_countCarpets 3 (some .int) ∈ x_tbl := x_w 223 (by decide +kernel) (by decide +kernel)
theorem okX0_countCarpets : xOk kX0_countCarpets 0 := ⟨by decide +kernel, by decide +kernel, wcX0_countCarpets, wn_RX0⟩
theorem wiX0_countCarpets : Cond.instanceMethod yX0_countCarpets ∈ x_tbl := x_w 221 (by decide +kernel) (by decide +kernel)
theorem wzX0_countCarpets : Cond.selects RX0 yX0_countCarpets yX0_countCarpets ∈ x_tbl := x_w 222 (by decide +kernel) (by decide +kernel)
theorem wcX3_take : Cond.code yX3_take cX3_take 2 (some .int) ∈ x_tbl := x_w 227 (by decide +kernel) (by decide +kernel)
theorem okX3_take : xOk kX3_take 1 := ⟨by decide +kernel, by decide +kernel, wcX3_take, wn_RX3⟩
theorem wiX3_take : Cond.instanceMethod yX3_take ∈ x_tbl := x_w 225 (by decide +kernel) (by decide +kernel)
theorem wzX3_take : Cond.selects RX3 yX3_take yX3_take ∈ x_tbl := x_w 226 (by decide +kernel) (by decide +kernel)
theorem wcX0_takeCarpet : Cond.code yX0_takeCarpet cX0_takeCarpet 3 (some .int) ∈ x_tbl := x_w 231 (by decide +kernel) (by decide +kernel)
theorem okX0_takeCarpet : xOk kX0_takeCarpet 1 := ⟨by decide +kernel, by decide +kernel, wcX0_takeCarpet, wn_RX0⟩
theorem wiX0_takeCarpet : Cond.instanceMethod yX0_takeCarpet ∈ x_tbl := x_w 229 (by decide +kernel) (by decide +kernel)
theorem wzX0_takeCarpet : Cond.selects RX0 yX0_takeCarpet yX0_takeCarpet ∈ x_tbl := x_w 230 (by decide +kernel) (by decide +kernel)
theorem wcX3_put : Cond.code yX3_put cX3_put 2 (some .int) ∈ x_tbl := x_w 235 (by decide +kernel) (by decide +kernel)
theorem okX3_put : xOk kX3_put 1 := ⟨by decide +kernel, by decide +kernel, wcX3_put, wn_RX3⟩
theorem wiX3_put : Cond.instanceMethod yX3_put ∈ x_tbl := x_w 233 (by decide +kernel) (by decide +kernel)
theorem wzX3_put : Cond.selects RX3 yX3_put yX3_put ∈ x_tbl := x_w 234 (by decide +kernel) (by decide +kernel)
theorem wcX0_putLanding : Cond.code yX0_putLanding cX0_putLanding 2 (some .int) ∈ x_tbl := x_w 239 (by decide +kernel) (by decide +kernel)
theorem okX0_putLanding : xOk kX0_putLanding 1 := ⟨by decide +kernel, by decide +kernel, wcX0_putLanding, wn_RX0⟩
theorem wiX0_putLanding : Cond.instanceMethod yX0_putLanding ∈ x_tbl := x_w 237 (by decide +kernel) (by decide +kernel)
theorem wzX0_putLanding : Cond.selects RX0 yX0_putLanding yX0_putLanding ∈ x_tbl := x_w 238 (by decide +kernel) (by decide +kernel)
theorem wcX0_countLandings : Cond.code yX0_countLandings cX0_countLandings 3 (some .int) ∈ x_tbl := x_w 243 (by decide +kernel) (by decide +kernel)
theorem okX0_countLandings : xOk kX0_countLandings 0 := ⟨by decide +kernel, by decide +kernel, wcX0_countLandings, wn_RX0⟩
theorem wiX0_countLandings : Cond.instanceMethod yX0_countLandings ∈ x_tbl := x_w 241 (by decide +kernel) (by decide +kernel)
theorem wzX0_countLandings : Cond.selects RX0 yX0_countLandings yX0_countLandings ∈ x_tbl := x_w 242 (by decide +kernel) (by decide +kernel)
theorem wcX0_isLanding : Cond.code yX0_isLanding cX0_isLanding 2 (some .boolean) ∈ x_tbl := x_w 247 (by decide +kernel) (by decide +kernel)
theorem okX0_isLanding : xOk kX0_isLanding 1 := ⟨by decide +kernel, by decide +kernel, wcX0_isLanding, wn_RX0⟩
theorem wiX0_isLanding : Cond.instanceMethod yX0_isLanding ∈ x_tbl := x_w 245 (by decide +kernel) (by decide +kernel)
theorem wzX0_isLanding : Cond.selects RX0 yX0_isLanding yX0_isLanding ∈ x_tbl := x_w 246 (by decide +kernel) (by decide +kernel)
theorem wcX3_remove : Cond.code yX3_remove cX3_remove 2 (some .int) ∈ x_tbl := x_w 251 (by decide +kernel) (by decide +kernel)
theorem okX3_remove : xOk kX3_remove 1 := ⟨by decide +kernel, by decide +kernel, wcX3_remove, wn_RX3⟩
theorem wiX3_remove : Cond.instanceMethod yX3_remove ∈ x_tbl := x_w 249 (by decide +kernel) (by decide +kernel)
theorem wzX3_remove : Cond.selects RX3 yX3_remove yX3_remove ∈ x_tbl := x_w 250 (by decide +kernel) (by decide +kernel)
theorem wcX0_removeLanding : Cond.code yX0_removeLanding cX0_removeLanding 2 (some .int) ∈ x_tbl := x_w 255 (by decide +kernel) (by decide +kernel)
theorem okX0_removeLanding : xOk kX0_removeLanding 1 := ⟨by decide +kernel, by decide +kernel, wcX0_removeLanding, wn_RX0⟩
theorem wiX0_removeLanding : Cond.instanceMethod yX0_removeLanding ∈ x_tbl := x_w 253 (by decide +kernel) (by decide +kernel)
theorem wzX0_removeLanding : Cond.selects RX0 yX0_removeLanding yX0_removeLanding ∈ x_tbl := x_w 254 (by decide +kernel) (by decide +kernel)
theorem wcJ6_bitCount_0f7a4 : Cond.code yJ6_bitCount_0f7a4 cJ6_bitCount_0f7a4 1 (some .int) ∈ x_tbl := x_w 258 (by decide +kernel) (by decide +kernel)
theorem wn_RJ6 : Cond.initialized RJ6 ∈ x_tbl := x_w 56 (by decide +kernel) (by decide +kernel)
theorem okJ6_bitCount_0f7a4 : xOk kJ6_bitCount_0f7a4 1 := ⟨by decide +kernel, by decide +kernel, wcJ6_bitCount_0f7a4, wn_RJ6⟩
theorem wsJ6_bitCount_0f7a4 : Cond.static yJ6_bitCount_0f7a4 ∈ x_tbl := x_w 257 (by decide +kernel) (by decide +kernel)
theorem wcX3_join : Cond.code yX3_join cX3_join 1 (some .int) ∈ x_tbl := x_w 265 (by decide +kernel) (by decide +kernel)
theorem okX3_join : xOk kX3_join 0 := ⟨by decide +kernel, by decide +kernel, wcX3_join, wn_RX3⟩
theorem wiX3_join : Cond.instanceMethod yX3_join ∈ x_tbl := x_w 263 (by decide +kernel) (by decide +kernel)
theorem wzX3_join : Cond.selects RX3 yX3_join yX3_join ∈ x_tbl := x_w 264 (by decide +kernel) (by decide +kernel)
theorem wcX0_addClimber : Cond.code yX0_addClimber cX0_addClimber 1 (some .int) ∈ x_tbl := x_w 269 (by decide +kernel) (by decide +kernel)
theorem okX0_addClimber : xOk kX0_addClimber 0 := ⟨by decide +kernel, by decide +kernel, wcX0_addClimber, wn_RX0⟩
theorem wiX0_addClimber : Cond.instanceMethod yX0_addClimber ∈ x_tbl := x_w 267 (by decide +kernel) (by decide +kernel)
theorem wzX0_addClimber : Cond.selects RX0 yX0_addClimber yX0_addClimber ∈ x_tbl := x_w 268 (by decide +kernel) (by decide +kernel)
theorem wcX3_roll : Cond.code yX3_roll cX3_roll 2 (some .int) ∈ x_tbl := x_w 273 (by decide +kernel) (by decide +kernel)
theorem okX3_roll : xOk kX3_roll 1 := ⟨by decide +kernel, by decide +kernel, wcX3_roll, wn_RX3⟩
theorem wiX3_roll : Cond.instanceMethod yX3_roll ∈ x_tbl := x_w 271 (by decide +kernel) (by decide +kernel)
theorem wzX3_roll : Cond.selects RX3 yX3_roll yX3_roll ∈ x_tbl := x_w 272 (by decide +kernel) (by decide +kernel)
theorem wcX0_makeRoll : Cond.code yX0_makeRoll cX0_makeRoll 4 (some .int) ∈ x_tbl := x_w 277 (by decide +kernel) (by decide +kernel)
theorem okX0_makeRoll : xOk kX0_makeRoll 1 := ⟨by decide +kernel, by decide +kernel, wcX0_makeRoll, wn_RX0⟩
theorem wiX0_makeRoll : Cond.instanceMethod yX0_makeRoll ∈ x_tbl := x_w 275 (by decide +kernel) (by decide +kernel)
theorem wzX0_makeRoll : Cond.selects RX0 yX0_makeRoll yX0_makeRoll ∈ x_tbl := x_w 276 (by decide +kernel) (by decide +kernel)
theorem wcX3_isRoll : Cond.code yX3_isRoll cX3_isRoll 1 (some .boolean) ∈ x_tbl := x_w 280 (by decide +kernel) (by decide +kernel)
theorem okX3_isRoll : xOk kX3_isRoll 1 := ⟨by decide +kernel, by decide +kernel, wcX3_isRoll, wn_RX3⟩
theorem wsX3_isRoll : Cond.static yX3_isRoll ∈ x_tbl := x_w 279 (by decide +kernel) (by decide +kernel)
theorem wcX0_hasMover : Cond.code yX0_hasMover cX0_hasMover 1 (some .boolean) ∈ x_tbl := x_w 284 (by decide +kernel) (by decide +kernel)
theorem okX0_hasMover : xOk kX0_hasMover 0 := ⟨by decide +kernel, by decide +kernel, wcX0_hasMover, wn_RX0⟩
theorem wiX0_hasMover : Cond.instanceMethod yX0_hasMover ∈ x_tbl := x_w 282 (by decide +kernel) (by decide +kernel)
theorem wzX0_hasMover : Cond.selects RX0 yX0_hasMover yX0_hasMover ∈ x_tbl := x_w 283 (by decide +kernel) (by decide +kernel)
theorem wcX0_isClimber : Cond.code yX0_isClimber cX0_isClimber 2 (some .boolean) ∈ x_tbl := x_w 288 (by decide +kernel) (by decide +kernel)
theorem okX0_isClimber : xOk kX0_isClimber 1 := ⟨by decide +kernel, by decide +kernel, wcX0_isClimber, wn_RX0⟩
theorem wiX0_isClimber : Cond.instanceMethod yX0_isClimber ∈ x_tbl := x_w 286 (by decide +kernel) (by decide +kernel)
theorem wzX0_isClimber : Cond.selects RX0 yX0_isClimber yX0_isClimber ∈ x_tbl := x_w 287 (by decide +kernel) (by decide +kernel)
theorem wcX0_liftThosePassed : Cond.code yX0_liftThosePassed cX0_liftThosePassed 3 none ∈ x_tbl := x_w 292 (by decide +kernel) (by decide +kernel)
theorem okX0_liftThosePassed : xOk kX0_liftThosePassed 1 := ⟨by decide +kernel, by decide +kernel, wcX0_liftThosePassed, wn_RX0⟩
theorem wiX0_liftThosePassed : Cond.instanceMethod yX0_liftThosePassed ∈ x_tbl := x_w 291 (by decide +kernel) (by decide +kernel)
theorem wzX0_liftThosePassed : Cond.selects RX0 yX0_liftThosePassed yX0_liftThosePassed ∈ x_tbl := x_w 2 (by decide +kernel) (by decide +kernel)
theorem wcX0_isPassed : Cond.code yX0_isPassed cX0_isPassed 5 (some .boolean) ∈ x_tbl := x_w 296 (by decide +kernel) (by decide +kernel)
theorem okX0_isPassed : xOk kX0_isPassed 2 := ⟨by decide +kernel, by decide +kernel, wcX0_isPassed, wn_RX0⟩
theorem wiX0_isPassed : Cond.instanceMethod yX0_isPassed ∈ x_tbl := x_w 295 (by decide +kernel) (by decide +kernel)
theorem wzX0_isPassed : Cond.selects RX0 yX0_isPassed yX0_isPassed ∈ x_tbl := x_w 3 (by decide +kernel) (by decide +kernel)
theorem wcX0_comeTo : Cond.code yX0_comeTo cX0_comeTo 3 none ∈ x_tbl := x_w 300 (by decide +kernel) (by decide +kernel)
theorem okX0_comeTo : xOk kX0_comeTo 2 := ⟨by decide +kernel, by decide +kernel, wcX0_comeTo, wn_RX0⟩
theorem wiX0_comeTo : Cond.instanceMethod yX0_comeTo ∈ x_tbl := x_w 299 (by decide +kernel) (by decide +kernel)
theorem wzX0_comeTo : Cond.selects RX0 yX0_comeTo yX0_comeTo ∈ x_tbl := x_w 4 (by decide +kernel) (by decide +kernel)
theorem wcX0_goToNextMover : Cond.code yX0_goToNextMover cX0_goToNextMover 3 none ∈ x_tbl := x_w 304 (by decide +kernel) (by decide +kernel)
theorem okX0_goToNextMover : xOk kX0_goToNextMover 0 := ⟨by decide +kernel, by decide +kernel, wcX0_goToNextMover, wn_RX0⟩
theorem wiX0_goToNextMover : Cond.instanceMethod yX0_goToNextMover ∈ x_tbl := x_w 303 (by decide +kernel) (by decide +kernel)
theorem wzX0_goToNextMover : Cond.selects RX0 yX0_goToNextMover yX0_goToNextMover ∈ x_tbl := x_w 5 (by decide +kernel) (by decide +kernel)
theorem wcX0_behind : Cond.code yX0_behind cX0_behind 2 (some .int) ∈ x_tbl := x_w 308 (by decide +kernel) (by decide +kernel)
theorem okX0_behind : xOk kX0_behind 1 := ⟨by decide +kernel, by decide +kernel, wcX0_behind, wn_RX0⟩
theorem wiX0_behind : Cond.instanceMethod yX0_behind ∈ x_tbl := x_w 307 (by decide +kernel) (by decide +kernel)
theorem wzX0_behind : Cond.selects RX0 yX0_behind yX0_behind ∈ x_tbl := x_w 6 (by decide +kernel) (by decide +kernel)
theorem wcX3_pass : Cond.code yX3_pass cX3_pass 1 (some .int) ∈ x_tbl := x_w 312 (by decide +kernel) (by decide +kernel)
theorem okX3_pass : xOk kX3_pass 0 := ⟨by decide +kernel, by decide +kernel, wcX3_pass, wn_RX3⟩
theorem wiX3_pass : Cond.instanceMethod yX3_pass ∈ x_tbl := x_w 310 (by decide +kernel) (by decide +kernel)
theorem wzX3_pass : Cond.selects RX3 yX3_pass yX3_pass ∈ x_tbl := x_w 311 (by decide +kernel) (by decide +kernel)
theorem wcX0_makePass : Cond.code yX0_makePass cX0_makePass 1 (some .int) ∈ x_tbl := x_w 316 (by decide +kernel) (by decide +kernel)
theorem okX0_makePass : xOk kX0_makePass 0 := ⟨by decide +kernel, by decide +kernel, wcX0_makePass, wn_RX0⟩
theorem wiX0_makePass : Cond.instanceMethod yX0_makePass ∈ x_tbl := x_w 314 (by decide +kernel) (by decide +kernel)
theorem wzX0_makePass : Cond.selects RX0 yX0_makePass yX0_makePass ∈ x_tbl := x_w 315 (by decide +kernel) (by decide +kernel)
theorem wcX3_climber : Cond.code yX3_climber cX3_climber 3 (some .int) ∈ x_tbl := x_w 320 (by decide +kernel) (by decide +kernel)
theorem okX3_climber : xOk kX3_climber 2 := ⟨by decide +kernel, by decide +kernel, wcX3_climber, wn_RX3⟩
theorem wiX3_climber : Cond.instanceMethod yX3_climber ∈ x_tbl := x_w 318 (by decide +kernel) (by decide +kernel)
theorem wzX3_climber : Cond.selects RX3 yX3_climber yX3_climber ∈ x_tbl := x_w 319 (by decide +kernel) (by decide +kernel)
theorem wcX0_partOfClimber : Cond.code yX0_partOfClimber cX0_partOfClimber 3 (some .int) ∈ x_tbl := x_w 324 (by decide +kernel) (by decide +kernel)
theorem okX0_partOfClimber : xOk kX0_partOfClimber 2 := ⟨by decide +kernel, by decide +kernel, wcX0_partOfClimber, wn_RX0⟩
theorem wiX0_partOfClimber : Cond.instanceMethod yX0_partOfClimber ∈ x_tbl := x_w 322 (by decide +kernel) (by decide +kernel)
theorem wzX0_partOfClimber : Cond.selects RX0 yX0_partOfClimber yX0_partOfClimber ∈ x_tbl := x_w 323 (by decide +kernel) (by decide +kernel)
theorem wcX0_progressOf : Cond.code yX0_progressOf cX0_progressOf 2 (some .int) ∈ x_tbl := x_w 328 (by decide +kernel) (by decide +kernel)
theorem okX0_progressOf : xOk kX0_progressOf 1 := ⟨by decide +kernel, by decide +kernel, wcX0_progressOf, wn_RX0⟩
theorem wiX0_progressOf : Cond.instanceMethod yX0_progressOf ∈ x_tbl := x_w 326 (by decide +kernel) (by decide +kernel)
theorem wzX0_progressOf : Cond.selects RX0 yX0_progressOf yX0_progressOf ∈ x_tbl := x_w 327 (by decide +kernel) (by decide +kernel)
theorem wcX3_turn : Cond.code yX3_turn cX3_turn 1 (some .int) ∈ x_tbl := x_w 332 (by decide +kernel) (by decide +kernel)
theorem okX3_turn : xOk kX3_turn 0 := ⟨by decide +kernel, by decide +kernel, wcX3_turn, wn_RX3⟩
theorem wiX3_turn : Cond.instanceMethod yX3_turn ∈ x_tbl := x_w 330 (by decide +kernel) (by decide +kernel)
theorem wzX3_turn : Cond.selects RX3 yX3_turn yX3_turn ∈ x_tbl := x_w 331 (by decide +kernel) (by decide +kernel)
theorem wcX3_on : Cond.code yX3_on cX3_on 2 (some .int) ∈ x_tbl := x_w 337 (by decide +kernel) (by decide +kernel)
theorem okX3_on : xOk kX3_on 1 := ⟨by decide +kernel, by decide +kernel, wcX3_on, wn_RX3⟩
theorem wiX3_on : Cond.instanceMethod yX3_on ∈ x_tbl := x_w 335 (by decide +kernel) (by decide +kernel)
theorem wzX3_on : Cond.selects RX3 yX3_on yX3_on ∈ x_tbl := x_w 336 (by decide +kernel) (by decide +kernel)
theorem wcX3_step : Cond.code yX3_step cX3_step 3 (some .int) ∈ x_tbl := x_w 343 (by decide +kernel) (by decide +kernel)
theorem okX3_step : xOk kX3_step 2 := ⟨by decide +kernel, by decide +kernel, wcX3_step, wn_RX3⟩
theorem wiX3_step : Cond.instanceMethod yX3_step ∈ x_tbl := x_w 341 (by decide +kernel) (by decide +kernel)
theorem wzX3_step : Cond.selects RX3 yX3_step yX3_step ∈ x_tbl := x_w 342 (by decide +kernel) (by decide +kernel)
theorem wcX0_partOfStep : Cond.code yX0_partOfStep cX0_partOfStep 3 (some .int) ∈ x_tbl := x_w 347 (by decide +kernel) (by decide +kernel)
theorem okX0_partOfStep : xOk kX0_partOfStep 2 := ⟨by decide +kernel, by decide +kernel, wcX0_partOfStep, wn_RX0⟩
theorem wiX0_partOfStep : Cond.instanceMethod yX0_partOfStep ∈ x_tbl := x_w 345 (by decide +kernel) (by decide +kernel)
theorem wzX0_partOfStep : Cond.selects RX0 yX0_partOfStep yX0_partOfStep ∈ x_tbl := x_w 346 (by decide +kernel) (by decide +kernel)
theorem wcX3_total : Cond.code yX3_total cX3_total 2 (some .int) ∈ x_tbl := x_w 351 (by decide +kernel) (by decide +kernel)
theorem okX3_total : xOk kX3_total 1 := ⟨by decide +kernel, by decide +kernel, wcX3_total, wn_RX3⟩
theorem wiX3_total : Cond.instanceMethod yX3_total ∈ x_tbl := x_w 349 (by decide +kernel) (by decide +kernel)
theorem wzX3_total : Cond.selects RX3 yX3_total yX3_total ∈ x_tbl := x_w 350 (by decide +kernel) (by decide +kernel)
theorem wcX0_totalOf : Cond.code yX0_totalOf cX0_totalOf 2 (some .int) ∈ x_tbl := x_w 355 (by decide +kernel) (by decide +kernel)
theorem okX0_totalOf : xOk kX0_totalOf 1 := ⟨by decide +kernel, by decide +kernel, wcX0_totalOf, wn_RX0⟩
theorem wiX0_totalOf : Cond.instanceMethod yX0_totalOf ∈ x_tbl := x_w 353 (by decide +kernel) (by decide +kernel)
theorem wzX0_totalOf : Cond.selects RX0 yX0_totalOf yX0_totalOf ∈ x_tbl := x_w 354 (by decide +kernel) (by decide +kernel)
theorem wcX0_liftsOfAll : Cond.code yX0_liftsOfAll cX0_liftsOfAll 1 (some .int) ∈ x_tbl := x_w 359 (by decide +kernel) (by decide +kernel)
theorem okX0_liftsOfAll : xOk kX0_liftsOfAll 0 := ⟨by decide +kernel, by decide +kernel, wcX0_liftsOfAll, wn_RX0⟩
theorem wiX0_liftsOfAll : Cond.instanceMethod yX0_liftsOfAll ∈ x_tbl := x_w 357 (by decide +kernel) (by decide +kernel)
theorem wzX0_liftsOfAll : Cond.selects RX0 yX0_liftsOfAll yX0_liftsOfAll ∈ x_tbl := x_w 358 (by decide +kernel) (by decide +kernel)
theorem wcX0_sumOf : Cond.code yX0_sumOf cX0_sumOf 6 (some .int) ∈ x_tbl := x_w 362 (by decide +kernel) (by decide +kernel)
theorem okX0_sumOf : xOk kX0_sumOf 1 := ⟨by decide +kernel, by decide +kernel, wcX0_sumOf, wn_RX0⟩
theorem wsX0_sumOf : Cond.static yX0_sumOf ∈ x_tbl := x_w 361 (by decide +kernel) (by decide +kernel)
theorem wcX0_slipsOfAll : Cond.code yX0_slipsOfAll cX0_slipsOfAll 1 (some .int) ∈ x_tbl := x_w 366 (by decide +kernel) (by decide +kernel)
theorem okX0_slipsOfAll : xOk kX0_slipsOfAll 0 := ⟨by decide +kernel, by decide +kernel, wcX0_slipsOfAll, wn_RX0⟩
theorem wiX0_slipsOfAll : Cond.instanceMethod yX0_slipsOfAll ∈ x_tbl := x_w 364 (by decide +kernel) (by decide +kernel)
theorem wzX0_slipsOfAll : Cond.selects RX0 yX0_slipsOfAll yX0_slipsOfAll ∈ x_tbl := x_w 365 (by decide +kernel) (by decide +kernel)
theorem wcX0_topsOfAll : Cond.code yX0_topsOfAll cX0_topsOfAll 1 (some .int) ∈ x_tbl := x_w 370 (by decide +kernel) (by decide +kernel)
theorem okX0_topsOfAll : xOk kX0_topsOfAll 0 := ⟨by decide +kernel, by decide +kernel, wcX0_topsOfAll, wn_RX0⟩
theorem wiX0_topsOfAll : Cond.instanceMethod yX0_topsOfAll ∈ x_tbl := x_w 368 (by decide +kernel) (by decide +kernel)
theorem wzX0_topsOfAll : Cond.selects RX0 yX0_topsOfAll yX0_topsOfAll ∈ x_tbl := x_w 369 (by decide +kernel) (by decide +kernel)
theorem wcX3_rank : Cond.code yX3_rank cX3_rank 2 (some .int) ∈ x_tbl := x_w 374 (by decide +kernel) (by decide +kernel)
theorem okX3_rank : xOk kX3_rank 1 := ⟨by decide +kernel, by decide +kernel, wcX3_rank, wn_RX3⟩
theorem wiX3_rank : Cond.instanceMethod yX3_rank ∈ x_tbl := x_w 372 (by decide +kernel) (by decide +kernel)
theorem wzX3_rank : Cond.selects RX3 yX3_rank yX3_rank ∈ x_tbl := x_w 373 (by decide +kernel) (by decide +kernel)
theorem wcX0_climberAtPlace : Cond.code yX0_climberAtPlace cX0_climberAtPlace 3 (some .int) ∈ x_tbl := x_w 378 (by decide +kernel) (by decide +kernel)
theorem okX0_climberAtPlace : xOk kX0_climberAtPlace 1 := ⟨by decide +kernel, by decide +kernel, wcX0_climberAtPlace, wn_RX0⟩
theorem wiX0_climberAtPlace : Cond.instanceMethod yX0_climberAtPlace ∈ x_tbl := x_w 376 (by decide +kernel) (by decide +kernel)
theorem wzX0_climberAtPlace : Cond.selects RX0 yX0_climberAtPlace yX0_climberAtPlace ∈ x_tbl := x_w 377 (by decide +kernel) (by decide +kernel)
theorem wcX0_climbersAheadOf : Cond.code yX0_climbersAheadOf cX0_climbersAheadOf 6 (some .int) ∈ x_tbl := x_w 382 (by decide +kernel) (by decide +kernel)
theorem okX0_climbersAheadOf : xOk kX0_climbersAheadOf 1 := ⟨by decide +kernel, by decide +kernel, wcX0_climbersAheadOf, wn_RX0⟩
theorem wiX0_climbersAheadOf : Cond.instanceMethod yX0_climbersAheadOf ∈ x_tbl := x_w 381 (by decide +kernel) (by decide +kernel)
theorem wzX0_climbersAheadOf : Cond.selects RX0 yX0_climbersAheadOf yX0_climbersAheadOf ∈ x_tbl := x_w 7 (by decide +kernel) (by decide +kernel)
theorem wcX3_ifRolled : Cond.code yX3_ifRolled cX3_ifRolled 4 (some .int) ∈ x_tbl := x_w 386 (by decide +kernel) (by decide +kernel)
theorem okX3_ifRolled : xOk kX3_ifRolled 2 := ⟨by decide +kernel, by decide +kernel, wcX3_ifRolled, wn_RX3⟩
theorem wiX3_ifRolled : Cond.instanceMethod yX3_ifRolled ∈ x_tbl := x_w 384 (by decide +kernel) (by decide +kernel)
theorem wzX3_ifRolled : Cond.selects RX3 yX3_ifRolled yX3_ifRolled ∈ x_tbl := x_w 385 (by decide +kernel) (by decide +kernel)
theorem wcX3_rollInTrial : Cond.code yX3_rollInTrial cX3_rollInTrial 2 (some .int) ∈ x_tbl := x_w 391 (by decide +kernel) (by decide +kernel)
theorem okX3_rollInTrial : xOk kX3_rollInTrial 1 := ⟨by decide +kernel, by decide +kernel, wcX3_rollInTrial, wn_RX3⟩
theorem wiX3_rollInTrial : Cond.instanceMethod yX3_rollInTrial ∈ x_tbl := x_w 390 (by decide +kernel) (by decide +kernel)
theorem wzX3_rollInTrial : Cond.selects RX3 yX3_rollInTrial yX3_rollInTrial ∈ x_tbl := x_w 8 (by decide +kernel) (by decide +kernel)
theorem wcX3_bestRoll : Cond.code yX3_bestRoll cX3_bestRoll 5 (some .int) ∈ x_tbl := x_w 398 (by decide +kernel) (by decide +kernel)
theorem okX3_bestRoll : xOk kX3_bestRoll 0 := ⟨by decide +kernel, by decide +kernel, wcX3_bestRoll, wn_RX3⟩
theorem wiX3_bestRoll : Cond.instanceMethod yX3_bestRoll ∈ x_tbl := x_w 396 (by decide +kernel) (by decide +kernel)
theorem wzX3_bestRoll : Cond.selects RX3 yX3_bestRoll yX3_bestRoll ∈ x_tbl := x_w 397 (by decide +kernel) (by decide +kernel)
theorem wcX3_gainOfRoll : Cond.code yX3_gainOfRoll cX3_gainOfRoll 5 (some .int) ∈ x_tbl := x_w 402 (by decide +kernel) (by decide +kernel)
theorem okX3_gainOfRoll : xOk kX3_gainOfRoll 1 := ⟨by decide +kernel, by decide +kernel, wcX3_gainOfRoll, wn_RX3⟩
theorem wiX3_gainOfRoll : Cond.instanceMethod yX3_gainOfRoll ∈ x_tbl := x_w 401 (by decide +kernel) (by decide +kernel)
theorem wzX3_gainOfRoll : Cond.selects RX3 yX3_gainOfRoll yX3_gainOfRoll ∈ x_tbl := x_w 9 (by decide +kernel) (by decide +kernel)
theorem wcX3_quietRolls : Cond.code yX3_quietRolls cX3_quietRolls 3 (some .int) ∈ x_tbl := x_w 407 (by decide +kernel) (by decide +kernel)
theorem okX3_quietRolls : xOk kX3_quietRolls 0 := ⟨by decide +kernel, by decide +kernel, wcX3_quietRolls, wn_RX3⟩
theorem wiX3_quietRolls : Cond.instanceMethod yX3_quietRolls ∈ x_tbl := x_w 405 (by decide +kernel) (by decide +kernel)
theorem wzX3_quietRolls : Cond.selects RX3 yX3_quietRolls yX3_quietRolls ∈ x_tbl := x_w 406 (by decide +kernel) (by decide +kernel)
theorem wcX0_wouldLift : Cond.code yX0_wouldLift cX0_wouldLift 3 (some .boolean) ∈ x_tbl := x_w 411 (by decide +kernel) (by decide +kernel)
theorem okX0_wouldLift : xOk kX0_wouldLift 1 := ⟨by decide +kernel, by decide +kernel, wcX0_wouldLift, wn_RX0⟩
theorem wiX0_wouldLift : Cond.instanceMethod yX0_wouldLift ∈ x_tbl := x_w 409 (by decide +kernel) (by decide +kernel)
theorem wzX0_wouldLift : Cond.selects RX0 yX0_wouldLift yX0_wouldLift ∈ x_tbl := x_w 410 (by decide +kernel) (by decide +kernel)
theorem wcX3_rollsToTop : Cond.code yX3_rollsToTop cX3_rollsToTop 2 (some .int) ∈ x_tbl := x_w 415 (by decide +kernel) (by decide +kernel)
theorem okX3_rollsToTop : xOk kX3_rollsToTop 1 := ⟨by decide +kernel, by decide +kernel, wcX3_rollsToTop, wn_RX3⟩
theorem wiX3_rollsToTop : Cond.instanceMethod yX3_rollsToTop ∈ x_tbl := x_w 413 (by decide +kernel) (by decide +kernel)
theorem wzX3_rollsToTop : Cond.selects RX3 yX3_rollsToTop yX3_rollsToTop ∈ x_tbl := x_w 414 (by decide +kernel) (by decide +kernel)
theorem wcX0_fewestRollsOf : Cond.code yX0_fewestRollsOf cX0_fewestRollsOf 5 (some .int) ∈ x_tbl := x_w 420 (by decide +kernel) (by decide +kernel)
theorem okX0_fewestRollsOf : xOk kX0_fewestRollsOf 1 := ⟨by decide +kernel, by decide +kernel, wcX0_fewestRollsOf, wn_RX0⟩
theorem wiX0_fewestRollsOf : Cond.instanceMethod yX0_fewestRollsOf ∈ x_tbl := x_w 418 (by decide +kernel) (by decide +kernel)
theorem wzX0_fewestRollsOf : Cond.selects RX0 yX0_fewestRollsOf yX0_fewestRollsOf ∈ x_tbl := x_w 419 (by decide +kernel) (by decide +kernel)
theorem wcX0_reachedWithOneMore : Cond.code yX0_reachedWithOneMore cX0_reachedWithOneMore 6 (some .long) ∈ x_tbl := x_w 424 (by decide +kernel) (by decide +kernel)
theorem okX0_reachedWithOneMore : xOk kX0_reachedWithOneMore 1 := ⟨by decide +kernel, by decide +kernel, wcX0_reachedWithOneMore, wn_RX0⟩
theorem wiX0_reachedWithOneMore : Cond.instanceMethod yX0_reachedWithOneMore ∈ x_tbl := x_w 423 (by decide +kernel) (by decide +kernel)
theorem wzX0_reachedWithOneMore : Cond.selects RX0 yX0_reachedWithOneMore yX0_reachedWithOneMore ∈ x_tbl := x_w 10 (by decide +kernel) (by decide +kernel)
theorem wcX0_reachedFrom : Cond.code yX0_reachedFrom cX0_reachedFrom 5 (some .long) ∈ x_tbl := x_w 428 (by decide +kernel) (by decide +kernel)
theorem okX0_reachedFrom : xOk kX0_reachedFrom 1 := ⟨by decide +kernel, by decide +kernel, wcX0_reachedFrom, wn_RX0⟩
theorem wiX0_reachedFrom : Cond.instanceMethod yX0_reachedFrom ∈ x_tbl := x_w 427 (by decide +kernel) (by decide +kernel)
theorem wzX0_reachedFrom : Cond.selects RX0 yX0_reachedFrom yX0_reachedFrom ∈ x_tbl := x_w 11 (by decide +kernel) (by decide +kernel)
theorem wcX3_append : Cond.code yX3_append cX3_append 2 (some .int) ∈ x_tbl := x_w 432 (by decide +kernel) (by decide +kernel)
theorem okX3_append : xOk kX3_append 1 := ⟨by decide +kernel, by decide +kernel, wcX3_append, wn_RX3⟩
theorem wiX3_append : Cond.instanceMethod yX3_append ∈ x_tbl := x_w 430 (by decide +kernel) (by decide +kernel)
theorem wzX3_append : Cond.selects RX3 yX3_append yX3_append ∈ x_tbl := x_w 431 (by decide +kernel) (by decide +kernel)
theorem wcX2_addSign : Cond.code yX2_addSign cX2_addSign 2 (some .int) ∈ x_tbl := x_w 436 (by decide +kernel) (by decide +kernel)
theorem okX2_addSign : xOk kX2_addSign 1 := ⟨by decide +kernel, by decide +kernel, wcX2_addSign, wn_RX2⟩
theorem wiX2_addSign : Cond.instanceMethod yX2_addSign ∈ x_tbl := x_w 434 (by decide +kernel) (by decide +kernel)
theorem wzX2_addSign : Cond.selects RX2 yX2_addSign yX2_addSign ∈ x_tbl := x_w 435 (by decide +kernel) (by decide +kernel)
theorem wcX3_clearText : Cond.code yX3_clearText cX3_clearText 1 (some .int) ∈ x_tbl := x_w 440 (by decide +kernel) (by decide +kernel)
theorem okX3_clearText : xOk kX3_clearText 0 := ⟨by decide +kernel, by decide +kernel, wcX3_clearText, wn_RX3⟩
theorem wiX3_clearText : Cond.instanceMethod yX3_clearText ∈ x_tbl := x_w 438 (by decide +kernel) (by decide +kernel)
theorem wzX3_clearText : Cond.selects RX3 yX3_clearText yX3_clearText ∈ x_tbl := x_w 439 (by decide +kernel) (by decide +kernel)
theorem wcX2_dropAll : Cond.code yX2_dropAll cX2_dropAll 2 (some .int) ∈ x_tbl := x_w 444 (by decide +kernel) (by decide +kernel)
theorem okX2_dropAll : xOk kX2_dropAll 0 := ⟨by decide +kernel, by decide +kernel, wcX2_dropAll, wn_RX2⟩
theorem wiX2_dropAll : Cond.instanceMethod yX2_dropAll ∈ x_tbl := x_w 442 (by decide +kernel) (by decide +kernel)
theorem wzX2_dropAll : Cond.selects RX2 yX2_dropAll yX2_dropAll ∈ x_tbl := x_w 443 (by decide +kernel) (by decide +kernel)
theorem wcX3_errorPosition : Cond.code yX3_errorPosition cX3_errorPosition 1 (some .int) ∈ x_tbl := x_w 448 (by decide +kernel) (by decide +kernel)
theorem okX3_errorPosition : xOk kX3_errorPosition 0 := ⟨by decide +kernel, by decide +kernel, wcX3_errorPosition, wn_RX3⟩
theorem wiX3_errorPosition : Cond.instanceMethod yX3_errorPosition ∈ x_tbl := x_w 446 (by decide +kernel) (by decide +kernel)
theorem wzX3_errorPosition : Cond.selects RX3 yX3_errorPosition yX3_errorPosition ∈ x_tbl := x_w 447 (by decide +kernel) (by decide +kernel)
theorem wcX2_firstError : Cond.code yX2_firstError cX2_firstError 3 (some .int) ∈ x_tbl := x_w 452 (by decide +kernel) (by decide +kernel)
theorem okX2_firstError : xOk kX2_firstError 0 := ⟨by decide +kernel, by decide +kernel, wcX2_firstError, wn_RX2⟩
theorem wiX2_firstError : Cond.instanceMethod yX2_firstError ∈ x_tbl := x_w 450 (by decide +kernel) (by decide +kernel)
theorem wzX2_firstError : Cond.selects RX2 yX2_firstError yX2_firstError ∈ x_tbl := x_w 451 (by decide +kernel) (by decide +kernel)
theorem wcX2_wantedBehind : Cond.code yX2_wantedBehind cX2_wantedBehind 2 (some .int) ∈ x_tbl := x_w 455 (by decide +kernel) (by decide +kernel)
theorem okX2_wantedBehind : xOk kX2_wantedBehind 2 := ⟨by decide +kernel, by decide +kernel, wcX2_wantedBehind, wn_RX2⟩
theorem wsX2_wantedBehind : Cond.static yX2_wantedBehind ∈ x_tbl := x_w 454 (by decide +kernel) (by decide +kernel)
theorem wcX2_wantedBehindMoveStart : Cond.code yX2_wantedBehindMoveStart cX2_wantedBehindMoveStart 1 (some .int) ∈ x_tbl := x_w 458 (by decide +kernel) (by decide +kernel)
theorem okX2_wantedBehindMoveStart : xOk kX2_wantedBehindMoveStart 1 := ⟨by decide +kernel, by decide +kernel, wcX2_wantedBehindMoveStart, wn_RX2⟩
theorem wsX2_wantedBehindMoveStart : Cond.static yX2_wantedBehindMoveStart ∈ x_tbl := x_w 457 (by decide +kernel) (by decide +kernel)
theorem wcX2_wantedBehindComma : Cond.code yX2_wantedBehindComma cX2_wantedBehindComma 1 (some .int) ∈ x_tbl := x_w 462 (by decide +kernel) (by decide +kernel)
theorem okX2_wantedBehindComma : xOk kX2_wantedBehindComma 1 := ⟨by decide +kernel, by decide +kernel, wcX2_wantedBehindComma, wn_RX2⟩
theorem wsX2_wantedBehindComma : Cond.static yX2_wantedBehindComma ∈ x_tbl := x_w 461 (by decide +kernel) (by decide +kernel)
theorem wcX2_wantedBehindNumberStart : Cond.code yX2_wantedBehindNumberStart cX2_wantedBehindNumberStart 3 (some .int) ∈ x_tbl := x_w 465 (by decide +kernel) (by decide +kernel)
theorem okX2_wantedBehindNumberStart : xOk kX2_wantedBehindNumberStart 3 := ⟨by decide +kernel, by decide +kernel, wcX2_wantedBehindNumberStart, wn_RX2⟩
theorem wsX2_wantedBehindNumberStart : Cond.static yX2_wantedBehindNumberStart ∈ x_tbl := x_w 464 (by decide +kernel) (by decide +kernel)
theorem wcX2_isDigit : Cond.code yX2_isDigit cX2_isDigit 1 (some .boolean) ∈ x_tbl := x_w 468 (by decide +kernel) (by decide +kernel)
theorem okX2_isDigit : xOk kX2_isDigit 1 := ⟨by decide +kernel, by decide +kernel, wcX2_isDigit, wn_RX2⟩
theorem wsX2_isDigit : Cond.static yX2_isDigit ∈ x_tbl := x_w 467 (by decide +kernel) (by decide +kernel)
theorem wcX2_wantedBehindArrow : Cond.code yX2_wantedBehindArrow cX2_wantedBehindArrow 1 (some .int) ∈ x_tbl := x_w 471 (by decide +kernel) (by decide +kernel)
theorem okX2_wantedBehindArrow : xOk kX2_wantedBehindArrow 1 := ⟨by decide +kernel, by decide +kernel, wcX2_wantedBehindArrow, wn_RX2⟩
theorem wsX2_wantedBehindArrow : Cond.static yX2_wantedBehindArrow ∈ x_tbl := x_w 470 (by decide +kernel) (by decide +kernel)
theorem wcX3_play : Cond.code yX3_play cX3_play 2 (some .int) ∈ x_tbl := x_w 475 (by decide +kernel) (by decide +kernel)
theorem okX3_play : xOk kX3_play 0 := ⟨by decide +kernel, by decide +kernel, wcX3_play, wn_RX3⟩
theorem wiX3_play : Cond.instanceMethod yX3_play ∈ x_tbl := x_w 473 (by decide +kernel) (by decide +kernel)
theorem wzX3_play : Cond.selects RX3 yX3_play yX3_play ∈ x_tbl := x_w 474 (by decide +kernel) (by decide +kernel)
theorem wcX3_makeMovesOfText : Cond.code yX3_makeMovesOfText cX3_makeMovesOfText 3 (some .int) ∈ x_tbl := x_w 479 (by decide +kernel) (by decide +kernel)
theorem okX3_makeMovesOfText : xOk kX3_makeMovesOfText 0 := ⟨by decide +kernel, by decide +kernel, wcX3_makeMovesOfText, wn_RX3⟩
theorem wiX3_makeMovesOfText : Cond.instanceMethod yX3_makeMovesOfText ∈ x_tbl := x_w 478 (by decide +kernel) (by decide +kernel)
theorem wzX3_makeMovesOfText : Cond.selects RX3 yX3_makeMovesOfText yX3_makeMovesOfText ∈ x_tbl := x_w 12 (by decide +kernel) (by decide +kernel)
theorem wcX2_isMoveStart : Cond.code yX2_isMoveStart cX2_isMoveStart 2 (some .boolean) ∈ x_tbl := x_w 483 (by decide +kernel) (by decide +kernel)
theorem okX2_isMoveStart : xOk kX2_isMoveStart 1 := ⟨by decide +kernel, by decide +kernel, wcX2_isMoveStart, wn_RX2⟩
theorem wiX2_isMoveStart : Cond.instanceMethod yX2_isMoveStart ∈ x_tbl := x_w 481 (by decide +kernel) (by decide +kernel)
theorem wzX2_isMoveStart : Cond.selects RX2 yX2_isMoveStart yX2_isMoveStart ∈ x_tbl := x_w 482 (by decide +kernel) (by decide +kernel)
theorem wcX2_signAt : Cond.code yX2_signAt cX2_signAt 2 (some .char) ∈ x_tbl := x_w 487 (by decide +kernel) (by decide +kernel)
theorem okX2_signAt : xOk kX2_signAt 1 := ⟨by decide +kernel, by decide +kernel, wcX2_signAt, wn_RX2⟩
theorem wiX2_signAt : Cond.instanceMethod yX2_signAt ∈ x_tbl := x_w 485 (by decide +kernel) (by decide +kernel)
theorem wzX2_signAt : Cond.selects RX2 yX2_signAt yX2_signAt ∈ x_tbl := x_w 486 (by decide +kernel) (by decide +kernel)
theorem wcX3_makeMoveAt : Cond.code yX3_makeMoveAt cX3_makeMoveAt 3 (some .int) ∈ x_tbl := x_w 491 (by decide +kernel) (by decide +kernel)
theorem okX3_makeMoveAt : xOk kX3_makeMoveAt 1 := ⟨by decide +kernel, by decide +kernel, wcX3_makeMoveAt, wn_RX3⟩
theorem wiX3_makeMoveAt : Cond.instanceMethod yX3_makeMoveAt ∈ x_tbl := x_w 490 (by decide +kernel) (by decide +kernel)
theorem wzX3_makeMoveAt : Cond.selects RX3 yX3_makeMoveAt yX3_makeMoveAt ∈ x_tbl := x_w 13 (by decide +kernel) (by decide +kernel)
theorem wcX2_numberAt : Cond.code yX2_numberAt cX2_numberAt 4 (some .int) ∈ x_tbl := x_w 496 (by decide +kernel) (by decide +kernel)
theorem okX2_numberAt : xOk kX2_numberAt 1 := ⟨by decide +kernel, by decide +kernel, wcX2_numberAt, wn_RX2⟩
theorem wiX2_numberAt : Cond.instanceMethod yX2_numberAt ∈ x_tbl := x_w 494 (by decide +kernel) (by decide +kernel)
theorem wzX2_numberAt : Cond.selects RX2 yX2_numberAt yX2_numberAt ∈ x_tbl := x_w 495 (by decide +kernel) (by decide +kernel)
theorem wcX2_behindArrow : Cond.code yX2_behindArrow cX2_behindArrow 3 (some .int) ∈ x_tbl := x_w 500 (by decide +kernel) (by decide +kernel)
theorem okX2_behindArrow : xOk kX2_behindArrow 1 := ⟨by decide +kernel, by decide +kernel, wcX2_behindArrow, wn_RX2⟩
theorem wiX2_behindArrow : Cond.instanceMethod yX2_behindArrow ∈ x_tbl := x_w 498 (by decide +kernel) (by decide +kernel)
theorem wzX2_behindArrow : Cond.selects RX2 yX2_behindArrow yX2_behindArrow ∈ x_tbl := x_w 499 (by decide +kernel) (by decide +kernel)
theorem wcX3_undo : Cond.code yX3_undo cX3_undo 1 (some .int) ∈ x_tbl := x_w 504 (by decide +kernel) (by decide +kernel)
theorem okX3_undo : xOk kX3_undo 0 := ⟨by decide +kernel, by decide +kernel, wcX3_undo, wn_RX3⟩
theorem wiX3_undo : Cond.instanceMethod yX3_undo ∈ x_tbl := x_w 502 (by decide +kernel) (by decide +kernel)
theorem wzX3_undo : Cond.selects RX3 yX3_undo yX3_undo ∈ x_tbl := x_w 503 (by decide +kernel) (by decide +kernel)
theorem wcX1_isEmpty : Cond.code yX1_isEmpty cX1_isEmpty 1 (some .boolean) ∈ x_tbl := x_w 508 (by decide +kernel) (by decide +kernel)
theorem okX1_isEmpty : xOk kX1_isEmpty 0 := ⟨by decide +kernel, by decide +kernel, wcX1_isEmpty, wn_RX1⟩
theorem wiX1_isEmpty : Cond.instanceMethod yX1_isEmpty ∈ x_tbl := x_w 506 (by decide +kernel) (by decide +kernel)
theorem wzX1_isEmpty : Cond.selects RX1 yX1_isEmpty yX1_isEmpty ∈ x_tbl := x_w 507 (by decide +kernel) (by decide +kernel)
theorem wcX1_moveLatestTo : Cond.code yX1_moveLatestTo cX1_moveLatestTo 2 (some .int) ∈ x_tbl := x_w 512 (by decide +kernel) (by decide +kernel)
theorem okX1_moveLatestTo : xOk kX1_moveLatestTo 1 := ⟨by decide +kernel, by decide +kernel, wcX1_moveLatestTo, wn_RX1⟩
theorem wiX1_moveLatestTo : Cond.instanceMethod yX1_moveLatestTo ∈ x_tbl := x_w 510 (by decide +kernel) (by decide +kernel)
theorem wzX1_moveLatestTo : Cond.selects RX1 yX1_moveLatestTo yX1_moveLatestTo ∈ x_tbl := x_w 511 (by decide +kernel) (by decide +kernel)
theorem wcX3_save : Cond.code yX3_save cX3_save 1 (some .int) ∈ x_tbl := x_w 516 (by decide +kernel) (by decide +kernel)
theorem okX3_save : xOk kX3_save 0 := ⟨by decide +kernel, by decide +kernel, wcX3_save, wn_RX3⟩
theorem wiX3_save : Cond.instanceMethod yX3_save ∈ x_tbl := x_w 514 (by decide +kernel) (by decide +kernel)
theorem wzX3_save : Cond.selects RX3 yX3_save yX3_save ∈ x_tbl := x_w 515 (by decide +kernel) (by decide +kernel)
theorem wcX3_restore : Cond.code yX3_restore cX3_restore 1 (some .int) ∈ x_tbl := x_w 520 (by decide +kernel) (by decide +kernel)
theorem okX3_restore : xOk kX3_restore 0 := ⟨by decide +kernel, by decide +kernel, wcX3_restore, wn_RX3⟩
theorem wiX3_restore : Cond.instanceMethod yX3_restore ∈ x_tbl := x_w 518 (by decide +kernel) (by decide +kernel)
theorem wzX3_restore : Cond.selects RX3 yX3_restore yX3_restore ∈ x_tbl := x_w 519 (by decide +kernel) (by decide +kernel)
theorem wcX4_init : Cond.code yX4_init cX4_init 1 none ∈ x_tbl := x_w 525 (by decide +kernel) (by decide +kernel)
theorem wn_RX4 : Cond.initialized RX4 ∈ x_tbl := x_w 54 (by decide +kernel) (by decide +kernel)
theorem okX4_init : xOk kX4_init 0 := ⟨by decide +kernel, by decide +kernel, wcX4_init, wn_RX4⟩
theorem wiX4_init : Cond.instanceMethod yX4_init ∈ x_tbl := x_w 524 (by decide +kernel) (by decide +kernel)
theorem wcX4_undo : Cond.code yX4_undo cX4_undo 2 (some .int) ∈ x_tbl := x_w 570 (by decide +kernel) (by decide +kernel)
theorem okX4_undo : xOk kX4_undo 0 := ⟨by decide +kernel, by decide +kernel, wcX4_undo, wn_RX4⟩
theorem wiX4_undo : Cond.instanceMethod yX4_undo ∈ x_tbl := x_w 568 (by decide +kernel) (by decide +kernel)
theorem wzX4_undo : Cond.selects RX4 yX4_undo yX4_undo ∈ x_tbl := x_w 569 (by decide +kernel) (by decide +kernel)
theorem wcX4_save : Cond.code yX4_save cX4_save 2 (some .int) ∈ x_tbl := x_w 574 (by decide +kernel) (by decide +kernel)
theorem okX4_save : xOk kX4_save 0 := ⟨by decide +kernel, by decide +kernel, wcX4_save, wn_RX4⟩
theorem wiX4_save : Cond.instanceMethod yX4_save ∈ x_tbl := x_w 572 (by decide +kernel) (by decide +kernel)
theorem wzX4_save : Cond.selects RX4 yX4_save yX4_save ∈ x_tbl := x_w 573 (by decide +kernel) (by decide +kernel)
theorem wcX4_restore : Cond.code yX4_restore cX4_restore 2 (some .int) ∈ x_tbl := x_w 578 (by decide +kernel) (by decide +kernel)
theorem okX4_restore : xOk kX4_restore 0 := ⟨by decide +kernel, by decide +kernel, wcX4_restore, wn_RX4⟩
theorem wiX4_restore : Cond.instanceMethod yX4_restore ∈ x_tbl := x_w 576 (by decide +kernel) (by decide +kernel)
theorem wzX4_restore : Cond.selects RX4 yX4_restore yX4_restore ∈ x_tbl := x_w 577 (by decide +kernel) (by decide +kernel)
theorem wcX4_record : Cond.code yX4_record cX4_record 2 none ∈ x_tbl := x_w 582 (by decide +kernel) (by decide +kernel)
theorem okX4_record : xOk kX4_record 0 := ⟨by decide +kernel, by decide +kernel, wcX4_record, wn_RX4⟩
theorem wiX4_record : Cond.instanceMethod yX4_record ∈ x_tbl := x_w 581 (by decide +kernel) (by decide +kernel)
theorem wzX4_record : Cond.selects RX4 yX4_record yX4_record ∈ x_tbl := x_w 14 (by decide +kernel) (by decide +kernel)
theorem wcX4_setTop : Cond.code yX4_setTop cX4_setTop 3 (some .int) ∈ x_tbl := x_w 586 (by decide +kernel) (by decide +kernel)
theorem okX4_setTop : xOk kX4_setTop 1 := ⟨by decide +kernel, by decide +kernel, wcX4_setTop, wn_RX4⟩
theorem wiX4_setTop : Cond.instanceMethod yX4_setTop ∈ x_tbl := x_w 584 (by decide +kernel) (by decide +kernel)
theorem wzX4_setTop : Cond.selects RX4 yX4_setTop yX4_setTop ∈ x_tbl := x_w 585 (by decide +kernel) (by decide +kernel)
theorem wcX4_in : Cond.code yX4_in cX4_in 3 (some .boolean) ∈ x_tbl := x_w 589 (by decide +kernel) (by decide +kernel)
theorem okX4_in : xOk kX4_in 3 := ⟨by decide +kernel, by decide +kernel, wcX4_in, wn_RX4⟩
theorem wsX4_in : Cond.static yX4_in ∈ x_tbl := x_w 588 (by decide +kernel) (by decide +kernel)
theorem wcX4_climbersOn : Cond.code yX4_climbersOn cX4_climbersOn 4 (some .int) ∈ x_tbl := x_w 593 (by decide +kernel) (by decide +kernel)
theorem okX4_climbersOn : xOk kX4_climbersOn 1 := ⟨by decide +kernel, by decide +kernel, wcX4_climbersOn, wn_RX4⟩
theorem wiX4_climbersOn : Cond.instanceMethod yX4_climbersOn ∈ x_tbl := x_w 592 (by decide +kernel) (by decide +kernel)
theorem wzX4_climbersOn : Cond.selects RX4 yX4_climbersOn yX4_climbersOn ∈ x_tbl := x_w 15 (by decide +kernel) (by decide +kernel)
theorem wcX4_of : Cond.code yX4_of cX4_of 3 (some .int) ∈ x_tbl := x_w 597 (by decide +kernel) (by decide +kernel)
theorem okX4_of : xOk kX4_of 2 := ⟨by decide +kernel, by decide +kernel, wcX4_of, wn_RX4⟩
theorem wiX4_of : Cond.instanceMethod yX4_of ∈ x_tbl := x_w 596 (by decide +kernel) (by decide +kernel)
theorem wzX4_of : Cond.selects RX4 yX4_of yX4_of ∈ x_tbl := x_w 16 (by decide +kernel) (by decide +kernel)
theorem wcX4_isLanding : Cond.code yX4_isLanding cX4_isLanding 2 (some .boolean) ∈ x_tbl := x_w 601 (by decide +kernel) (by decide +kernel)
theorem okX4_isLanding : xOk kX4_isLanding 1 := ⟨by decide +kernel, by decide +kernel, wcX4_isLanding, wn_RX4⟩
theorem wiX4_isLanding : Cond.instanceMethod yX4_isLanding ∈ x_tbl := x_w 600 (by decide +kernel) (by decide +kernel)
theorem wzX4_isLanding : Cond.selects RX4 yX4_isLanding yX4_isLanding ∈ x_tbl := x_w 17 (by decide +kernel) (by decide +kernel)
theorem wcX4_carpetFrom : Cond.code yX4_carpetFrom cX4_carpetFrom 4 (some .int) ∈ x_tbl := x_w 605 (by decide +kernel) (by decide +kernel)
theorem okX4_carpetFrom : xOk kX4_carpetFrom 1 := ⟨by decide +kernel, by decide +kernel, wcX4_carpetFrom, wn_RX4⟩
theorem wiX4_carpetFrom : Cond.instanceMethod yX4_carpetFrom ∈ x_tbl := x_w 604 (by decide +kernel) (by decide +kernel)
theorem wzX4_carpetFrom : Cond.selects RX4 yX4_carpetFrom yX4_carpetFrom ∈ x_tbl := x_w 18 (by decide +kernel) (by decide +kernel)
theorem wcX4_upper : Cond.code yX4_upper cX4_upper 2 (some .int) ∈ x_tbl := x_w 609 (by decide +kernel) (by decide +kernel)
theorem okX4_upper : xOk kX4_upper 1 := ⟨by decide +kernel, by decide +kernel, wcX4_upper, wn_RX4⟩
theorem wiX4_upper : Cond.instanceMethod yX4_upper ∈ x_tbl := x_w 608 (by decide +kernel) (by decide +kernel)
theorem wzX4_upper : Cond.selects RX4 yX4_upper yX4_upper ∈ x_tbl := x_w 19 (by decide +kernel) (by decide +kernel)
theorem wcX4_lay : Cond.code yX4_lay cX4_lay 4 (some .int) ∈ x_tbl := x_w 613 (by decide +kernel) (by decide +kernel)
theorem okX4_lay : xOk kX4_lay 2 := ⟨by decide +kernel, by decide +kernel, wcX4_lay, wn_RX4⟩
theorem wiX4_lay : Cond.instanceMethod yX4_lay ∈ x_tbl := x_w 611 (by decide +kernel) (by decide +kernel)
theorem wzX4_lay : Cond.selects RX4 yX4_lay yX4_lay ∈ x_tbl := x_w 612 (by decide +kernel) (by decide +kernel)
theorem wcX4_whyNotLay : Cond.code yX4_whyNotLay cX4_whyNotLay 3 (some .int) ∈ x_tbl := x_w 617 (by decide +kernel) (by decide +kernel)
theorem okX4_whyNotLay : xOk kX4_whyNotLay 2 := ⟨by decide +kernel, by decide +kernel, wcX4_whyNotLay, wn_RX4⟩
theorem wiX4_whyNotLay : Cond.instanceMethod yX4_whyNotLay ∈ x_tbl := x_w 616 (by decide +kernel) (by decide +kernel)
theorem wzX4_whyNotLay : Cond.selects RX4 yX4_whyNotLay yX4_whyNotLay ∈ x_tbl := x_w 20 (by decide +kernel) (by decide +kernel)
theorem wcX4_isStep : Cond.code yX4_isStep cX4_isStep 2 (some .boolean) ∈ x_tbl := x_w 621 (by decide +kernel) (by decide +kernel)
theorem okX4_isStep : xOk kX4_isStep 1 := ⟨by decide +kernel, by decide +kernel, wcX4_isStep, wn_RX4⟩
theorem wiX4_isStep : Cond.instanceMethod yX4_isStep ∈ x_tbl := x_w 620 (by decide +kernel) (by decide +kernel)
theorem wzX4_isStep : Cond.selects RX4 yX4_isStep yX4_isStep ∈ x_tbl := x_w 21 (by decide +kernel) (by decide +kernel)
theorem wcX4_carpetsTo : Cond.code yX4_carpetsTo cX4_carpetsTo 4 (some .int) ∈ x_tbl := x_w 625 (by decide +kernel) (by decide +kernel)
theorem okX4_carpetsTo : xOk kX4_carpetsTo 1 := ⟨by decide +kernel, by decide +kernel, wcX4_carpetsTo, wn_RX4⟩
theorem wiX4_carpetsTo : Cond.instanceMethod yX4_carpetsTo ∈ x_tbl := x_w 624 (by decide +kernel) (by decide +kernel)
theorem wzX4_carpetsTo : Cond.selects RX4 yX4_carpetsTo yX4_carpetsTo ∈ x_tbl := x_w 22 (by decide +kernel) (by decide +kernel)
theorem wcX4_lower : Cond.code yX4_lower cX4_lower 2 (some .int) ∈ x_tbl := x_w 629 (by decide +kernel) (by decide +kernel)
theorem okX4_lower : xOk kX4_lower 1 := ⟨by decide +kernel, by decide +kernel, wcX4_lower, wn_RX4⟩
theorem wiX4_lower : Cond.instanceMethod yX4_lower ∈ x_tbl := x_w 628 (by decide +kernel) (by decide +kernel)
theorem wzX4_lower : Cond.selects RX4 yX4_lower yX4_lower ∈ x_tbl := x_w 23 (by decide +kernel) (by decide +kernel)
theorem wcX4_laysCarpet : Cond.code yX4_laysCarpet cX4_laysCarpet 3 (some .int) ∈ x_tbl := x_w 633 (by decide +kernel) (by decide +kernel)
theorem okX4_laysCarpet : xOk kX4_laysCarpet 2 := ⟨by decide +kernel, by decide +kernel, wcX4_laysCarpet, wn_RX4⟩
theorem wiX4_laysCarpet : Cond.instanceMethod yX4_laysCarpet ∈ x_tbl := x_w 632 (by decide +kernel) (by decide +kernel)
theorem wzX4_laysCarpet : Cond.selects RX4 yX4_laysCarpet yX4_laysCarpet ∈ x_tbl := x_w 24 (by decide +kernel) (by decide +kernel)
theorem wcX4_take : Cond.code yX4_take cX4_take 4 (some .int) ∈ x_tbl := x_w 637 (by decide +kernel) (by decide +kernel)
theorem okX4_take : xOk kX4_take 1 := ⟨by decide +kernel, by decide +kernel, wcX4_take, wn_RX4⟩
theorem wiX4_take : Cond.instanceMethod yX4_take ∈ x_tbl := x_w 635 (by decide +kernel) (by decide +kernel)
theorem wzX4_take : Cond.selects RX4 yX4_take yX4_take ∈ x_tbl := x_w 636 (by decide +kernel) (by decide +kernel)
theorem wcX4_put : Cond.code yX4_put cX4_put 3 (some .int) ∈ x_tbl := x_w 641 (by decide +kernel) (by decide +kernel)
theorem okX4_put : xOk kX4_put 1 := ⟨by decide +kernel, by decide +kernel, wcX4_put, wn_RX4⟩
theorem wiX4_put : Cond.instanceMethod yX4_put ∈ x_tbl := x_w 639 (by decide +kernel) (by decide +kernel)
theorem wzX4_put : Cond.selects RX4 yX4_put yX4_put ∈ x_tbl := x_w 640 (by decide +kernel) (by decide +kernel)
theorem wcX4_whyNotPut : Cond.code yX4_whyNotPut cX4_whyNotPut 2 (some .int) ∈ x_tbl := x_w 645 (by decide +kernel) (by decide +kernel)
theorem okX4_whyNotPut : xOk kX4_whyNotPut 1 := ⟨by decide +kernel, by decide +kernel, wcX4_whyNotPut, wn_RX4⟩
theorem wiX4_whyNotPut : Cond.instanceMethod yX4_whyNotPut ∈ x_tbl := x_w 644 (by decide +kernel) (by decide +kernel)
theorem wzX4_whyNotPut : Cond.selects RX4 yX4_whyNotPut yX4_whyNotPut ∈ x_tbl := x_w 25 (by decide +kernel) (by decide +kernel)
theorem wcX4_puts : Cond.code yX4_puts cX4_puts 2 (some .int) ∈ x_tbl := x_w 649 (by decide +kernel) (by decide +kernel)
theorem okX4_puts : xOk kX4_puts 1 := ⟨by decide +kernel, by decide +kernel, wcX4_puts, wn_RX4⟩
theorem wiX4_puts : Cond.instanceMethod yX4_puts ∈ x_tbl := x_w 648 (by decide +kernel) (by decide +kernel)
theorem wzX4_puts : Cond.selects RX4 yX4_puts yX4_puts ∈ x_tbl := x_w 26 (by decide +kernel) (by decide +kernel)
theorem wcX4_landings : Cond.code yX4_landings cX4_landings 3 (some .int) ∈ x_tbl := x_w 653 (by decide +kernel) (by decide +kernel)
theorem okX4_landings : xOk kX4_landings 0 := ⟨by decide +kernel, by decide +kernel, wcX4_landings, wn_RX4⟩
theorem wiX4_landings : Cond.instanceMethod yX4_landings ∈ x_tbl := x_w 652 (by decide +kernel) (by decide +kernel)
theorem wzX4_landings : Cond.selects RX4 yX4_landings yX4_landings ∈ x_tbl := x_w 27 (by decide +kernel) (by decide +kernel)
theorem wcX4_remove : Cond.code yX4_remove cX4_remove 2 (some .int) ∈ x_tbl := x_w 657 (by decide +kernel) (by decide +kernel)
theorem okX4_remove : xOk kX4_remove 1 := ⟨by decide +kernel, by decide +kernel, wcX4_remove, wn_RX4⟩
theorem wiX4_remove : Cond.instanceMethod yX4_remove ∈ x_tbl := x_w 655 (by decide +kernel) (by decide +kernel)
theorem wzX4_remove : Cond.selects RX4 yX4_remove yX4_remove ∈ x_tbl := x_w 656 (by decide +kernel) (by decide +kernel)
theorem wcX4_bits : Cond.code yX4_bits cX4_bits 3 (some .int) ∈ x_tbl := x_w 660 (by decide +kernel) (by decide +kernel)
theorem okX4_bits : xOk kX4_bits 1 := ⟨by decide +kernel, by decide +kernel, wcX4_bits, wn_RX4⟩
theorem wsX4_bits : Cond.static yX4_bits ∈ x_tbl := x_w 659 (by decide +kernel) (by decide +kernel)
theorem wcX4_join : Cond.code yX4_join cX4_join 1 (some .int) ∈ x_tbl := x_w 664 (by decide +kernel) (by decide +kernel)
theorem okX4_join : xOk kX4_join 0 := ⟨by decide +kernel, by decide +kernel, wcX4_join, wn_RX4⟩
theorem wiX4_join : Cond.instanceMethod yX4_join ∈ x_tbl := x_w 662 (by decide +kernel) (by decide +kernel)
theorem wzX4_join : Cond.selects RX4 yX4_join yX4_join ∈ x_tbl := x_w 663 (by decide +kernel) (by decide +kernel)
theorem wcX4_joins : Cond.code yX4_joins cX4_joins 2 (some .int) ∈ x_tbl := x_w 668 (by decide +kernel) (by decide +kernel)
theorem okX4_joins : xOk kX4_joins 0 := ⟨by decide +kernel, by decide +kernel, wcX4_joins, wn_RX4⟩
theorem wiX4_joins : Cond.instanceMethod yX4_joins ∈ x_tbl := x_w 667 (by decide +kernel) (by decide +kernel)
theorem wzX4_joins : Cond.selects RX4 yX4_joins yX4_joins ∈ x_tbl := x_w 28 (by decide +kernel) (by decide +kernel)
theorem wcX4_lays : Cond.code yX4_lays cX4_lays 4 none ∈ x_tbl := x_w 672 (by decide +kernel) (by decide +kernel)
theorem okX4_lays : xOk kX4_lays 3 := ⟨by decide +kernel, by decide +kernel, wcX4_lays, wn_RX4⟩
theorem wiX4_lays : Cond.instanceMethod yX4_lays ∈ x_tbl := x_w 671 (by decide +kernel) (by decide +kernel)
theorem wzX4_lays : Cond.selects RX4 yX4_lays yX4_lays ∈ x_tbl := x_w 29 (by decide +kernel) (by decide +kernel)
theorem wcX4_roll : Cond.code yX4_roll cX4_roll 3 (some .int) ∈ x_tbl := x_w 676 (by decide +kernel) (by decide +kernel)
theorem okX4_roll : xOk kX4_roll 1 := ⟨by decide +kernel, by decide +kernel, wcX4_roll, wn_RX4⟩
theorem wiX4_roll : Cond.instanceMethod yX4_roll ∈ x_tbl := x_w 674 (by decide +kernel) (by decide +kernel)
theorem wzX4_roll : Cond.selects RX4 yX4_roll yX4_roll ∈ x_tbl := x_w 675 (by decide +kernel) (by decide +kernel)
theorem wcX4_whyNotRoll : Cond.code yX4_whyNotRoll cX4_whyNotRoll 2 (some .int) ∈ x_tbl := x_w 680 (by decide +kernel) (by decide +kernel)
theorem okX4_whyNotRoll : xOk kX4_whyNotRoll 1 := ⟨by decide +kernel, by decide +kernel, wcX4_whyNotRoll, wn_RX4⟩
theorem wiX4_whyNotRoll : Cond.instanceMethod yX4_whyNotRoll ∈ x_tbl := x_w 679 (by decide +kernel) (by decide +kernel)
theorem wzX4_whyNotRoll : Cond.selects RX4 yX4_whyNotRoll yX4_whyNotRoll ∈ x_tbl := x_w 30 (by decide +kernel) (by decide +kernel)
theorem wcX4_rolls : Cond.code yX4_rolls cX4_rolls 6 (some .int) ∈ x_tbl := x_w 684 (by decide +kernel) (by decide +kernel)
theorem okX4_rolls : xOk kX4_rolls 1 := ⟨by decide +kernel, by decide +kernel, wcX4_rolls, wn_RX4⟩
theorem wiX4_rolls : Cond.instanceMethod yX4_rolls ∈ x_tbl := x_w 683 (by decide +kernel) (by decide +kernel)
theorem wzX4_rolls : Cond.selects RX4 yX4_rolls yX4_rolls ∈ x_tbl := x_w 31 (by decide +kernel) (by decide +kernel)
theorem wcX4_passedBy : Cond.code yX4_passedBy cX4_passedBy 4 (some .int) ∈ x_tbl := x_w 688 (by decide +kernel) (by decide +kernel)
theorem okX4_passedBy : xOk kX4_passedBy 1 := ⟨by decide +kernel, by decide +kernel, wcX4_passedBy, wn_RX4⟩
theorem wiX4_passedBy : Cond.instanceMethod yX4_passedBy ∈ x_tbl := x_w 687 (by decide +kernel) (by decide +kernel)
theorem wzX4_passedBy : Cond.selects RX4 yX4_passedBy yX4_passedBy ∈ x_tbl := x_w 32 (by decide +kernel) (by decide +kernel)
theorem wcX4_isPassed : Cond.code yX4_isPassed cX4_isPassed 4 (some .boolean) ∈ x_tbl := x_w 692 (by decide +kernel) (by decide +kernel)
theorem okX4_isPassed : xOk kX4_isPassed 2 := ⟨by decide +kernel, by decide +kernel, wcX4_isPassed, wn_RX4⟩
theorem wiX4_isPassed : Cond.instanceMethod yX4_isPassed ∈ x_tbl := x_w 691 (by decide +kernel) (by decide +kernel)
theorem wzX4_isPassed : Cond.selects RX4 yX4_isPassed yX4_isPassed ∈ x_tbl := x_w 33 (by decide +kernel) (by decide +kernel)
theorem wcX4_highest : Cond.code yX4_highest cX4_highest 4 (some .int) ∈ x_tbl := x_w 696 (by decide +kernel) (by decide +kernel)
theorem okX4_highest : xOk kX4_highest 1 := ⟨by decide +kernel, by decide +kernel, wcX4_highest, wn_RX4⟩
theorem wiX4_highest : Cond.instanceMethod yX4_highest ∈ x_tbl := x_w 695 (by decide +kernel) (by decide +kernel)
theorem wzX4_highest : Cond.selects RX4 yX4_highest yX4_highest ∈ x_tbl := x_w 34 (by decide +kernel) (by decide +kernel)
theorem wcX4_comes : Cond.code yX4_comes cX4_comes 4 none ∈ x_tbl := x_w 700 (by decide +kernel) (by decide +kernel)
theorem okX4_comes : xOk kX4_comes 2 := ⟨by decide +kernel, by decide +kernel, wcX4_comes, wn_RX4⟩
theorem wiX4_comes : Cond.instanceMethod yX4_comes ∈ x_tbl := x_w 699 (by decide +kernel) (by decide +kernel)
theorem wzX4_comes : Cond.selects RX4 yX4_comes yX4_comes ∈ x_tbl := x_w 35 (by decide +kernel) (by decide +kernel)
theorem wcX4_nextMover : Cond.code yX4_nextMover cX4_nextMover 2 none ∈ x_tbl := x_w 704 (by decide +kernel) (by decide +kernel)
theorem okX4_nextMover : xOk kX4_nextMover 0 := ⟨by decide +kernel, by decide +kernel, wcX4_nextMover, wn_RX4⟩
theorem wiX4_nextMover : Cond.instanceMethod yX4_nextMover ∈ x_tbl := x_w 703 (by decide +kernel) (by decide +kernel)
theorem wzX4_nextMover : Cond.selects RX4 yX4_nextMover yX4_nextMover ∈ x_tbl := x_w 36 (by decide +kernel) (by decide +kernel)
theorem wcX4_pass : Cond.code yX4_pass cX4_pass 1 (some .int) ∈ x_tbl := x_w 708 (by decide +kernel) (by decide +kernel)
theorem okX4_pass : xOk kX4_pass 0 := ⟨by decide +kernel, by decide +kernel, wcX4_pass, wn_RX4⟩
theorem wiX4_pass : Cond.instanceMethod yX4_pass ∈ x_tbl := x_w 706 (by decide +kernel) (by decide +kernel)
theorem wzX4_pass : Cond.selects RX4 yX4_pass yX4_pass ∈ x_tbl := x_w 707 (by decide +kernel) (by decide +kernel)
theorem wcX4_climber : Cond.code yX4_climber cX4_climber 3 (some .int) ∈ x_tbl := x_w 712 (by decide +kernel) (by decide +kernel)
theorem okX4_climber : xOk kX4_climber 2 := ⟨by decide +kernel, by decide +kernel, wcX4_climber, wn_RX4⟩
theorem wiX4_climber : Cond.instanceMethod yX4_climber ∈ x_tbl := x_w 710 (by decide +kernel) (by decide +kernel)
theorem wzX4_climber : Cond.selects RX4 yX4_climber yX4_climber ∈ x_tbl := x_w 711 (by decide +kernel) (by decide +kernel)
theorem wcX4_isClimber : Cond.code yX4_isClimber cX4_isClimber 2 (some .boolean) ∈ x_tbl := x_w 716 (by decide +kernel) (by decide +kernel)
theorem okX4_isClimber : xOk kX4_isClimber 1 := ⟨by decide +kernel, by decide +kernel, wcX4_isClimber, wn_RX4⟩
theorem wiX4_isClimber : Cond.instanceMethod yX4_isClimber ∈ x_tbl := x_w 715 (by decide +kernel) (by decide +kernel)
theorem wzX4_isClimber : Cond.selects RX4 yX4_isClimber yX4_isClimber ∈ x_tbl := x_w 37 (by decide +kernel) (by decide +kernel)
theorem wcX4_progress : Cond.code yX4_progress cX4_progress 2 (some .int) ∈ x_tbl := x_w 720 (by decide +kernel) (by decide +kernel)
theorem okX4_progress : xOk kX4_progress 1 := ⟨by decide +kernel, by decide +kernel, wcX4_progress, wn_RX4⟩
theorem wiX4_progress : Cond.instanceMethod yX4_progress ∈ x_tbl := x_w 719 (by decide +kernel) (by decide +kernel)
theorem wzX4_progress : Cond.selects RX4 yX4_progress yX4_progress ∈ x_tbl := x_w 38 (by decide +kernel) (by decide +kernel)
theorem wcX4_turn : Cond.code yX4_turn cX4_turn 1 (some .int) ∈ x_tbl := x_w 724 (by decide +kernel) (by decide +kernel)
theorem okX4_turn : xOk kX4_turn 0 := ⟨by decide +kernel, by decide +kernel, wcX4_turn, wn_RX4⟩
theorem wiX4_turn : Cond.instanceMethod yX4_turn ∈ x_tbl := x_w 722 (by decide +kernel) (by decide +kernel)
theorem wzX4_turn : Cond.selects RX4 yX4_turn yX4_turn ∈ x_tbl := x_w 723 (by decide +kernel) (by decide +kernel)
theorem wcX4_on : Cond.code yX4_on cX4_on 2 (some .int) ∈ x_tbl := x_w 728 (by decide +kernel) (by decide +kernel)
theorem okX4_on : xOk kX4_on 1 := ⟨by decide +kernel, by decide +kernel, wcX4_on, wn_RX4⟩
theorem wiX4_on : Cond.instanceMethod yX4_on ∈ x_tbl := x_w 726 (by decide +kernel) (by decide +kernel)
theorem wzX4_on : Cond.selects RX4 yX4_on yX4_on ∈ x_tbl := x_w 727 (by decide +kernel) (by decide +kernel)
theorem wcX4_step : Cond.code yX4_step cX4_step 4 (some .int) ∈ x_tbl := x_w 732 (by decide +kernel) (by decide +kernel)
theorem okX4_step : xOk kX4_step 2 := ⟨by decide +kernel, by decide +kernel, wcX4_step, wn_RX4⟩
theorem wiX4_step : Cond.instanceMethod yX4_step ∈ x_tbl := x_w 730 (by decide +kernel) (by decide +kernel)
theorem wzX4_step : Cond.selects RX4 yX4_step yX4_step ∈ x_tbl := x_w 731 (by decide +kernel) (by decide +kernel)
theorem wcX4_total : Cond.code yX4_total cX4_total 2 (some .int) ∈ x_tbl := x_w 736 (by decide +kernel) (by decide +kernel)
theorem okX4_total : xOk kX4_total 1 := ⟨by decide +kernel, by decide +kernel, wcX4_total, wn_RX4⟩
theorem wiX4_total : Cond.instanceMethod yX4_total ∈ x_tbl := x_w 734 (by decide +kernel) (by decide +kernel)
theorem wzX4_total : Cond.selects RX4 yX4_total yX4_total ∈ x_tbl := x_w 735 (by decide +kernel) (by decide +kernel)
theorem wcX4_allTops : Cond.code yX4_allTops cX4_allTops 3 (some .int) ∈ x_tbl := x_w 740 (by decide +kernel) (by decide +kernel)
theorem okX4_allTops : xOk kX4_allTops 0 := ⟨by decide +kernel, by decide +kernel, wcX4_allTops, wn_RX4⟩
theorem wiX4_allTops : Cond.instanceMethod yX4_allTops ∈ x_tbl := x_w 739 (by decide +kernel) (by decide +kernel)
theorem wzX4_allTops : Cond.selects RX4 yX4_allTops yX4_allTops ∈ x_tbl := x_w 39 (by decide +kernel) (by decide +kernel)
theorem wcX4_rank : Cond.code yX4_rank cX4_rank 4 (some .int) ∈ x_tbl := x_w 744 (by decide +kernel) (by decide +kernel)
theorem okX4_rank : xOk kX4_rank 1 := ⟨by decide +kernel, by decide +kernel, wcX4_rank, wn_RX4⟩
theorem wiX4_rank : Cond.instanceMethod yX4_rank ∈ x_tbl := x_w 742 (by decide +kernel) (by decide +kernel)
theorem wzX4_rank : Cond.selects RX4 yX4_rank yX4_rank ∈ x_tbl := x_w 743 (by decide +kernel) (by decide +kernel)
theorem wcX4_ahead : Cond.code yX4_ahead cX4_ahead 4 (some .int) ∈ x_tbl := x_w 748 (by decide +kernel) (by decide +kernel)
theorem okX4_ahead : xOk kX4_ahead 1 := ⟨by decide +kernel, by decide +kernel, wcX4_ahead, wn_RX4⟩
theorem wiX4_ahead : Cond.instanceMethod yX4_ahead ∈ x_tbl := x_w 747 (by decide +kernel) (by decide +kernel)
theorem wzX4_ahead : Cond.selects RX4 yX4_ahead yX4_ahead ∈ x_tbl := x_w 40 (by decide +kernel) (by decide +kernel)
theorem wcX4_ifRolled : Cond.code yX4_ifRolled cX4_ifRolled 5 (some .int) ∈ x_tbl := x_w 752 (by decide +kernel) (by decide +kernel)
theorem okX4_ifRolled : xOk kX4_ifRolled 2 := ⟨by decide +kernel, by decide +kernel, wcX4_ifRolled, wn_RX4⟩
theorem wiX4_ifRolled : Cond.instanceMethod yX4_ifRolled ∈ x_tbl := x_w 750 (by decide +kernel) (by decide +kernel)
theorem wzX4_ifRolled : Cond.selects RX4 yX4_ifRolled yX4_ifRolled ∈ x_tbl := x_w 751 (by decide +kernel) (by decide +kernel)
theorem wcX4_putAside : Cond.code yX4_putAside cX4_putAside 2 none ∈ x_tbl := x_w 756 (by decide +kernel) (by decide +kernel)
theorem okX4_putAside : xOk kX4_putAside 0 := ⟨by decide +kernel, by decide +kernel, wcX4_putAside, wn_RX4⟩
theorem wiX4_putAside : Cond.instanceMethod yX4_putAside ∈ x_tbl := x_w 755 (by decide +kernel) (by decide +kernel)
theorem wzX4_putAside : Cond.selects RX4 yX4_putAside yX4_putAside ∈ x_tbl := x_w 41 (by decide +kernel) (by decide +kernel)
theorem wcX4_takeBack : Cond.code yX4_takeBack cX4_takeBack 2 none ∈ x_tbl := x_w 760 (by decide +kernel) (by decide +kernel)
theorem okX4_takeBack : xOk kX4_takeBack 0 := ⟨by decide +kernel, by decide +kernel, wcX4_takeBack, wn_RX4⟩
theorem wiX4_takeBack : Cond.instanceMethod yX4_takeBack ∈ x_tbl := x_w 759 (by decide +kernel) (by decide +kernel)
theorem wzX4_takeBack : Cond.selects RX4 yX4_takeBack yX4_takeBack ∈ x_tbl := x_w 42 (by decide +kernel) (by decide +kernel)
theorem wcX4_bestRoll : Cond.code yX4_bestRoll cX4_bestRoll 7 (some .int) ∈ x_tbl := x_w 764 (by decide +kernel) (by decide +kernel)
theorem okX4_bestRoll : xOk kX4_bestRoll 0 := ⟨by decide +kernel, by decide +kernel, wcX4_bestRoll, wn_RX4⟩
theorem wiX4_bestRoll : Cond.instanceMethod yX4_bestRoll ∈ x_tbl := x_w 762 (by decide +kernel) (by decide +kernel)
theorem wzX4_bestRoll : Cond.selects RX4 yX4_bestRoll yX4_bestRoll ∈ x_tbl := x_w 763 (by decide +kernel) (by decide +kernel)
theorem wcX4_worth : Cond.code yX4_worth cX4_worth 4 (some .int) ∈ x_tbl := x_w 768 (by decide +kernel) (by decide +kernel)
theorem okX4_worth : xOk kX4_worth 1 := ⟨by decide +kernel, by decide +kernel, wcX4_worth, wn_RX4⟩
theorem wiX4_worth : Cond.instanceMethod yX4_worth ∈ x_tbl := x_w 767 (by decide +kernel) (by decide +kernel)
theorem wzX4_worth : Cond.selects RX4 yX4_worth yX4_worth ∈ x_tbl := x_w 43 (by decide +kernel) (by decide +kernel)
theorem wcX4_quietRolls : Cond.code yX4_quietRolls cX4_quietRolls 3 (some .int) ∈ x_tbl := x_w 772 (by decide +kernel) (by decide +kernel)
theorem okX4_quietRolls : xOk kX4_quietRolls 0 := ⟨by decide +kernel, by decide +kernel, wcX4_quietRolls, wn_RX4⟩
theorem wiX4_quietRolls : Cond.instanceMethod yX4_quietRolls ∈ x_tbl := x_w 770 (by decide +kernel) (by decide +kernel)
theorem wzX4_quietRolls : Cond.selects RX4 yX4_quietRolls yX4_quietRolls ∈ x_tbl := x_w 771 (by decide +kernel) (by decide +kernel)
theorem wcX4_rollsToTop : Cond.code yX4_rollsToTop cX4_rollsToTop 7 (some .int) ∈ x_tbl := x_w 776 (by decide +kernel) (by decide +kernel)
theorem okX4_rollsToTop : xOk kX4_rollsToTop 1 := ⟨by decide +kernel, by decide +kernel, wcX4_rollsToTop, wn_RX4⟩
theorem wiX4_rollsToTop : Cond.instanceMethod yX4_rollsToTop ∈ x_tbl := x_w 774 (by decide +kernel) (by decide +kernel)
theorem wzX4_rollsToTop : Cond.selects RX4 yX4_rollsToTop yX4_rollsToTop ∈ x_tbl := x_w 775 (by decide +kernel) (by decide +kernel)
theorem wcX4_append : Cond.code yX4_append cX4_append 2 (some .int) ∈ x_tbl := x_w 780 (by decide +kernel) (by decide +kernel)
theorem okX4_append : xOk kX4_append 1 := ⟨by decide +kernel, by decide +kernel, wcX4_append, wn_RX4⟩
theorem wiX4_append : Cond.instanceMethod yX4_append ∈ x_tbl := x_w 778 (by decide +kernel) (by decide +kernel)
theorem wzX4_append : Cond.selects RX4 yX4_append yX4_append ∈ x_tbl := x_w 779 (by decide +kernel) (by decide +kernel)
theorem wcX4_clearText : Cond.code yX4_clearText cX4_clearText 2 (some .int) ∈ x_tbl := x_w 784 (by decide +kernel) (by decide +kernel)
theorem okX4_clearText : xOk kX4_clearText 0 := ⟨by decide +kernel, by decide +kernel, wcX4_clearText, wn_RX4⟩
theorem wiX4_clearText : Cond.instanceMethod yX4_clearText ∈ x_tbl := x_w 782 (by decide +kernel) (by decide +kernel)
theorem wzX4_clearText : Cond.selects RX4 yX4_clearText yX4_clearText ∈ x_tbl := x_w 783 (by decide +kernel) (by decide +kernel)
theorem wcX4_errorPosition : Cond.code yX4_errorPosition cX4_errorPosition 2 (some .int) ∈ x_tbl := x_w 788 (by decide +kernel) (by decide +kernel)
theorem okX4_errorPosition : xOk kX4_errorPosition 0 := ⟨by decide +kernel, by decide +kernel, wcX4_errorPosition, wn_RX4⟩
theorem wiX4_errorPosition : Cond.instanceMethod yX4_errorPosition ∈ x_tbl := x_w 786 (by decide +kernel) (by decide +kernel)
theorem wzX4_errorPosition : Cond.selects RX4 yX4_errorPosition yX4_errorPosition ∈ x_tbl := x_w 787 (by decide +kernel) (by decide +kernel)
theorem wcX4_readMove : Cond.code yX4_readMove cX4_readMove 3 none ∈ x_tbl := x_w 792 (by decide +kernel) (by decide +kernel)
theorem okX4_readMove : xOk kX4_readMove 0 := ⟨by decide +kernel, by decide +kernel, wcX4_readMove, wn_RX4⟩
theorem wiX4_readMove : Cond.instanceMethod yX4_readMove ∈ x_tbl := x_w 791 (by decide +kernel) (by decide +kernel)
theorem wzX4_readMove : Cond.selects RX4 yX4_readMove yX4_readMove ∈ x_tbl := x_w 44 (by decide +kernel) (by decide +kernel)
theorem wcX4_letter : Cond.code yX4_letter cX4_letter 1 (some .int) ∈ x_tbl := x_w 796 (by decide +kernel) (by decide +kernel)
theorem okX4_letter : xOk kX4_letter 0 := ⟨by decide +kernel, by decide +kernel, wcX4_letter, wn_RX4⟩
theorem wiX4_letter : Cond.instanceMethod yX4_letter ∈ x_tbl := x_w 795 (by decide +kernel) (by decide +kernel)
theorem wzX4_letter : Cond.selects RX4 yX4_letter yX4_letter ∈ x_tbl := x_w 45 (by decide +kernel) (by decide +kernel)
theorem wcX4_wants : Cond.code yX4_wants cX4_wants 2 none ∈ x_tbl := x_w 800 (by decide +kernel) (by decide +kernel)
theorem okX4_wants : xOk kX4_wants 1 := ⟨by decide +kernel, by decide +kernel, wcX4_wants, wn_RX4⟩
theorem wiX4_wants : Cond.instanceMethod yX4_wants ∈ x_tbl := x_w 799 (by decide +kernel) (by decide +kernel)
theorem wzX4_wants : Cond.selects RX4 yX4_wants yX4_wants ∈ x_tbl := x_w 46 (by decide +kernel) (by decide +kernel)
theorem wcX4_number : Cond.code yX4_number cX4_number 3 (some .int) ∈ x_tbl := x_w 804 (by decide +kernel) (by decide +kernel)
theorem okX4_number : xOk kX4_number 0 := ⟨by decide +kernel, by decide +kernel, wcX4_number, wn_RX4⟩
theorem wiX4_number : Cond.instanceMethod yX4_number ∈ x_tbl := x_w 803 (by decide +kernel) (by decide +kernel)
theorem wzX4_number : Cond.selects RX4 yX4_number yX4_number ∈ x_tbl := x_w 47 (by decide +kernel) (by decide +kernel)
theorem wcX4_play : Cond.code yX4_play cX4_play 2 (some .int) ∈ x_tbl := x_w 808 (by decide +kernel) (by decide +kernel)
theorem okX4_play : xOk kX4_play 0 := ⟨by decide +kernel, by decide +kernel, wcX4_play, wn_RX4⟩
theorem wiX4_play : Cond.instanceMethod yX4_play ∈ x_tbl := x_w 806 (by decide +kernel) (by decide +kernel)
theorem wzX4_play : Cond.selects RX4 yX4_play yX4_play ∈ x_tbl := x_w 807 (by decide +kernel) (by decide +kernel)
theorem wcX4_makeOne : Cond.code yX4_makeOne cX4_makeOne 5 (some .int) ∈ x_tbl := x_w 813 (by decide +kernel) (by decide +kernel)
theorem okX4_makeOne : xOk kX4_makeOne 1 := ⟨by decide +kernel, by decide +kernel, wcX4_makeOne, wn_RX4⟩
theorem wiX4_makeOne : Cond.instanceMethod yX4_makeOne ∈ x_tbl := x_w 812 (by decide +kernel) (by decide +kernel)
theorem wzX4_makeOne : Cond.selects RX4 yX4_makeOne yX4_makeOne ∈ x_tbl := x_w 48 (by decide +kernel) (by decide +kernel)
theorem wl_L_9 : Cond.methodLink RL 9 yX3_init ∈ x_tbl := x_w 59 (by decide +kernel) (by decide +kernel)
theorem wl_X3_1 : Cond.methodLink RX3 1 objectInit ∈ x_tbl := x_w 62 (by decide +kernel) (by decide +kernel)
theorem wl_X3_9 : Cond.methodLink RX3 9 yX0_init ∈ x_tbl := x_w 67 (by decide +kernel) (by decide +kernel)
theorem wl_X0_3 : Cond.methodLink RX0 3 objectInit ∈ x_tbl := x_w 70 (by decide +kernel) (by decide +kernel)
theorem wl_X3_27 : Cond.methodLink RX3 27 yX1_init ∈ x_tbl := x_w 117 (by decide +kernel) (by decide +kernel)
theorem wl_X1_3 : Cond.methodLink RX1 3 objectInit ∈ x_tbl := x_w 120 (by decide +kernel) (by decide +kernel)
theorem wl_X1_21 : Cond.methodLink RX1 21 yX0_init ∈ x_tbl := x_w 123 (by decide +kernel) (by decide +kernel)
theorem wl_X3_34 : Cond.methodLinkNest RX3 34 yX2_init RX3 ∈ x_nests := x_wn 133 (by decide +kernel) (by decide +kernel)
theorem wl_X2_3 : Cond.methodLink RX2 3 objectInit ∈ x_tbl := x_w 136 (by decide +kernel) (by decide +kernel)
theorem wl_L_13 : Cond.methodLink RL 13 yX3_setTop ∈ x_tbl := x_w 168 (by decide +kernel) (by decide +kernel)
theorem wl_X3_43 : Cond.methodLink RX3 43 yX0_copyFrom ∈ x_tbl := x_w 172 (by decide +kernel) (by decide +kernel)
theorem wl_X0_53 : Cond.methodLink RX0 53 arraycopyName ∈ x_tbl := x_w 176 (by decide +kernel) (by decide +kernel)
theorem wl_X3_47 : Cond.methodLink RX3 47 yX0_changeTop ∈ x_tbl := x_w 179 (by decide +kernel) (by decide +kernel)
theorem wl_X0_63 : Cond.methodLink RX0 63 yX0_isUpperEnd ∈ x_tbl := x_w 183 (by decide +kernel) (by decide +kernel)
theorem wl_X0_66 : Cond.methodLink RX0 66 yX0_climbersOn ∈ x_tbl := x_w 187 (by decide +kernel) (by decide +kernel)
theorem wl_X3_51 : Cond.methodLink RX3 51 yX3_recordUnlessError ∈ x_tbl := x_w 191 (by decide +kernel) (by decide +kernel)
theorem wl_X3_153 : Cond.methodLink RX3 153 yX1_keep ∈ x_tbl := x_w 195 (by decide +kernel) (by decide +kernel)
theorem wl_X1_22 : Cond.methodLink RX1 22 yX1_makeOldestLast ∈ x_tbl := x_w 199 (by decide +kernel) (by decide +kernel)
theorem wl_X1_25 : Cond.methodLink RX1 25 yX0_copyFrom ∈ x_tbl := x_w 203 (by decide +kernel) (by decide +kernel)
theorem wl_L_18 : Cond.methodLink RL 18 yX3_lay ∈ x_tbl := x_w 204 (by decide +kernel) (by decide +kernel)
theorem wl_X3_54 : Cond.methodLink RX3 54 yX0_layCarpet ∈ x_tbl := x_w 208 (by decide +kernel) (by decide +kernel)
theorem wl_X0_70 : Cond.methodLink RX0 70 yX0_isBelowTop ∈ x_tbl := x_w 212 (by decide +kernel) (by decide +kernel)
theorem wl_X0_73 : Cond.methodLink RX0 73 yX0_lowerEndsAt ∈ x_tbl := x_w 216 (by decide +kernel) (by decide +kernel)
theorem wl_X0_76 : Cond.methodLink RX0 76 yX0_countCarpets ∈ x_tbl := x_w 220 (by decide +kernel) (by decide +kernel)
theorem wl_L_23 : Cond.methodLink RL 23 yX3_take ∈ x_tbl := x_w 224 (by decide +kernel) (by decide +kernel)
theorem wl_X3_58 : Cond.methodLink RX3 58 yX0_takeCarpet ∈ x_tbl := x_w 228 (by decide +kernel) (by decide +kernel)
theorem wl_L_27 : Cond.methodLink RL 27 yX3_put ∈ x_tbl := x_w 232 (by decide +kernel) (by decide +kernel)
theorem wl_X3_61 : Cond.methodLink RX3 61 yX0_putLanding ∈ x_tbl := x_w 236 (by decide +kernel) (by decide +kernel)
theorem wl_X0_80 : Cond.methodLink RX0 80 yX0_countLandings ∈ x_tbl := x_w 240 (by decide +kernel) (by decide +kernel)
theorem wl_X0_83 : Cond.methodLink RX0 83 yX0_isLanding ∈ x_tbl := x_w 244 (by decide +kernel) (by decide +kernel)
theorem wl_L_31 : Cond.methodLink RL 31 yX3_remove ∈ x_tbl := x_w 248 (by decide +kernel) (by decide +kernel)
theorem wl_X3_64 : Cond.methodLink RX3 64 yX0_removeLanding ∈ x_tbl := x_w 252 (by decide +kernel) (by decide +kernel)
theorem wl_X0_86 : Cond.methodLink RX0 86 yJ6_bitCount_0f7a4 ∈ x_tbl := x_w 256 (by decide +kernel) (by decide +kernel)
theorem wl_L_35 : Cond.methodLink RL 35 yX3_join ∈ x_tbl := x_w 262 (by decide +kernel) (by decide +kernel)
theorem wl_X3_67 : Cond.methodLink RX3 67 yX0_addClimber ∈ x_tbl := x_w 266 (by decide +kernel) (by decide +kernel)
theorem wl_L_40 : Cond.methodLink RL 40 yX3_roll ∈ x_tbl := x_w 270 (by decide +kernel) (by decide +kernel)
theorem wl_X3_71 : Cond.methodLink RX3 71 yX0_makeRoll ∈ x_tbl := x_w 274 (by decide +kernel) (by decide +kernel)
theorem wl_X0_91 : Cond.methodLinkNest RX0 91 yX3_isRoll RX3 ∈ x_nests := x_wn 278 (by decide +kernel) (by decide +kernel)
theorem wl_X0_94 : Cond.methodLink RX0 94 yX0_hasMover ∈ x_tbl := x_w 281 (by decide +kernel) (by decide +kernel)
theorem wl_X0_59 : Cond.methodLink RX0 59 yX0_isClimber ∈ x_tbl := x_w 285 (by decide +kernel) (by decide +kernel)
theorem wl_X0_98 : Cond.methodLink RX0 98 yX0_liftThosePassed ∈ x_tbl := x_w 289 (by decide +kernel) (by decide +kernel)
theorem wl_X0_109 : Cond.methodLink RX0 109 yX0_isPassed ∈ x_tbl := x_w 293 (by decide +kernel) (by decide +kernel)
theorem wl_X0_102 : Cond.methodLink RX0 102 yX0_comeTo ∈ x_tbl := x_w 297 (by decide +kernel) (by decide +kernel)
theorem wl_X0_106 : Cond.methodLink RX0 106 yX0_goToNextMover ∈ x_tbl := x_w 301 (by decide +kernel) (by decide +kernel)
theorem wl_X0_113 : Cond.methodLink RX0 113 yX0_behind ∈ x_tbl := x_w 305 (by decide +kernel) (by decide +kernel)
theorem wl_L_44 : Cond.methodLink RL 44 yX3_pass ∈ x_tbl := x_w 309 (by decide +kernel) (by decide +kernel)
theorem wl_X3_74 : Cond.methodLink RX3 74 yX0_makePass ∈ x_tbl := x_w 313 (by decide +kernel) (by decide +kernel)
theorem wl_L_48 : Cond.methodLink RL 48 yX3_climber ∈ x_tbl := x_w 317 (by decide +kernel) (by decide +kernel)
theorem wl_X3_77 : Cond.methodLink RX3 77 yX0_partOfClimber ∈ x_tbl := x_w 321 (by decide +kernel) (by decide +kernel)
theorem wl_X0_116 : Cond.methodLink RX0 116 yX0_progressOf ∈ x_tbl := x_w 325 (by decide +kernel) (by decide +kernel)
theorem wl_L_52 : Cond.methodLink RL 52 yX3_turn ∈ x_tbl := x_w 329 (by decide +kernel) (by decide +kernel)
theorem wl_X3_80 : Cond.methodLink RX3 80 yX0_hasMover ∈ x_tbl := x_w 333 (by decide +kernel) (by decide +kernel)
theorem wl_L_56 : Cond.methodLink RL 56 yX3_on ∈ x_tbl := x_w 334 (by decide +kernel) (by decide +kernel)
theorem wl_X3_88 : Cond.methodLink RX3 88 yX0_isBelowTop ∈ x_tbl := x_w 338 (by decide +kernel) (by decide +kernel)
theorem wl_X3_92 : Cond.methodLink RX3 92 yX0_climbersOn ∈ x_tbl := x_w 339 (by decide +kernel) (by decide +kernel)
theorem wl_L_60 : Cond.methodLink RL 60 yX3_step ∈ x_tbl := x_w 340 (by decide +kernel) (by decide +kernel)
theorem wl_X3_95 : Cond.methodLink RX3 95 yX0_partOfStep ∈ x_tbl := x_w 344 (by decide +kernel) (by decide +kernel)
theorem wl_L_64 : Cond.methodLink RL 64 yX3_total ∈ x_tbl := x_w 348 (by decide +kernel) (by decide +kernel)
theorem wl_X3_98 : Cond.methodLink RX3 98 yX0_totalOf ∈ x_tbl := x_w 352 (by decide +kernel) (by decide +kernel)
theorem wl_X0_119 : Cond.methodLink RX0 119 yX0_liftsOfAll ∈ x_tbl := x_w 356 (by decide +kernel) (by decide +kernel)
theorem wl_X0_128 : Cond.methodLink RX0 128 yX0_sumOf ∈ x_tbl := x_w 360 (by decide +kernel) (by decide +kernel)
theorem wl_X0_122 : Cond.methodLink RX0 122 yX0_slipsOfAll ∈ x_tbl := x_w 363 (by decide +kernel) (by decide +kernel)
theorem wl_X0_125 : Cond.methodLink RX0 125 yX0_topsOfAll ∈ x_tbl := x_w 367 (by decide +kernel) (by decide +kernel)
theorem wl_L_68 : Cond.methodLink RL 68 yX3_rank ∈ x_tbl := x_w 371 (by decide +kernel) (by decide +kernel)
theorem wl_X3_101 : Cond.methodLink RX3 101 yX0_climberAtPlace ∈ x_tbl := x_w 375 (by decide +kernel) (by decide +kernel)
theorem wl_X0_132 : Cond.methodLink RX0 132 yX0_climbersAheadOf ∈ x_tbl := x_w 379 (by decide +kernel) (by decide +kernel)
theorem wl_L_72 : Cond.methodLink RL 72 yX3_ifRolled ∈ x_tbl := x_w 383 (by decide +kernel) (by decide +kernel)
theorem wl_X3_104 : Cond.methodLink RX3 104 yX3_isRoll ∈ x_tbl := x_w 387 (by decide +kernel) (by decide +kernel)
theorem wl_X3_107 : Cond.methodLink RX3 107 yX3_rollInTrial ∈ x_tbl := x_w 388 (by decide +kernel) (by decide +kernel)
theorem wl_X3_110 : Cond.methodLink RX3 110 yX0_liftsOfAll ∈ x_tbl := x_w 392 (by decide +kernel) (by decide +kernel)
theorem wl_X3_113 : Cond.methodLink RX3 113 yX0_topsOfAll ∈ x_tbl := x_w 393 (by decide +kernel) (by decide +kernel)
theorem wl_X3_116 : Cond.methodLink RX3 116 yX0_slipsOfAll ∈ x_tbl := x_w 394 (by decide +kernel) (by decide +kernel)
theorem wl_L_76 : Cond.methodLink RL 76 yX3_bestRoll ∈ x_tbl := x_w 395 (by decide +kernel) (by decide +kernel)
theorem wl_X3_119 : Cond.methodLink RX3 119 yX3_gainOfRoll ∈ x_tbl := x_w 399 (by decide +kernel) (by decide +kernel)
theorem wl_X3_156 : Cond.methodLink RX3 156 yX0_progressOf ∈ x_tbl := x_w 403 (by decide +kernel) (by decide +kernel)
theorem wl_L_80 : Cond.methodLink RL 80 yX3_quietRolls ∈ x_tbl := x_w 404 (by decide +kernel) (by decide +kernel)
theorem wl_X3_122 : Cond.methodLink RX3 122 yX0_wouldLift ∈ x_tbl := x_w 408 (by decide +kernel) (by decide +kernel)
theorem wl_L_84 : Cond.methodLink RL 84 yX3_rollsToTop ∈ x_tbl := x_w 412 (by decide +kernel) (by decide +kernel)
theorem wl_X3_125 : Cond.methodLink RX3 125 yX0_isClimber ∈ x_tbl := x_w 416 (by decide +kernel) (by decide +kernel)
theorem wl_X3_128 : Cond.methodLink RX3 128 yX0_fewestRollsOf ∈ x_tbl := x_w 417 (by decide +kernel) (by decide +kernel)
theorem wl_X0_135 : Cond.methodLink RX0 135 yX0_reachedWithOneMore ∈ x_tbl := x_w 421 (by decide +kernel) (by decide +kernel)
theorem wl_X0_139 : Cond.methodLink RX0 139 yX0_reachedFrom ∈ x_tbl := x_w 425 (by decide +kernel) (by decide +kernel)
theorem wl_L_88 : Cond.methodLink RL 88 yX3_append ∈ x_tbl := x_w 429 (by decide +kernel) (by decide +kernel)
theorem wl_X3_131 : Cond.methodLink RX3 131 yX2_addSign ∈ x_tbl := x_w 433 (by decide +kernel) (by decide +kernel)
theorem wl_L_92 : Cond.methodLink RL 92 yX3_clearText ∈ x_tbl := x_w 437 (by decide +kernel) (by decide +kernel)
theorem wl_X3_134 : Cond.methodLink RX3 134 yX2_dropAll ∈ x_tbl := x_w 441 (by decide +kernel) (by decide +kernel)
theorem wl_L_96 : Cond.methodLink RL 96 yX3_errorPosition ∈ x_tbl := x_w 445 (by decide +kernel) (by decide +kernel)
theorem wl_X3_137 : Cond.methodLink RX3 137 yX2_firstError ∈ x_tbl := x_w 449 (by decide +kernel) (by decide +kernel)
theorem wl_X2_19 : Cond.methodLink RX2 19 yX2_wantedBehind ∈ x_tbl := x_w 453 (by decide +kernel) (by decide +kernel)
theorem wl_X2_23 : Cond.methodLink RX2 23 yX2_wantedBehindMoveStart ∈ x_tbl := x_w 456 (by decide +kernel) (by decide +kernel)
theorem wl_X2_41 : Cond.methodLinkNest RX2 41 yX3_isRoll RX3 ∈ x_nests := x_wn 459 (by decide +kernel) (by decide +kernel)
theorem wl_X2_27 : Cond.methodLink RX2 27 yX2_wantedBehindComma ∈ x_tbl := x_w 460 (by decide +kernel) (by decide +kernel)
theorem wl_X2_30 : Cond.methodLink RX2 30 yX2_wantedBehindNumberStart ∈ x_tbl := x_w 463 (by decide +kernel) (by decide +kernel)
theorem wl_X2_34 : Cond.methodLink RX2 34 yX2_isDigit ∈ x_tbl := x_w 466 (by decide +kernel) (by decide +kernel)
theorem wl_X2_38 : Cond.methodLink RX2 38 yX2_wantedBehindArrow ∈ x_tbl := x_w 469 (by decide +kernel) (by decide +kernel)
theorem wl_L_100 : Cond.methodLink RL 100 yX3_play ∈ x_tbl := x_w 472 (by decide +kernel) (by decide +kernel)
theorem wl_X3_140 : Cond.methodLink RX3 140 yX3_makeMovesOfText ∈ x_tbl := x_w 476 (by decide +kernel) (by decide +kernel)
theorem wl_X3_162 : Cond.methodLink RX3 162 yX2_isMoveStart ∈ x_tbl := x_w 480 (by decide +kernel) (by decide +kernel)
theorem wl_X2_45 : Cond.methodLink RX2 45 yX2_signAt ∈ x_tbl := x_w 484 (by decide +kernel) (by decide +kernel)
theorem wl_X3_165 : Cond.methodLink RX3 165 yX3_makeMoveAt ∈ x_tbl := x_w 488 (by decide +kernel) (by decide +kernel)
theorem wl_X3_168 : Cond.methodLink RX3 168 yX2_signAt ∈ x_tbl := x_w 492 (by decide +kernel) (by decide +kernel)
theorem wl_X3_172 : Cond.methodLink RX3 172 yX2_numberAt ∈ x_tbl := x_w 493 (by decide +kernel) (by decide +kernel)
theorem wl_X3_175 : Cond.methodLink RX3 175 yX2_behindArrow ∈ x_tbl := x_w 497 (by decide +kernel) (by decide +kernel)
theorem wl_L_104 : Cond.methodLink RL 104 yX3_undo ∈ x_tbl := x_w 501 (by decide +kernel) (by decide +kernel)
theorem wl_X3_143 : Cond.methodLink RX3 143 yX1_isEmpty ∈ x_tbl := x_w 505 (by decide +kernel) (by decide +kernel)
theorem wl_X3_146 : Cond.methodLink RX3 146 yX1_moveLatestTo ∈ x_tbl := x_w 509 (by decide +kernel) (by decide +kernel)
theorem wl_L_108 : Cond.methodLink RL 108 yX3_save ∈ x_tbl := x_w 513 (by decide +kernel) (by decide +kernel)
theorem wl_L_112 : Cond.methodLink RL 112 yX3_restore ∈ x_tbl := x_w 517 (by decide +kernel) (by decide +kernel)
theorem wl_L_12 : Cond.methodLink RL 12 yX4_init ∈ x_tbl := x_w 523 (by decide +kernel) (by decide +kernel)
theorem wl_X4_1 : Cond.methodLink RX4 1 objectInit ∈ x_tbl := x_w 526 (by decide +kernel) (by decide +kernel)
theorem wl_L_107 : Cond.methodLink RL 107 yX4_undo ∈ x_tbl := x_w 567 (by decide +kernel) (by decide +kernel)
theorem wl_L_111 : Cond.methodLink RL 111 yX4_save ∈ x_tbl := x_w 571 (by decide +kernel) (by decide +kernel)
theorem wl_L_115 : Cond.methodLink RL 115 yX4_restore ∈ x_tbl := x_w 575 (by decide +kernel) (by decide +kernel)
theorem wl_X4_40 : Cond.methodLink RX4 40 yX4_record ∈ x_tbl := x_w 579 (by decide +kernel) (by decide +kernel)
theorem wl_L_17 : Cond.methodLink RL 17 yX4_setTop ∈ x_tbl := x_w 583 (by decide +kernel) (by decide +kernel)
theorem wl_X4_43 : Cond.methodLink RX4 43 yX4_in ∈ x_tbl := x_w 587 (by decide +kernel) (by decide +kernel)
theorem wl_X4_58 : Cond.methodLink RX4 58 yX4_climbersOn ∈ x_tbl := x_w 590 (by decide +kernel) (by decide +kernel)
theorem wl_X4_54 : Cond.methodLink RX4 54 yX4_of ∈ x_tbl := x_w 594 (by decide +kernel) (by decide +kernel)
theorem wl_X4_61 : Cond.methodLink RX4 61 yX4_isLanding ∈ x_tbl := x_w 598 (by decide +kernel) (by decide +kernel)
theorem wl_X4_65 : Cond.methodLink RX4 65 yX4_carpetFrom ∈ x_tbl := x_w 602 (by decide +kernel) (by decide +kernel)
theorem wl_X4_47 : Cond.methodLink RX4 47 yX4_upper ∈ x_tbl := x_w 606 (by decide +kernel) (by decide +kernel)
theorem wl_L_22 : Cond.methodLink RL 22 yX4_lay ∈ x_tbl := x_w 610 (by decide +kernel) (by decide +kernel)
theorem wl_X4_74 : Cond.methodLink RX4 74 yX4_whyNotLay ∈ x_tbl := x_w 614 (by decide +kernel) (by decide +kernel)
theorem wl_X4_68 : Cond.methodLink RX4 68 yX4_isStep ∈ x_tbl := x_w 618 (by decide +kernel) (by decide +kernel)
theorem wl_X4_71 : Cond.methodLink RX4 71 yX4_carpetsTo ∈ x_tbl := x_w 622 (by decide +kernel) (by decide +kernel)
theorem wl_X4_51 : Cond.methodLink RX4 51 yX4_lower ∈ x_tbl := x_w 626 (by decide +kernel) (by decide +kernel)
theorem wl_X4_77 : Cond.methodLink RX4 77 yX4_laysCarpet ∈ x_tbl := x_w 630 (by decide +kernel) (by decide +kernel)
theorem wl_L_26 : Cond.methodLink RL 26 yX4_take ∈ x_tbl := x_w 634 (by decide +kernel) (by decide +kernel)
theorem wl_L_30 : Cond.methodLink RL 30 yX4_put ∈ x_tbl := x_w 638 (by decide +kernel) (by decide +kernel)
theorem wl_X4_84 : Cond.methodLink RX4 84 yX4_whyNotPut ∈ x_tbl := x_w 642 (by decide +kernel) (by decide +kernel)
theorem wl_X4_87 : Cond.methodLink RX4 87 yX4_puts ∈ x_tbl := x_w 646 (by decide +kernel) (by decide +kernel)
theorem wl_X4_80 : Cond.methodLink RX4 80 yX4_landings ∈ x_tbl := x_w 650 (by decide +kernel) (by decide +kernel)
theorem wl_L_34 : Cond.methodLink RL 34 yX4_remove ∈ x_tbl := x_w 654 (by decide +kernel) (by decide +kernel)
theorem wl_X4_90 : Cond.methodLink RX4 90 yX4_bits ∈ x_tbl := x_w 658 (by decide +kernel) (by decide +kernel)
theorem wl_L_39 : Cond.methodLink RL 39 yX4_join ∈ x_tbl := x_w 661 (by decide +kernel) (by decide +kernel)
theorem wl_X4_97 : Cond.methodLink RX4 97 yX4_joins ∈ x_tbl := x_w 665 (by decide +kernel) (by decide +kernel)
theorem wl_X4_93 : Cond.methodLink RX4 93 yX4_lays ∈ x_tbl := x_w 669 (by decide +kernel) (by decide +kernel)
theorem wl_L_43 : Cond.methodLink RL 43 yX4_roll ∈ x_tbl := x_w 673 (by decide +kernel) (by decide +kernel)
theorem wl_X4_117 : Cond.methodLink RX4 117 yX4_whyNotRoll ∈ x_tbl := x_w 677 (by decide +kernel) (by decide +kernel)
theorem wl_X4_120 : Cond.methodLink RX4 120 yX4_rolls ∈ x_tbl := x_w 681 (by decide +kernel) (by decide +kernel)
theorem wl_X4_104 : Cond.methodLink RX4 104 yX4_passedBy ∈ x_tbl := x_w 685 (by decide +kernel) (by decide +kernel)
theorem wl_X4_100 : Cond.methodLink RX4 100 yX4_isPassed ∈ x_tbl := x_w 689 (by decide +kernel) (by decide +kernel)
theorem wl_X4_107 : Cond.methodLink RX4 107 yX4_highest ∈ x_tbl := x_w 693 (by decide +kernel) (by decide +kernel)
theorem wl_X4_110 : Cond.methodLink RX4 110 yX4_comes ∈ x_tbl := x_w 697 (by decide +kernel) (by decide +kernel)
theorem wl_X4_114 : Cond.methodLink RX4 114 yX4_nextMover ∈ x_tbl := x_w 701 (by decide +kernel) (by decide +kernel)
theorem wl_L_47 : Cond.methodLink RL 47 yX4_pass ∈ x_tbl := x_w 705 (by decide +kernel) (by decide +kernel)
theorem wl_L_51 : Cond.methodLink RL 51 yX4_climber ∈ x_tbl := x_w 709 (by decide +kernel) (by decide +kernel)
theorem wl_X4_123 : Cond.methodLink RX4 123 yX4_isClimber ∈ x_tbl := x_w 713 (by decide +kernel) (by decide +kernel)
theorem wl_X4_126 : Cond.methodLink RX4 126 yX4_progress ∈ x_tbl := x_w 717 (by decide +kernel) (by decide +kernel)
theorem wl_L_55 : Cond.methodLink RL 55 yX4_turn ∈ x_tbl := x_w 721 (by decide +kernel) (by decide +kernel)
theorem wl_L_59 : Cond.methodLink RL 59 yX4_on ∈ x_tbl := x_w 725 (by decide +kernel) (by decide +kernel)
theorem wl_L_63 : Cond.methodLink RL 63 yX4_step ∈ x_tbl := x_w 729 (by decide +kernel) (by decide +kernel)
theorem wl_L_67 : Cond.methodLink RL 67 yX4_total ∈ x_tbl := x_w 733 (by decide +kernel) (by decide +kernel)
theorem wl_X4_129 : Cond.methodLink RX4 129 yX4_allTops ∈ x_tbl := x_w 737 (by decide +kernel) (by decide +kernel)
theorem wl_L_71 : Cond.methodLink RL 71 yX4_rank ∈ x_tbl := x_w 741 (by decide +kernel) (by decide +kernel)
theorem wl_X4_132 : Cond.methodLink RX4 132 yX4_ahead ∈ x_tbl := x_w 745 (by decide +kernel) (by decide +kernel)
theorem wl_L_75 : Cond.methodLink RL 75 yX4_ifRolled ∈ x_tbl := x_w 749 (by decide +kernel) (by decide +kernel)
theorem wl_X4_135 : Cond.methodLink RX4 135 yX4_putAside ∈ x_tbl := x_w 753 (by decide +kernel) (by decide +kernel)
theorem wl_X4_138 : Cond.methodLink RX4 138 yX4_takeBack ∈ x_tbl := x_w 757 (by decide +kernel) (by decide +kernel)
theorem wl_L_79 : Cond.methodLink RL 79 yX4_bestRoll ∈ x_tbl := x_w 761 (by decide +kernel) (by decide +kernel)
theorem wl_X4_141 : Cond.methodLink RX4 141 yX4_worth ∈ x_tbl := x_w 765 (by decide +kernel) (by decide +kernel)
theorem wl_L_83 : Cond.methodLink RL 83 yX4_quietRolls ∈ x_tbl := x_w 769 (by decide +kernel) (by decide +kernel)
theorem wl_L_87 : Cond.methodLink RL 87 yX4_rollsToTop ∈ x_tbl := x_w 773 (by decide +kernel) (by decide +kernel)
theorem wl_L_91 : Cond.methodLink RL 91 yX4_append ∈ x_tbl := x_w 777 (by decide +kernel) (by decide +kernel)
theorem wl_L_95 : Cond.methodLink RL 95 yX4_clearText ∈ x_tbl := x_w 781 (by decide +kernel) (by decide +kernel)
theorem wl_L_99 : Cond.methodLink RL 99 yX4_errorPosition ∈ x_tbl := x_w 785 (by decide +kernel) (by decide +kernel)
theorem wl_X4_166 : Cond.methodLink RX4 166 yX4_readMove ∈ x_tbl := x_w 789 (by decide +kernel) (by decide +kernel)
theorem wl_X4_153 : Cond.methodLink RX4 153 yX4_letter ∈ x_tbl := x_w 793 (by decide +kernel) (by decide +kernel)
theorem wl_X4_156 : Cond.methodLink RX4 156 yX4_wants ∈ x_tbl := x_w 797 (by decide +kernel) (by decide +kernel)
theorem wl_X4_163 : Cond.methodLink RX4 163 yX4_number ∈ x_tbl := x_w 801 (by decide +kernel) (by decide +kernel)
theorem wl_L_103 : Cond.methodLink RL 103 yX4_play ∈ x_tbl := x_w 805 (by decide +kernel) (by decide +kernel)
theorem wl_X4_169 : Cond.methodLink RX4 169 yX4_errorPosition ∈ x_tbl := x_w 809 (by decide +kernel) (by decide +kernel)
theorem wl_X4_172 : Cond.methodLink RX4 172 yX4_makeOne ∈ x_tbl := x_w 810 (by decide +kernel) (by decide +kernel)
theorem wn_RL : Cond.initialized RL ∈ x_tbl := x_w 49 (by decide +kernel) (by decide +kernel)
theorem wn_RJ10 : Cond.initialized RJ10 ∈ x_tbl := x_w 55 (by decide +kernel) (by decide +kernel)
theorem wk_L_7 : Cond.classLink RL 7 RX3 ∈ x_tbl := x_w 57 (by decide +kernel) (by decide +kernel)
theorem wt_X3 : Cond.instantiable RX3 7 ∈ x_tbl := x_w 58 (by decide +kernel) (by decide +kernel)
theorem wk_X3_7 : Cond.classLink RX3 7 RX0 ∈ x_tbl := x_w 65 (by decide +kernel) (by decide +kernel)
theorem wt_X0 : Cond.instantiable RX0 13 ∈ x_tbl := x_w 66 (by decide +kernel) (by decide +kernel)
theorem wa_int : Cond.arrayClass .int ∈ x_tbl := x_w 113 (by decide +kernel) (by decide +kernel)
theorem wa_boolean : Cond.arrayClass .boolean ∈ x_tbl := x_w 114 (by decide +kernel) (by decide +kernel)
theorem wk_X3_25 : Cond.classLink RX3 25 RX1 ∈ x_tbl := x_w 115 (by decide +kernel) (by decide +kernel)
theorem wt_X1 : Cond.instantiable RX1 2 ∈ x_tbl := x_w 116 (by decide +kernel) (by decide +kernel)
theorem wk_X1_9 : Cond.classLink RX1 9 RX0 ∈ x_tbl := x_w 121 (by decide +kernel) (by decide +kernel)
theorem wk_X3_32 : Cond.classLink RX3 32 RX2 ∈ x_tbl := x_w 131 (by decide +kernel) (by decide +kernel)
theorem wt_X2 : Cond.instantiable RX2 2 ∈ x_tbl := x_w 132 (by decide +kernel) (by decide +kernel)
theorem wa_char : Cond.arrayClass .char ∈ x_tbl := x_w 145 (by decide +kernel) (by decide +kernel)
theorem w_acstat : Cond.static arraycopyName ∈ x_tbl := x_w 177 (by decide +kernel) (by decide +kernel)
theorem w_native : Cond.native arraycopyName ∈ x_tbl := x_w 178 (by decide +kernel) (by decide +kernel)
theorem wq_J6_265 : Cond.constant RJ6 265 (1431655765) ∈ x_tbl := x_w 259 (by decide +kernel) (by decide +kernel)
theorem wq_J6_266 : Cond.constant RJ6 266 (858993459) ∈ x_tbl := x_w 260 (by decide +kernel) (by decide +kernel)
theorem wq_J6_267 : Cond.constant RJ6 267 (252645135) ∈ x_tbl := x_w 261 (by decide +kernel) (by decide +kernel)
theorem wk_L_10 : Cond.classLink RL 10 RX4 ∈ x_tbl := x_w 521 (by decide +kernel) (by decide +kernel)
theorem wt_X4 : Cond.instantiable RX4 13 ∈ x_tbl := x_w 522 (by decide +kernel) (by decide +kernel)
theorem w_oin : Cond.instanceMethod objectInit ∈ x_tbl := x_w 63 (by decide +kernel) (by decide +kernel)
theorem w_oco : Cond.code objectInit ⟨#[0xb1]⟩ 1 none ∈ x_tbl := x_w 64 (by decide +kernel) (by decide +kernel)
section L
variable {G : xG} {k : xI} {R : Option Value → xM → Prop} {ce sl : Nat} {mem : xM} {pc : Nat} {loc : Nat → Option Value} {st : List Value} {r : Nat} {fs : List Value}
theorem wf_X0_9 : Cond.fieldLink RX0 9 RX0 "lowerEnds" "[I" ∈ x_tbl := x_w 71 (by decide +kernel) (by decide +kernel)
theorem gf_X0_9 {v : Value} (hd : decode k.2.1 pc = .ok (.getfield 9, 3)) (hown : k.1.cls = RX0) (hm : mem[r]? = some (.inr (0, fs))) (hv : fs[0]? = some v) (kk : E G k R ce sl mem (pc + 3) loc (v :: st)) : E G k R ce sl mem pc loc (.ref r :: st) := E_getf (T := TX0) (N := 13) (kf := 0) hd xin_X0 hown rfl (by decide) rfl wf_X0_9 hm hv kk
theorem pf_X0_9 {a : Nat} (hd : decode k.2.1 pc = .ok (.putfield 9, 3)) (hown : k.1.cls = RX0) (hi : k.1.name = "<init>") (hm : mem[r]? = some (.inr (0, fs))) (hl : 0 < fs.length) (kk : E G k R ce sl (mem.set r (.inr (0, fs.set 0 (.ref a)))) (pc + 3) loc st) : E G k R ce sl mem pc loc (.ref a :: .ref r :: st) := E_putF (T := TX0) (N := 13) (kf := 0) (v := .ref a) hd xin_X0 tyX0_ok nmX0 hown hi rfl (by decide) rfl rfl wf_X0_9 rfl hm rfl rfl hl kk
theorem wf_X0_15 : Cond.fieldLink RX0 15 RX0 "landings" "[Z" ∈ x_tbl := x_w 72 (by decide +kernel) (by decide +kernel)
theorem gf_X0_15 {v : Value} (hd : decode k.2.1 pc = .ok (.getfield 15, 3)) (hown : k.1.cls = RX0) (hm : mem[r]? = some (.inr (0, fs))) (hv : fs[1]? = some v) (kk : E G k R ce sl mem (pc + 3) loc (v :: st)) : E G k R ce sl mem pc loc (.ref r :: st) := E_getf (T := TX0) (N := 13) (kf := 1) hd xin_X0 hown rfl (by decide) rfl wf_X0_15 hm hv kk
theorem pf_X0_15 {a : Nat} (hd : decode k.2.1 pc = .ok (.putfield 15, 3)) (hown : k.1.cls = RX0) (hi : k.1.name = "<init>") (hm : mem[r]? = some (.inr (0, fs))) (hl : 1 < fs.length) (kk : E G k R ce sl (mem.set r (.inr (0, fs.set 1 (.ref a)))) (pc + 3) loc st) : E G k R ce sl mem pc loc (.ref a :: .ref r :: st) := E_putF (T := TX0) (N := 13) (kf := 1) (v := .ref a) hd xin_X0 tyX0_ok nmX0 hown hi rfl (by decide) rfl rfl wf_X0_15 rfl hm rfl rfl hl kk
theorem wf_X0_19 : Cond.fieldLink RX0 19 RX0 "places" "[I" ∈ x_tbl := x_w 73 (by decide +kernel) (by decide +kernel)
theorem gf_X0_19 {v : Value} (hd : decode k.2.1 pc = .ok (.getfield 19, 3)) (hown : k.1.cls = RX0) (hm : mem[r]? = some (.inr (0, fs))) (hv : fs[2]? = some v) (kk : E G k R ce sl mem (pc + 3) loc (v :: st)) : E G k R ce sl mem pc loc (.ref r :: st) := E_getf (T := TX0) (N := 13) (kf := 2) hd xin_X0 hown rfl (by decide) rfl wf_X0_19 hm hv kk
theorem pf_X0_19 {a : Nat} (hd : decode k.2.1 pc = .ok (.putfield 19, 3)) (hown : k.1.cls = RX0) (hi : k.1.name = "<init>") (hm : mem[r]? = some (.inr (0, fs))) (hl : 2 < fs.length) (kk : E G k R ce sl (mem.set r (.inr (0, fs.set 2 (.ref a)))) (pc + 3) loc st) : E G k R ce sl mem pc loc (.ref a :: .ref r :: st) := E_putF (T := TX0) (N := 13) (kf := 2) (v := .ref a) hd xin_X0 tyX0_ok nmX0 hown hi rfl (by decide) rfl rfl wf_X0_19 rfl hm rfl rfl hl kk
theorem wf_X0_22 : Cond.fieldLink RX0 22 RX0 "tops" "[I" ∈ x_tbl := x_w 74 (by decide +kernel) (by decide +kernel)
theorem gf_X0_22 {v : Value} (hd : decode k.2.1 pc = .ok (.getfield 22, 3)) (hown : k.1.cls = RX0) (hm : mem[r]? = some (.inr (0, fs))) (hv : fs[3]? = some v) (kk : E G k R ce sl mem (pc + 3) loc (v :: st)) : E G k R ce sl mem pc loc (.ref r :: st) := E_getf (T := TX0) (N := 13) (kf := 3) hd xin_X0 hown rfl (by decide) rfl wf_X0_22 hm hv kk
theorem pf_X0_22 {a : Nat} (hd : decode k.2.1 pc = .ok (.putfield 22, 3)) (hown : k.1.cls = RX0) (hi : k.1.name = "<init>") (hm : mem[r]? = some (.inr (0, fs))) (hl : 3 < fs.length) (kk : E G k R ce sl (mem.set r (.inr (0, fs.set 3 (.ref a)))) (pc + 3) loc st) : E G k R ce sl mem pc loc (.ref a :: .ref r :: st) := E_putF (T := TX0) (N := 13) (kf := 3) (v := .ref a) hd xin_X0 tyX0_ok nmX0 hown hi rfl (by decide) rfl rfl wf_X0_22 rfl hm rfl rfl hl kk
theorem wf_X0_25 : Cond.fieldLink RX0 25 RX0 "rests" "[I" ∈ x_tbl := x_w 75 (by decide +kernel) (by decide +kernel)
theorem gf_X0_25 {v : Value} (hd : decode k.2.1 pc = .ok (.getfield 25, 3)) (hown : k.1.cls = RX0) (hm : mem[r]? = some (.inr (0, fs))) (hv : fs[4]? = some v) (kk : E G k R ce sl mem (pc + 3) loc (v :: st)) : E G k R ce sl mem pc loc (.ref r :: st) := E_getf (T := TX0) (N := 13) (kf := 4) hd xin_X0 hown rfl (by decide) rfl wf_X0_25 hm hv kk
theorem pf_X0_25 {a : Nat} (hd : decode k.2.1 pc = .ok (.putfield 25, 3)) (hown : k.1.cls = RX0) (hi : k.1.name = "<init>") (hm : mem[r]? = some (.inr (0, fs))) (hl : 4 < fs.length) (kk : E G k R ce sl (mem.set r (.inr (0, fs.set 4 (.ref a)))) (pc + 3) loc st) : E G k R ce sl mem pc loc (.ref a :: .ref r :: st) := E_putF (T := TX0) (N := 13) (kf := 4) (v := .ref a) hd xin_X0 tyX0_ok nmX0 hown hi rfl (by decide) rfl rfl wf_X0_25 rfl hm rfl rfl hl kk
theorem wf_X0_28 : Cond.fieldLink RX0 28 RX0 "timesLifted" "[I" ∈ x_tbl := x_w 76 (by decide +kernel) (by decide +kernel)
theorem gf_X0_28 {v : Value} (hd : decode k.2.1 pc = .ok (.getfield 28, 3)) (hown : k.1.cls = RX0) (hm : mem[r]? = some (.inr (0, fs))) (hv : fs[5]? = some v) (kk : E G k R ce sl mem (pc + 3) loc (v :: st)) : E G k R ce sl mem pc loc (.ref r :: st) := E_getf (T := TX0) (N := 13) (kf := 5) hd xin_X0 hown rfl (by decide) rfl wf_X0_28 hm hv kk
theorem pf_X0_28 {a : Nat} (hd : decode k.2.1 pc = .ok (.putfield 28, 3)) (hown : k.1.cls = RX0) (hi : k.1.name = "<init>") (hm : mem[r]? = some (.inr (0, fs))) (hl : 5 < fs.length) (kk : E G k R ce sl (mem.set r (.inr (0, fs.set 5 (.ref a)))) (pc + 3) loc st) : E G k R ce sl mem pc loc (.ref a :: .ref r :: st) := E_putF (T := TX0) (N := 13) (kf := 5) (v := .ref a) hd xin_X0 tyX0_ok nmX0 hown hi rfl (by decide) rfl rfl wf_X0_28 rfl hm rfl rfl hl kk
theorem wf_X0_31 : Cond.fieldLink RX0 31 RX0 "liftsMade" "[I" ∈ x_tbl := x_w 77 (by decide +kernel) (by decide +kernel)
theorem gf_X0_31 {v : Value} (hd : decode k.2.1 pc = .ok (.getfield 31, 3)) (hown : k.1.cls = RX0) (hm : mem[r]? = some (.inr (0, fs))) (hv : fs[6]? = some v) (kk : E G k R ce sl mem (pc + 3) loc (v :: st)) : E G k R ce sl mem pc loc (.ref r :: st) := E_getf (T := TX0) (N := 13) (kf := 6) hd xin_X0 hown rfl (by decide) rfl wf_X0_31 hm hv kk
theorem pf_X0_31 {a : Nat} (hd : decode k.2.1 pc = .ok (.putfield 31, 3)) (hown : k.1.cls = RX0) (hi : k.1.name = "<init>") (hm : mem[r]? = some (.inr (0, fs))) (hl : 6 < fs.length) (kk : E G k R ce sl (mem.set r (.inr (0, fs.set 6 (.ref a)))) (pc + 3) loc st) : E G k R ce sl mem pc loc (.ref a :: .ref r :: st) := E_putF (T := TX0) (N := 13) (kf := 6) (v := .ref a) hd xin_X0 tyX0_ok nmX0 hown hi rfl (by decide) rfl rfl wf_X0_31 rfl hm rfl rfl hl kk
theorem wf_X0_34 : Cond.fieldLink RX0 34 RX0 "slips" "[I" ∈ x_tbl := x_w 78 (by decide +kernel) (by decide +kernel)
theorem gf_X0_34 {v : Value} (hd : decode k.2.1 pc = .ok (.getfield 34, 3)) (hown : k.1.cls = RX0) (hm : mem[r]? = some (.inr (0, fs))) (hv : fs[7]? = some v) (kk : E G k R ce sl mem (pc + 3) loc (v :: st)) : E G k R ce sl mem pc loc (.ref r :: st) := E_getf (T := TX0) (N := 13) (kf := 7) hd xin_X0 hown rfl (by decide) rfl wf_X0_34 hm hv kk
theorem pf_X0_34 {a : Nat} (hd : decode k.2.1 pc = .ok (.putfield 34, 3)) (hown : k.1.cls = RX0) (hi : k.1.name = "<init>") (hm : mem[r]? = some (.inr (0, fs))) (hl : 7 < fs.length) (kk : E G k R ce sl (mem.set r (.inr (0, fs.set 7 (.ref a)))) (pc + 3) loc st) : E G k R ce sl mem pc loc (.ref a :: .ref r :: st) := E_putF (T := TX0) (N := 13) (kf := 7) (v := .ref a) hd xin_X0 tyX0_ok nmX0 hown hi rfl (by decide) rfl rfl wf_X0_34 rfl hm rfl rfl hl kk
theorem wf_X0_37 : Cond.fieldLink RX0 37 RX0 "top" "I" ∈ x_tbl := x_w 79 (by decide +kernel) (by decide +kernel)
theorem gf_X0_37 {v : Value} (hd : decode k.2.1 pc = .ok (.getfield 37, 3)) (hown : k.1.cls = RX0) (hm : mem[r]? = some (.inr (0, fs))) (hv : fs[8]? = some v) (kk : E G k R ce sl mem (pc + 3) loc (v :: st)) : E G k R ce sl mem pc loc (.ref r :: st) := E_getf (T := TX0) (N := 13) (kf := 8) hd xin_X0 hown rfl (by decide) rfl wf_X0_37 hm hv kk
theorem pf_X0_37 {x : Int32} (hd : decode k.2.1 pc = .ok (.putfield 37, 3)) (hown : k.1.cls = RX0) (hm : mem[r]? = some (.inr (0, fs))) (hl : 8 < fs.length) (kk : E G k R ce sl (mem.set r (.inr (0, fs.set 8 (.int x)))) (pc + 3) loc st) : E G k R ce sl mem pc loc (.int x :: .ref r :: st) := E_putf (T := TX0) (N := 13) (kf := 8) (v := .int x) hd xin_X0 tyX0_ok nmX0 hown rfl (by decide) rfl wf_X0_37 rfl hm rfl rfl hl kk
theorem wf_X0_41 : Cond.fieldLink RX0 41 RX0 "climbers" "I" ∈ x_tbl := x_w 80 (by decide +kernel) (by decide +kernel)
theorem gf_X0_41 {v : Value} (hd : decode k.2.1 pc = .ok (.getfield 41, 3)) (hown : k.1.cls = RX0) (hm : mem[r]? = some (.inr (0, fs))) (hv : fs[9]? = some v) (kk : E G k R ce sl mem (pc + 3) loc (v :: st)) : E G k R ce sl mem pc loc (.ref r :: st) := E_getf (T := TX0) (N := 13) (kf := 9) hd xin_X0 hown rfl (by decide) rfl wf_X0_41 hm hv kk
theorem pf_X0_41 {x : Int32} (hd : decode k.2.1 pc = .ok (.putfield 41, 3)) (hown : k.1.cls = RX0) (hm : mem[r]? = some (.inr (0, fs))) (hl : 9 < fs.length) (kk : E G k R ce sl (mem.set r (.inr (0, fs.set 9 (.int x)))) (pc + 3) loc st) : E G k R ce sl mem pc loc (.int x :: .ref r :: st) := E_putf (T := TX0) (N := 13) (kf := 9) (v := .int x) hd xin_X0 tyX0_ok nmX0 hown rfl (by decide) rfl wf_X0_41 rfl hm rfl rfl hl kk
theorem wf_X3_150 : Cond.fieldLinkNest RX3 150 RX0 "climbers" "I" RX3 ∈ x_nests := x_wn 81 (by decide +kernel) (by decide +kernel)
theorem gf_X3_150 {v : Value} (hd : decode k.2.1 pc = .ok (.getfield 150, 3)) (hown : k.1.cls = RX3) (hm : mem[r]? = some (.inr (0, fs))) (hv : fs[9]? = some v) (kk : E G k R ce sl mem (pc + 3) loc (v :: st)) : E G k R ce sl mem pc loc (.ref r :: st) := E_getfN (T := TX0) (N := 13) (kf := 9) hd xin_X0 hown rfl (by decide) rfl wf_X3_150 hm hv kk
theorem wf_X0_44 : Cond.fieldLink RX0 44 RX0 "mover" "I" ∈ x_tbl := x_w 82 (by decide +kernel) (by decide +kernel)
theorem gf_X0_44 {v : Value} (hd : decode k.2.1 pc = .ok (.getfield 44, 3)) (hown : k.1.cls = RX0) (hm : mem[r]? = some (.inr (0, fs))) (hv : fs[10]? = some v) (kk : E G k R ce sl mem (pc + 3) loc (v :: st)) : E G k R ce sl mem pc loc (.ref r :: st) := E_getf (T := TX0) (N := 13) (kf := 10) hd xin_X0 hown rfl (by decide) rfl wf_X0_44 hm hv kk
theorem pf_X0_44 {x : Int32} (hd : decode k.2.1 pc = .ok (.putfield 44, 3)) (hown : k.1.cls = RX0) (hm : mem[r]? = some (.inr (0, fs))) (hl : 10 < fs.length) (kk : E G k R ce sl (mem.set r (.inr (0, fs.set 10 (.int x)))) (pc + 3) loc st) : E G k R ce sl mem pc loc (.int x :: .ref r :: st) := E_putf (T := TX0) (N := 13) (kf := 10) (v := .int x) hd xin_X0 tyX0_ok nmX0 hown rfl (by decide) rfl wf_X0_44 rfl hm rfl rfl hl kk
theorem wf_X3_84 : Cond.fieldLinkNest RX3 84 RX0 "mover" "I" RX3 ∈ x_nests := x_wn 83 (by decide +kernel) (by decide +kernel)
theorem gf_X3_84 {v : Value} (hd : decode k.2.1 pc = .ok (.getfield 84, 3)) (hown : k.1.cls = RX3) (hm : mem[r]? = some (.inr (0, fs))) (hv : fs[10]? = some v) (kk : E G k R ce sl mem (pc + 3) loc (v :: st)) : E G k R ce sl mem pc loc (.ref r :: st) := E_getfN (T := TX0) (N := 13) (kf := 10) hd xin_X0 hown rfl (by decide) rfl wf_X3_84 hm hv kk
theorem wf_X0_47 : Cond.fieldLink RX0 47 RX0 "rolls" "I" ∈ x_tbl := x_w 84 (by decide +kernel) (by decide +kernel)
theorem gf_X0_47 {v : Value} (hd : decode k.2.1 pc = .ok (.getfield 47, 3)) (hown : k.1.cls = RX0) (hm : mem[r]? = some (.inr (0, fs))) (hv : fs[11]? = some v) (kk : E G k R ce sl mem (pc + 3) loc (v :: st)) : E G k R ce sl mem pc loc (.ref r :: st) := E_getf (T := TX0) (N := 13) (kf := 11) hd xin_X0 hown rfl (by decide) rfl wf_X0_47 hm hv kk
theorem pf_X0_47 {x : Int32} (hd : decode k.2.1 pc = .ok (.putfield 47, 3)) (hown : k.1.cls = RX0) (hm : mem[r]? = some (.inr (0, fs))) (hl : 11 < fs.length) (kk : E G k R ce sl (mem.set r (.inr (0, fs.set 11 (.int x)))) (pc + 3) loc st) : E G k R ce sl mem pc loc (.int x :: .ref r :: st) := E_putf (T := TX0) (N := 13) (kf := 11) (v := .int x) hd xin_X0 tyX0_ok nmX0 hown rfl (by decide) rfl wf_X0_47 rfl hm rfl rfl hl kk
theorem wf_X0_50 : Cond.fieldLink RX0 50 RX0 "turnsLeftOut" "I" ∈ x_tbl := x_w 85 (by decide +kernel) (by decide +kernel)
theorem gf_X0_50 {v : Value} (hd : decode k.2.1 pc = .ok (.getfield 50, 3)) (hown : k.1.cls = RX0) (hm : mem[r]? = some (.inr (0, fs))) (hv : fs[12]? = some v) (kk : E G k R ce sl mem (pc + 3) loc (v :: st)) : E G k R ce sl mem pc loc (.ref r :: st) := E_getf (T := TX0) (N := 13) (kf := 12) hd xin_X0 hown rfl (by decide) rfl wf_X0_50 hm hv kk
theorem pf_X0_50 {x : Int32} (hd : decode k.2.1 pc = .ok (.putfield 50, 3)) (hown : k.1.cls = RX0) (hm : mem[r]? = some (.inr (0, fs))) (hl : 12 < fs.length) (kk : E G k R ce sl (mem.set r (.inr (0, fs.set 12 (.int x)))) (pc + 3) loc st) : E G k R ce sl mem pc loc (.int x :: .ref r :: st) := E_putf (T := TX0) (N := 13) (kf := 12) (v := .int x) hd xin_X0 tyX0_ok nmX0 hown rfl (by decide) rfl wf_X0_50 rfl hm rfl rfl hl kk
theorem wf_X1_11 : Cond.fieldLink RX1 11 RX1 "games" "[LLiftingStairs$Game;" ∈ x_tbl := x_w 124 (by decide +kernel) (by decide +kernel)
theorem gf_X1_11 {v : Value} (hd : decode k.2.1 pc = .ok (.getfield 11, 3)) (hown : k.1.cls = RX1) (hm : mem[r]? = some (.inr (1, fs))) (hv : fs[0]? = some v) (kk : E G k R ce sl mem (pc + 3) loc (v :: st)) : E G k R ce sl mem pc loc (.ref r :: st) := E_getf (T := TX1) (N := 2) (kf := 0) hd xin_X1 hown rfl (by decide) rfl wf_X1_11 hm hv kk
theorem pf_X1_11 {a : Nat} (hd : decode k.2.1 pc = .ok (.putfield 11, 3)) (hown : k.1.cls = RX1) (hi : k.1.name = "<init>") (hm : mem[r]? = some (.inr (1, fs))) (hl : 0 < fs.length) (kk : E G k R ce sl (mem.set r (.inr (1, fs.set 0 (.ref a)))) (pc + 3) loc st) : E G k R ce sl mem pc loc (.ref a :: .ref r :: st) := E_putF (T := TX1) (N := 2) (kf := 0) (v := .ref a) hd xin_X1 tyX1_ok nmX1 hown hi rfl (by decide) rfl rfl wf_X1_11 rfl hm rfl rfl hl kk
theorem wf_X1_17 : Cond.fieldLink RX1 17 RX1 "count" "I" ∈ x_tbl := x_w 125 (by decide +kernel) (by decide +kernel)
theorem gf_X1_17 {v : Value} (hd : decode k.2.1 pc = .ok (.getfield 17, 3)) (hown : k.1.cls = RX1) (hm : mem[r]? = some (.inr (1, fs))) (hv : fs[1]? = some v) (kk : E G k R ce sl mem (pc + 3) loc (v :: st)) : E G k R ce sl mem pc loc (.ref r :: st) := E_getf (T := TX1) (N := 2) (kf := 1) hd xin_X1 hown rfl (by decide) rfl wf_X1_17 hm hv kk
theorem pf_X1_17 {x : Int32} (hd : decode k.2.1 pc = .ok (.putfield 17, 3)) (hown : k.1.cls = RX1) (hm : mem[r]? = some (.inr (1, fs))) (hl : 1 < fs.length) (kk : E G k R ce sl (mem.set r (.inr (1, fs.set 1 (.int x)))) (pc + 3) loc st) : E G k R ce sl mem pc loc (.int x :: .ref r :: st) := E_putf (T := TX1) (N := 2) (kf := 1) (v := .int x) hd xin_X1 tyX1_ok nmX1 hown rfl (by decide) rfl wf_X1_17 rfl hm rfl rfl hl kk
theorem wf_X2_9 : Cond.fieldLink RX2 9 RX2 "signs" "[C" ∈ x_tbl := x_w 137 (by decide +kernel) (by decide +kernel)
theorem gf_X2_9 {v : Value} (hd : decode k.2.1 pc = .ok (.getfield 9, 3)) (hown : k.1.cls = RX2) (hm : mem[r]? = some (.inr (2, fs))) (hv : fs[0]? = some v) (kk : E G k R ce sl mem (pc + 3) loc (v :: st)) : E G k R ce sl mem pc loc (.ref r :: st) := E_getf (T := TX2) (N := 2) (kf := 0) hd xin_X2 hown rfl (by decide) rfl wf_X2_9 hm hv kk
theorem pf_X2_9 {a : Nat} (hd : decode k.2.1 pc = .ok (.putfield 9, 3)) (hown : k.1.cls = RX2) (hi : k.1.name = "<init>") (hm : mem[r]? = some (.inr (2, fs))) (hl : 0 < fs.length) (kk : E G k R ce sl (mem.set r (.inr (2, fs.set 0 (.ref a)))) (pc + 3) loc st) : E G k R ce sl mem pc loc (.ref a :: .ref r :: st) := E_putF (T := TX2) (N := 2) (kf := 0) (v := .ref a) hd xin_X2 tyX2_ok nmX2 hown hi rfl (by decide) rfl rfl wf_X2_9 rfl hm rfl rfl hl kk
theorem wf_X2_15 : Cond.fieldLink RX2 15 RX2 "length" "I" ∈ x_tbl := x_w 138 (by decide +kernel) (by decide +kernel)
theorem gf_X2_15 {v : Value} (hd : decode k.2.1 pc = .ok (.getfield 15, 3)) (hown : k.1.cls = RX2) (hm : mem[r]? = some (.inr (2, fs))) (hv : fs[1]? = some v) (kk : E G k R ce sl mem (pc + 3) loc (v :: st)) : E G k R ce sl mem pc loc (.ref r :: st) := E_getf (T := TX2) (N := 2) (kf := 1) hd xin_X2 hown rfl (by decide) rfl wf_X2_15 hm hv kk
theorem pf_X2_15 {x : Int32} (hd : decode k.2.1 pc = .ok (.putfield 15, 3)) (hown : k.1.cls = RX2) (hm : mem[r]? = some (.inr (2, fs))) (hl : 1 < fs.length) (kk : E G k R ce sl (mem.set r (.inr (2, fs.set 1 (.int x)))) (pc + 3) loc st) : E G k R ce sl mem pc loc (.int x :: .ref r :: st) := E_putf (T := TX2) (N := 2) (kf := 1) (v := .int x) hd xin_X2 tyX2_ok nmX2 hown rfl (by decide) rfl wf_X2_15 rfl hm rfl rfl hl kk
theorem wf_X3_159 : Cond.fieldLinkNest RX3 159 RX2 "length" "I" RX3 ∈ x_nests := x_wn 139 (by decide +kernel) (by decide +kernel)
theorem gf_X3_159 {v : Value} (hd : decode k.2.1 pc = .ok (.getfield 159, 3)) (hown : k.1.cls = RX3) (hm : mem[r]? = some (.inr (2, fs))) (hv : fs[1]? = some v) (kk : E G k R ce sl mem (pc + 3) loc (v :: st)) : E G k R ce sl mem pc loc (.ref r :: st) := E_getfN (T := TX2) (N := 2) (kf := 1) hd xin_X2 hown rfl (by decide) rfl wf_X3_159 hm hv kk
theorem wf_X3_10 : Cond.fieldLink RX3 10 RX3 "game" "LLiftingStairs$Game;" ∈ x_tbl := x_w 146 (by decide +kernel) (by decide +kernel)
theorem gf_X3_10 {v : Value} (hd : decode k.2.1 pc = .ok (.getfield 10, 3)) (hown : k.1.cls = RX3) (hm : mem[r]? = some (.inr (3, fs))) (hv : fs[0]? = some v) (kk : E G k R ce sl mem (pc + 3) loc (v :: st)) : E G k R ce sl mem pc loc (.ref r :: st) := E_getf (T := TX3) (N := 7) (kf := 0) hd xin_X3 hown rfl (by decide) rfl wf_X3_10 hm hv kk
theorem pf_X3_10 {a : Nat} (hd : decode k.2.1 pc = .ok (.putfield 10, 3)) (hown : k.1.cls = RX3) (hi : k.1.name = "<init>") (hm : mem[r]? = some (.inr (3, fs))) (hl : 0 < fs.length) (kk : E G k R ce sl (mem.set r (.inr (3, fs.set 0 (.ref a)))) (pc + 3) loc st) : E G k R ce sl mem pc loc (.ref a :: .ref r :: st) := E_putF (T := TX3) (N := 7) (kf := 0) (v := .ref a) hd xin_X3 tyX3_ok nmX3 hown hi rfl (by decide) rfl rfl wf_X3_10 rfl hm rfl rfl hl kk
theorem wf_X3_16 : Cond.fieldLink RX3 16 RX3 "ahead" "LLiftingStairs$Game;" ∈ x_tbl := x_w 147 (by decide +kernel) (by decide +kernel)
theorem gf_X3_16 {v : Value} (hd : decode k.2.1 pc = .ok (.getfield 16, 3)) (hown : k.1.cls = RX3) (hm : mem[r]? = some (.inr (3, fs))) (hv : fs[1]? = some v) (kk : E G k R ce sl mem (pc + 3) loc (v :: st)) : E G k R ce sl mem pc loc (.ref r :: st) := E_getf (T := TX3) (N := 7) (kf := 1) hd xin_X3 hown rfl (by decide) rfl wf_X3_16 hm hv kk
theorem pf_X3_16 {a : Nat} (hd : decode k.2.1 pc = .ok (.putfield 16, 3)) (hown : k.1.cls = RX3) (hi : k.1.name = "<init>") (hm : mem[r]? = some (.inr (3, fs))) (hl : 1 < fs.length) (kk : E G k R ce sl (mem.set r (.inr (3, fs.set 1 (.ref a)))) (pc + 3) loc st) : E G k R ce sl mem pc loc (.ref a :: .ref r :: st) := E_putF (T := TX3) (N := 7) (kf := 1) (v := .ref a) hd xin_X3 tyX3_ok nmX3 hown hi rfl (by decide) rfl rfl wf_X3_16 rfl hm rfl rfl hl kk
theorem wf_X3_19 : Cond.fieldLink RX3 19 RX3 "trial" "LLiftingStairs$Game;" ∈ x_tbl := x_w 148 (by decide +kernel) (by decide +kernel)
theorem gf_X3_19 {v : Value} (hd : decode k.2.1 pc = .ok (.getfield 19, 3)) (hown : k.1.cls = RX3) (hm : mem[r]? = some (.inr (3, fs))) (hv : fs[2]? = some v) (kk : E G k R ce sl mem (pc + 3) loc (v :: st)) : E G k R ce sl mem pc loc (.ref r :: st) := E_getf (T := TX3) (N := 7) (kf := 2) hd xin_X3 hown rfl (by decide) rfl wf_X3_19 hm hv kk
theorem pf_X3_19 {a : Nat} (hd : decode k.2.1 pc = .ok (.putfield 19, 3)) (hown : k.1.cls = RX3) (hi : k.1.name = "<init>") (hm : mem[r]? = some (.inr (3, fs))) (hl : 2 < fs.length) (kk : E G k R ce sl (mem.set r (.inr (3, fs.set 2 (.ref a)))) (pc + 3) loc st) : E G k R ce sl mem pc loc (.ref a :: .ref r :: st) := E_putF (T := TX3) (N := 7) (kf := 2) (v := .ref a) hd xin_X3 tyX3_ok nmX3 hown hi rfl (by decide) rfl rfl wf_X3_19 rfl hm rfl rfl hl kk
theorem wf_X3_22 : Cond.fieldLink RX3 22 RX3 "saved" "LLiftingStairs$Game;" ∈ x_tbl := x_w 149 (by decide +kernel) (by decide +kernel)
theorem gf_X3_22 {v : Value} (hd : decode k.2.1 pc = .ok (.getfield 22, 3)) (hown : k.1.cls = RX3) (hm : mem[r]? = some (.inr (3, fs))) (hv : fs[3]? = some v) (kk : E G k R ce sl mem (pc + 3) loc (v :: st)) : E G k R ce sl mem pc loc (.ref r :: st) := E_getf (T := TX3) (N := 7) (kf := 3) hd xin_X3 hown rfl (by decide) rfl wf_X3_22 hm hv kk
theorem pf_X3_22 {a : Nat} (hd : decode k.2.1 pc = .ok (.putfield 22, 3)) (hown : k.1.cls = RX3) (hi : k.1.name = "<init>") (hm : mem[r]? = some (.inr (3, fs))) (hl : 3 < fs.length) (kk : E G k R ce sl (mem.set r (.inr (3, fs.set 3 (.ref a)))) (pc + 3) loc st) : E G k R ce sl mem pc loc (.ref a :: .ref r :: st) := E_putF (T := TX3) (N := 7) (kf := 3) (v := .ref a) hd xin_X3 tyX3_ok nmX3 hown hi rfl (by decide) rfl rfl wf_X3_22 rfl hm rfl rfl hl kk
theorem wf_X3_28 : Cond.fieldLink RX3 28 RX3 "history" "LLiftingStairs$History;" ∈ x_tbl := x_w 150 (by decide +kernel) (by decide +kernel)
theorem gf_X3_28 {v : Value} (hd : decode k.2.1 pc = .ok (.getfield 28, 3)) (hown : k.1.cls = RX3) (hm : mem[r]? = some (.inr (3, fs))) (hv : fs[4]? = some v) (kk : E G k R ce sl mem (pc + 3) loc (v :: st)) : E G k R ce sl mem pc loc (.ref r :: st) := E_getf (T := TX3) (N := 7) (kf := 4) hd xin_X3 hown rfl (by decide) rfl wf_X3_28 hm hv kk
theorem pf_X3_28 {a : Nat} (hd : decode k.2.1 pc = .ok (.putfield 28, 3)) (hown : k.1.cls = RX3) (hi : k.1.name = "<init>") (hm : mem[r]? = some (.inr (3, fs))) (hl : 4 < fs.length) (kk : E G k R ce sl (mem.set r (.inr (3, fs.set 4 (.ref a)))) (pc + 3) loc st) : E G k R ce sl mem pc loc (.ref a :: .ref r :: st) := E_putF (T := TX3) (N := 7) (kf := 4) (v := .ref a) hd xin_X3 tyX3_ok nmX3 hown hi rfl (by decide) rfl rfl wf_X3_28 rfl hm rfl rfl hl kk
theorem wf_X3_35 : Cond.fieldLink RX3 35 RX3 "text" "LLiftingStairs$MoveText;" ∈ x_tbl := x_w 151 (by decide +kernel) (by decide +kernel)
theorem gf_X3_35 {v : Value} (hd : decode k.2.1 pc = .ok (.getfield 35, 3)) (hown : k.1.cls = RX3) (hm : mem[r]? = some (.inr (3, fs))) (hv : fs[5]? = some v) (kk : E G k R ce sl mem (pc + 3) loc (v :: st)) : E G k R ce sl mem pc loc (.ref r :: st) := E_getf (T := TX3) (N := 7) (kf := 5) hd xin_X3 hown rfl (by decide) rfl wf_X3_35 hm hv kk
theorem pf_X3_35 {a : Nat} (hd : decode k.2.1 pc = .ok (.putfield 35, 3)) (hown : k.1.cls = RX3) (hi : k.1.name = "<init>") (hm : mem[r]? = some (.inr (3, fs))) (hl : 5 < fs.length) (kk : E G k R ce sl (mem.set r (.inr (3, fs.set 5 (.ref a)))) (pc + 3) loc st) : E G k R ce sl mem pc loc (.ref a :: .ref r :: st) := E_putF (T := TX3) (N := 7) (kf := 5) (v := .ref a) hd xin_X3 tyX3_ok nmX3 hown hi rfl (by decide) rfl rfl wf_X3_35 rfl hm rfl rfl hl kk
theorem wf_X3_39 : Cond.fieldLink RX3 39 RX3 "hasSaved" "Z" ∈ x_tbl := x_w 152 (by decide +kernel) (by decide +kernel)
theorem gf_X3_39 {v : Value} (hd : decode k.2.1 pc = .ok (.getfield 39, 3)) (hown : k.1.cls = RX3) (hm : mem[r]? = some (.inr (3, fs))) (hv : fs[6]? = some v) (kk : E G k R ce sl mem (pc + 3) loc (v :: st)) : E G k R ce sl mem pc loc (.ref r :: st) := E_getf (T := TX3) (N := 7) (kf := 6) hd xin_X3 hown rfl (by decide) rfl wf_X3_39 hm hv kk
theorem pf_X3_39 {x : Int32} (hd : decode k.2.1 pc = .ok (.putfield 39, 3)) (hown : k.1.cls = RX3) (hb : x = 0 ∨ x = 1) (hm : mem[r]? = some (.inr (3, fs))) (hl : 6 < fs.length) (kk : E G k R ce sl (mem.set r (.inr (3, fs.set 6 (.int x)))) (pc + 3) loc st) : E G k R ce sl mem pc loc (.int x :: .ref r :: st) := E_putf (T := TX3) (N := 7) (kf := 6) (v := .int x) hd xin_X3 tyX3_ok nmX3 hown rfl (by decide) rfl wf_X3_39 rfl hm (by rcases hb with rfl | rfl <;> rfl) (by rcases hb with rfl | rfl <;> rfl) hl kk
theorem wf_X4_7 : Cond.fieldLink RX4 7 RX4 "z" "[I" ∈ x_tbl := x_w 527 (by decide +kernel) (by decide +kernel)
theorem gf_X4_7 {v : Value} (hd : decode k.2.1 pc = .ok (.getfield 7, 3)) (hown : k.1.cls = RX4) (hm : mem[r]? = some (.inr (4, fs))) (hv : fs[0]? = some v) (kk : E G k R ce sl mem (pc + 3) loc (v :: st)) : E G k R ce sl mem pc loc (.ref r :: st) := E_getf (T := TX4) (N := 13) (kf := 0) hd xin_X4 hown rfl (by decide) rfl wf_X4_7 hm hv kk
theorem pf_X4_7 {a : Nat} (hd : decode k.2.1 pc = .ok (.putfield 7, 3)) (hown : k.1.cls = RX4) (hi : k.1.name = "<init>") (hm : mem[r]? = some (.inr (4, fs))) (hl : 0 < fs.length) (kk : E G k R ce sl (mem.set r (.inr (4, fs.set 0 (.ref a)))) (pc + 3) loc st) : E G k R ce sl mem pc loc (.ref a :: .ref r :: st) := E_putF (T := TX4) (N := 13) (kf := 0) (v := .ref a) hd xin_X4 tyX4_ok nmX4 hown hi rfl (by decide) rfl rfl wf_X4_7 rfl hm rfl rfl hl kk
theorem wf_X4_13 : Cond.fieldLink RX4 13 RX4 "past" "[I" ∈ x_tbl := x_w 528 (by decide +kernel) (by decide +kernel)
theorem gf_X4_13 {v : Value} (hd : decode k.2.1 pc = .ok (.getfield 13, 3)) (hown : k.1.cls = RX4) (hm : mem[r]? = some (.inr (4, fs))) (hv : fs[1]? = some v) (kk : E G k R ce sl mem (pc + 3) loc (v :: st)) : E G k R ce sl mem pc loc (.ref r :: st) := E_getf (T := TX4) (N := 13) (kf := 1) hd xin_X4 hown rfl (by decide) rfl wf_X4_13 hm hv kk
theorem pf_X4_13 {a : Nat} (hd : decode k.2.1 pc = .ok (.putfield 13, 3)) (hown : k.1.cls = RX4) (hi : k.1.name = "<init>") (hm : mem[r]? = some (.inr (4, fs))) (hl : 1 < fs.length) (kk : E G k R ce sl (mem.set r (.inr (4, fs.set 1 (.ref a)))) (pc + 3) loc st) : E G k R ce sl mem pc loc (.ref a :: .ref r :: st) := E_putF (T := TX4) (N := 13) (kf := 1) (v := .ref a) hd xin_X4 tyX4_ok nmX4 hown hi rfl (by decide) rfl rfl wf_X4_13 rfl hm rfl rfl hl kk
theorem wf_X4_32 : Cond.fieldLink RX4 32 RX4 "pastMany" "I" ∈ x_tbl := x_w 529 (by decide +kernel) (by decide +kernel)
theorem gf_X4_32 {v : Value} (hd : decode k.2.1 pc = .ok (.getfield 32, 3)) (hown : k.1.cls = RX4) (hm : mem[r]? = some (.inr (4, fs))) (hv : fs[2]? = some v) (kk : E G k R ce sl mem (pc + 3) loc (v :: st)) : E G k R ce sl mem pc loc (.ref r :: st) := E_getf (T := TX4) (N := 13) (kf := 2) hd xin_X4 hown rfl (by decide) rfl wf_X4_32 hm hv kk
theorem pf_X4_32 {x : Int32} (hd : decode k.2.1 pc = .ok (.putfield 32, 3)) (hown : k.1.cls = RX4) (hm : mem[r]? = some (.inr (4, fs))) (hl : 2 < fs.length) (kk : E G k R ce sl (mem.set r (.inr (4, fs.set 2 (.int x)))) (pc + 3) loc st) : E G k R ce sl mem pc loc (.int x :: .ref r :: st) := E_putf (T := TX4) (N := 13) (kf := 2) (v := .int x) hd xin_X4 tyX4_ok nmX4 hown rfl (by decide) rfl wf_X4_32 rfl hm rfl rfl hl kk
theorem wf_X4_16 : Cond.fieldLink RX4 16 RX4 "kept" "[I" ∈ x_tbl := x_w 530 (by decide +kernel) (by decide +kernel)
theorem gf_X4_16 {v : Value} (hd : decode k.2.1 pc = .ok (.getfield 16, 3)) (hown : k.1.cls = RX4) (hm : mem[r]? = some (.inr (4, fs))) (hv : fs[3]? = some v) (kk : E G k R ce sl mem (pc + 3) loc (v :: st)) : E G k R ce sl mem pc loc (.ref r :: st) := E_getf (T := TX4) (N := 13) (kf := 3) hd xin_X4 hown rfl (by decide) rfl wf_X4_16 hm hv kk
theorem pf_X4_16 {a : Nat} (hd : decode k.2.1 pc = .ok (.putfield 16, 3)) (hown : k.1.cls = RX4) (hi : k.1.name = "<init>") (hm : mem[r]? = some (.inr (4, fs))) (hl : 3 < fs.length) (kk : E G k R ce sl (mem.set r (.inr (4, fs.set 3 (.ref a)))) (pc + 3) loc st) : E G k R ce sl mem pc loc (.ref a :: .ref r :: st) := E_putF (T := TX4) (N := 13) (kf := 3) (v := .ref a) hd xin_X4 tyX4_ok nmX4 hown hi rfl (by decide) rfl rfl wf_X4_16 rfl hm rfl rfl hl kk
theorem wf_X4_36 : Cond.fieldLink RX4 36 RX4 "isKept" "Z" ∈ x_tbl := x_w 531 (by decide +kernel) (by decide +kernel)
theorem gf_X4_36 {v : Value} (hd : decode k.2.1 pc = .ok (.getfield 36, 3)) (hown : k.1.cls = RX4) (hm : mem[r]? = some (.inr (4, fs))) (hv : fs[4]? = some v) (kk : E G k R ce sl mem (pc + 3) loc (v :: st)) : E G k R ce sl mem pc loc (.ref r :: st) := E_getf (T := TX4) (N := 13) (kf := 4) hd xin_X4 hown rfl (by decide) rfl wf_X4_36 hm hv kk
theorem pf_X4_36 {x : Int32} (hd : decode k.2.1 pc = .ok (.putfield 36, 3)) (hown : k.1.cls = RX4) (hb : x = 0 ∨ x = 1) (hm : mem[r]? = some (.inr (4, fs))) (hl : 4 < fs.length) (kk : E G k R ce sl (mem.set r (.inr (4, fs.set 4 (.int x)))) (pc + 3) loc st) : E G k R ce sl mem pc loc (.int x :: .ref r :: st) := E_putf (T := TX4) (N := 13) (kf := 4) (v := .int x) hd xin_X4 tyX4_ok nmX4 hown rfl (by decide) rfl wf_X4_36 rfl hm (by rcases hb with rfl | rfl <;> rfl) (by rcases hb with rfl | rfl <;> rfl) hl kk
theorem wf_X4_19 : Cond.fieldLink RX4 19 RX4 "aside" "[I" ∈ x_tbl := x_w 532 (by decide +kernel) (by decide +kernel)
theorem gf_X4_19 {v : Value} (hd : decode k.2.1 pc = .ok (.getfield 19, 3)) (hown : k.1.cls = RX4) (hm : mem[r]? = some (.inr (4, fs))) (hv : fs[5]? = some v) (kk : E G k R ce sl mem (pc + 3) loc (v :: st)) : E G k R ce sl mem pc loc (.ref r :: st) := E_getf (T := TX4) (N := 13) (kf := 5) hd xin_X4 hown rfl (by decide) rfl wf_X4_19 hm hv kk
theorem pf_X4_19 {a : Nat} (hd : decode k.2.1 pc = .ok (.putfield 19, 3)) (hown : k.1.cls = RX4) (hi : k.1.name = "<init>") (hm : mem[r]? = some (.inr (4, fs))) (hl : 5 < fs.length) (kk : E G k R ce sl (mem.set r (.inr (4, fs.set 5 (.ref a)))) (pc + 3) loc st) : E G k R ce sl mem pc loc (.ref a :: .ref r :: st) := E_putF (T := TX4) (N := 13) (kf := 5) (v := .ref a) hd xin_X4 tyX4_ok nmX4 hown hi rfl (by decide) rfl rfl wf_X4_19 rfl hm rfl rfl hl kk
theorem wf_X4_22 : Cond.fieldLink RX4 22 RX4 "buffer" "[C" ∈ x_tbl := x_w 533 (by decide +kernel) (by decide +kernel)
theorem gf_X4_22 {v : Value} (hd : decode k.2.1 pc = .ok (.getfield 22, 3)) (hown : k.1.cls = RX4) (hm : mem[r]? = some (.inr (4, fs))) (hv : fs[6]? = some v) (kk : E G k R ce sl mem (pc + 3) loc (v :: st)) : E G k R ce sl mem pc loc (.ref r :: st) := E_getf (T := TX4) (N := 13) (kf := 6) hd xin_X4 hown rfl (by decide) rfl wf_X4_22 hm hv kk
theorem pf_X4_22 {a : Nat} (hd : decode k.2.1 pc = .ok (.putfield 22, 3)) (hown : k.1.cls = RX4) (hi : k.1.name = "<init>") (hm : mem[r]? = some (.inr (4, fs))) (hl : 6 < fs.length) (kk : E G k R ce sl (mem.set r (.inr (4, fs.set 6 (.ref a)))) (pc + 3) loc st) : E G k R ce sl mem pc loc (.ref a :: .ref r :: st) := E_putF (T := TX4) (N := 13) (kf := 6) (v := .ref a) hd xin_X4 tyX4_ok nmX4 hown hi rfl (by decide) rfl rfl wf_X4_22 rfl hm rfl rfl hl kk
theorem wf_X4_144 : Cond.fieldLink RX4 144 RX4 "typed" "I" ∈ x_tbl := x_w 534 (by decide +kernel) (by decide +kernel)
theorem gf_X4_144 {v : Value} (hd : decode k.2.1 pc = .ok (.getfield 144, 3)) (hown : k.1.cls = RX4) (hm : mem[r]? = some (.inr (4, fs))) (hv : fs[7]? = some v) (kk : E G k R ce sl mem (pc + 3) loc (v :: st)) : E G k R ce sl mem pc loc (.ref r :: st) := E_getf (T := TX4) (N := 13) (kf := 7) hd xin_X4 hown rfl (by decide) rfl wf_X4_144 hm hv kk
theorem pf_X4_144 {x : Int32} (hd : decode k.2.1 pc = .ok (.putfield 144, 3)) (hown : k.1.cls = RX4) (hm : mem[r]? = some (.inr (4, fs))) (hl : 7 < fs.length) (kk : E G k R ce sl (mem.set r (.inr (4, fs.set 7 (.int x)))) (pc + 3) loc st) : E G k R ce sl mem pc loc (.int x :: .ref r :: st) := E_putf (T := TX4) (N := 13) (kf := 7) (v := .int x) hd xin_X4 tyX4_ok nmX4 hown rfl (by decide) rfl wf_X4_144 rfl hm rfl rfl hl kk
theorem wf_X4_26 : Cond.fieldLink RX4 26 RX4 "reached" "[I" ∈ x_tbl := x_w 535 (by decide +kernel) (by decide +kernel)
theorem gf_X4_26 {v : Value} (hd : decode k.2.1 pc = .ok (.getfield 26, 3)) (hown : k.1.cls = RX4) (hm : mem[r]? = some (.inr (4, fs))) (hv : fs[8]? = some v) (kk : E G k R ce sl mem (pc + 3) loc (v :: st)) : E G k R ce sl mem pc loc (.ref r :: st) := E_getf (T := TX4) (N := 13) (kf := 8) hd xin_X4 hown rfl (by decide) rfl wf_X4_26 hm hv kk
theorem pf_X4_26 {a : Nat} (hd : decode k.2.1 pc = .ok (.putfield 26, 3)) (hown : k.1.cls = RX4) (hi : k.1.name = "<init>") (hm : mem[r]? = some (.inr (4, fs))) (hl : 8 < fs.length) (kk : E G k R ce sl (mem.set r (.inr (4, fs.set 8 (.ref a)))) (pc + 3) loc st) : E G k R ce sl mem pc loc (.ref a :: .ref r :: st) := E_putF (T := TX4) (N := 13) (kf := 8) (v := .ref a) hd xin_X4 tyX4_ok nmX4 hown hi rfl (by decide) rfl rfl wf_X4_26 rfl hm rfl rfl hl kk
theorem wf_X4_29 : Cond.fieldLink RX4 29 RX4 "told" "[I" ∈ x_tbl := x_w 536 (by decide +kernel) (by decide +kernel)
theorem gf_X4_29 {v : Value} (hd : decode k.2.1 pc = .ok (.getfield 29, 3)) (hown : k.1.cls = RX4) (hm : mem[r]? = some (.inr (4, fs))) (hv : fs[9]? = some v) (kk : E G k R ce sl mem (pc + 3) loc (v :: st)) : E G k R ce sl mem pc loc (.ref r :: st) := E_getf (T := TX4) (N := 13) (kf := 9) hd xin_X4 hown rfl (by decide) rfl wf_X4_29 hm hv kk
theorem pf_X4_29 {a : Nat} (hd : decode k.2.1 pc = .ok (.putfield 29, 3)) (hown : k.1.cls = RX4) (hi : k.1.name = "<init>") (hm : mem[r]? = some (.inr (4, fs))) (hl : 9 < fs.length) (kk : E G k R ce sl (mem.set r (.inr (4, fs.set 9 (.ref a)))) (pc + 3) loc st) : E G k R ce sl mem pc loc (.ref a :: .ref r :: st) := E_putF (T := TX4) (N := 13) (kf := 9) (v := .ref a) hd xin_X4 tyX4_ok nmX4 hown hi rfl (by decide) rfl rfl wf_X4_29 rfl hm rfl rfl hl kk
theorem wf_X4_160 : Cond.fieldLink RX4 160 RX4 "toldMany" "I" ∈ x_tbl := x_w 537 (by decide +kernel) (by decide +kernel)
theorem gf_X4_160 {v : Value} (hd : decode k.2.1 pc = .ok (.getfield 160, 3)) (hown : k.1.cls = RX4) (hm : mem[r]? = some (.inr (4, fs))) (hv : fs[10]? = some v) (kk : E G k R ce sl mem (pc + 3) loc (v :: st)) : E G k R ce sl mem pc loc (.ref r :: st) := E_getf (T := TX4) (N := 13) (kf := 10) hd xin_X4 hown rfl (by decide) rfl wf_X4_160 hm hv kk
theorem pf_X4_160 {x : Int32} (hd : decode k.2.1 pc = .ok (.putfield 160, 3)) (hown : k.1.cls = RX4) (hm : mem[r]? = some (.inr (4, fs))) (hl : 10 < fs.length) (kk : E G k R ce sl (mem.set r (.inr (4, fs.set 10 (.int x)))) (pc + 3) loc st) : E G k R ce sl mem pc loc (.int x :: .ref r :: st) := E_putf (T := TX4) (N := 13) (kf := 10) (v := .int x) hd xin_X4 tyX4_ok nmX4 hown rfl (by decide) rfl wf_X4_160 rfl hm rfl rfl hl kk
theorem wf_X4_147 : Cond.fieldLink RX4 147 RX4 "spot" "I" ∈ x_tbl := x_w 538 (by decide +kernel) (by decide +kernel)
theorem gf_X4_147 {v : Value} (hd : decode k.2.1 pc = .ok (.getfield 147, 3)) (hown : k.1.cls = RX4) (hm : mem[r]? = some (.inr (4, fs))) (hv : fs[11]? = some v) (kk : E G k R ce sl mem (pc + 3) loc (v :: st)) : E G k R ce sl mem pc loc (.ref r :: st) := E_getf (T := TX4) (N := 13) (kf := 11) hd xin_X4 hown rfl (by decide) rfl wf_X4_147 hm hv kk
theorem pf_X4_147 {x : Int32} (hd : decode k.2.1 pc = .ok (.putfield 147, 3)) (hown : k.1.cls = RX4) (hm : mem[r]? = some (.inr (4, fs))) (hl : 11 < fs.length) (kk : E G k R ce sl (mem.set r (.inr (4, fs.set 11 (.int x)))) (pc + 3) loc st) : E G k R ce sl mem pc loc (.int x :: .ref r :: st) := E_putf (T := TX4) (N := 13) (kf := 11) (v := .int x) hd xin_X4 tyX4_ok nmX4 hown rfl (by decide) rfl wf_X4_147 rfl hm rfl rfl hl kk
theorem wf_X4_150 : Cond.fieldLink RX4 150 RX4 "wrong" "I" ∈ x_tbl := x_w 539 (by decide +kernel) (by decide +kernel)
theorem gf_X4_150 {v : Value} (hd : decode k.2.1 pc = .ok (.getfield 150, 3)) (hown : k.1.cls = RX4) (hm : mem[r]? = some (.inr (4, fs))) (hv : fs[12]? = some v) (kk : E G k R ce sl mem (pc + 3) loc (v :: st)) : E G k R ce sl mem pc loc (.ref r :: st) := E_getf (T := TX4) (N := 13) (kf := 12) hd xin_X4 hown rfl (by decide) rfl wf_X4_150 hm hv kk
theorem pf_X4_150 {x : Int32} (hd : decode k.2.1 pc = .ok (.putfield 150, 3)) (hown : k.1.cls = RX4) (hm : mem[r]? = some (.inr (4, fs))) (hl : 12 < fs.length) (kk : E G k R ce sl (mem.set r (.inr (4, fs.set 12 (.int x)))) (pc + 3) loc st) : E G k R ce sl mem pc loc (.int x :: .ref r :: st) := E_putf (T := TX4) (N := 13) (kf := 12) (v := .int x) hd xin_X4 tyX4_ok nmX4 hown rfl (by decide) rfl wf_X4_150 rfl hm rfl rfl hl kk
theorem cs_X3_init_9 {mem2 : xM} (hrest : (st.map fun v => v.category).sum ≤ 8) (hcs : ce + 8 ≤ 85 ∧ sl + 156 ≤ 1590) (hC : Dt G kX0_init [.ref r] mem (none) mem2) (kk : E G kX3_init R (ce + 8) (sl + 156) mem2 12 loc (st)) : E G kX3_init R ce sl mem 9 loc (.ref r :: st) := E_I0v (k := kX3_init) (k' := kX0_init) dX3_init_9 rfl okX0_init rfl rfl wiX0_init wl_X3_9 ⟨Nat.le_of_ble_eq_true rfl, Nat.le_of_ble_eq_true rfl⟩ hcs hrest hC kk
theorem cs_X3_init_20 {mem2 : xM} (hrest : (st.map fun v => v.category).sum ≤ 8) (hcs : ce + 8 ≤ 85 ∧ sl + 156 ≤ 1590) (hC : Dt G kX0_init [.ref r] mem (none) mem2) (kk : E G kX3_init R (ce + 8) (sl + 156) mem2 23 loc (st)) : E G kX3_init R ce sl mem 20 loc (.ref r :: st) := E_I0v (k := kX3_init) (k' := kX0_init) dX3_init_20 rfl okX0_init rfl rfl wiX0_init wl_X3_9 ⟨Nat.le_of_ble_eq_true rfl, Nat.le_of_ble_eq_true rfl⟩ hcs hrest hC kk
theorem cs_X3_init_31 {mem2 : xM} (hrest : (st.map fun v => v.category).sum ≤ 8) (hcs : ce + 8 ≤ 85 ∧ sl + 156 ≤ 1590) (hC : Dt G kX0_init [.ref r] mem (none) mem2) (kk : E G kX3_init R (ce + 8) (sl + 156) mem2 34 loc (st)) : E G kX3_init R ce sl mem 31 loc (.ref r :: st) := E_I0v (k := kX3_init) (k' := kX0_init) dX3_init_31 rfl okX0_init rfl rfl wiX0_init wl_X3_9 ⟨Nat.le_of_ble_eq_true rfl, Nat.le_of_ble_eq_true rfl⟩ hcs hrest hC kk
theorem cs_X3_init_42 {mem2 : xM} (hrest : (st.map fun v => v.category).sum ≤ 8) (hcs : ce + 8 ≤ 85 ∧ sl + 156 ≤ 1590) (hC : Dt G kX0_init [.ref r] mem (none) mem2) (kk : E G kX3_init R (ce + 8) (sl + 156) mem2 45 loc (st)) : E G kX3_init R ce sl mem 42 loc (.ref r :: st) := E_I0v (k := kX3_init) (k' := kX0_init) dX3_init_42 rfl okX0_init rfl rfl wiX0_init wl_X3_9 ⟨Nat.le_of_ble_eq_true rfl, Nat.le_of_ble_eq_true rfl⟩ hcs hrest hC kk
theorem cs_X3_init_53 {mem2 : xM} (hrest : (st.map fun v => v.category).sum ≤ 8) (hcs : ce + 46 ≤ 85 ∧ sl + 850 ≤ 1590) (hC : Dt G kX1_init [.ref r] mem (none) mem2) (kk : E G kX3_init R (ce + 46) (sl + 850) mem2 56 loc (st)) : E G kX3_init R ce sl mem 53 loc (.ref r :: st) := E_I0v (k := kX3_init) (k' := kX1_init) dX3_init_53 rfl okX1_init rfl rfl wiX1_init wl_X3_27 ⟨Nat.le_of_ble_eq_true rfl, Nat.le_of_ble_eq_true rfl⟩ hcs hrest hC kk
theorem cs_X3_init_64 {mem2 : xM} (hrest : (st.map fun v => v.category).sum ≤ 8) (hcs : ce + 1 ≤ 85 ∧ sl + 60 ≤ 1590) (hC : Dt G kX2_init [.ref r] mem (none) mem2) (kk : E G kX3_init R (ce + 1) (sl + 60) mem2 67 loc (st)) : E G kX3_init R ce sl mem 64 loc (.ref r :: st) := E_IN0v (k := kX3_init) (k' := kX2_init) dX3_init_64 rfl okX2_init rfl rfl wiX2_init wl_X3_34 ⟨Nat.le_of_ble_eq_true rfl, Nat.le_of_ble_eq_true rfl⟩ hcs hrest hC kk
theorem cs_X1_init_33 {mem2 : xM} (hrest : (st.map fun v => v.category).sum ≤ 8) (hcs : ce + 8 ≤ 46 ∧ sl + 156 ≤ 850) (hC : Dt G kX0_init [.ref r] mem (none) mem2) (kk : E G kX1_init R (ce + 8) (sl + 156) mem2 36 loc (st)) : E G kX1_init R ce sl mem 33 loc (.ref r :: st) := E_I0v (k := kX1_init) (k' := kX0_init) dX1_init_33 rfl okX0_init rfl rfl wiX0_init wl_X1_21 ⟨Nat.le_of_ble_eq_true rfl, Nat.le_of_ble_eq_true rfl⟩ hcs hrest hC kk
theorem cs_X3_setTop_8 {a1 : Value} {mem2 : xM} (hm : mem[r]? = some (.inr (0, fs))) (hrest : (st.map fun v => v.category).sum ≤ 8) (hC : Dt G kX0_copyFrom [.ref r, a1] mem (none) mem2) (kk : E G kX3_setTop R 0 0 mem2 11 loc (st)) : E G kX3_setTop R 0 0 mem 8 loc (a1 :: .ref r :: st) := E_V1v (k := kX3_setTop) (k' := kX0_copyFrom) dX3_setTop_8 rfl okX0_copyFrom wiX0_copyFrom wzX0_copyFrom wl_X3_43 ⟨Nat.le_of_ble_eq_true rfl, Nat.le_of_ble_eq_true rfl⟩ ⟨rfl, rfl⟩ ⟨Nat.zero_le _, Nat.zero_le _⟩ hrest hm rfl hC kk
theorem cs_X3_setTop_17 {a1 : Value} {x : Int32} {mem2 : xM} (hm : mem[r]? = some (.inr (0, fs))) (hrest : (st.map fun v => v.category).sum ≤ 8) (hC : Dt G kX0_changeTop [.ref r, a1] mem (some (.int x)) mem2) (kk : E G kX3_setTop R 0 0 mem2 20 loc (.int x :: st)) : E G kX3_setTop R 0 0 mem 17 loc (a1 :: .ref r :: st) := E_V1i (k := kX3_setTop) (k' := kX0_changeTop) dX3_setTop_17 rfl okX0_changeTop wiX0_changeTop wzX0_changeTop wl_X3_47 ⟨Nat.le_of_ble_eq_true rfl, Nat.le_of_ble_eq_true rfl⟩ ⟨rfl, rfl⟩ ⟨Nat.zero_le _, Nat.zero_le _⟩ hrest hm rfl hC kk
theorem cs_X3_setTop_20 {a1 : Value} {x : Int32} {mem2 : xM} (hm : mem[r]? = some (.inr (3, fs))) (hrest : (st.map fun v => v.category).sum ≤ 8) (hC : Dt G kX3_recordUnlessError [.ref r, a1] mem (some (.int x)) mem2) (kk : E G kX3_setTop R 0 0 mem2 23 loc (.int x :: st)) : E G kX3_setTop R 0 0 mem 20 loc (a1 :: .ref r :: st) := E_V1i (k := kX3_setTop) (k' := kX3_recordUnlessError) dX3_setTop_20 rfl okX3_recordUnlessError wiX3_recordUnlessError wzX3_recordUnlessError wl_X3_51 ⟨Nat.le_of_ble_eq_true rfl, Nat.le_of_ble_eq_true rfl⟩ ⟨rfl, rfl⟩ ⟨Nat.zero_le _, Nat.zero_le _⟩ hrest hm rfl hC kk
theorem cs_X0_changeTop_36 {a1 : Value} {x : Int32} {mem2 : xM} (hm : mem[r]? = some (.inr (0, fs))) (hrest : (st.map fun v => v.category).sum ≤ 8) (hC : Dt G kX0_isUpperEnd [.ref r, a1] mem (some (.int x)) mem2) (kk : E G kX0_changeTop R 0 0 mem2 39 loc (.int x :: st)) : E G kX0_changeTop R 0 0 mem 36 loc (a1 :: .ref r :: st) := E_V1i (k := kX0_changeTop) (k' := kX0_isUpperEnd) dX0_changeTop_36 rfl okX0_isUpperEnd wiX0_isUpperEnd wzX0_isUpperEnd wl_X0_63 ⟨Nat.le_of_ble_eq_true rfl, Nat.le_of_ble_eq_true rfl⟩ ⟨rfl, rfl⟩ ⟨Nat.zero_le _, Nat.zero_le _⟩ hrest hm rfl hC kk
theorem cs_X0_changeTop_44 {a1 : Value} {x : Int32} {mem2 : xM} (hm : mem[r]? = some (.inr (0, fs))) (hrest : (st.map fun v => v.category).sum ≤ 8) (hC : Dt G kX0_climbersOn [.ref r, a1] mem (some (.int x)) mem2) (kk : E G kX0_changeTop R 0 0 mem2 47 loc (.int x :: st)) : E G kX0_changeTop R 0 0 mem 44 loc (a1 :: .ref r :: st) := E_V1i (k := kX0_changeTop) (k' := kX0_climbersOn) dX0_changeTop_44 rfl okX0_climbersOn wiX0_climbersOn wzX0_climbersOn wl_X0_66 ⟨Nat.le_of_ble_eq_true rfl, Nat.le_of_ble_eq_true rfl⟩ ⟨rfl, rfl⟩ ⟨Nat.zero_le _, Nat.zero_le _⟩ hrest hm rfl hC kk
theorem cs_X3_recordUnlessError_12 {a1 : Value} {mem2 : xM} (hm : mem[r]? = some (.inr (1, fs))) (hrest : (st.map fun v => v.category).sum ≤ 8) (hC : Dt G kX1_keep [.ref r, a1] mem (none) mem2) (kk : E G kX3_recordUnlessError R 0 0 mem2 15 loc (st)) : E G kX3_recordUnlessError R 0 0 mem 12 loc (a1 :: .ref r :: st) := E_V1v (k := kX3_recordUnlessError) (k' := kX1_keep) dX3_recordUnlessError_12 rfl okX1_keep wiX1_keep wzX1_keep wl_X3_153 ⟨Nat.le_of_ble_eq_true rfl, Nat.le_of_ble_eq_true rfl⟩ ⟨rfl, rfl⟩ ⟨Nat.zero_le _, Nat.zero_le _⟩ hrest hm rfl hC kk
theorem cs_X1_keep_9 {mem2 : xM} (hm : mem[r]? = some (.inr (1, fs))) (hrest : (st.map fun v => v.category).sum ≤ 8) (hC : Dt G kX1_makeOldestLast [.ref r] mem (none) mem2) (kk : E G kX1_keep R 0 0 mem2 12 loc (st)) : E G kX1_keep R 0 0 mem 9 loc (.ref r :: st) := E_V0v (k := kX1_keep) (k' := kX1_makeOldestLast) dX1_keep_9 rfl okX1_makeOldestLast wiX1_makeOldestLast wzX1_makeOldestLast wl_X1_22 ⟨Nat.le_of_ble_eq_true rfl, Nat.le_of_ble_eq_true rfl⟩ ⟨rfl, rfl⟩ ⟨Nat.zero_le _, Nat.zero_le _⟩ hrest hm rfl hC kk
theorem cs_X1_keep_33 {a1 : Value} {mem2 : xM} (hm : mem[r]? = some (.inr (0, fs))) (hrest : (st.map fun v => v.category).sum ≤ 8) (hC : Dt G kX0_copyFrom [.ref r, a1] mem (none) mem2) (kk : E G kX1_keep R 0 0 mem2 36 loc (st)) : E G kX1_keep R 0 0 mem 33 loc (a1 :: .ref r :: st) := E_V1v (k := kX1_keep) (k' := kX0_copyFrom) dX1_keep_33 rfl okX0_copyFrom wiX0_copyFrom wzX0_copyFrom wl_X1_25 ⟨Nat.le_of_ble_eq_true rfl, Nat.le_of_ble_eq_true rfl⟩ ⟨rfl, rfl⟩ ⟨Nat.zero_le _, Nat.zero_le _⟩ hrest hm rfl hC kk
theorem cs_X3_lay_8 {a1 : Value} {mem2 : xM} (hm : mem[r]? = some (.inr (0, fs))) (hrest : (st.map fun v => v.category).sum ≤ 8) (hC : Dt G kX0_copyFrom [.ref r, a1] mem (none) mem2) (kk : E G kX3_lay R 0 0 mem2 11 loc (st)) : E G kX3_lay R 0 0 mem 8 loc (a1 :: .ref r :: st) := E_V1v (k := kX3_lay) (k' := kX0_copyFrom) dX3_lay_8 rfl okX0_copyFrom wiX0_copyFrom wzX0_copyFrom wl_X3_43 ⟨Nat.le_of_ble_eq_true rfl, Nat.le_of_ble_eq_true rfl⟩ ⟨rfl, rfl⟩ ⟨Nat.zero_le _, Nat.zero_le _⟩ hrest hm rfl hC kk
theorem cs_X3_lay_18 {a1 a2 : Value} {x : Int32} {mem2 : xM} (hm : mem[r]? = some (.inr (0, fs))) (hrest : (st.map fun v => v.category).sum ≤ 8) (hC : Dt G kX0_layCarpet [.ref r, a1, a2] mem (some (.int x)) mem2) (kk : E G kX3_lay R 0 0 mem2 21 loc (.int x :: st)) : E G kX3_lay R 0 0 mem 18 loc (a2 :: a1 :: .ref r :: st) := E_V2i (k := kX3_lay) (k' := kX0_layCarpet) dX3_lay_18 rfl okX0_layCarpet wiX0_layCarpet wzX0_layCarpet wl_X3_54 ⟨Nat.le_of_ble_eq_true rfl, Nat.le_of_ble_eq_true rfl⟩ ⟨rfl, rfl⟩ ⟨Nat.zero_le _, Nat.zero_le _⟩ hrest hm rfl hC kk
theorem cs_X3_lay_21 {a1 : Value} {x : Int32} {mem2 : xM} (hm : mem[r]? = some (.inr (3, fs))) (hrest : (st.map fun v => v.category).sum ≤ 8) (hC : Dt G kX3_recordUnlessError [.ref r, a1] mem (some (.int x)) mem2) (kk : E G kX3_lay R 0 0 mem2 24 loc (.int x :: st)) : E G kX3_lay R 0 0 mem 21 loc (a1 :: .ref r :: st) := E_V1i (k := kX3_lay) (k' := kX3_recordUnlessError) dX3_lay_21 rfl okX3_recordUnlessError wiX3_recordUnlessError wzX3_recordUnlessError wl_X3_51 ⟨Nat.le_of_ble_eq_true rfl, Nat.le_of_ble_eq_true rfl⟩ ⟨rfl, rfl⟩ ⟨Nat.zero_le _, Nat.zero_le _⟩ hrest hm rfl hC kk
theorem cs_X0_layCarpet_6 {a1 : Value} {x : Int32} {mem2 : xM} (hm : mem[r]? = some (.inr (0, fs))) (hrest : (st.map fun v => v.category).sum ≤ 8) (hC : Dt G kX0_isBelowTop [.ref r, a1] mem (some (.int x)) mem2) (kk : E G kX0_layCarpet R 0 0 mem2 9 loc (.int x :: st)) : E G kX0_layCarpet R 0 0 mem 6 loc (a1 :: .ref r :: st) := E_V1i (k := kX0_layCarpet) (k' := kX0_isBelowTop) dX0_layCarpet_6 rfl okX0_isBelowTop wiX0_isBelowTop wzX0_isBelowTop wl_X0_70 ⟨Nat.le_of_ble_eq_true rfl, Nat.le_of_ble_eq_true rfl⟩ ⟨rfl, rfl⟩ ⟨Nat.zero_le _, Nat.zero_le _⟩ hrest hm rfl hC kk
theorem cs_X0_layCarpet_28 {a1 : Value} {x : Int32} {mem2 : xM} (hm : mem[r]? = some (.inr (0, fs))) (hrest : (st.map fun v => v.category).sum ≤ 8) (hC : Dt G kX0_isUpperEnd [.ref r, a1] mem (some (.int x)) mem2) (kk : E G kX0_layCarpet R 0 0 mem2 31 loc (.int x :: st)) : E G kX0_layCarpet R 0 0 mem 28 loc (a1 :: .ref r :: st) := E_V1i (k := kX0_layCarpet) (k' := kX0_isUpperEnd) dX0_layCarpet_28 rfl okX0_isUpperEnd wiX0_isUpperEnd wzX0_isUpperEnd wl_X0_63 ⟨Nat.le_of_ble_eq_true rfl, Nat.le_of_ble_eq_true rfl⟩ ⟨rfl, rfl⟩ ⟨Nat.zero_le _, Nat.zero_le _⟩ hrest hm rfl hC kk
theorem cs_X0_layCarpet_36 {a1 : Value} {x : Int32} {mem2 : xM} (hm : mem[r]? = some (.inr (0, fs))) (hrest : (st.map fun v => v.category).sum ≤ 8) (hC : Dt G kX0_isUpperEnd [.ref r, a1] mem (some (.int x)) mem2) (kk : E G kX0_layCarpet R 0 0 mem2 39 loc (.int x :: st)) : E G kX0_layCarpet R 0 0 mem 36 loc (a1 :: .ref r :: st) := E_V1i (k := kX0_layCarpet) (k' := kX0_isUpperEnd) dX0_layCarpet_36 rfl okX0_isUpperEnd wiX0_isUpperEnd wzX0_isUpperEnd wl_X0_63 ⟨Nat.le_of_ble_eq_true rfl, Nat.le_of_ble_eq_true rfl⟩ ⟨rfl, rfl⟩ ⟨Nat.zero_le _, Nat.zero_le _⟩ hrest hm rfl hC kk
theorem cs_X0_layCarpet_44 {a1 : Value} {x : Int32} {mem2 : xM} (hm : mem[r]? = some (.inr (0, fs))) (hrest : (st.map fun v => v.category).sum ≤ 8) (hC : Dt G kX0_lowerEndsAt [.ref r, a1] mem (some (.int x)) mem2) (kk : E G kX0_layCarpet R 0 0 mem2 47 loc (.int x :: st)) : E G kX0_layCarpet R 0 0 mem 44 loc (a1 :: .ref r :: st) := E_V1i (k := kX0_layCarpet) (k' := kX0_lowerEndsAt) dX0_layCarpet_44 rfl okX0_lowerEndsAt wiX0_lowerEndsAt wzX0_lowerEndsAt wl_X0_73 ⟨Nat.le_of_ble_eq_true rfl, Nat.le_of_ble_eq_true rfl⟩ ⟨rfl, rfl⟩ ⟨Nat.zero_le _, Nat.zero_le _⟩ hrest hm rfl hC kk
theorem cs_X0_layCarpet_64 {a1 : Value} {x : Int32} {mem2 : xM} (hm : mem[r]? = some (.inr (0, fs))) (hrest : (st.map fun v => v.category).sum ≤ 8) (hC : Dt G kX0_climbersOn [.ref r, a1] mem (some (.int x)) mem2) (kk : E G kX0_layCarpet R 0 0 mem2 67 loc (.int x :: st)) : E G kX0_layCarpet R 0 0 mem 64 loc (a1 :: .ref r :: st) := E_V1i (k := kX0_layCarpet) (k' := kX0_climbersOn) dX0_layCarpet_64 rfl okX0_climbersOn wiX0_climbersOn wzX0_climbersOn wl_X0_66 ⟨Nat.le_of_ble_eq_true rfl, Nat.le_of_ble_eq_true rfl⟩ ⟨rfl, rfl⟩ ⟨Nat.zero_le _, Nat.zero_le _⟩ hrest hm rfl hC kk
theorem cs_X0_layCarpet_74 {x : Int32} {mem2 : xM} (hm : mem[r]? = some (.inr (0, fs))) (hrest : (st.map fun v => v.category).sum ≤ 8) (hC : Dt G kX0_countCarpets [.ref r] mem (some (.int x)) mem2) (kk : E G kX0_layCarpet R 0 0 mem2 77 loc (.int x :: st)) : E G kX0_layCarpet R 0 0 mem 74 loc (.ref r :: st) := E_V0i (k := kX0_layCarpet) (k' := kX0_countCarpets) dX0_layCarpet_74 rfl okX0_countCarpets wiX0_countCarpets wzX0_countCarpets wl_X0_76 ⟨Nat.le_of_ble_eq_true rfl, Nat.le_of_ble_eq_true rfl⟩ ⟨rfl, rfl⟩ ⟨Nat.zero_le _, Nat.zero_le _⟩ hrest hm rfl hC kk
theorem cs_X0_layCarpet_93 {x : Int32} {mem2 : xM} (hm : mem[r]? = some (.inr (0, fs))) (hrest : (st.map fun v => v.category).sum ≤ 8) (hC : Dt G kX0_countCarpets [.ref r] mem (some (.int x)) mem2) (kk : E G kX0_layCarpet R 0 0 mem2 96 loc (.int x :: st)) : E G kX0_layCarpet R 0 0 mem 93 loc (.ref r :: st) := E_V0i (k := kX0_layCarpet) (k' := kX0_countCarpets) dX0_layCarpet_93 rfl okX0_countCarpets wiX0_countCarpets wzX0_countCarpets wl_X0_76 ⟨Nat.le_of_ble_eq_true rfl, Nat.le_of_ble_eq_true rfl⟩ ⟨rfl, rfl⟩ ⟨Nat.zero_le _, Nat.zero_le _⟩ hrest hm rfl hC kk
theorem cs_X0_countCarpets_14 {a1 : Value} {x : Int32} {mem2 : xM} (hm : mem[r]? = some (.inr (0, fs))) (hrest : (st.map fun v => v.category).sum ≤ 8) (hC : Dt G kX0_isUpperEnd [.ref r, a1] mem (some (.int x)) mem2) (kk : E G kX0_countCarpets R 0 0 mem2 17 loc (.int x :: st)) : E G kX0_countCarpets R 0 0 mem 14 loc (a1 :: .ref r :: st) := E_V1i (k := kX0_countCarpets) (k' := kX0_isUpperEnd) dX0_countCarpets_14 rfl okX0_isUpperEnd wiX0_isUpperEnd wzX0_isUpperEnd wl_X0_63 ⟨Nat.le_of_ble_eq_true rfl, Nat.le_of_ble_eq_true rfl⟩ ⟨rfl, rfl⟩ ⟨Nat.zero_le _, Nat.zero_le _⟩ hrest hm rfl hC kk
theorem cs_X3_take_8 {a1 : Value} {mem2 : xM} (hm : mem[r]? = some (.inr (0, fs))) (hrest : (st.map fun v => v.category).sum ≤ 8) (hC : Dt G kX0_copyFrom [.ref r, a1] mem (none) mem2) (kk : E G kX3_take R 0 0 mem2 11 loc (st)) : E G kX3_take R 0 0 mem 8 loc (a1 :: .ref r :: st) := E_V1v (k := kX3_take) (k' := kX0_copyFrom) dX3_take_8 rfl okX0_copyFrom wiX0_copyFrom wzX0_copyFrom wl_X3_43 ⟨Nat.le_of_ble_eq_true rfl, Nat.le_of_ble_eq_true rfl⟩ ⟨rfl, rfl⟩ ⟨Nat.zero_le _, Nat.zero_le _⟩ hrest hm rfl hC kk
theorem cs_X3_take_17 {a1 : Value} {x : Int32} {mem2 : xM} (hm : mem[r]? = some (.inr (0, fs))) (hrest : (st.map fun v => v.category).sum ≤ 8) (hC : Dt G kX0_takeCarpet [.ref r, a1] mem (some (.int x)) mem2) (kk : E G kX3_take R 0 0 mem2 20 loc (.int x :: st)) : E G kX3_take R 0 0 mem 17 loc (a1 :: .ref r :: st) := E_V1i (k := kX3_take) (k' := kX0_takeCarpet) dX3_take_17 rfl okX0_takeCarpet wiX0_takeCarpet wzX0_takeCarpet wl_X3_58 ⟨Nat.le_of_ble_eq_true rfl, Nat.le_of_ble_eq_true rfl⟩ ⟨rfl, rfl⟩ ⟨Nat.zero_le _, Nat.zero_le _⟩ hrest hm rfl hC kk
theorem cs_X3_take_20 {a1 : Value} {x : Int32} {mem2 : xM} (hm : mem[r]? = some (.inr (3, fs))) (hrest : (st.map fun v => v.category).sum ≤ 8) (hC : Dt G kX3_recordUnlessError [.ref r, a1] mem (some (.int x)) mem2) (kk : E G kX3_take R 0 0 mem2 23 loc (.int x :: st)) : E G kX3_take R 0 0 mem 20 loc (a1 :: .ref r :: st) := E_V1i (k := kX3_take) (k' := kX3_recordUnlessError) dX3_take_20 rfl okX3_recordUnlessError wiX3_recordUnlessError wzX3_recordUnlessError wl_X3_51 ⟨Nat.le_of_ble_eq_true rfl, Nat.le_of_ble_eq_true rfl⟩ ⟨rfl, rfl⟩ ⟨Nat.zero_le _, Nat.zero_le _⟩ hrest hm rfl hC kk
theorem cs_X0_takeCarpet_2 {a1 : Value} {x : Int32} {mem2 : xM} (hm : mem[r]? = some (.inr (0, fs))) (hrest : (st.map fun v => v.category).sum ≤ 8) (hC : Dt G kX0_isUpperEnd [.ref r, a1] mem (some (.int x)) mem2) (kk : E G kX0_takeCarpet R 0 0 mem2 5 loc (.int x :: st)) : E G kX0_takeCarpet R 0 0 mem 2 loc (a1 :: .ref r :: st) := E_V1i (k := kX0_takeCarpet) (k' := kX0_isUpperEnd) dX0_takeCarpet_2 rfl okX0_isUpperEnd wiX0_isUpperEnd wzX0_isUpperEnd wl_X0_63 ⟨Nat.le_of_ble_eq_true rfl, Nat.le_of_ble_eq_true rfl⟩ ⟨rfl, rfl⟩ ⟨Nat.zero_le _, Nat.zero_le _⟩ hrest hm rfl hC kk
theorem cs_X3_put_8 {a1 : Value} {mem2 : xM} (hm : mem[r]? = some (.inr (0, fs))) (hrest : (st.map fun v => v.category).sum ≤ 8) (hC : Dt G kX0_copyFrom [.ref r, a1] mem (none) mem2) (kk : E G kX3_put R 0 0 mem2 11 loc (st)) : E G kX3_put R 0 0 mem 8 loc (a1 :: .ref r :: st) := E_V1v (k := kX3_put) (k' := kX0_copyFrom) dX3_put_8 rfl okX0_copyFrom wiX0_copyFrom wzX0_copyFrom wl_X3_43 ⟨Nat.le_of_ble_eq_true rfl, Nat.le_of_ble_eq_true rfl⟩ ⟨rfl, rfl⟩ ⟨Nat.zero_le _, Nat.zero_le _⟩ hrest hm rfl hC kk
theorem cs_X3_put_17 {a1 : Value} {x : Int32} {mem2 : xM} (hm : mem[r]? = some (.inr (0, fs))) (hrest : (st.map fun v => v.category).sum ≤ 8) (hC : Dt G kX0_putLanding [.ref r, a1] mem (some (.int x)) mem2) (kk : E G kX3_put R 0 0 mem2 20 loc (.int x :: st)) : E G kX3_put R 0 0 mem 17 loc (a1 :: .ref r :: st) := E_V1i (k := kX3_put) (k' := kX0_putLanding) dX3_put_17 rfl okX0_putLanding wiX0_putLanding wzX0_putLanding wl_X3_61 ⟨Nat.le_of_ble_eq_true rfl, Nat.le_of_ble_eq_true rfl⟩ ⟨rfl, rfl⟩ ⟨Nat.zero_le _, Nat.zero_le _⟩ hrest hm rfl hC kk
theorem cs_X3_put_20 {a1 : Value} {x : Int32} {mem2 : xM} (hm : mem[r]? = some (.inr (3, fs))) (hrest : (st.map fun v => v.category).sum ≤ 8) (hC : Dt G kX3_recordUnlessError [.ref r, a1] mem (some (.int x)) mem2) (kk : E G kX3_put R 0 0 mem2 23 loc (.int x :: st)) : E G kX3_put R 0 0 mem 20 loc (a1 :: .ref r :: st) := E_V1i (k := kX3_put) (k' := kX3_recordUnlessError) dX3_put_20 rfl okX3_recordUnlessError wiX3_recordUnlessError wzX3_recordUnlessError wl_X3_51 ⟨Nat.le_of_ble_eq_true rfl, Nat.le_of_ble_eq_true rfl⟩ ⟨rfl, rfl⟩ ⟨Nat.zero_le _, Nat.zero_le _⟩ hrest hm rfl hC kk
theorem cs_X0_putLanding_6 {a1 : Value} {x : Int32} {mem2 : xM} (hm : mem[r]? = some (.inr (0, fs))) (hrest : (st.map fun v => v.category).sum ≤ 8) (hC : Dt G kX0_isBelowTop [.ref r, a1] mem (some (.int x)) mem2) (kk : E G kX0_putLanding R 0 0 mem2 9 loc (.int x :: st)) : E G kX0_putLanding R 0 0 mem 6 loc (a1 :: .ref r :: st) := E_V1i (k := kX0_putLanding) (k' := kX0_isBelowTop) dX0_putLanding_6 rfl okX0_isBelowTop wiX0_isBelowTop wzX0_isBelowTop wl_X0_70 ⟨Nat.le_of_ble_eq_true rfl, Nat.le_of_ble_eq_true rfl⟩ ⟨rfl, rfl⟩ ⟨Nat.zero_le _, Nat.zero_le _⟩ hrest hm rfl hC kk
theorem cs_X0_putLanding_25 {a1 : Value} {x : Int32} {mem2 : xM} (hm : mem[r]? = some (.inr (0, fs))) (hrest : (st.map fun v => v.category).sum ≤ 8) (hC : Dt G kX0_isUpperEnd [.ref r, a1] mem (some (.int x)) mem2) (kk : E G kX0_putLanding R 0 0 mem2 28 loc (.int x :: st)) : E G kX0_putLanding R 0 0 mem 25 loc (a1 :: .ref r :: st) := E_V1i (k := kX0_putLanding) (k' := kX0_isUpperEnd) dX0_putLanding_25 rfl okX0_isUpperEnd wiX0_isUpperEnd wzX0_isUpperEnd wl_X0_63 ⟨Nat.le_of_ble_eq_true rfl, Nat.le_of_ble_eq_true rfl⟩ ⟨rfl, rfl⟩ ⟨Nat.zero_le _, Nat.zero_le _⟩ hrest hm rfl hC kk
theorem cs_X0_putLanding_42 {x : Int32} {mem2 : xM} (hm : mem[r]? = some (.inr (0, fs))) (hrest : (st.map fun v => v.category).sum ≤ 8) (hC : Dt G kX0_countLandings [.ref r] mem (some (.int x)) mem2) (kk : E G kX0_putLanding R 0 0 mem2 45 loc (.int x :: st)) : E G kX0_putLanding R 0 0 mem 42 loc (.ref r :: st) := E_V0i (k := kX0_putLanding) (k' := kX0_countLandings) dX0_putLanding_42 rfl okX0_countLandings wiX0_countLandings wzX0_countLandings wl_X0_80 ⟨Nat.le_of_ble_eq_true rfl, Nat.le_of_ble_eq_true rfl⟩ ⟨rfl, rfl⟩ ⟨Nat.zero_le _, Nat.zero_le _⟩ hrest hm rfl hC kk
theorem cs_X0_countLandings_14 {a1 : Value} {x : Int32} {mem2 : xM} (hm : mem[r]? = some (.inr (0, fs))) (hrest : (st.map fun v => v.category).sum ≤ 8) (hC : Dt G kX0_isLanding [.ref r, a1] mem (some (.int x)) mem2) (kk : E G kX0_countLandings R 0 0 mem2 17 loc (.int x :: st)) : E G kX0_countLandings R 0 0 mem 14 loc (a1 :: .ref r :: st) := E_V1i (k := kX0_countLandings) (k' := kX0_isLanding) dX0_countLandings_14 rfl okX0_isLanding wiX0_isLanding wzX0_isLanding wl_X0_83 ⟨Nat.le_of_ble_eq_true rfl, Nat.le_of_ble_eq_true rfl⟩ ⟨rfl, rfl⟩ ⟨Nat.zero_le _, Nat.zero_le _⟩ hrest hm rfl hC kk
theorem cs_X3_remove_8 {a1 : Value} {mem2 : xM} (hm : mem[r]? = some (.inr (0, fs))) (hrest : (st.map fun v => v.category).sum ≤ 8) (hC : Dt G kX0_copyFrom [.ref r, a1] mem (none) mem2) (kk : E G kX3_remove R 0 0 mem2 11 loc (st)) : E G kX3_remove R 0 0 mem 8 loc (a1 :: .ref r :: st) := E_V1v (k := kX3_remove) (k' := kX0_copyFrom) dX3_remove_8 rfl okX0_copyFrom wiX0_copyFrom wzX0_copyFrom wl_X3_43 ⟨Nat.le_of_ble_eq_true rfl, Nat.le_of_ble_eq_true rfl⟩ ⟨rfl, rfl⟩ ⟨Nat.zero_le _, Nat.zero_le _⟩ hrest hm rfl hC kk
theorem cs_X3_remove_17 {a1 : Value} {x : Int32} {mem2 : xM} (hm : mem[r]? = some (.inr (0, fs))) (hrest : (st.map fun v => v.category).sum ≤ 8) (hC : Dt G kX0_removeLanding [.ref r, a1] mem (some (.int x)) mem2) (kk : E G kX3_remove R 0 0 mem2 20 loc (.int x :: st)) : E G kX3_remove R 0 0 mem 17 loc (a1 :: .ref r :: st) := E_V1i (k := kX3_remove) (k' := kX0_removeLanding) dX3_remove_17 rfl okX0_removeLanding wiX0_removeLanding wzX0_removeLanding wl_X3_64 ⟨Nat.le_of_ble_eq_true rfl, Nat.le_of_ble_eq_true rfl⟩ ⟨rfl, rfl⟩ ⟨Nat.zero_le _, Nat.zero_le _⟩ hrest hm rfl hC kk
theorem cs_X3_remove_20 {a1 : Value} {x : Int32} {mem2 : xM} (hm : mem[r]? = some (.inr (3, fs))) (hrest : (st.map fun v => v.category).sum ≤ 8) (hC : Dt G kX3_recordUnlessError [.ref r, a1] mem (some (.int x)) mem2) (kk : E G kX3_remove R 0 0 mem2 23 loc (.int x :: st)) : E G kX3_remove R 0 0 mem 20 loc (a1 :: .ref r :: st) := E_V1i (k := kX3_remove) (k' := kX3_recordUnlessError) dX3_remove_20 rfl okX3_recordUnlessError wiX3_recordUnlessError wzX3_recordUnlessError wl_X3_51 ⟨Nat.le_of_ble_eq_true rfl, Nat.le_of_ble_eq_true rfl⟩ ⟨rfl, rfl⟩ ⟨Nat.zero_le _, Nat.zero_le _⟩ hrest hm rfl hC kk
theorem cs_X0_removeLanding_2 {a1 : Value} {x : Int32} {mem2 : xM} (hm : mem[r]? = some (.inr (0, fs))) (hrest : (st.map fun v => v.category).sum ≤ 8) (hC : Dt G kX0_isLanding [.ref r, a1] mem (some (.int x)) mem2) (kk : E G kX0_removeLanding R 0 0 mem2 5 loc (.int x :: st)) : E G kX0_removeLanding R 0 0 mem 2 loc (a1 :: .ref r :: st) := E_V1i (k := kX0_removeLanding) (k' := kX0_isLanding) dX0_removeLanding_2 rfl okX0_isLanding wiX0_isLanding wzX0_isLanding wl_X0_83 ⟨Nat.le_of_ble_eq_true rfl, Nat.le_of_ble_eq_true rfl⟩ ⟨rfl, rfl⟩ ⟨Nat.zero_le _, Nat.zero_le _⟩ hrest hm rfl hC kk
theorem cs_X0_removeLanding_19 {a1 : Value} {x : Int32} {mem2 : xM} (hm : mem[r]? = some (.inr (0, fs))) (hrest : (st.map fun v => v.category).sum ≤ 8) (hC : Dt G kX0_climbersOn [.ref r, a1] mem (some (.int x)) mem2) (kk : E G kX0_removeLanding R 0 0 mem2 22 loc (.int x :: st)) : E G kX0_removeLanding R 0 0 mem 19 loc (a1 :: .ref r :: st) := E_V1i (k := kX0_removeLanding) (k' := kX0_climbersOn) dX0_removeLanding_19 rfl okX0_climbersOn wiX0_climbersOn wzX0_climbersOn wl_X0_66 ⟨Nat.le_of_ble_eq_true rfl, Nat.le_of_ble_eq_true rfl⟩ ⟨rfl, rfl⟩ ⟨Nat.zero_le _, Nat.zero_le _⟩ hrest hm rfl hC kk
theorem cs_X0_removeLanding_22 {a1 : Value} {x : Int32} {mem2 : xM} (hrest : (st.map fun v => v.category).sum ≤ 8) (hC : Dt G kJ6_bitCount_0f7a4 [a1] mem (some (.int x)) mem2) (kk : E G kX0_removeLanding R 0 0 mem2 25 loc (.int x :: st)) : E G kX0_removeLanding R 0 0 mem 22 loc (a1 :: st) := E_S1i (k := kX0_removeLanding) (k' := kJ6_bitCount_0f7a4) dX0_removeLanding_22 rfl okJ6_bitCount_0f7a4 wsJ6_bitCount_0f7a4 wl_X0_86 ⟨Nat.le_of_ble_eq_true rfl, Nat.le_of_ble_eq_true rfl⟩ ⟨rfl, rfl⟩ ⟨Nat.zero_le _, Nat.zero_le _⟩ hrest hC kk
theorem cs_X3_join_8 {a1 : Value} {mem2 : xM} (hm : mem[r]? = some (.inr (0, fs))) (hrest : (st.map fun v => v.category).sum ≤ 8) (hC : Dt G kX0_copyFrom [.ref r, a1] mem (none) mem2) (kk : E G kX3_join R 0 0 mem2 11 loc (st)) : E G kX3_join R 0 0 mem 8 loc (a1 :: .ref r :: st) := E_V1v (k := kX3_join) (k' := kX0_copyFrom) dX3_join_8 rfl okX0_copyFrom wiX0_copyFrom wzX0_copyFrom wl_X3_43 ⟨Nat.le_of_ble_eq_true rfl, Nat.le_of_ble_eq_true rfl⟩ ⟨rfl, rfl⟩ ⟨Nat.zero_le _, Nat.zero_le _⟩ hrest hm rfl hC kk
theorem cs_X3_join_16 {x : Int32} {mem2 : xM} (hm : mem[r]? = some (.inr (0, fs))) (hrest : (st.map fun v => v.category).sum ≤ 8) (hC : Dt G kX0_addClimber [.ref r] mem (some (.int x)) mem2) (kk : E G kX3_join R 0 0 mem2 19 loc (.int x :: st)) : E G kX3_join R 0 0 mem 16 loc (.ref r :: st) := E_V0i (k := kX3_join) (k' := kX0_addClimber) dX3_join_16 rfl okX0_addClimber wiX0_addClimber wzX0_addClimber wl_X3_67 ⟨Nat.le_of_ble_eq_true rfl, Nat.le_of_ble_eq_true rfl⟩ ⟨rfl, rfl⟩ ⟨Nat.zero_le _, Nat.zero_le _⟩ hrest hm rfl hC kk
theorem cs_X3_join_19 {a1 : Value} {x : Int32} {mem2 : xM} (hm : mem[r]? = some (.inr (3, fs))) (hrest : (st.map fun v => v.category).sum ≤ 8) (hC : Dt G kX3_recordUnlessError [.ref r, a1] mem (some (.int x)) mem2) (kk : E G kX3_join R 0 0 mem2 22 loc (.int x :: st)) : E G kX3_join R 0 0 mem 19 loc (a1 :: .ref r :: st) := E_V1i (k := kX3_join) (k' := kX3_recordUnlessError) dX3_join_19 rfl okX3_recordUnlessError wiX3_recordUnlessError wzX3_recordUnlessError wl_X3_51 ⟨Nat.le_of_ble_eq_true rfl, Nat.le_of_ble_eq_true rfl⟩ ⟨rfl, rfl⟩ ⟨Nat.zero_le _, Nat.zero_le _⟩ hrest hm rfl hC kk
theorem cs_X3_roll_8 {a1 : Value} {mem2 : xM} (hm : mem[r]? = some (.inr (0, fs))) (hrest : (st.map fun v => v.category).sum ≤ 8) (hC : Dt G kX0_copyFrom [.ref r, a1] mem (none) mem2) (kk : E G kX3_roll R 0 0 mem2 11 loc (st)) : E G kX3_roll R 0 0 mem 8 loc (a1 :: .ref r :: st) := E_V1v (k := kX3_roll) (k' := kX0_copyFrom) dX3_roll_8 rfl okX0_copyFrom wiX0_copyFrom wzX0_copyFrom wl_X3_43 ⟨Nat.le_of_ble_eq_true rfl, Nat.le_of_ble_eq_true rfl⟩ ⟨rfl, rfl⟩ ⟨Nat.zero_le _, Nat.zero_le _⟩ hrest hm rfl hC kk
theorem cs_X3_roll_17 {a1 : Value} {x : Int32} {mem2 : xM} (hm : mem[r]? = some (.inr (0, fs))) (hrest : (st.map fun v => v.category).sum ≤ 8) (hC : Dt G kX0_makeRoll [.ref r, a1] mem (some (.int x)) mem2) (kk : E G kX3_roll R 0 0 mem2 20 loc (.int x :: st)) : E G kX3_roll R 0 0 mem 17 loc (a1 :: .ref r :: st) := E_V1i (k := kX3_roll) (k' := kX0_makeRoll) dX3_roll_17 rfl okX0_makeRoll wiX0_makeRoll wzX0_makeRoll wl_X3_71 ⟨Nat.le_of_ble_eq_true rfl, Nat.le_of_ble_eq_true rfl⟩ ⟨rfl, rfl⟩ ⟨Nat.zero_le _, Nat.zero_le _⟩ hrest hm rfl hC kk
theorem cs_X3_roll_20 {a1 : Value} {x : Int32} {mem2 : xM} (hm : mem[r]? = some (.inr (3, fs))) (hrest : (st.map fun v => v.category).sum ≤ 8) (hC : Dt G kX3_recordUnlessError [.ref r, a1] mem (some (.int x)) mem2) (kk : E G kX3_roll R 0 0 mem2 23 loc (.int x :: st)) : E G kX3_roll R 0 0 mem 20 loc (a1 :: .ref r :: st) := E_V1i (k := kX3_roll) (k' := kX3_recordUnlessError) dX3_roll_20 rfl okX3_recordUnlessError wiX3_recordUnlessError wzX3_recordUnlessError wl_X3_51 ⟨Nat.le_of_ble_eq_true rfl, Nat.le_of_ble_eq_true rfl⟩ ⟨rfl, rfl⟩ ⟨Nat.zero_le _, Nat.zero_le _⟩ hrest hm rfl hC kk
theorem cs_X0_makeRoll_1 {a1 : Value} {x : Int32} {mem2 : xM} (hrest : (st.map fun v => v.category).sum ≤ 8) (hC : Dt G kX3_isRoll [a1] mem (some (.int x)) mem2) (kk : E G kX0_makeRoll R 0 0 mem2 4 loc (.int x :: st)) : E G kX0_makeRoll R 0 0 mem 1 loc (a1 :: st) := E_SN1i (k := kX0_makeRoll) (k' := kX3_isRoll) dX0_makeRoll_1 rfl okX3_isRoll wsX3_isRoll wl_X0_91 ⟨Nat.le_of_ble_eq_true rfl, Nat.le_of_ble_eq_true rfl⟩ ⟨rfl, rfl⟩ ⟨Nat.zero_le _, Nat.zero_le _⟩ hrest hC kk
theorem cs_X0_makeRoll_11 {x : Int32} {mem2 : xM} (hm : mem[r]? = some (.inr (0, fs))) (hrest : (st.map fun v => v.category).sum ≤ 8) (hC : Dt G kX0_hasMover [.ref r] mem (some (.int x)) mem2) (kk : E G kX0_makeRoll R 0 0 mem2 14 loc (.int x :: st)) : E G kX0_makeRoll R 0 0 mem 11 loc (.ref r :: st) := E_V0i (k := kX0_makeRoll) (k' := kX0_hasMover) dX0_makeRoll_11 rfl okX0_hasMover wiX0_hasMover wzX0_hasMover wl_X0_94 ⟨Nat.le_of_ble_eq_true rfl, Nat.le_of_ble_eq_true rfl⟩ ⟨rfl, rfl⟩ ⟨Nat.zero_le _, Nat.zero_le _⟩ hrest hm rfl hC kk
theorem cs_X0_makeRoll_46 {a1 : Value} {mem2 : xM} (hm : mem[r]? = some (.inr (0, fs))) (hrest : (st.map fun v => v.category).sum ≤ 8) (hC : Dt G kX0_liftThosePassed [.ref r, a1] mem (none) mem2) (kk : E G kX0_makeRoll R 0 0 mem2 49 loc (st)) : E G kX0_makeRoll R 0 0 mem 46 loc (a1 :: .ref r :: st) := E_V1v (k := kX0_makeRoll) (k' := kX0_liftThosePassed) dX0_makeRoll_46 rfl okX0_liftThosePassed wiX0_liftThosePassed wzX0_liftThosePassed wl_X0_98 ⟨Nat.le_of_ble_eq_true rfl, Nat.le_of_ble_eq_true rfl⟩ ⟨rfl, rfl⟩ ⟨Nat.zero_le _, Nat.zero_le _⟩ hrest hm rfl hC kk
theorem cs_X0_makeRoll_52 {a1 a2 : Value} {mem2 : xM} (hm : mem[r]? = some (.inr (0, fs))) (hrest : (st.map fun v => v.category).sum ≤ 8) (hC : Dt G kX0_comeTo [.ref r, a1, a2] mem (none) mem2) (kk : E G kX0_makeRoll R 0 0 mem2 55 loc (st)) : E G kX0_makeRoll R 0 0 mem 52 loc (a2 :: a1 :: .ref r :: st) := E_V2v (k := kX0_makeRoll) (k' := kX0_comeTo) dX0_makeRoll_52 rfl okX0_comeTo wiX0_comeTo wzX0_comeTo wl_X0_102 ⟨Nat.le_of_ble_eq_true rfl, Nat.le_of_ble_eq_true rfl⟩ ⟨rfl, rfl⟩ ⟨Nat.zero_le _, Nat.zero_le _⟩ hrest hm rfl hC kk
theorem cs_X0_makeRoll_57 {a1 : Value} {x : Int32} {mem2 : xM} (hm : mem[r]? = some (.inr (0, fs))) (hrest : (st.map fun v => v.category).sum ≤ 8) (hC : Dt G kX0_isLanding [.ref r, a1] mem (some (.int x)) mem2) (kk : E G kX0_makeRoll R 0 0 mem2 60 loc (.int x :: st)) : E G kX0_makeRoll R 0 0 mem 57 loc (a1 :: .ref r :: st) := E_V1i (k := kX0_makeRoll) (k' := kX0_isLanding) dX0_makeRoll_57 rfl okX0_isLanding wiX0_isLanding wzX0_isLanding wl_X0_83 ⟨Nat.le_of_ble_eq_true rfl, Nat.le_of_ble_eq_true rfl⟩ ⟨rfl, rfl⟩ ⟨Nat.zero_le _, Nat.zero_le _⟩ hrest hm rfl hC kk
theorem cs_X0_makeRoll_74 {mem2 : xM} (hm : mem[r]? = some (.inr (0, fs))) (hrest : (st.map fun v => v.category).sum ≤ 8) (hC : Dt G kX0_goToNextMover [.ref r] mem (none) mem2) (kk : E G kX0_makeRoll R 0 0 mem2 77 loc (st)) : E G kX0_makeRoll R 0 0 mem 74 loc (.ref r :: st) := E_V0v (k := kX0_makeRoll) (k' := kX0_goToNextMover) dX0_makeRoll_74 rfl okX0_goToNextMover wiX0_goToNextMover wzX0_goToNextMover wl_X0_106 ⟨Nat.le_of_ble_eq_true rfl, Nat.le_of_ble_eq_true rfl⟩ ⟨rfl, rfl⟩ ⟨Nat.zero_le _, Nat.zero_le _⟩ hrest hm rfl hC kk
theorem cs_X0_hasMover_5 {a1 : Value} {x : Int32} {mem2 : xM} (hm : mem[r]? = some (.inr (0, fs))) (hrest : (st.map fun v => v.category).sum ≤ 8) (hC : Dt G kX0_isClimber [.ref r, a1] mem (some (.int x)) mem2) (kk : E G kX0_hasMover R 0 0 mem2 8 loc (.int x :: st)) : E G kX0_hasMover R 0 0 mem 5 loc (a1 :: .ref r :: st) := E_V1i (k := kX0_hasMover) (k' := kX0_isClimber) dX0_hasMover_5 rfl okX0_isClimber wiX0_isClimber wzX0_isClimber wl_X0_59 ⟨Nat.le_of_ble_eq_true rfl, Nat.le_of_ble_eq_true rfl⟩ ⟨rfl, rfl⟩ ⟨Nat.zero_le _, Nat.zero_le _⟩ hrest hm rfl hC kk
theorem cs_X0_liftThosePassed_13 {a1 a2 : Value} {x : Int32} {mem2 : xM} (hm : mem[r]? = some (.inr (0, fs))) (hrest : (st.map fun v => v.category).sum ≤ 8) (hC : Dt G kX0_isPassed [.ref r, a1, a2] mem (some (.int x)) mem2) (kk : E G kX0_liftThosePassed R 0 0 mem2 16 loc (.int x :: st)) : E G kX0_liftThosePassed R 0 0 mem 13 loc (a2 :: a1 :: .ref r :: st) := E_V2i (k := kX0_liftThosePassed) (k' := kX0_isPassed) dX0_liftThosePassed_13 rfl okX0_isPassed wiX0_isPassed wzX0_isPassed wl_X0_109 ⟨Nat.le_of_ble_eq_true rfl, Nat.le_of_ble_eq_true rfl⟩ ⟨rfl, rfl⟩ ⟨Nat.zero_le _, Nat.zero_le _⟩ hrest hm rfl hC kk
theorem cs_X0_liftThosePassed_52 {a1 a2 : Value} {mem2 : xM} (hm : mem[r]? = some (.inr (0, fs))) (hrest : (st.map fun v => v.category).sum ≤ 8) (hC : Dt G kX0_comeTo [.ref r, a1, a2] mem (none) mem2) (kk : E G kX0_liftThosePassed R 0 0 mem2 55 loc (st)) : E G kX0_liftThosePassed R 0 0 mem 52 loc (a2 :: a1 :: .ref r :: st) := E_V2v (k := kX0_liftThosePassed) (k' := kX0_comeTo) dX0_liftThosePassed_52 rfl okX0_comeTo wiX0_comeTo wzX0_comeTo wl_X0_102 ⟨Nat.le_of_ble_eq_true rfl, Nat.le_of_ble_eq_true rfl⟩ ⟨rfl, rfl⟩ ⟨Nat.zero_le _, Nat.zero_le _⟩ hrest hm rfl hC kk
theorem cs_X0_isPassed_34 {a1 : Value} {x : Int32} {mem2 : xM} (hm : mem[r]? = some (.inr (0, fs))) (hrest : (st.map fun v => v.category).sum ≤ 8) (hC : Dt G kX0_isLanding [.ref r, a1] mem (some (.int x)) mem2) (kk : E G kX0_isPassed R 0 0 mem2 37 loc (.int x :: st)) : E G kX0_isPassed R 0 0 mem 34 loc (a1 :: .ref r :: st) := E_V1i (k := kX0_isPassed) (k' := kX0_isLanding) dX0_isPassed_34 rfl okX0_isLanding wiX0_isLanding wzX0_isLanding wl_X0_83 ⟨Nat.le_of_ble_eq_true rfl, Nat.le_of_ble_eq_true rfl⟩ ⟨rfl, rfl⟩ ⟨Nat.zero_le _, Nat.zero_le _⟩ hrest hm rfl hC kk
theorem cs_X0_comeTo_2 {a1 : Value} {x : Int32} {mem2 : xM} (hm : mem[r]? = some (.inr (0, fs))) (hrest : (st.map fun v => v.category).sum ≤ 8) (hC : Dt G kX0_isBelowTop [.ref r, a1] mem (some (.int x)) mem2) (kk : E G kX0_comeTo R 0 0 mem2 5 loc (.int x :: st)) : E G kX0_comeTo R 0 0 mem 2 loc (a1 :: .ref r :: st) := E_V1i (k := kX0_comeTo) (k' := kX0_isBelowTop) dX0_comeTo_2 rfl okX0_isBelowTop wiX0_isBelowTop wzX0_isBelowTop wl_X0_70 ⟨Nat.le_of_ble_eq_true rfl, Nat.le_of_ble_eq_true rfl⟩ ⟨rfl, rfl⟩ ⟨Nat.zero_le _, Nat.zero_le _⟩ hrest hm rfl hC kk
theorem cs_X0_goToNextMover_5 {a1 : Value} {x : Int32} {mem2 : xM} (hm : mem[r]? = some (.inr (0, fs))) (hrest : (st.map fun v => v.category).sum ≤ 8) (hC : Dt G kX0_behind [.ref r, a1] mem (some (.int x)) mem2) (kk : E G kX0_goToNextMover R 0 0 mem2 8 loc (.int x :: st)) : E G kX0_goToNextMover R 0 0 mem 5 loc (a1 :: .ref r :: st) := E_V1i (k := kX0_goToNextMover) (k' := kX0_behind) dX0_goToNextMover_5 rfl okX0_behind wiX0_behind wzX0_behind wl_X0_113 ⟨Nat.le_of_ble_eq_true rfl, Nat.le_of_ble_eq_true rfl⟩ ⟨rfl, rfl⟩ ⟨Nat.zero_le _, Nat.zero_le _⟩ hrest hm rfl hC kk
theorem cs_X0_goToNextMover_48 {a1 : Value} {x : Int32} {mem2 : xM} (hm : mem[r]? = some (.inr (0, fs))) (hrest : (st.map fun v => v.category).sum ≤ 8) (hC : Dt G kX0_behind [.ref r, a1] mem (some (.int x)) mem2) (kk : E G kX0_goToNextMover R 0 0 mem2 51 loc (.int x :: st)) : E G kX0_goToNextMover R 0 0 mem 48 loc (a1 :: .ref r :: st) := E_V1i (k := kX0_goToNextMover) (k' := kX0_behind) dX0_goToNextMover_48 rfl okX0_behind wiX0_behind wzX0_behind wl_X0_113 ⟨Nat.le_of_ble_eq_true rfl, Nat.le_of_ble_eq_true rfl⟩ ⟨rfl, rfl⟩ ⟨Nat.zero_le _, Nat.zero_le _⟩ hrest hm rfl hC kk
theorem cs_X0_behind_4 {a1 : Value} {x : Int32} {mem2 : xM} (hm : mem[r]? = some (.inr (0, fs))) (hrest : (st.map fun v => v.category).sum ≤ 8) (hC : Dt G kX0_isClimber [.ref r, a1] mem (some (.int x)) mem2) (kk : E G kX0_behind R 0 0 mem2 7 loc (.int x :: st)) : E G kX0_behind R 0 0 mem 4 loc (a1 :: .ref r :: st) := E_V1i (k := kX0_behind) (k' := kX0_isClimber) dX0_behind_4 rfl okX0_isClimber wiX0_isClimber wzX0_isClimber wl_X0_59 ⟨Nat.le_of_ble_eq_true rfl, Nat.le_of_ble_eq_true rfl⟩ ⟨rfl, rfl⟩ ⟨Nat.zero_le _, Nat.zero_le _⟩ hrest hm rfl hC kk
theorem cs_X3_pass_8 {a1 : Value} {mem2 : xM} (hm : mem[r]? = some (.inr (0, fs))) (hrest : (st.map fun v => v.category).sum ≤ 8) (hC : Dt G kX0_copyFrom [.ref r, a1] mem (none) mem2) (kk : E G kX3_pass R 0 0 mem2 11 loc (st)) : E G kX3_pass R 0 0 mem 8 loc (a1 :: .ref r :: st) := E_V1v (k := kX3_pass) (k' := kX0_copyFrom) dX3_pass_8 rfl okX0_copyFrom wiX0_copyFrom wzX0_copyFrom wl_X3_43 ⟨Nat.le_of_ble_eq_true rfl, Nat.le_of_ble_eq_true rfl⟩ ⟨rfl, rfl⟩ ⟨Nat.zero_le _, Nat.zero_le _⟩ hrest hm rfl hC kk
theorem cs_X3_pass_16 {x : Int32} {mem2 : xM} (hm : mem[r]? = some (.inr (0, fs))) (hrest : (st.map fun v => v.category).sum ≤ 8) (hC : Dt G kX0_makePass [.ref r] mem (some (.int x)) mem2) (kk : E G kX3_pass R 0 0 mem2 19 loc (.int x :: st)) : E G kX3_pass R 0 0 mem 16 loc (.ref r :: st) := E_V0i (k := kX3_pass) (k' := kX0_makePass) dX3_pass_16 rfl okX0_makePass wiX0_makePass wzX0_makePass wl_X3_74 ⟨Nat.le_of_ble_eq_true rfl, Nat.le_of_ble_eq_true rfl⟩ ⟨rfl, rfl⟩ ⟨Nat.zero_le _, Nat.zero_le _⟩ hrest hm rfl hC kk
theorem cs_X3_pass_19 {a1 : Value} {x : Int32} {mem2 : xM} (hm : mem[r]? = some (.inr (3, fs))) (hrest : (st.map fun v => v.category).sum ≤ 8) (hC : Dt G kX3_recordUnlessError [.ref r, a1] mem (some (.int x)) mem2) (kk : E G kX3_pass R 0 0 mem2 22 loc (.int x :: st)) : E G kX3_pass R 0 0 mem 19 loc (a1 :: .ref r :: st) := E_V1i (k := kX3_pass) (k' := kX3_recordUnlessError) dX3_pass_19 rfl okX3_recordUnlessError wiX3_recordUnlessError wzX3_recordUnlessError wl_X3_51 ⟨Nat.le_of_ble_eq_true rfl, Nat.le_of_ble_eq_true rfl⟩ ⟨rfl, rfl⟩ ⟨Nat.zero_le _, Nat.zero_le _⟩ hrest hm rfl hC kk
theorem cs_X0_makePass_1 {x : Int32} {mem2 : xM} (hm : mem[r]? = some (.inr (0, fs))) (hrest : (st.map fun v => v.category).sum ≤ 8) (hC : Dt G kX0_hasMover [.ref r] mem (some (.int x)) mem2) (kk : E G kX0_makePass R 0 0 mem2 4 loc (.int x :: st)) : E G kX0_makePass R 0 0 mem 1 loc (.ref r :: st) := E_V0i (k := kX0_makePass) (k' := kX0_hasMover) dX0_makePass_1 rfl okX0_hasMover wiX0_hasMover wzX0_hasMover wl_X0_94 ⟨Nat.le_of_ble_eq_true rfl, Nat.le_of_ble_eq_true rfl⟩ ⟨rfl, rfl⟩ ⟨Nat.zero_le _, Nat.zero_le _⟩ hrest hm rfl hC kk
theorem cs_X0_makePass_11 {mem2 : xM} (hm : mem[r]? = some (.inr (0, fs))) (hrest : (st.map fun v => v.category).sum ≤ 8) (hC : Dt G kX0_goToNextMover [.ref r] mem (none) mem2) (kk : E G kX0_makePass R 0 0 mem2 14 loc (st)) : E G kX0_makePass R 0 0 mem 11 loc (.ref r :: st) := E_V0v (k := kX0_makePass) (k' := kX0_goToNextMover) dX0_makePass_11 rfl okX0_goToNextMover wiX0_goToNextMover wzX0_goToNextMover wl_X0_106 ⟨Nat.le_of_ble_eq_true rfl, Nat.le_of_ble_eq_true rfl⟩ ⟨rfl, rfl⟩ ⟨Nat.zero_le _, Nat.zero_le _⟩ hrest hm rfl hC kk
theorem cs_X3_climber_6 {a1 a2 : Value} {x : Int32} {mem2 : xM} (hm : mem[r]? = some (.inr (0, fs))) (hrest : (st.map fun v => v.category).sum ≤ 8) (hC : Dt G kX0_partOfClimber [.ref r, a1, a2] mem (some (.int x)) mem2) (kk : E G kX3_climber R 0 0 mem2 9 loc (.int x :: st)) : E G kX3_climber R 0 0 mem 6 loc (a2 :: a1 :: .ref r :: st) := E_V2i (k := kX3_climber) (k' := kX0_partOfClimber) dX3_climber_6 rfl okX0_partOfClimber wiX0_partOfClimber wzX0_partOfClimber wl_X3_77 ⟨Nat.le_of_ble_eq_true rfl, Nat.le_of_ble_eq_true rfl⟩ ⟨rfl, rfl⟩ ⟨Nat.zero_le _, Nat.zero_le _⟩ hrest hm rfl hC kk
theorem cs_X0_partOfClimber_2 {a1 : Value} {x : Int32} {mem2 : xM} (hm : mem[r]? = some (.inr (0, fs))) (hrest : (st.map fun v => v.category).sum ≤ 8) (hC : Dt G kX0_isClimber [.ref r, a1] mem (some (.int x)) mem2) (kk : E G kX0_partOfClimber R 0 0 mem2 5 loc (.int x :: st)) : E G kX0_partOfClimber R 0 0 mem 2 loc (a1 :: .ref r :: st) := E_V1i (k := kX0_partOfClimber) (k' := kX0_isClimber) dX0_partOfClimber_2 rfl okX0_isClimber wiX0_isClimber wzX0_isClimber wl_X0_59 ⟨Nat.le_of_ble_eq_true rfl, Nat.le_of_ble_eq_true rfl⟩ ⟨rfl, rfl⟩ ⟨Nat.zero_le _, Nat.zero_le _⟩ hrest hm rfl hC kk
theorem cs_X0_partOfClimber_96 {a1 : Value} {x : Int32} {mem2 : xM} (hm : mem[r]? = some (.inr (0, fs))) (hrest : (st.map fun v => v.category).sum ≤ 8) (hC : Dt G kX0_progressOf [.ref r, a1] mem (some (.int x)) mem2) (kk : E G kX0_partOfClimber R 0 0 mem2 99 loc (.int x :: st)) : E G kX0_partOfClimber R 0 0 mem 96 loc (a1 :: .ref r :: st) := E_V1i (k := kX0_partOfClimber) (k' := kX0_progressOf) dX0_partOfClimber_96 rfl okX0_progressOf wiX0_progressOf wzX0_progressOf wl_X0_116 ⟨Nat.le_of_ble_eq_true rfl, Nat.le_of_ble_eq_true rfl⟩ ⟨rfl, rfl⟩ ⟨Nat.zero_le _, Nat.zero_le _⟩ hrest hm rfl hC kk
theorem cs_X0_progressOf_2 {a1 : Value} {x : Int32} {mem2 : xM} (hm : mem[r]? = some (.inr (0, fs))) (hrest : (st.map fun v => v.category).sum ≤ 8) (hC : Dt G kX0_isClimber [.ref r, a1] mem (some (.int x)) mem2) (kk : E G kX0_progressOf R 0 0 mem2 5 loc (.int x :: st)) : E G kX0_progressOf R 0 0 mem 2 loc (a1 :: .ref r :: st) := E_V1i (k := kX0_progressOf) (k' := kX0_isClimber) dX0_progressOf_2 rfl okX0_isClimber wiX0_isClimber wzX0_isClimber wl_X0_59 ⟨Nat.le_of_ble_eq_true rfl, Nat.le_of_ble_eq_true rfl⟩ ⟨rfl, rfl⟩ ⟨Nat.zero_le _, Nat.zero_le _⟩ hrest hm rfl hC kk
theorem cs_X3_turn_4 {x : Int32} {mem2 : xM} (hm : mem[r]? = some (.inr (0, fs))) (hrest : (st.map fun v => v.category).sum ≤ 8) (hC : Dt G kX0_hasMover [.ref r] mem (some (.int x)) mem2) (kk : E G kX3_turn R 0 0 mem2 7 loc (.int x :: st)) : E G kX3_turn R 0 0 mem 4 loc (.ref r :: st) := E_V0i (k := kX3_turn) (k' := kX0_hasMover) dX3_turn_4 rfl okX0_hasMover wiX0_hasMover wzX0_hasMover wl_X3_80 ⟨Nat.le_of_ble_eq_true rfl, Nat.le_of_ble_eq_true rfl⟩ ⟨rfl, rfl⟩ ⟨Nat.zero_le _, Nat.zero_le _⟩ hrest hm rfl hC kk
theorem cs_X3_on_5 {a1 : Value} {x : Int32} {mem2 : xM} (hm : mem[r]? = some (.inr (0, fs))) (hrest : (st.map fun v => v.category).sum ≤ 8) (hC : Dt G kX0_isBelowTop [.ref r, a1] mem (some (.int x)) mem2) (kk : E G kX3_on R 0 0 mem2 8 loc (.int x :: st)) : E G kX3_on R 0 0 mem 5 loc (a1 :: .ref r :: st) := E_V1i (k := kX3_on) (k' := kX0_isBelowTop) dX3_on_5 rfl okX0_isBelowTop wiX0_isBelowTop wzX0_isBelowTop wl_X3_88 ⟨Nat.le_of_ble_eq_true rfl, Nat.le_of_ble_eq_true rfl⟩ ⟨rfl, rfl⟩ ⟨Nat.zero_le _, Nat.zero_le _⟩ hrest hm rfl hC kk
theorem cs_X3_on_16 {a1 : Value} {x : Int32} {mem2 : xM} (hm : mem[r]? = some (.inr (0, fs))) (hrest : (st.map fun v => v.category).sum ≤ 8) (hC : Dt G kX0_climbersOn [.ref r, a1] mem (some (.int x)) mem2) (kk : E G kX3_on R 0 0 mem2 19 loc (.int x :: st)) : E G kX3_on R 0 0 mem 16 loc (a1 :: .ref r :: st) := E_V1i (k := kX3_on) (k' := kX0_climbersOn) dX3_on_16 rfl okX0_climbersOn wiX0_climbersOn wzX0_climbersOn wl_X3_92 ⟨Nat.le_of_ble_eq_true rfl, Nat.le_of_ble_eq_true rfl⟩ ⟨rfl, rfl⟩ ⟨Nat.zero_le _, Nat.zero_le _⟩ hrest hm rfl hC kk
theorem cs_X3_step_6 {a1 a2 : Value} {x : Int32} {mem2 : xM} (hm : mem[r]? = some (.inr (0, fs))) (hrest : (st.map fun v => v.category).sum ≤ 8) (hC : Dt G kX0_partOfStep [.ref r, a1, a2] mem (some (.int x)) mem2) (kk : E G kX3_step R 0 0 mem2 9 loc (.int x :: st)) : E G kX3_step R 0 0 mem 6 loc (a2 :: a1 :: .ref r :: st) := E_V2i (k := kX3_step) (k' := kX0_partOfStep) dX3_step_6 rfl okX0_partOfStep wiX0_partOfStep wzX0_partOfStep wl_X3_95 ⟨Nat.le_of_ble_eq_true rfl, Nat.le_of_ble_eq_true rfl⟩ ⟨rfl, rfl⟩ ⟨Nat.zero_le _, Nat.zero_le _⟩ hrest hm rfl hC kk
theorem cs_X0_partOfStep_10 {a1 : Value} {x : Int32} {mem2 : xM} (hm : mem[r]? = some (.inr (0, fs))) (hrest : (st.map fun v => v.category).sum ≤ 8) (hC : Dt G kX0_isBelowTop [.ref r, a1] mem (some (.int x)) mem2) (kk : E G kX0_partOfStep R 0 0 mem2 13 loc (.int x :: st)) : E G kX0_partOfStep R 0 0 mem 10 loc (a1 :: .ref r :: st) := E_V1i (k := kX0_partOfStep) (k' := kX0_isBelowTop) dX0_partOfStep_10 rfl okX0_isBelowTop wiX0_isBelowTop wzX0_isBelowTop wl_X0_70 ⟨Nat.le_of_ble_eq_true rfl, Nat.le_of_ble_eq_true rfl⟩ ⟨rfl, rfl⟩ ⟨Nat.zero_le _, Nat.zero_le _⟩ hrest hm rfl hC kk
theorem cs_X0_partOfStep_46 {a1 : Value} {x : Int32} {mem2 : xM} (hm : mem[r]? = some (.inr (0, fs))) (hrest : (st.map fun v => v.category).sum ≤ 8) (hC : Dt G kX0_isLanding [.ref r, a1] mem (some (.int x)) mem2) (kk : E G kX0_partOfStep R 0 0 mem2 49 loc (.int x :: st)) : E G kX0_partOfStep R 0 0 mem 46 loc (a1 :: .ref r :: st) := E_V1i (k := kX0_partOfStep) (k' := kX0_isLanding) dX0_partOfStep_46 rfl okX0_isLanding wiX0_isLanding wzX0_isLanding wl_X0_83 ⟨Nat.le_of_ble_eq_true rfl, Nat.le_of_ble_eq_true rfl⟩ ⟨rfl, rfl⟩ ⟨Nat.zero_le _, Nat.zero_le _⟩ hrest hm rfl hC kk
theorem cs_X0_partOfStep_60 {a1 : Value} {x : Int32} {mem2 : xM} (hm : mem[r]? = some (.inr (0, fs))) (hrest : (st.map fun v => v.category).sum ≤ 8) (hC : Dt G kX0_isUpperEnd [.ref r, a1] mem (some (.int x)) mem2) (kk : E G kX0_partOfStep R 0 0 mem2 63 loc (.int x :: st)) : E G kX0_partOfStep R 0 0 mem 60 loc (a1 :: .ref r :: st) := E_V1i (k := kX0_partOfStep) (k' := kX0_isUpperEnd) dX0_partOfStep_60 rfl okX0_isUpperEnd wiX0_isUpperEnd wzX0_isUpperEnd wl_X0_63 ⟨Nat.le_of_ble_eq_true rfl, Nat.le_of_ble_eq_true rfl⟩ ⟨rfl, rfl⟩ ⟨Nat.zero_le _, Nat.zero_le _⟩ hrest hm rfl hC kk
theorem cs_X0_partOfStep_80 {a1 : Value} {x : Int32} {mem2 : xM} (hm : mem[r]? = some (.inr (0, fs))) (hrest : (st.map fun v => v.category).sum ≤ 8) (hC : Dt G kX0_lowerEndsAt [.ref r, a1] mem (some (.int x)) mem2) (kk : E G kX0_partOfStep R 0 0 mem2 83 loc (.int x :: st)) : E G kX0_partOfStep R 0 0 mem 80 loc (a1 :: .ref r :: st) := E_V1i (k := kX0_partOfStep) (k' := kX0_lowerEndsAt) dX0_partOfStep_80 rfl okX0_lowerEndsAt wiX0_lowerEndsAt wzX0_lowerEndsAt wl_X0_73 ⟨Nat.le_of_ble_eq_true rfl, Nat.le_of_ble_eq_true rfl⟩ ⟨rfl, rfl⟩ ⟨Nat.zero_le _, Nat.zero_le _⟩ hrest hm rfl hC kk
theorem cs_X3_total_5 {a1 : Value} {x : Int32} {mem2 : xM} (hm : mem[r]? = some (.inr (0, fs))) (hrest : (st.map fun v => v.category).sum ≤ 8) (hC : Dt G kX0_totalOf [.ref r, a1] mem (some (.int x)) mem2) (kk : E G kX3_total R 0 0 mem2 8 loc (.int x :: st)) : E G kX3_total R 0 0 mem 5 loc (a1 :: .ref r :: st) := E_V1i (k := kX3_total) (k' := kX0_totalOf) dX3_total_5 rfl okX0_totalOf wiX0_totalOf wzX0_totalOf wl_X3_98 ⟨Nat.le_of_ble_eq_true rfl, Nat.le_of_ble_eq_true rfl⟩ ⟨rfl, rfl⟩ ⟨Nat.zero_le _, Nat.zero_le _⟩ hrest hm rfl hC kk
theorem cs_X0_totalOf_63 {x : Int32} {mem2 : xM} (hm : mem[r]? = some (.inr (0, fs))) (hrest : (st.map fun v => v.category).sum ≤ 8) (hC : Dt G kX0_countCarpets [.ref r] mem (some (.int x)) mem2) (kk : E G kX0_totalOf R 0 0 mem2 66 loc (.int x :: st)) : E G kX0_totalOf R 0 0 mem 63 loc (.ref r :: st) := E_V0i (k := kX0_totalOf) (k' := kX0_countCarpets) dX0_totalOf_63 rfl okX0_countCarpets wiX0_countCarpets wzX0_countCarpets wl_X0_76 ⟨Nat.le_of_ble_eq_true rfl, Nat.le_of_ble_eq_true rfl⟩ ⟨rfl, rfl⟩ ⟨Nat.zero_le _, Nat.zero_le _⟩ hrest hm rfl hC kk
theorem cs_X0_totalOf_68 {x : Int32} {mem2 : xM} (hm : mem[r]? = some (.inr (0, fs))) (hrest : (st.map fun v => v.category).sum ≤ 8) (hC : Dt G kX0_countLandings [.ref r] mem (some (.int x)) mem2) (kk : E G kX0_totalOf R 0 0 mem2 71 loc (.int x :: st)) : E G kX0_totalOf R 0 0 mem 68 loc (.ref r :: st) := E_V0i (k := kX0_totalOf) (k' := kX0_countLandings) dX0_totalOf_68 rfl okX0_countLandings wiX0_countLandings wzX0_countLandings wl_X0_80 ⟨Nat.le_of_ble_eq_true rfl, Nat.le_of_ble_eq_true rfl⟩ ⟨rfl, rfl⟩ ⟨Nat.zero_le _, Nat.zero_le _⟩ hrest hm rfl hC kk
theorem cs_X0_totalOf_78 {x : Int32} {mem2 : xM} (hm : mem[r]? = some (.inr (0, fs))) (hrest : (st.map fun v => v.category).sum ≤ 8) (hC : Dt G kX0_liftsOfAll [.ref r] mem (some (.int x)) mem2) (kk : E G kX0_totalOf R 0 0 mem2 81 loc (.int x :: st)) : E G kX0_totalOf R 0 0 mem 78 loc (.ref r :: st) := E_V0i (k := kX0_totalOf) (k' := kX0_liftsOfAll) dX0_totalOf_78 rfl okX0_liftsOfAll wiX0_liftsOfAll wzX0_liftsOfAll wl_X0_119 ⟨Nat.le_of_ble_eq_true rfl, Nat.le_of_ble_eq_true rfl⟩ ⟨rfl, rfl⟩ ⟨Nat.zero_le _, Nat.zero_le _⟩ hrest hm rfl hC kk
theorem cs_X0_totalOf_83 {x : Int32} {mem2 : xM} (hm : mem[r]? = some (.inr (0, fs))) (hrest : (st.map fun v => v.category).sum ≤ 8) (hC : Dt G kX0_slipsOfAll [.ref r] mem (some (.int x)) mem2) (kk : E G kX0_totalOf R 0 0 mem2 86 loc (.int x :: st)) : E G kX0_totalOf R 0 0 mem 83 loc (.ref r :: st) := E_V0i (k := kX0_totalOf) (k' := kX0_slipsOfAll) dX0_totalOf_83 rfl okX0_slipsOfAll wiX0_slipsOfAll wzX0_slipsOfAll wl_X0_122 ⟨Nat.le_of_ble_eq_true rfl, Nat.le_of_ble_eq_true rfl⟩ ⟨rfl, rfl⟩ ⟨Nat.zero_le _, Nat.zero_le _⟩ hrest hm rfl hC kk
theorem cs_X0_totalOf_88 {x : Int32} {mem2 : xM} (hm : mem[r]? = some (.inr (0, fs))) (hrest : (st.map fun v => v.category).sum ≤ 8) (hC : Dt G kX0_topsOfAll [.ref r] mem (some (.int x)) mem2) (kk : E G kX0_totalOf R 0 0 mem2 91 loc (.int x :: st)) : E G kX0_totalOf R 0 0 mem 88 loc (.ref r :: st) := E_V0i (k := kX0_totalOf) (k' := kX0_topsOfAll) dX0_totalOf_88 rfl okX0_topsOfAll wiX0_topsOfAll wzX0_topsOfAll wl_X0_125 ⟨Nat.le_of_ble_eq_true rfl, Nat.le_of_ble_eq_true rfl⟩ ⟨rfl, rfl⟩ ⟨Nat.zero_le _, Nat.zero_le _⟩ hrest hm rfl hC kk
theorem cs_X0_liftsOfAll_4 {a1 : Value} {x : Int32} {mem2 : xM} (hrest : (st.map fun v => v.category).sum ≤ 8) (hC : Dt G kX0_sumOf [a1] mem (some (.int x)) mem2) (kk : E G kX0_liftsOfAll R 0 0 mem2 7 loc (.int x :: st)) : E G kX0_liftsOfAll R 0 0 mem 4 loc (a1 :: st) := E_S1i (k := kX0_liftsOfAll) (k' := kX0_sumOf) dX0_liftsOfAll_4 rfl okX0_sumOf wsX0_sumOf wl_X0_128 ⟨Nat.le_of_ble_eq_true rfl, Nat.le_of_ble_eq_true rfl⟩ ⟨rfl, rfl⟩ ⟨Nat.zero_le _, Nat.zero_le _⟩ hrest hC kk
theorem cs_X0_slipsOfAll_4 {a1 : Value} {x : Int32} {mem2 : xM} (hrest : (st.map fun v => v.category).sum ≤ 8) (hC : Dt G kX0_sumOf [a1] mem (some (.int x)) mem2) (kk : E G kX0_slipsOfAll R 0 0 mem2 7 loc (.int x :: st)) : E G kX0_slipsOfAll R 0 0 mem 4 loc (a1 :: st) := E_S1i (k := kX0_slipsOfAll) (k' := kX0_sumOf) dX0_slipsOfAll_4 rfl okX0_sumOf wsX0_sumOf wl_X0_128 ⟨Nat.le_of_ble_eq_true rfl, Nat.le_of_ble_eq_true rfl⟩ ⟨rfl, rfl⟩ ⟨Nat.zero_le _, Nat.zero_le _⟩ hrest hC kk
theorem cs_X0_topsOfAll_4 {a1 : Value} {x : Int32} {mem2 : xM} (hrest : (st.map fun v => v.category).sum ≤ 8) (hC : Dt G kX0_sumOf [a1] mem (some (.int x)) mem2) (kk : E G kX0_topsOfAll R 0 0 mem2 7 loc (.int x :: st)) : E G kX0_topsOfAll R 0 0 mem 4 loc (a1 :: st) := E_S1i (k := kX0_topsOfAll) (k' := kX0_sumOf) dX0_topsOfAll_4 rfl okX0_sumOf wsX0_sumOf wl_X0_128 ⟨Nat.le_of_ble_eq_true rfl, Nat.le_of_ble_eq_true rfl⟩ ⟨rfl, rfl⟩ ⟨Nat.zero_le _, Nat.zero_le _⟩ hrest hC kk
theorem cs_X3_rank_14 {a1 : Value} {x : Int32} {mem2 : xM} (hm : mem[r]? = some (.inr (0, fs))) (hrest : (st.map fun v => v.category).sum ≤ 8) (hC : Dt G kX0_climberAtPlace [.ref r, a1] mem (some (.int x)) mem2) (kk : E G kX3_rank R 0 0 mem2 17 loc (.int x :: st)) : E G kX3_rank R 0 0 mem 14 loc (a1 :: .ref r :: st) := E_V1i (k := kX3_rank) (k' := kX0_climberAtPlace) dX3_rank_14 rfl okX0_climberAtPlace wiX0_climberAtPlace wzX0_climberAtPlace wl_X3_101 ⟨Nat.le_of_ble_eq_true rfl, Nat.le_of_ble_eq_true rfl⟩ ⟨rfl, rfl⟩ ⟨Nat.zero_le _, Nat.zero_le _⟩ hrest hm rfl hC kk
theorem cs_X0_climberAtPlace_12 {a1 : Value} {x : Int32} {mem2 : xM} (hm : mem[r]? = some (.inr (0, fs))) (hrest : (st.map fun v => v.category).sum ≤ 8) (hC : Dt G kX0_climbersAheadOf [.ref r, a1] mem (some (.int x)) mem2) (kk : E G kX0_climberAtPlace R 0 0 mem2 15 loc (.int x :: st)) : E G kX0_climberAtPlace R 0 0 mem 12 loc (a1 :: .ref r :: st) := E_V1i (k := kX0_climberAtPlace) (k' := kX0_climbersAheadOf) dX0_climberAtPlace_12 rfl okX0_climbersAheadOf wiX0_climbersAheadOf wzX0_climbersAheadOf wl_X0_132 ⟨Nat.le_of_ble_eq_true rfl, Nat.le_of_ble_eq_true rfl⟩ ⟨rfl, rfl⟩ ⟨Nat.zero_le _, Nat.zero_le _⟩ hrest hm rfl hC kk
theorem cs_X0_climbersAheadOf_4 {a1 : Value} {x : Int32} {mem2 : xM} (hm : mem[r]? = some (.inr (0, fs))) (hrest : (st.map fun v => v.category).sum ≤ 8) (hC : Dt G kX0_progressOf [.ref r, a1] mem (some (.int x)) mem2) (kk : E G kX0_climbersAheadOf R 0 0 mem2 7 loc (.int x :: st)) : E G kX0_climbersAheadOf R 0 0 mem 4 loc (a1 :: .ref r :: st) := E_V1i (k := kX0_climbersAheadOf) (k' := kX0_progressOf) dX0_climbersAheadOf_4 rfl okX0_progressOf wiX0_progressOf wzX0_progressOf wl_X0_116 ⟨Nat.le_of_ble_eq_true rfl, Nat.le_of_ble_eq_true rfl⟩ ⟨rfl, rfl⟩ ⟨Nat.zero_le _, Nat.zero_le _⟩ hrest hm rfl hC kk
theorem cs_X0_climbersAheadOf_23 {a1 : Value} {x : Int32} {mem2 : xM} (hm : mem[r]? = some (.inr (0, fs))) (hrest : (st.map fun v => v.category).sum ≤ 8) (hC : Dt G kX0_progressOf [.ref r, a1] mem (some (.int x)) mem2) (kk : E G kX0_climbersAheadOf R 0 0 mem2 26 loc (.int x :: st)) : E G kX0_climbersAheadOf R 0 0 mem 23 loc (a1 :: .ref r :: st) := E_V1i (k := kX0_climbersAheadOf) (k' := kX0_progressOf) dX0_climbersAheadOf_23 rfl okX0_progressOf wiX0_progressOf wzX0_progressOf wl_X0_116 ⟨Nat.le_of_ble_eq_true rfl, Nat.le_of_ble_eq_true rfl⟩ ⟨rfl, rfl⟩ ⟨Nat.zero_le _, Nat.zero_le _⟩ hrest hm rfl hC kk
theorem cs_X3_ifRolled_1 {a1 : Value} {x : Int32} {mem2 : xM} (hrest : (st.map fun v => v.category).sum ≤ 8) (hC : Dt G kX3_isRoll [a1] mem (some (.int x)) mem2) (kk : E G kX3_ifRolled R 0 0 mem2 4 loc (.int x :: st)) : E G kX3_ifRolled R 0 0 mem 1 loc (a1 :: st) := E_S1i (k := kX3_ifRolled) (k' := kX3_isRoll) dX3_ifRolled_1 rfl okX3_isRoll wsX3_isRoll wl_X3_104 ⟨Nat.le_of_ble_eq_true rfl, Nat.le_of_ble_eq_true rfl⟩ ⟨rfl, rfl⟩ ⟨Nat.zero_le _, Nat.zero_le _⟩ hrest hC kk
theorem cs_X3_ifRolled_23 {x : Int32} {mem2 : xM} (hm : mem[r]? = some (.inr (0, fs))) (hrest : (st.map fun v => v.category).sum ≤ 8) (hC : Dt G kX0_hasMover [.ref r] mem (some (.int x)) mem2) (kk : E G kX3_ifRolled R 0 0 mem2 26 loc (.int x :: st)) : E G kX3_ifRolled R 0 0 mem 23 loc (.ref r :: st) := E_V0i (k := kX3_ifRolled) (k' := kX0_hasMover) dX3_ifRolled_23 rfl okX0_hasMover wiX0_hasMover wzX0_hasMover wl_X3_80 ⟨Nat.le_of_ble_eq_true rfl, Nat.le_of_ble_eq_true rfl⟩ ⟨rfl, rfl⟩ ⟨Nat.zero_le _, Nat.zero_le _⟩ hrest hm rfl hC kk
theorem cs_X3_ifRolled_34 {a1 : Value} {x : Int32} {mem2 : xM} (hm : mem[r]? = some (.inr (3, fs))) (hrest : (st.map fun v => v.category).sum ≤ 8) (hC : Dt G kX3_rollInTrial [.ref r, a1] mem (some (.int x)) mem2) (kk : E G kX3_ifRolled R 0 0 mem2 37 loc (.int x :: st)) : E G kX3_ifRolled R 0 0 mem 34 loc (a1 :: .ref r :: st) := E_V1i (k := kX3_ifRolled) (k' := kX3_rollInTrial) dX3_ifRolled_34 rfl okX3_rollInTrial wiX3_rollInTrial wzX3_rollInTrial wl_X3_107 ⟨Nat.le_of_ble_eq_true rfl, Nat.le_of_ble_eq_true rfl⟩ ⟨rfl, rfl⟩ ⟨Nat.zero_le _, Nat.zero_le _⟩ hrest hm rfl hC kk
theorem cs_X3_ifRolled_74 {x : Int32} {mem2 : xM} (hm : mem[r]? = some (.inr (0, fs))) (hrest : (st.map fun v => v.category).sum ≤ 8) (hC : Dt G kX0_liftsOfAll [.ref r] mem (some (.int x)) mem2) (kk : E G kX3_ifRolled R 0 0 mem2 77 loc (.int x :: st)) : E G kX3_ifRolled R 0 0 mem 74 loc (.ref r :: st) := E_V0i (k := kX3_ifRolled) (k' := kX0_liftsOfAll) dX3_ifRolled_74 rfl okX0_liftsOfAll wiX0_liftsOfAll wzX0_liftsOfAll wl_X3_110 ⟨Nat.le_of_ble_eq_true rfl, Nat.le_of_ble_eq_true rfl⟩ ⟨rfl, rfl⟩ ⟨Nat.zero_le _, Nat.zero_le _⟩ hrest hm rfl hC kk
theorem cs_X3_ifRolled_81 {x : Int32} {mem2 : xM} (hm : mem[r]? = some (.inr (0, fs))) (hrest : (st.map fun v => v.category).sum ≤ 8) (hC : Dt G kX0_liftsOfAll [.ref r] mem (some (.int x)) mem2) (kk : E G kX3_ifRolled R 0 0 mem2 84 loc (.int x :: st)) : E G kX3_ifRolled R 0 0 mem 81 loc (.ref r :: st) := E_V0i (k := kX3_ifRolled) (k' := kX0_liftsOfAll) dX3_ifRolled_81 rfl okX0_liftsOfAll wiX0_liftsOfAll wzX0_liftsOfAll wl_X3_110 ⟨Nat.le_of_ble_eq_true rfl, Nat.le_of_ble_eq_true rfl⟩ ⟨rfl, rfl⟩ ⟨Nat.zero_le _, Nat.zero_le _⟩ hrest hm rfl hC kk
theorem cs_X3_ifRolled_90 {x : Int32} {mem2 : xM} (hm : mem[r]? = some (.inr (0, fs))) (hrest : (st.map fun v => v.category).sum ≤ 8) (hC : Dt G kX0_topsOfAll [.ref r] mem (some (.int x)) mem2) (kk : E G kX3_ifRolled R 0 0 mem2 93 loc (.int x :: st)) : E G kX3_ifRolled R 0 0 mem 90 loc (.ref r :: st) := E_V0i (k := kX3_ifRolled) (k' := kX0_topsOfAll) dX3_ifRolled_90 rfl okX0_topsOfAll wiX0_topsOfAll wzX0_topsOfAll wl_X3_113 ⟨Nat.le_of_ble_eq_true rfl, Nat.le_of_ble_eq_true rfl⟩ ⟨rfl, rfl⟩ ⟨Nat.zero_le _, Nat.zero_le _⟩ hrest hm rfl hC kk
theorem cs_X3_ifRolled_97 {x : Int32} {mem2 : xM} (hm : mem[r]? = some (.inr (0, fs))) (hrest : (st.map fun v => v.category).sum ≤ 8) (hC : Dt G kX0_topsOfAll [.ref r] mem (some (.int x)) mem2) (kk : E G kX3_ifRolled R 0 0 mem2 100 loc (.int x :: st)) : E G kX3_ifRolled R 0 0 mem 97 loc (.ref r :: st) := E_V0i (k := kX3_ifRolled) (k' := kX0_topsOfAll) dX3_ifRolled_97 rfl okX0_topsOfAll wiX0_topsOfAll wzX0_topsOfAll wl_X3_113 ⟨Nat.le_of_ble_eq_true rfl, Nat.le_of_ble_eq_true rfl⟩ ⟨rfl, rfl⟩ ⟨Nat.zero_le _, Nat.zero_le _⟩ hrest hm rfl hC kk
theorem cs_X3_ifRolled_106 {x : Int32} {mem2 : xM} (hm : mem[r]? = some (.inr (0, fs))) (hrest : (st.map fun v => v.category).sum ≤ 8) (hC : Dt G kX0_slipsOfAll [.ref r] mem (some (.int x)) mem2) (kk : E G kX3_ifRolled R 0 0 mem2 109 loc (.int x :: st)) : E G kX3_ifRolled R 0 0 mem 106 loc (.ref r :: st) := E_V0i (k := kX3_ifRolled) (k' := kX0_slipsOfAll) dX3_ifRolled_106 rfl okX0_slipsOfAll wiX0_slipsOfAll wzX0_slipsOfAll wl_X3_116 ⟨Nat.le_of_ble_eq_true rfl, Nat.le_of_ble_eq_true rfl⟩ ⟨rfl, rfl⟩ ⟨Nat.zero_le _, Nat.zero_le _⟩ hrest hm rfl hC kk
theorem cs_X3_ifRolled_113 {x : Int32} {mem2 : xM} (hm : mem[r]? = some (.inr (0, fs))) (hrest : (st.map fun v => v.category).sum ≤ 8) (hC : Dt G kX0_slipsOfAll [.ref r] mem (some (.int x)) mem2) (kk : E G kX3_ifRolled R 0 0 mem2 116 loc (.int x :: st)) : E G kX3_ifRolled R 0 0 mem 113 loc (.ref r :: st) := E_V0i (k := kX3_ifRolled) (k' := kX0_slipsOfAll) dX3_ifRolled_113 rfl okX0_slipsOfAll wiX0_slipsOfAll wzX0_slipsOfAll wl_X3_116 ⟨Nat.le_of_ble_eq_true rfl, Nat.le_of_ble_eq_true rfl⟩ ⟨rfl, rfl⟩ ⟨Nat.zero_le _, Nat.zero_le _⟩ hrest hm rfl hC kk
theorem cs_X3_rollInTrial_8 {a1 : Value} {mem2 : xM} (hm : mem[r]? = some (.inr (0, fs))) (hrest : (st.map fun v => v.category).sum ≤ 8) (hC : Dt G kX0_copyFrom [.ref r, a1] mem (none) mem2) (kk : E G kX3_rollInTrial R 0 0 mem2 11 loc (st)) : E G kX3_rollInTrial R 0 0 mem 8 loc (a1 :: .ref r :: st) := E_V1v (k := kX3_rollInTrial) (k' := kX0_copyFrom) dX3_rollInTrial_8 rfl okX0_copyFrom wiX0_copyFrom wzX0_copyFrom wl_X3_43 ⟨Nat.le_of_ble_eq_true rfl, Nat.le_of_ble_eq_true rfl⟩ ⟨rfl, rfl⟩ ⟨Nat.zero_le _, Nat.zero_le _⟩ hrest hm rfl hC kk
theorem cs_X3_rollInTrial_16 {a1 : Value} {x : Int32} {mem2 : xM} (hm : mem[r]? = some (.inr (0, fs))) (hrest : (st.map fun v => v.category).sum ≤ 8) (hC : Dt G kX0_makeRoll [.ref r, a1] mem (some (.int x)) mem2) (kk : E G kX3_rollInTrial R 0 0 mem2 19 loc (.int x :: st)) : E G kX3_rollInTrial R 0 0 mem 16 loc (a1 :: .ref r :: st) := E_V1i (k := kX3_rollInTrial) (k' := kX0_makeRoll) dX3_rollInTrial_16 rfl okX0_makeRoll wiX0_makeRoll wzX0_makeRoll wl_X3_71 ⟨Nat.le_of_ble_eq_true rfl, Nat.le_of_ble_eq_true rfl⟩ ⟨rfl, rfl⟩ ⟨Nat.zero_le _, Nat.zero_le _⟩ hrest hm rfl hC kk
theorem cs_X3_bestRoll_4 {x : Int32} {mem2 : xM} (hm : mem[r]? = some (.inr (0, fs))) (hrest : (st.map fun v => v.category).sum ≤ 8) (hC : Dt G kX0_hasMover [.ref r] mem (some (.int x)) mem2) (kk : E G kX3_bestRoll R 0 0 mem2 7 loc (.int x :: st)) : E G kX3_bestRoll R 0 0 mem 4 loc (.ref r :: st) := E_V0i (k := kX3_bestRoll) (k' := kX0_hasMover) dX3_bestRoll_4 rfl okX0_hasMover wiX0_hasMover wzX0_hasMover wl_X3_80 ⟨Nat.le_of_ble_eq_true rfl, Nat.le_of_ble_eq_true rfl⟩ ⟨rfl, rfl⟩ ⟨Nat.zero_le _, Nat.zero_le _⟩ hrest hm rfl hC kk
theorem cs_X3_bestRoll_17 {a1 : Value} {x : Int32} {mem2 : xM} (hm : mem[r]? = some (.inr (3, fs))) (hrest : (st.map fun v => v.category).sum ≤ 8) (hC : Dt G kX3_gainOfRoll [.ref r, a1] mem (some (.int x)) mem2) (kk : E G kX3_bestRoll R 0 0 mem2 20 loc (.int x :: st)) : E G kX3_bestRoll R 0 0 mem 17 loc (a1 :: .ref r :: st) := E_V1i (k := kX3_bestRoll) (k' := kX3_gainOfRoll) dX3_bestRoll_17 rfl okX3_gainOfRoll wiX3_gainOfRoll wzX3_gainOfRoll wl_X3_119 ⟨Nat.le_of_ble_eq_true rfl, Nat.le_of_ble_eq_true rfl⟩ ⟨rfl, rfl⟩ ⟨Nat.zero_le _, Nat.zero_le _⟩ hrest hm rfl hC kk
theorem cs_X3_bestRoll_31 {a1 : Value} {x : Int32} {mem2 : xM} (hm : mem[r]? = some (.inr (3, fs))) (hrest : (st.map fun v => v.category).sum ≤ 8) (hC : Dt G kX3_gainOfRoll [.ref r, a1] mem (some (.int x)) mem2) (kk : E G kX3_bestRoll R 0 0 mem2 34 loc (.int x :: st)) : E G kX3_bestRoll R 0 0 mem 31 loc (a1 :: .ref r :: st) := E_V1i (k := kX3_bestRoll) (k' := kX3_gainOfRoll) dX3_bestRoll_31 rfl okX3_gainOfRoll wiX3_gainOfRoll wzX3_gainOfRoll wl_X3_119 ⟨Nat.le_of_ble_eq_true rfl, Nat.le_of_ble_eq_true rfl⟩ ⟨rfl, rfl⟩ ⟨Nat.zero_le _, Nat.zero_le _⟩ hrest hm rfl hC kk
theorem cs_X3_gainOfRoll_2 {a1 : Value} {x : Int32} {mem2 : xM} (hm : mem[r]? = some (.inr (3, fs))) (hrest : (st.map fun v => v.category).sum ≤ 8) (hC : Dt G kX3_rollInTrial [.ref r, a1] mem (some (.int x)) mem2) (kk : E G kX3_gainOfRoll R 0 0 mem2 5 loc (.int x :: st)) : E G kX3_gainOfRoll R 0 0 mem 2 loc (a1 :: .ref r :: st) := E_V1i (k := kX3_gainOfRoll) (k' := kX3_rollInTrial) dX3_gainOfRoll_2 rfl okX3_rollInTrial wiX3_rollInTrial wzX3_rollInTrial wl_X3_107 ⟨Nat.le_of_ble_eq_true rfl, Nat.le_of_ble_eq_true rfl⟩ ⟨rfl, rfl⟩ ⟨Nat.zero_le _, Nat.zero_le _⟩ hrest hm rfl hC kk
theorem cs_X3_gainOfRoll_26 {a1 : Value} {x : Int32} {mem2 : xM} (hm : mem[r]? = some (.inr (0, fs))) (hrest : (st.map fun v => v.category).sum ≤ 8) (hC : Dt G kX0_progressOf [.ref r, a1] mem (some (.int x)) mem2) (kk : E G kX3_gainOfRoll R 0 0 mem2 29 loc (.int x :: st)) : E G kX3_gainOfRoll R 0 0 mem 26 loc (a1 :: .ref r :: st) := E_V1i (k := kX3_gainOfRoll) (k' := kX0_progressOf) dX3_gainOfRoll_26 rfl okX0_progressOf wiX0_progressOf wzX0_progressOf wl_X3_156 ⟨Nat.le_of_ble_eq_true rfl, Nat.le_of_ble_eq_true rfl⟩ ⟨rfl, rfl⟩ ⟨Nat.zero_le _, Nat.zero_le _⟩ hrest hm rfl hC kk
theorem cs_X3_gainOfRoll_34 {a1 : Value} {x : Int32} {mem2 : xM} (hm : mem[r]? = some (.inr (0, fs))) (hrest : (st.map fun v => v.category).sum ≤ 8) (hC : Dt G kX0_progressOf [.ref r, a1] mem (some (.int x)) mem2) (kk : E G kX3_gainOfRoll R 0 0 mem2 37 loc (.int x :: st)) : E G kX3_gainOfRoll R 0 0 mem 34 loc (a1 :: .ref r :: st) := E_V1i (k := kX3_gainOfRoll) (k' := kX0_progressOf) dX3_gainOfRoll_34 rfl okX0_progressOf wiX0_progressOf wzX0_progressOf wl_X3_156 ⟨Nat.le_of_ble_eq_true rfl, Nat.le_of_ble_eq_true rfl⟩ ⟨rfl, rfl⟩ ⟨Nat.zero_le _, Nat.zero_le _⟩ hrest hm rfl hC kk
theorem cs_X3_quietRolls_4 {x : Int32} {mem2 : xM} (hm : mem[r]? = some (.inr (0, fs))) (hrest : (st.map fun v => v.category).sum ≤ 8) (hC : Dt G kX0_hasMover [.ref r] mem (some (.int x)) mem2) (kk : E G kX3_quietRolls R 0 0 mem2 7 loc (.int x :: st)) : E G kX3_quietRolls R 0 0 mem 4 loc (.ref r :: st) := E_V0i (k := kX3_quietRolls) (k' := kX0_hasMover) dX3_quietRolls_4 rfl okX0_hasMover wiX0_hasMover wzX0_hasMover wl_X3_80 ⟨Nat.le_of_ble_eq_true rfl, Nat.le_of_ble_eq_true rfl⟩ ⟨rfl, rfl⟩ ⟨Nat.zero_le _, Nat.zero_le _⟩ hrest hm rfl hC kk
theorem cs_X3_quietRolls_28 {a1 : Value} {x : Int32} {mem2 : xM} (hm : mem[r]? = some (.inr (0, fs))) (hrest : (st.map fun v => v.category).sum ≤ 8) (hC : Dt G kX0_wouldLift [.ref r, a1] mem (some (.int x)) mem2) (kk : E G kX3_quietRolls R 0 0 mem2 31 loc (.int x :: st)) : E G kX3_quietRolls R 0 0 mem 28 loc (a1 :: .ref r :: st) := E_V1i (k := kX3_quietRolls) (k' := kX0_wouldLift) dX3_quietRolls_28 rfl okX0_wouldLift wiX0_wouldLift wzX0_wouldLift wl_X3_122 ⟨Nat.le_of_ble_eq_true rfl, Nat.le_of_ble_eq_true rfl⟩ ⟨rfl, rfl⟩ ⟨Nat.zero_le _, Nat.zero_le _⟩ hrest hm rfl hC kk
theorem cs_X0_wouldLift_13 {a1 a2 : Value} {x : Int32} {mem2 : xM} (hm : mem[r]? = some (.inr (0, fs))) (hrest : (st.map fun v => v.category).sum ≤ 8) (hC : Dt G kX0_isPassed [.ref r, a1, a2] mem (some (.int x)) mem2) (kk : E G kX0_wouldLift R 0 0 mem2 16 loc (.int x :: st)) : E G kX0_wouldLift R 0 0 mem 13 loc (a2 :: a1 :: .ref r :: st) := E_V2i (k := kX0_wouldLift) (k' := kX0_isPassed) dX0_wouldLift_13 rfl okX0_isPassed wiX0_isPassed wzX0_isPassed wl_X0_109 ⟨Nat.le_of_ble_eq_true rfl, Nat.le_of_ble_eq_true rfl⟩ ⟨rfl, rfl⟩ ⟨Nat.zero_le _, Nat.zero_le _⟩ hrest hm rfl hC kk
theorem cs_X3_rollsToTop_5 {a1 : Value} {x : Int32} {mem2 : xM} (hm : mem[r]? = some (.inr (0, fs))) (hrest : (st.map fun v => v.category).sum ≤ 8) (hC : Dt G kX0_isClimber [.ref r, a1] mem (some (.int x)) mem2) (kk : E G kX3_rollsToTop R 0 0 mem2 8 loc (.int x :: st)) : E G kX3_rollsToTop R 0 0 mem 5 loc (a1 :: .ref r :: st) := E_V1i (k := kX3_rollsToTop) (k' := kX0_isClimber) dX3_rollsToTop_5 rfl okX0_isClimber wiX0_isClimber wzX0_isClimber wl_X3_125 ⟨Nat.le_of_ble_eq_true rfl, Nat.le_of_ble_eq_true rfl⟩ ⟨rfl, rfl⟩ ⟨Nat.zero_le _, Nat.zero_le _⟩ hrest hm rfl hC kk
theorem cs_X3_rollsToTop_16 {a1 : Value} {x : Int32} {mem2 : xM} (hm : mem[r]? = some (.inr (0, fs))) (hrest : (st.map fun v => v.category).sum ≤ 8) (hC : Dt G kX0_fewestRollsOf [.ref r, a1] mem (some (.int x)) mem2) (kk : E G kX3_rollsToTop R 0 0 mem2 19 loc (.int x :: st)) : E G kX3_rollsToTop R 0 0 mem 16 loc (a1 :: .ref r :: st) := E_V1i (k := kX3_rollsToTop) (k' := kX0_fewestRollsOf) dX3_rollsToTop_16 rfl okX0_fewestRollsOf wiX0_fewestRollsOf wzX0_fewestRollsOf wl_X3_128 ⟨Nat.le_of_ble_eq_true rfl, Nat.le_of_ble_eq_true rfl⟩ ⟨rfl, rfl⟩ ⟨Nat.zero_le _, Nat.zero_le _⟩ hrest hm rfl hC kk
theorem cs_X0_fewestRollsOf_40 {a1 : Value} {x : Int64} {mem2 : xM} (hm : mem[r]? = some (.inr (0, fs))) (hrest : (st.map fun v => v.category).sum ≤ 8) (hC : Dt G kX0_reachedWithOneMore [.ref r, a1] mem (some (.long x)) mem2) (kk : E G kX0_fewestRollsOf R 0 0 mem2 43 loc (.long x :: st)) : E G kX0_fewestRollsOf R 0 0 mem 40 loc (a1 :: .ref r :: st) := E_V1l (k := kX0_fewestRollsOf) (k' := kX0_reachedWithOneMore) dX0_fewestRollsOf_40 rfl okX0_reachedWithOneMore wiX0_reachedWithOneMore wzX0_reachedWithOneMore wl_X0_135 ⟨Nat.le_of_ble_eq_true rfl, Nat.le_of_ble_eq_true rfl⟩ ⟨rfl, rfl⟩ ⟨Nat.zero_le _, Nat.zero_le _⟩ hrest hm rfl hC kk
theorem cs_X0_reachedWithOneMore_29 {a1 : Value} {x : Int64} {mem2 : xM} (hm : mem[r]? = some (.inr (0, fs))) (hrest : (st.map fun v => v.category).sum ≤ 8) (hC : Dt G kX0_reachedFrom [.ref r, a1] mem (some (.long x)) mem2) (kk : E G kX0_reachedWithOneMore R 0 0 mem2 32 loc (.long x :: st)) : E G kX0_reachedWithOneMore R 0 0 mem 29 loc (a1 :: .ref r :: st) := E_V1l (k := kX0_reachedWithOneMore) (k' := kX0_reachedFrom) dX0_reachedWithOneMore_29 rfl okX0_reachedFrom wiX0_reachedFrom wzX0_reachedFrom wl_X0_139 ⟨Nat.le_of_ble_eq_true rfl, Nat.le_of_ble_eq_true rfl⟩ ⟨rfl, rfl⟩ ⟨Nat.zero_le _, Nat.zero_le _⟩ hrest hm rfl hC kk
theorem cs_X0_reachedFrom_30 {a1 : Value} {x : Int32} {mem2 : xM} (hm : mem[r]? = some (.inr (0, fs))) (hrest : (st.map fun v => v.category).sum ≤ 8) (hC : Dt G kX0_isUpperEnd [.ref r, a1] mem (some (.int x)) mem2) (kk : E G kX0_reachedFrom R 0 0 mem2 33 loc (.int x :: st)) : E G kX0_reachedFrom R 0 0 mem 30 loc (a1 :: .ref r :: st) := E_V1i (k := kX0_reachedFrom) (k' := kX0_isUpperEnd) dX0_reachedFrom_30 rfl okX0_isUpperEnd wiX0_isUpperEnd wzX0_isUpperEnd wl_X0_63 ⟨Nat.le_of_ble_eq_true rfl, Nat.le_of_ble_eq_true rfl⟩ ⟨rfl, rfl⟩ ⟨Nat.zero_le _, Nat.zero_le _⟩ hrest hm rfl hC kk
theorem cs_X3_append_5 {a1 : Value} {x : Int32} {mem2 : xM} (hm : mem[r]? = some (.inr (2, fs))) (hrest : (st.map fun v => v.category).sum ≤ 8) (hC : Dt G kX2_addSign [.ref r, a1] mem (some (.int x)) mem2) (kk : E G kX3_append R 0 0 mem2 8 loc (.int x :: st)) : E G kX3_append R 0 0 mem 5 loc (a1 :: .ref r :: st) := E_V1i (k := kX3_append) (k' := kX2_addSign) dX3_append_5 rfl okX2_addSign wiX2_addSign wzX2_addSign wl_X3_131 ⟨Nat.le_of_ble_eq_true rfl, Nat.le_of_ble_eq_true rfl⟩ ⟨rfl, rfl⟩ ⟨Nat.zero_le _, Nat.zero_le _⟩ hrest hm rfl hC kk
theorem cs_X3_clearText_4 {x : Int32} {mem2 : xM} (hm : mem[r]? = some (.inr (2, fs))) (hrest : (st.map fun v => v.category).sum ≤ 8) (hC : Dt G kX2_dropAll [.ref r] mem (some (.int x)) mem2) (kk : E G kX3_clearText R 0 0 mem2 7 loc (.int x :: st)) : E G kX3_clearText R 0 0 mem 4 loc (.ref r :: st) := E_V0i (k := kX3_clearText) (k' := kX2_dropAll) dX3_clearText_4 rfl okX2_dropAll wiX2_dropAll wzX2_dropAll wl_X3_134 ⟨Nat.le_of_ble_eq_true rfl, Nat.le_of_ble_eq_true rfl⟩ ⟨rfl, rfl⟩ ⟨Nat.zero_le _, Nat.zero_le _⟩ hrest hm rfl hC kk
theorem cs_X3_errorPosition_4 {x : Int32} {mem2 : xM} (hm : mem[r]? = some (.inr (2, fs))) (hrest : (st.map fun v => v.category).sum ≤ 8) (hC : Dt G kX2_firstError [.ref r] mem (some (.int x)) mem2) (kk : E G kX3_errorPosition R 0 0 mem2 7 loc (.int x :: st)) : E G kX3_errorPosition R 0 0 mem 4 loc (.ref r :: st) := E_V0i (k := kX3_errorPosition) (k' := kX2_firstError) dX3_errorPosition_4 rfl okX2_firstError wiX2_firstError wzX2_firstError wl_X3_137 ⟨Nat.le_of_ble_eq_true rfl, Nat.le_of_ble_eq_true rfl⟩ ⟨rfl, rfl⟩ ⟨Nat.zero_le _, Nat.zero_le _⟩ hrest hm rfl hC kk
theorem cs_X2_firstError_19 {a1 a2 : Value} {x : Int32} {mem2 : xM} (hrest : (st.map fun v => v.category).sum ≤ 8) (hC : Dt G kX2_wantedBehind [a1, a2] mem (some (.int x)) mem2) (kk : E G kX2_firstError R 0 0 mem2 22 loc (.int x :: st)) : E G kX2_firstError R 0 0 mem 19 loc (a2 :: a1 :: st) := E_S2i (k := kX2_firstError) (k' := kX2_wantedBehind) dX2_firstError_19 rfl okX2_wantedBehind wsX2_wantedBehind wl_X2_19 ⟨Nat.le_of_ble_eq_true rfl, Nat.le_of_ble_eq_true rfl⟩ ⟨rfl, rfl⟩ ⟨Nat.zero_le _, Nat.zero_le _⟩ hrest hC kk
theorem cs_X2_wantedBehind_45 {a1 : Value} {x : Int32} {mem2 : xM} (hrest : (st.map fun v => v.category).sum ≤ 8) (hC : Dt G kX2_wantedBehindMoveStart [a1] mem (some (.int x)) mem2) (kk : E G kX2_wantedBehind R 0 0 mem2 48 loc (.int x :: st)) : E G kX2_wantedBehind R 0 0 mem 45 loc (a1 :: st) := E_S1i (k := kX2_wantedBehind) (k' := kX2_wantedBehindMoveStart) dX2_wantedBehind_45 rfl okX2_wantedBehindMoveStart wsX2_wantedBehindMoveStart wl_X2_23 ⟨Nat.le_of_ble_eq_true rfl, Nat.le_of_ble_eq_true rfl⟩ ⟨rfl, rfl⟩ ⟨Nat.zero_le _, Nat.zero_le _⟩ hrest hC kk
theorem cs_X2_wantedBehind_50 {a1 : Value} {x : Int32} {mem2 : xM} (hrest : (st.map fun v => v.category).sum ≤ 8) (hC : Dt G kX2_wantedBehindComma [a1] mem (some (.int x)) mem2) (kk : E G kX2_wantedBehind R 0 0 mem2 53 loc (.int x :: st)) : E G kX2_wantedBehind R 0 0 mem 50 loc (a1 :: st) := E_S1i (k := kX2_wantedBehind) (k' := kX2_wantedBehindComma) dX2_wantedBehind_50 rfl okX2_wantedBehindComma wsX2_wantedBehindComma wl_X2_27 ⟨Nat.le_of_ble_eq_true rfl, Nat.le_of_ble_eq_true rfl⟩ ⟨rfl, rfl⟩ ⟨Nat.zero_le _, Nat.zero_le _⟩ hrest hC kk
theorem cs_X2_wantedBehind_57 {a1 a2 a3 : Value} {x : Int32} {mem2 : xM} (hrest : (st.map fun v => v.category).sum ≤ 8) (hC : Dt G kX2_wantedBehindNumberStart [a1, a2, a3] mem (some (.int x)) mem2) (kk : E G kX2_wantedBehind R 0 0 mem2 60 loc (.int x :: st)) : E G kX2_wantedBehind R 0 0 mem 57 loc (a3 :: a2 :: a1 :: st) := E_S3i (k := kX2_wantedBehind) (k' := kX2_wantedBehindNumberStart) dX2_wantedBehind_57 rfl okX2_wantedBehindNumberStart wsX2_wantedBehindNumberStart wl_X2_30 ⟨Nat.le_of_ble_eq_true rfl, Nat.le_of_ble_eq_true rfl⟩ ⟨rfl, rfl⟩ ⟨Nat.zero_le _, Nat.zero_le _⟩ hrest hC kk
theorem cs_X2_wantedBehind_62 {a1 : Value} {x : Int32} {mem2 : xM} (hrest : (st.map fun v => v.category).sum ≤ 8) (hC : Dt G kX2_isDigit [a1] mem (some (.int x)) mem2) (kk : E G kX2_wantedBehind R 0 0 mem2 65 loc (.int x :: st)) : E G kX2_wantedBehind R 0 0 mem 62 loc (a1 :: st) := E_S1i (k := kX2_wantedBehind) (k' := kX2_isDigit) dX2_wantedBehind_62 rfl okX2_isDigit wsX2_isDigit wl_X2_34 ⟨Nat.le_of_ble_eq_true rfl, Nat.le_of_ble_eq_true rfl⟩ ⟨rfl, rfl⟩ ⟨Nat.zero_le _, Nat.zero_le _⟩ hrest hC kk
theorem cs_X2_wantedBehind_73 {a1 : Value} {x : Int32} {mem2 : xM} (hrest : (st.map fun v => v.category).sum ≤ 8) (hC : Dt G kX2_wantedBehindArrow [a1] mem (some (.int x)) mem2) (kk : E G kX2_wantedBehind R 0 0 mem2 76 loc (.int x :: st)) : E G kX2_wantedBehind R 0 0 mem 73 loc (a1 :: st) := E_S1i (k := kX2_wantedBehind) (k' := kX2_wantedBehindArrow) dX2_wantedBehind_73 rfl okX2_wantedBehindArrow wsX2_wantedBehindArrow wl_X2_38 ⟨Nat.le_of_ble_eq_true rfl, Nat.le_of_ble_eq_true rfl⟩ ⟨rfl, rfl⟩ ⟨Nat.zero_le _, Nat.zero_le _⟩ hrest hC kk
theorem cs_X2_wantedBehind_78 {a1 : Value} {x : Int32} {mem2 : xM} (hrest : (st.map fun v => v.category).sum ≤ 8) (hC : Dt G kX2_wantedBehindArrow [a1] mem (some (.int x)) mem2) (kk : E G kX2_wantedBehind R 0 0 mem2 81 loc (.int x :: st)) : E G kX2_wantedBehind R 0 0 mem 78 loc (a1 :: st) := E_S1i (k := kX2_wantedBehind) (k' := kX2_wantedBehindArrow) dX2_wantedBehind_78 rfl okX2_wantedBehindArrow wsX2_wantedBehindArrow wl_X2_38 ⟨Nat.le_of_ble_eq_true rfl, Nat.le_of_ble_eq_true rfl⟩ ⟨rfl, rfl⟩ ⟨Nat.zero_le _, Nat.zero_le _⟩ hrest hC kk
theorem cs_X2_wantedBehind_86 {a1 a2 a3 : Value} {x : Int32} {mem2 : xM} (hrest : (st.map fun v => v.category).sum ≤ 8) (hC : Dt G kX2_wantedBehindNumberStart [a1, a2, a3] mem (some (.int x)) mem2) (kk : E G kX2_wantedBehind R 0 0 mem2 89 loc (.int x :: st)) : E G kX2_wantedBehind R 0 0 mem 86 loc (a3 :: a2 :: a1 :: st) := E_S3i (k := kX2_wantedBehind) (k' := kX2_wantedBehindNumberStart) dX2_wantedBehind_86 rfl okX2_wantedBehindNumberStart wsX2_wantedBehindNumberStart wl_X2_30 ⟨Nat.le_of_ble_eq_true rfl, Nat.le_of_ble_eq_true rfl⟩ ⟨rfl, rfl⟩ ⟨Nat.zero_le _, Nat.zero_le _⟩ hrest hC kk
theorem cs_X2_wantedBehind_91 {a1 : Value} {x : Int32} {mem2 : xM} (hrest : (st.map fun v => v.category).sum ≤ 8) (hC : Dt G kX2_isDigit [a1] mem (some (.int x)) mem2) (kk : E G kX2_wantedBehind R 0 0 mem2 94 loc (.int x :: st)) : E G kX2_wantedBehind R 0 0 mem 91 loc (a1 :: st) := E_S1i (k := kX2_wantedBehind) (k' := kX2_isDigit) dX2_wantedBehind_91 rfl okX2_isDigit wsX2_isDigit wl_X2_34 ⟨Nat.le_of_ble_eq_true rfl, Nat.le_of_ble_eq_true rfl⟩ ⟨rfl, rfl⟩ ⟨Nat.zero_le _, Nat.zero_le _⟩ hrest hC kk
theorem cs_X2_wantedBehind_102 {a1 : Value} {x : Int32} {mem2 : xM} (hrest : (st.map fun v => v.category).sum ≤ 8) (hC : Dt G kX2_wantedBehindComma [a1] mem (some (.int x)) mem2) (kk : E G kX2_wantedBehind R 0 0 mem2 105 loc (.int x :: st)) : E G kX2_wantedBehind R 0 0 mem 102 loc (a1 :: st) := E_S1i (k := kX2_wantedBehind) (k' := kX2_wantedBehindComma) dX2_wantedBehind_102 rfl okX2_wantedBehindComma wsX2_wantedBehindComma wl_X2_27 ⟨Nat.le_of_ble_eq_true rfl, Nat.le_of_ble_eq_true rfl⟩ ⟨rfl, rfl⟩ ⟨Nat.zero_le _, Nat.zero_le _⟩ hrest hC kk
theorem cs_X2_wantedBehindMoveStart_16 {a1 : Value} {x : Int32} {mem2 : xM} (hrest : (st.map fun v => v.category).sum ≤ 8) (hC : Dt G kX3_isRoll [a1] mem (some (.int x)) mem2) (kk : E G kX2_wantedBehindMoveStart R 0 0 mem2 19 loc (.int x :: st)) : E G kX2_wantedBehindMoveStart R 0 0 mem 16 loc (a1 :: st) := E_SN1i (k := kX2_wantedBehindMoveStart) (k' := kX3_isRoll) dX2_wantedBehindMoveStart_16 rfl okX3_isRoll wsX3_isRoll wl_X2_41 ⟨Nat.le_of_ble_eq_true rfl, Nat.le_of_ble_eq_true rfl⟩ ⟨rfl, rfl⟩ ⟨Nat.zero_le _, Nat.zero_le _⟩ hrest hC kk
theorem cs_X2_wantedBehindNumberStart_1 {a1 : Value} {x : Int32} {mem2 : xM} (hrest : (st.map fun v => v.category).sum ≤ 8) (hC : Dt G kX2_isDigit [a1] mem (some (.int x)) mem2) (kk : E G kX2_wantedBehindNumberStart R 0 0 mem2 4 loc (.int x :: st)) : E G kX2_wantedBehindNumberStart R 0 0 mem 1 loc (a1 :: st) := E_S1i (k := kX2_wantedBehindNumberStart) (k' := kX2_isDigit) dX2_wantedBehindNumberStart_1 rfl okX2_isDigit wsX2_isDigit wl_X2_34 ⟨Nat.le_of_ble_eq_true rfl, Nat.le_of_ble_eq_true rfl⟩ ⟨rfl, rfl⟩ ⟨Nat.zero_le _, Nat.zero_le _⟩ hrest hC kk
theorem cs_X3_play_4 {x : Int32} {mem2 : xM} (hm : mem[r]? = some (.inr (2, fs))) (hrest : (st.map fun v => v.category).sum ≤ 8) (hC : Dt G kX2_firstError [.ref r] mem (some (.int x)) mem2) (kk : E G kX3_play R 0 0 mem2 7 loc (.int x :: st)) : E G kX3_play R 0 0 mem 4 loc (.ref r :: st) := E_V0i (k := kX3_play) (k' := kX2_firstError) dX3_play_4 rfl okX2_firstError wiX2_firstError wzX2_firstError wl_X3_137 ⟨Nat.le_of_ble_eq_true rfl, Nat.le_of_ble_eq_true rfl⟩ ⟨rfl, rfl⟩ ⟨Nat.zero_le _, Nat.zero_le _⟩ hrest hm rfl hC kk
theorem cs_X3_play_23 {a1 : Value} {mem2 : xM} (hm : mem[r]? = some (.inr (0, fs))) (hrest : (st.map fun v => v.category).sum ≤ 8) (hC : Dt G kX0_copyFrom [.ref r, a1] mem (none) mem2) (kk : E G kX3_play R 0 0 mem2 26 loc (st)) : E G kX3_play R 0 0 mem 23 loc (a1 :: .ref r :: st) := E_V1v (k := kX3_play) (k' := kX0_copyFrom) dX3_play_23 rfl okX0_copyFrom wiX0_copyFrom wzX0_copyFrom wl_X3_43 ⟨Nat.le_of_ble_eq_true rfl, Nat.le_of_ble_eq_true rfl⟩ ⟨rfl, rfl⟩ ⟨Nat.zero_le _, Nat.zero_le _⟩ hrest hm rfl hC kk
theorem cs_X3_play_27 {x : Int32} {mem2 : xM} (hm : mem[r]? = some (.inr (3, fs))) (hrest : (st.map fun v => v.category).sum ≤ 8) (hC : Dt G kX3_makeMovesOfText [.ref r] mem (some (.int x)) mem2) (kk : E G kX3_play R 0 0 mem2 30 loc (.int x :: st)) : E G kX3_play R 0 0 mem 27 loc (.ref r :: st) := E_V0i (k := kX3_play) (k' := kX3_makeMovesOfText) dX3_play_27 rfl okX3_makeMovesOfText wiX3_makeMovesOfText wzX3_makeMovesOfText wl_X3_140 ⟨Nat.le_of_ble_eq_true rfl, Nat.le_of_ble_eq_true rfl⟩ ⟨rfl, rfl⟩ ⟨Nat.zero_le _, Nat.zero_le _⟩ hrest hm rfl hC kk
theorem cs_X3_play_35 {x : Int32} {mem2 : xM} (hm : mem[r]? = some (.inr (2, fs))) (hrest : (st.map fun v => v.category).sum ≤ 8) (hC : Dt G kX2_dropAll [.ref r] mem (some (.int x)) mem2) (kk : E G kX3_play R 0 0 mem2 38 loc (.int x :: st)) : E G kX3_play R 0 0 mem 35 loc (.ref r :: st) := E_V0i (k := kX3_play) (k' := kX2_dropAll) dX3_play_35 rfl okX2_dropAll wiX2_dropAll wzX2_dropAll wl_X3_134 ⟨Nat.le_of_ble_eq_true rfl, Nat.le_of_ble_eq_true rfl⟩ ⟨rfl, rfl⟩ ⟨Nat.zero_le _, Nat.zero_le _⟩ hrest hm rfl hC kk
theorem cs_X3_play_41 {a1 : Value} {x : Int32} {mem2 : xM} (hm : mem[r]? = some (.inr (3, fs))) (hrest : (st.map fun v => v.category).sum ≤ 8) (hC : Dt G kX3_recordUnlessError [.ref r, a1] mem (some (.int x)) mem2) (kk : E G kX3_play R 0 0 mem2 44 loc (.int x :: st)) : E G kX3_play R 0 0 mem 41 loc (a1 :: .ref r :: st) := E_V1i (k := kX3_play) (k' := kX3_recordUnlessError) dX3_play_41 rfl okX3_recordUnlessError wiX3_recordUnlessError wzX3_recordUnlessError wl_X3_51 ⟨Nat.le_of_ble_eq_true rfl, Nat.le_of_ble_eq_true rfl⟩ ⟨rfl, rfl⟩ ⟨Nat.zero_le _, Nat.zero_le _⟩ hrest hm rfl hC kk
theorem cs_X3_makeMovesOfText_20 {a1 : Value} {x : Int32} {mem2 : xM} (hm : mem[r]? = some (.inr (2, fs))) (hrest : (st.map fun v => v.category).sum ≤ 8) (hC : Dt G kX2_isMoveStart [.ref r, a1] mem (some (.int x)) mem2) (kk : E G kX3_makeMovesOfText R 0 0 mem2 23 loc (.int x :: st)) : E G kX3_makeMovesOfText R 0 0 mem 20 loc (a1 :: .ref r :: st) := E_V1i (k := kX3_makeMovesOfText) (k' := kX2_isMoveStart) dX3_makeMovesOfText_20 rfl okX2_isMoveStart wiX2_isMoveStart wzX2_isMoveStart wl_X3_162 ⟨Nat.le_of_ble_eq_true rfl, Nat.le_of_ble_eq_true rfl⟩ ⟨rfl, rfl⟩ ⟨Nat.zero_le _, Nat.zero_le _⟩ hrest hm rfl hC kk
theorem cs_X3_makeMovesOfText_31 {a1 : Value} {x : Int32} {mem2 : xM} (hm : mem[r]? = some (.inr (3, fs))) (hrest : (st.map fun v => v.category).sum ≤ 8) (hC : Dt G kX3_makeMoveAt [.ref r, a1] mem (some (.int x)) mem2) (kk : E G kX3_makeMovesOfText R 0 0 mem2 34 loc (.int x :: st)) : E G kX3_makeMovesOfText R 0 0 mem 31 loc (a1 :: .ref r :: st) := E_V1i (k := kX3_makeMovesOfText) (k' := kX3_makeMoveAt) dX3_makeMovesOfText_31 rfl okX3_makeMoveAt wiX3_makeMoveAt wzX3_makeMoveAt wl_X3_165 ⟨Nat.le_of_ble_eq_true rfl, Nat.le_of_ble_eq_true rfl⟩ ⟨rfl, rfl⟩ ⟨Nat.zero_le _, Nat.zero_le _⟩ hrest hm rfl hC kk
theorem cs_X2_isMoveStart_8 {a1 : Value} {x : Int32} {mem2 : xM} (hm : mem[r]? = some (.inr (2, fs))) (hrest : (st.map fun v => v.category).sum ≤ 8) (hC : Dt G kX2_signAt [.ref r, a1] mem (some (.int x)) mem2) (kk : E G kX2_isMoveStart R 0 0 mem2 11 loc (.int x :: st)) : E G kX2_isMoveStart R 0 0 mem 8 loc (a1 :: .ref r :: st) := E_V1i (k := kX2_isMoveStart) (k' := kX2_signAt) dX2_isMoveStart_8 rfl okX2_signAt wiX2_signAt wzX2_signAt wl_X2_45 ⟨Nat.le_of_ble_eq_true rfl, Nat.le_of_ble_eq_true rfl⟩ ⟨rfl, rfl⟩ ⟨Nat.zero_le _, Nat.zero_le _⟩ hrest hm rfl hC kk
theorem cs_X3_makeMoveAt_5 {a1 : Value} {x : Int32} {mem2 : xM} (hm : mem[r]? = some (.inr (2, fs))) (hrest : (st.map fun v => v.category).sum ≤ 8) (hC : Dt G kX2_signAt [.ref r, a1] mem (some (.int x)) mem2) (kk : E G kX3_makeMoveAt R 0 0 mem2 8 loc (.int x :: st)) : E G kX3_makeMoveAt R 0 0 mem 5 loc (a1 :: .ref r :: st) := E_V1i (k := kX3_makeMoveAt) (k' := kX2_signAt) dX3_makeMoveAt_5 rfl okX2_signAt wiX2_signAt wzX2_signAt wl_X3_168 ⟨Nat.le_of_ble_eq_true rfl, Nat.le_of_ble_eq_true rfl⟩ ⟨rfl, rfl⟩ ⟨Nat.zero_le _, Nat.zero_le _⟩ hrest hm rfl hC kk
theorem cs_X3_makeMoveAt_19 {x : Int32} {mem2 : xM} (hm : mem[r]? = some (.inr (0, fs))) (hrest : (st.map fun v => v.category).sum ≤ 8) (hC : Dt G kX0_makePass [.ref r] mem (some (.int x)) mem2) (kk : E G kX3_makeMoveAt R 0 0 mem2 22 loc (.int x :: st)) : E G kX3_makeMoveAt R 0 0 mem 19 loc (.ref r :: st) := E_V0i (k := kX3_makeMoveAt) (k' := kX0_makePass) dX3_makeMoveAt_19 rfl okX0_makePass wiX0_makePass wzX0_makePass wl_X3_74 ⟨Nat.le_of_ble_eq_true rfl, Nat.le_of_ble_eq_true rfl⟩ ⟨rfl, rfl⟩ ⟨Nat.zero_le _, Nat.zero_le _⟩ hrest hm rfl hC kk
theorem cs_X3_makeMoveAt_33 {x : Int32} {mem2 : xM} (hm : mem[r]? = some (.inr (0, fs))) (hrest : (st.map fun v => v.category).sum ≤ 8) (hC : Dt G kX0_addClimber [.ref r] mem (some (.int x)) mem2) (kk : E G kX3_makeMoveAt R 0 0 mem2 36 loc (.int x :: st)) : E G kX3_makeMoveAt R 0 0 mem 33 loc (.ref r :: st) := E_V0i (k := kX3_makeMoveAt) (k' := kX0_addClimber) dX3_makeMoveAt_33 rfl okX0_addClimber wiX0_addClimber wzX0_addClimber wl_X3_67 ⟨Nat.le_of_ble_eq_true rfl, Nat.le_of_ble_eq_true rfl⟩ ⟨rfl, rfl⟩ ⟨Nat.zero_le _, Nat.zero_le _⟩ hrest hm rfl hC kk
theorem cs_X3_makeMoveAt_54 {a1 : Value} {x : Int32} {mem2 : xM} (hm : mem[r]? = some (.inr (2, fs))) (hrest : (st.map fun v => v.category).sum ≤ 8) (hC : Dt G kX2_numberAt [.ref r, a1] mem (some (.int x)) mem2) (kk : E G kX3_makeMoveAt R 0 0 mem2 57 loc (.int x :: st)) : E G kX3_makeMoveAt R 0 0 mem 54 loc (a1 :: .ref r :: st) := E_V1i (k := kX3_makeMoveAt) (k' := kX2_numberAt) dX3_makeMoveAt_54 rfl okX2_numberAt wiX2_numberAt wzX2_numberAt wl_X3_172 ⟨Nat.le_of_ble_eq_true rfl, Nat.le_of_ble_eq_true rfl⟩ ⟨rfl, rfl⟩ ⟨Nat.zero_le _, Nat.zero_le _⟩ hrest hm rfl hC kk
theorem cs_X3_makeMoveAt_66 {a1 : Value} {x : Int32} {mem2 : xM} (hm : mem[r]? = some (.inr (2, fs))) (hrest : (st.map fun v => v.category).sum ≤ 8) (hC : Dt G kX2_behindArrow [.ref r, a1] mem (some (.int x)) mem2) (kk : E G kX3_makeMoveAt R 0 0 mem2 69 loc (.int x :: st)) : E G kX3_makeMoveAt R 0 0 mem 66 loc (a1 :: .ref r :: st) := E_V1i (k := kX3_makeMoveAt) (k' := kX2_behindArrow) dX3_makeMoveAt_66 rfl okX2_behindArrow wiX2_behindArrow wzX2_behindArrow wl_X3_175 ⟨Nat.le_of_ble_eq_true rfl, Nat.le_of_ble_eq_true rfl⟩ ⟨rfl, rfl⟩ ⟨Nat.zero_le _, Nat.zero_le _⟩ hrest hm rfl hC kk
theorem cs_X3_makeMoveAt_69 {a1 : Value} {x : Int32} {mem2 : xM} (hm : mem[r]? = some (.inr (2, fs))) (hrest : (st.map fun v => v.category).sum ≤ 8) (hC : Dt G kX2_numberAt [.ref r, a1] mem (some (.int x)) mem2) (kk : E G kX3_makeMoveAt R 0 0 mem2 72 loc (.int x :: st)) : E G kX3_makeMoveAt R 0 0 mem 69 loc (a1 :: .ref r :: st) := E_V1i (k := kX3_makeMoveAt) (k' := kX2_numberAt) dX3_makeMoveAt_69 rfl okX2_numberAt wiX2_numberAt wzX2_numberAt wl_X3_172 ⟨Nat.le_of_ble_eq_true rfl, Nat.le_of_ble_eq_true rfl⟩ ⟨rfl, rfl⟩ ⟨Nat.zero_le _, Nat.zero_le _⟩ hrest hm rfl hC kk
theorem cs_X3_makeMoveAt_72 {a1 a2 : Value} {x : Int32} {mem2 : xM} (hm : mem[r]? = some (.inr (0, fs))) (hrest : (st.map fun v => v.category).sum ≤ 8) (hC : Dt G kX0_layCarpet [.ref r, a1, a2] mem (some (.int x)) mem2) (kk : E G kX3_makeMoveAt R 0 0 mem2 75 loc (.int x :: st)) : E G kX3_makeMoveAt R 0 0 mem 72 loc (a2 :: a1 :: .ref r :: st) := E_V2i (k := kX3_makeMoveAt) (k' := kX0_layCarpet) dX3_makeMoveAt_72 rfl okX0_layCarpet wiX0_layCarpet wzX0_layCarpet wl_X3_54 ⟨Nat.le_of_ble_eq_true rfl, Nat.le_of_ble_eq_true rfl⟩ ⟨rfl, rfl⟩ ⟨Nat.zero_le _, Nat.zero_le _⟩ hrest hm rfl hC kk
theorem cs_X3_makeMoveAt_93 {a1 : Value} {x : Int32} {mem2 : xM} (hm : mem[r]? = some (.inr (2, fs))) (hrest : (st.map fun v => v.category).sum ≤ 8) (hC : Dt G kX2_numberAt [.ref r, a1] mem (some (.int x)) mem2) (kk : E G kX3_makeMoveAt R 0 0 mem2 96 loc (.int x :: st)) : E G kX3_makeMoveAt R 0 0 mem 93 loc (a1 :: .ref r :: st) := E_V1i (k := kX3_makeMoveAt) (k' := kX2_numberAt) dX3_makeMoveAt_93 rfl okX2_numberAt wiX2_numberAt wzX2_numberAt wl_X3_172 ⟨Nat.le_of_ble_eq_true rfl, Nat.le_of_ble_eq_true rfl⟩ ⟨rfl, rfl⟩ ⟨Nat.zero_le _, Nat.zero_le _⟩ hrest hm rfl hC kk
theorem cs_X3_makeMoveAt_96 {a1 : Value} {x : Int32} {mem2 : xM} (hm : mem[r]? = some (.inr (0, fs))) (hrest : (st.map fun v => v.category).sum ≤ 8) (hC : Dt G kX0_putLanding [.ref r, a1] mem (some (.int x)) mem2) (kk : E G kX3_makeMoveAt R 0 0 mem2 99 loc (.int x :: st)) : E G kX3_makeMoveAt R 0 0 mem 96 loc (a1 :: .ref r :: st) := E_V1i (k := kX3_makeMoveAt) (k' := kX0_putLanding) dX3_makeMoveAt_96 rfl okX0_putLanding wiX0_putLanding wzX0_putLanding wl_X3_61 ⟨Nat.le_of_ble_eq_true rfl, Nat.le_of_ble_eq_true rfl⟩ ⟨rfl, rfl⟩ ⟨Nat.zero_le _, Nat.zero_le _⟩ hrest hm rfl hC kk
theorem cs_X3_makeMoveAt_109 {a1 : Value} {x : Int32} {mem2 : xM} (hm : mem[r]? = some (.inr (2, fs))) (hrest : (st.map fun v => v.category).sum ≤ 8) (hC : Dt G kX2_numberAt [.ref r, a1] mem (some (.int x)) mem2) (kk : E G kX3_makeMoveAt R 0 0 mem2 112 loc (.int x :: st)) : E G kX3_makeMoveAt R 0 0 mem 109 loc (a1 :: .ref r :: st) := E_V1i (k := kX3_makeMoveAt) (k' := kX2_numberAt) dX3_makeMoveAt_109 rfl okX2_numberAt wiX2_numberAt wzX2_numberAt wl_X3_172 ⟨Nat.le_of_ble_eq_true rfl, Nat.le_of_ble_eq_true rfl⟩ ⟨rfl, rfl⟩ ⟨Nat.zero_le _, Nat.zero_le _⟩ hrest hm rfl hC kk
theorem cs_X3_makeMoveAt_112 {a1 : Value} {x : Int32} {mem2 : xM} (hm : mem[r]? = some (.inr (0, fs))) (hrest : (st.map fun v => v.category).sum ≤ 8) (hC : Dt G kX0_makeRoll [.ref r, a1] mem (some (.int x)) mem2) (kk : E G kX3_makeMoveAt R 0 0 mem2 115 loc (.int x :: st)) : E G kX3_makeMoveAt R 0 0 mem 112 loc (a1 :: .ref r :: st) := E_V1i (k := kX3_makeMoveAt) (k' := kX0_makeRoll) dX3_makeMoveAt_112 rfl okX0_makeRoll wiX0_makeRoll wzX0_makeRoll wl_X3_71 ⟨Nat.le_of_ble_eq_true rfl, Nat.le_of_ble_eq_true rfl⟩ ⟨rfl, rfl⟩ ⟨Nat.zero_le _, Nat.zero_le _⟩ hrest hm rfl hC kk
theorem cs_X2_numberAt_14 {a1 : Value} {x : Int32} {mem2 : xM} (hm : mem[r]? = some (.inr (2, fs))) (hrest : (st.map fun v => v.category).sum ≤ 8) (hC : Dt G kX2_signAt [.ref r, a1] mem (some (.int x)) mem2) (kk : E G kX2_numberAt R 0 0 mem2 17 loc (.int x :: st)) : E G kX2_numberAt R 0 0 mem 14 loc (a1 :: .ref r :: st) := E_V1i (k := kX2_numberAt) (k' := kX2_signAt) dX2_numberAt_14 rfl okX2_signAt wiX2_signAt wzX2_signAt wl_X2_45 ⟨Nat.le_of_ble_eq_true rfl, Nat.le_of_ble_eq_true rfl⟩ ⟨rfl, rfl⟩ ⟨Nat.zero_le _, Nat.zero_le _⟩ hrest hm rfl hC kk
theorem cs_X2_numberAt_17 {a1 : Value} {x : Int32} {mem2 : xM} (hrest : (st.map fun v => v.category).sum ≤ 8) (hC : Dt G kX2_isDigit [a1] mem (some (.int x)) mem2) (kk : E G kX2_numberAt R 0 0 mem2 20 loc (.int x :: st)) : E G kX2_numberAt R 0 0 mem 17 loc (a1 :: st) := E_S1i (k := kX2_numberAt) (k' := kX2_isDigit) dX2_numberAt_17 rfl okX2_isDigit wsX2_isDigit wl_X2_34 ⟨Nat.le_of_ble_eq_true rfl, Nat.le_of_ble_eq_true rfl⟩ ⟨rfl, rfl⟩ ⟨Nat.zero_le _, Nat.zero_le _⟩ hrest hC kk
theorem cs_X2_numberAt_29 {a1 : Value} {x : Int32} {mem2 : xM} (hm : mem[r]? = some (.inr (2, fs))) (hrest : (st.map fun v => v.category).sum ≤ 8) (hC : Dt G kX2_signAt [.ref r, a1] mem (some (.int x)) mem2) (kk : E G kX2_numberAt R 0 0 mem2 32 loc (.int x :: st)) : E G kX2_numberAt R 0 0 mem 29 loc (a1 :: .ref r :: st) := E_V1i (k := kX2_numberAt) (k' := kX2_signAt) dX2_numberAt_29 rfl okX2_signAt wiX2_signAt wzX2_signAt wl_X2_45 ⟨Nat.le_of_ble_eq_true rfl, Nat.le_of_ble_eq_true rfl⟩ ⟨rfl, rfl⟩ ⟨Nat.zero_le _, Nat.zero_le _⟩ hrest hm rfl hC kk
theorem cs_X2_behindArrow_12 {a1 : Value} {x : Int32} {mem2 : xM} (hm : mem[r]? = some (.inr (2, fs))) (hrest : (st.map fun v => v.category).sum ≤ 8) (hC : Dt G kX2_signAt [.ref r, a1] mem (some (.int x)) mem2) (kk : E G kX2_behindArrow R 0 0 mem2 15 loc (.int x :: st)) : E G kX2_behindArrow R 0 0 mem 12 loc (a1 :: .ref r :: st) := E_V1i (k := kX2_behindArrow) (k' := kX2_signAt) dX2_behindArrow_12 rfl okX2_signAt wiX2_signAt wzX2_signAt wl_X2_45 ⟨Nat.le_of_ble_eq_true rfl, Nat.le_of_ble_eq_true rfl⟩ ⟨rfl, rfl⟩ ⟨Nat.zero_le _, Nat.zero_le _⟩ hrest hm rfl hC kk
theorem cs_X3_undo_4 {x : Int32} {mem2 : xM} (hm : mem[r]? = some (.inr (1, fs))) (hrest : (st.map fun v => v.category).sum ≤ 8) (hC : Dt G kX1_isEmpty [.ref r] mem (some (.int x)) mem2) (kk : E G kX3_undo R 0 0 mem2 7 loc (.int x :: st)) : E G kX3_undo R 0 0 mem 4 loc (.ref r :: st) := E_V0i (k := kX3_undo) (k' := kX1_isEmpty) dX3_undo_4 rfl okX1_isEmpty wiX1_isEmpty wzX1_isEmpty wl_X3_143 ⟨Nat.le_of_ble_eq_true rfl, Nat.le_of_ble_eq_true rfl⟩ ⟨rfl, rfl⟩ ⟨Nat.zero_le _, Nat.zero_le _⟩ hrest hm rfl hC kk
theorem cs_X3_undo_23 {a1 : Value} {x : Int32} {mem2 : xM} (hm : mem[r]? = some (.inr (1, fs))) (hrest : (st.map fun v => v.category).sum ≤ 8) (hC : Dt G kX1_moveLatestTo [.ref r, a1] mem (some (.int x)) mem2) (kk : E G kX3_undo R 0 0 mem2 26 loc (.int x :: st)) : E G kX3_undo R 0 0 mem 23 loc (a1 :: .ref r :: st) := E_V1i (k := kX3_undo) (k' := kX1_moveLatestTo) dX3_undo_23 rfl okX1_moveLatestTo wiX1_moveLatestTo wzX1_moveLatestTo wl_X3_146 ⟨Nat.le_of_ble_eq_true rfl, Nat.le_of_ble_eq_true rfl⟩ ⟨rfl, rfl⟩ ⟨Nat.zero_le _, Nat.zero_le _⟩ hrest hm rfl hC kk
theorem cs_X1_moveLatestTo_27 {a1 : Value} {mem2 : xM} (hm : mem[r]? = some (.inr (0, fs))) (hrest : (st.map fun v => v.category).sum ≤ 8) (hC : Dt G kX0_copyFrom [.ref r, a1] mem (none) mem2) (kk : E G kX1_moveLatestTo R 0 0 mem2 30 loc (st)) : E G kX1_moveLatestTo R 0 0 mem 27 loc (a1 :: .ref r :: st) := E_V1v (k := kX1_moveLatestTo) (k' := kX0_copyFrom) dX1_moveLatestTo_27 rfl okX0_copyFrom wiX0_copyFrom wzX0_copyFrom wl_X1_25 ⟨Nat.le_of_ble_eq_true rfl, Nat.le_of_ble_eq_true rfl⟩ ⟨rfl, rfl⟩ ⟨Nat.zero_le _, Nat.zero_le _⟩ hrest hm rfl hC kk
theorem cs_X3_save_8 {a1 : Value} {mem2 : xM} (hm : mem[r]? = some (.inr (0, fs))) (hrest : (st.map fun v => v.category).sum ≤ 8) (hC : Dt G kX0_copyFrom [.ref r, a1] mem (none) mem2) (kk : E G kX3_save R 0 0 mem2 11 loc (st)) : E G kX3_save R 0 0 mem 8 loc (a1 :: .ref r :: st) := E_V1v (k := kX3_save) (k' := kX0_copyFrom) dX3_save_8 rfl okX0_copyFrom wiX0_copyFrom wzX0_copyFrom wl_X3_43 ⟨Nat.le_of_ble_eq_true rfl, Nat.le_of_ble_eq_true rfl⟩ ⟨rfl, rfl⟩ ⟨Nat.zero_le _, Nat.zero_le _⟩ hrest hm rfl hC kk
theorem cs_X3_restore_18 {a1 : Value} {mem2 : xM} (hm : mem[r]? = some (.inr (0, fs))) (hrest : (st.map fun v => v.category).sum ≤ 8) (hC : Dt G kX0_copyFrom [.ref r, a1] mem (none) mem2) (kk : E G kX3_restore R 0 0 mem2 21 loc (st)) : E G kX3_restore R 0 0 mem 18 loc (a1 :: .ref r :: st) := E_V1v (k := kX3_restore) (k' := kX0_copyFrom) dX3_restore_18 rfl okX0_copyFrom wiX0_copyFrom wzX0_copyFrom wl_X3_43 ⟨Nat.le_of_ble_eq_true rfl, Nat.le_of_ble_eq_true rfl⟩ ⟨rfl, rfl⟩ ⟨Nat.zero_le _, Nat.zero_le _⟩ hrest hm rfl hC kk
theorem cs_X3_restore_29 {a1 : Value} {mem2 : xM} (hm : mem[r]? = some (.inr (0, fs))) (hrest : (st.map fun v => v.category).sum ≤ 8) (hC : Dt G kX0_copyFrom [.ref r, a1] mem (none) mem2) (kk : E G kX3_restore R 0 0 mem2 32 loc (st)) : E G kX3_restore R 0 0 mem 29 loc (a1 :: .ref r :: st) := E_V1v (k := kX3_restore) (k' := kX0_copyFrom) dX3_restore_29 rfl okX0_copyFrom wiX0_copyFrom wzX0_copyFrom wl_X3_43 ⟨Nat.le_of_ble_eq_true rfl, Nat.le_of_ble_eq_true rfl⟩ ⟨rfl, rfl⟩ ⟨Nat.zero_le _, Nat.zero_le _⟩ hrest hm rfl hC kk
theorem cs_X3_restore_40 {a1 : Value} {x : Int32} {mem2 : xM} (hm : mem[r]? = some (.inr (3, fs))) (hrest : (st.map fun v => v.category).sum ≤ 8) (hC : Dt G kX3_recordUnlessError [.ref r, a1] mem (some (.int x)) mem2) (kk : E G kX3_restore R 0 0 mem2 43 loc (.int x :: st)) : E G kX3_restore R 0 0 mem 40 loc (a1 :: .ref r :: st) := E_V1i (k := kX3_restore) (k' := kX3_recordUnlessError) dX3_restore_40 rfl okX3_recordUnlessError wiX3_recordUnlessError wzX3_recordUnlessError wl_X3_51 ⟨Nat.le_of_ble_eq_true rfl, Nat.le_of_ble_eq_true rfl⟩ ⟨rfl, rfl⟩ ⟨Nat.zero_le _, Nat.zero_le _⟩ hrest hm rfl hC kk
theorem cs_X4_restore_11 {mem2 : xM} (hm : mem[r]? = some (.inr (4, fs))) (hrest : (st.map fun v => v.category).sum ≤ 8) (hC : Dt G kX4_record [.ref r] mem (none) mem2) (kk : E G kX4_restore R 0 0 mem2 14 loc (st)) : E G kX4_restore R 0 0 mem 11 loc (.ref r :: st) := E_V0v (k := kX4_restore) (k' := kX4_record) dX4_restore_11 rfl okX4_record wiX4_record wzX4_record wl_X4_40 ⟨Nat.le_of_ble_eq_true rfl, Nat.le_of_ble_eq_true rfl⟩ ⟨rfl, rfl⟩ ⟨Nat.zero_le _, Nat.zero_le _⟩ hrest hm rfl hC kk
theorem cs_X4_setTop_5 {a1 a2 a3 : Value} {x : Int32} {mem2 : xM} (hrest : (st.map fun v => v.category).sum ≤ 8) (hC : Dt G kX4_in [a1, a2, a3] mem (some (.int x)) mem2) (kk : E G kX4_setTop R 0 0 mem2 8 loc (.int x :: st)) : E G kX4_setTop R 0 0 mem 5 loc (a3 :: a2 :: a1 :: st) := E_S3i (k := kX4_setTop) (k' := kX4_in) dX4_setTop_5 rfl okX4_in wsX4_in wl_X4_43 ⟨Nat.le_of_ble_eq_true rfl, Nat.le_of_ble_eq_true rfl⟩ ⟨rfl, rfl⟩ ⟨Nat.zero_le _, Nat.zero_le _⟩ hrest hC kk
theorem cs_X4_setTop_24 {a1 : Value} {x : Int32} {mem2 : xM} (hm : mem[r]? = some (.inr (4, fs))) (hrest : (st.map fun v => v.category).sum ≤ 8) (hC : Dt G kX4_climbersOn [.ref r, a1] mem (some (.int x)) mem2) (kk : E G kX4_setTop R 0 0 mem2 27 loc (.int x :: st)) : E G kX4_setTop R 0 0 mem 24 loc (a1 :: .ref r :: st) := E_V1i (k := kX4_setTop) (k' := kX4_climbersOn) dX4_setTop_24 rfl okX4_climbersOn wiX4_climbersOn wzX4_climbersOn wl_X4_58 ⟨Nat.le_of_ble_eq_true rfl, Nat.le_of_ble_eq_true rfl⟩ ⟨rfl, rfl⟩ ⟨Nat.zero_le _, Nat.zero_le _⟩ hrest hm rfl hC kk
theorem cs_X4_setTop_32 {a1 : Value} {x : Int32} {mem2 : xM} (hm : mem[r]? = some (.inr (4, fs))) (hrest : (st.map fun v => v.category).sum ≤ 8) (hC : Dt G kX4_isLanding [.ref r, a1] mem (some (.int x)) mem2) (kk : E G kX4_setTop R 0 0 mem2 35 loc (.int x :: st)) : E G kX4_setTop R 0 0 mem 32 loc (a1 :: .ref r :: st) := E_V1i (k := kX4_setTop) (k' := kX4_isLanding) dX4_setTop_32 rfl okX4_isLanding wiX4_isLanding wzX4_isLanding wl_X4_61 ⟨Nat.le_of_ble_eq_true rfl, Nat.le_of_ble_eq_true rfl⟩ ⟨rfl, rfl⟩ ⟨Nat.zero_le _, Nat.zero_le _⟩ hrest hm rfl hC kk
theorem cs_X4_setTop_40 {a1 : Value} {x : Int32} {mem2 : xM} (hm : mem[r]? = some (.inr (4, fs))) (hrest : (st.map fun v => v.category).sum ≤ 8) (hC : Dt G kX4_carpetFrom [.ref r, a1] mem (some (.int x)) mem2) (kk : E G kX4_setTop R 0 0 mem2 43 loc (.int x :: st)) : E G kX4_setTop R 0 0 mem 40 loc (a1 :: .ref r :: st) := E_V1i (k := kX4_setTop) (k' := kX4_carpetFrom) dX4_setTop_40 rfl okX4_carpetFrom wiX4_carpetFrom wzX4_carpetFrom wl_X4_65 ⟨Nat.le_of_ble_eq_true rfl, Nat.le_of_ble_eq_true rfl⟩ ⟨rfl, rfl⟩ ⟨Nat.zero_le _, Nat.zero_le _⟩ hrest hm rfl hC kk
theorem cs_X4_setTop_58 {mem2 : xM} (hm : mem[r]? = some (.inr (4, fs))) (hrest : (st.map fun v => v.category).sum ≤ 8) (hC : Dt G kX4_record [.ref r] mem (none) mem2) (kk : E G kX4_setTop R 0 0 mem2 61 loc (st)) : E G kX4_setTop R 0 0 mem 58 loc (.ref r :: st) := E_V0v (k := kX4_setTop) (k' := kX4_record) dX4_setTop_58 rfl okX4_record wiX4_record wzX4_record wl_X4_40 ⟨Nat.le_of_ble_eq_true rfl, Nat.le_of_ble_eq_true rfl⟩ ⟨rfl, rfl⟩ ⟨Nat.zero_le _, Nat.zero_le _⟩ hrest hm rfl hC kk
theorem cs_X4_climbersOn_18 {a1 a2 : Value} {x : Int32} {mem2 : xM} (hm : mem[r]? = some (.inr (4, fs))) (hrest : (st.map fun v => v.category).sum ≤ 8) (hC : Dt G kX4_of [.ref r, a1, a2] mem (some (.int x)) mem2) (kk : E G kX4_climbersOn R 0 0 mem2 21 loc (.int x :: st)) : E G kX4_climbersOn R 0 0 mem 18 loc (a2 :: a1 :: .ref r :: st) := E_V2i (k := kX4_climbersOn) (k' := kX4_of) dX4_climbersOn_18 rfl okX4_of wiX4_of wzX4_of wl_X4_54 ⟨Nat.le_of_ble_eq_true rfl, Nat.le_of_ble_eq_true rfl⟩ ⟨rfl, rfl⟩ ⟨Nat.zero_le _, Nat.zero_le _⟩ hrest hm rfl hC kk
theorem cs_X4_carpetFrom_17 {a1 : Value} {x : Int32} {mem2 : xM} (hm : mem[r]? = some (.inr (4, fs))) (hrest : (st.map fun v => v.category).sum ≤ 8) (hC : Dt G kX4_upper [.ref r, a1] mem (some (.int x)) mem2) (kk : E G kX4_carpetFrom R 0 0 mem2 20 loc (.int x :: st)) : E G kX4_carpetFrom R 0 0 mem 17 loc (a1 :: .ref r :: st) := E_V1i (k := kX4_carpetFrom) (k' := kX4_upper) dX4_carpetFrom_17 rfl okX4_upper wiX4_upper wzX4_upper wl_X4_47 ⟨Nat.le_of_ble_eq_true rfl, Nat.le_of_ble_eq_true rfl⟩ ⟨rfl, rfl⟩ ⟨Nat.zero_le _, Nat.zero_le _⟩ hrest hm rfl hC kk
theorem cs_X4_lay_3 {a1 a2 : Value} {x : Int32} {mem2 : xM} (hm : mem[r]? = some (.inr (4, fs))) (hrest : (st.map fun v => v.category).sum ≤ 8) (hC : Dt G kX4_whyNotLay [.ref r, a1, a2] mem (some (.int x)) mem2) (kk : E G kX4_lay R 0 0 mem2 6 loc (.int x :: st)) : E G kX4_lay R 0 0 mem 3 loc (a2 :: a1 :: .ref r :: st) := E_V2i (k := kX4_lay) (k' := kX4_whyNotLay) dX4_lay_3 rfl okX4_whyNotLay wiX4_whyNotLay wzX4_whyNotLay wl_X4_74 ⟨Nat.le_of_ble_eq_true rfl, Nat.le_of_ble_eq_true rfl⟩ ⟨rfl, rfl⟩ ⟨Nat.zero_le _, Nat.zero_le _⟩ hrest hm rfl hC kk
theorem cs_X4_lay_14 {mem2 : xM} (hm : mem[r]? = some (.inr (4, fs))) (hrest : (st.map fun v => v.category).sum ≤ 8) (hC : Dt G kX4_record [.ref r] mem (none) mem2) (kk : E G kX4_lay R 0 0 mem2 17 loc (st)) : E G kX4_lay R 0 0 mem 14 loc (.ref r :: st) := E_V0v (k := kX4_lay) (k' := kX4_record) dX4_lay_14 rfl okX4_record wiX4_record wzX4_record wl_X4_40 ⟨Nat.le_of_ble_eq_true rfl, Nat.le_of_ble_eq_true rfl⟩ ⟨rfl, rfl⟩ ⟨Nat.zero_le _, Nat.zero_le _⟩ hrest hm rfl hC kk
theorem cs_X4_lay_20 {a1 a2 : Value} {x : Int32} {mem2 : xM} (hm : mem[r]? = some (.inr (4, fs))) (hrest : (st.map fun v => v.category).sum ≤ 8) (hC : Dt G kX4_laysCarpet [.ref r, a1, a2] mem (some (.int x)) mem2) (kk : E G kX4_lay R 0 0 mem2 23 loc (.int x :: st)) : E G kX4_lay R 0 0 mem 20 loc (a2 :: a1 :: .ref r :: st) := E_V2i (k := kX4_lay) (k' := kX4_laysCarpet) dX4_lay_20 rfl okX4_laysCarpet wiX4_laysCarpet wzX4_laysCarpet wl_X4_77 ⟨Nat.le_of_ble_eq_true rfl, Nat.le_of_ble_eq_true rfl⟩ ⟨rfl, rfl⟩ ⟨Nat.zero_le _, Nat.zero_le _⟩ hrest hm rfl hC kk
theorem cs_X4_whyNotLay_2 {a1 : Value} {x : Int32} {mem2 : xM} (hm : mem[r]? = some (.inr (4, fs))) (hrest : (st.map fun v => v.category).sum ≤ 8) (hC : Dt G kX4_isStep [.ref r, a1] mem (some (.int x)) mem2) (kk : E G kX4_whyNotLay R 0 0 mem2 5 loc (.int x :: st)) : E G kX4_whyNotLay R 0 0 mem 2 loc (a1 :: .ref r :: st) := E_V1i (k := kX4_whyNotLay) (k' := kX4_isStep) dX4_whyNotLay_2 rfl okX4_isStep wiX4_isStep wzX4_isStep wl_X4_68 ⟨Nat.le_of_ble_eq_true rfl, Nat.le_of_ble_eq_true rfl⟩ ⟨rfl, rfl⟩ ⟨Nat.zero_le _, Nat.zero_le _⟩ hrest hm rfl hC kk
theorem cs_X4_whyNotLay_15 {a1 a2 a3 : Value} {x : Int32} {mem2 : xM} (hrest : (st.map fun v => v.category).sum ≤ 8) (hC : Dt G kX4_in [a1, a2, a3] mem (some (.int x)) mem2) (kk : E G kX4_whyNotLay R 0 0 mem2 18 loc (.int x :: st)) : E G kX4_whyNotLay R 0 0 mem 15 loc (a3 :: a2 :: a1 :: st) := E_S3i (k := kX4_whyNotLay) (k' := kX4_in) dX4_whyNotLay_15 rfl okX4_in wsX4_in wl_X4_43 ⟨Nat.le_of_ble_eq_true rfl, Nat.le_of_ble_eq_true rfl⟩ ⟨rfl, rfl⟩ ⟨Nat.zero_le _, Nat.zero_le _⟩ hrest hC kk
theorem cs_X4_whyNotLay_26 {a1 : Value} {x : Int32} {mem2 : xM} (hm : mem[r]? = some (.inr (4, fs))) (hrest : (st.map fun v => v.category).sum ≤ 8) (hC : Dt G kX4_carpetFrom [.ref r, a1] mem (some (.int x)) mem2) (kk : E G kX4_whyNotLay R 0 0 mem2 29 loc (.int x :: st)) : E G kX4_whyNotLay R 0 0 mem 26 loc (a1 :: .ref r :: st) := E_V1i (k := kX4_whyNotLay) (k' := kX4_carpetFrom) dX4_whyNotLay_26 rfl okX4_carpetFrom wiX4_carpetFrom wzX4_carpetFrom wl_X4_65 ⟨Nat.le_of_ble_eq_true rfl, Nat.le_of_ble_eq_true rfl⟩ ⟨rfl, rfl⟩ ⟨Nat.zero_le _, Nat.zero_le _⟩ hrest hm rfl hC kk
theorem cs_X4_whyNotLay_36 {a1 : Value} {x : Int32} {mem2 : xM} (hm : mem[r]? = some (.inr (4, fs))) (hrest : (st.map fun v => v.category).sum ≤ 8) (hC : Dt G kX4_carpetsTo [.ref r, a1] mem (some (.int x)) mem2) (kk : E G kX4_whyNotLay R 0 0 mem2 39 loc (.int x :: st)) : E G kX4_whyNotLay R 0 0 mem 36 loc (a1 :: .ref r :: st) := E_V1i (k := kX4_whyNotLay) (k' := kX4_carpetsTo) dX4_whyNotLay_36 rfl okX4_carpetsTo wiX4_carpetsTo wzX4_carpetsTo wl_X4_71 ⟨Nat.le_of_ble_eq_true rfl, Nat.le_of_ble_eq_true rfl⟩ ⟨rfl, rfl⟩ ⟨Nat.zero_le _, Nat.zero_le _⟩ hrest hm rfl hC kk
theorem cs_X4_whyNotLay_44 {a1 : Value} {x : Int32} {mem2 : xM} (hm : mem[r]? = some (.inr (4, fs))) (hrest : (st.map fun v => v.category).sum ≤ 8) (hC : Dt G kX4_carpetFrom [.ref r, a1] mem (some (.int x)) mem2) (kk : E G kX4_whyNotLay R 0 0 mem2 47 loc (.int x :: st)) : E G kX4_whyNotLay R 0 0 mem 44 loc (a1 :: .ref r :: st) := E_V1i (k := kX4_whyNotLay) (k' := kX4_carpetFrom) dX4_whyNotLay_44 rfl okX4_carpetFrom wiX4_carpetFrom wzX4_carpetFrom wl_X4_65 ⟨Nat.le_of_ble_eq_true rfl, Nat.le_of_ble_eq_true rfl⟩ ⟨rfl, rfl⟩ ⟨Nat.zero_le _, Nat.zero_le _⟩ hrest hm rfl hC kk
theorem cs_X4_whyNotLay_54 {a1 : Value} {x : Int32} {mem2 : xM} (hm : mem[r]? = some (.inr (4, fs))) (hrest : (st.map fun v => v.category).sum ≤ 8) (hC : Dt G kX4_isLanding [.ref r, a1] mem (some (.int x)) mem2) (kk : E G kX4_whyNotLay R 0 0 mem2 57 loc (.int x :: st)) : E G kX4_whyNotLay R 0 0 mem 54 loc (a1 :: .ref r :: st) := E_V1i (k := kX4_whyNotLay) (k' := kX4_isLanding) dX4_whyNotLay_54 rfl okX4_isLanding wiX4_isLanding wzX4_isLanding wl_X4_61 ⟨Nat.le_of_ble_eq_true rfl, Nat.le_of_ble_eq_true rfl⟩ ⟨rfl, rfl⟩ ⟨Nat.zero_le _, Nat.zero_le _⟩ hrest hm rfl hC kk
theorem cs_X4_whyNotLay_62 {a1 : Value} {x : Int32} {mem2 : xM} (hm : mem[r]? = some (.inr (4, fs))) (hrest : (st.map fun v => v.category).sum ≤ 8) (hC : Dt G kX4_climbersOn [.ref r, a1] mem (some (.int x)) mem2) (kk : E G kX4_whyNotLay R 0 0 mem2 65 loc (.int x :: st)) : E G kX4_whyNotLay R 0 0 mem 62 loc (a1 :: .ref r :: st) := E_V1i (k := kX4_whyNotLay) (k' := kX4_climbersOn) dX4_whyNotLay_62 rfl okX4_climbersOn wiX4_climbersOn wzX4_climbersOn wl_X4_58 ⟨Nat.le_of_ble_eq_true rfl, Nat.le_of_ble_eq_true rfl⟩ ⟨rfl, rfl⟩ ⟨Nat.zero_le _, Nat.zero_le _⟩ hrest hm rfl hC kk
theorem cs_X4_isStep_10 {a1 a2 a3 : Value} {x : Int32} {mem2 : xM} (hrest : (st.map fun v => v.category).sum ≤ 8) (hC : Dt G kX4_in [a1, a2, a3] mem (some (.int x)) mem2) (kk : E G kX4_isStep R 0 0 mem2 13 loc (.int x :: st)) : E G kX4_isStep R 0 0 mem 10 loc (a3 :: a2 :: a1 :: st) := E_S3i (k := kX4_isStep) (k' := kX4_in) dX4_isStep_10 rfl okX4_in wsX4_in wl_X4_43 ⟨Nat.le_of_ble_eq_true rfl, Nat.le_of_ble_eq_true rfl⟩ ⟨rfl, rfl⟩ ⟨Nat.zero_le _, Nat.zero_le _⟩ hrest hC kk
theorem cs_X4_carpetsTo_17 {a1 : Value} {x : Int32} {mem2 : xM} (hm : mem[r]? = some (.inr (4, fs))) (hrest : (st.map fun v => v.category).sum ≤ 8) (hC : Dt G kX4_lower [.ref r, a1] mem (some (.int x)) mem2) (kk : E G kX4_carpetsTo R 0 0 mem2 20 loc (.int x :: st)) : E G kX4_carpetsTo R 0 0 mem 17 loc (a1 :: .ref r :: st) := E_V1i (k := kX4_carpetsTo) (k' := kX4_lower) dX4_carpetsTo_17 rfl okX4_lower wiX4_lower wzX4_lower wl_X4_51 ⟨Nat.le_of_ble_eq_true rfl, Nat.le_of_ble_eq_true rfl⟩ ⟨rfl, rfl⟩ ⟨Nat.zero_le _, Nat.zero_le _⟩ hrest hm rfl hC kk
theorem cs_X4_take_2 {a1 : Value} {x : Int32} {mem2 : xM} (hm : mem[r]? = some (.inr (4, fs))) (hrest : (st.map fun v => v.category).sum ≤ 8) (hC : Dt G kX4_carpetFrom [.ref r, a1] mem (some (.int x)) mem2) (kk : E G kX4_take R 0 0 mem2 5 loc (.int x :: st)) : E G kX4_take R 0 0 mem 2 loc (a1 :: .ref r :: st) := E_V1i (k := kX4_take) (k' := kX4_carpetFrom) dX4_take_2 rfl okX4_carpetFrom wiX4_carpetFrom wzX4_carpetFrom wl_X4_65 ⟨Nat.le_of_ble_eq_true rfl, Nat.le_of_ble_eq_true rfl⟩ ⟨rfl, rfl⟩ ⟨Nat.zero_le _, Nat.zero_le _⟩ hrest hm rfl hC kk
theorem cs_X4_take_15 {mem2 : xM} (hm : mem[r]? = some (.inr (4, fs))) (hrest : (st.map fun v => v.category).sum ≤ 8) (hC : Dt G kX4_record [.ref r] mem (none) mem2) (kk : E G kX4_take R 0 0 mem2 18 loc (st)) : E G kX4_take R 0 0 mem 15 loc (.ref r :: st) := E_V0v (k := kX4_take) (k' := kX4_record) dX4_take_15 rfl okX4_record wiX4_record wzX4_record wl_X4_40 ⟨Nat.le_of_ble_eq_true rfl, Nat.le_of_ble_eq_true rfl⟩ ⟨rfl, rfl⟩ ⟨Nat.zero_le _, Nat.zero_le _⟩ hrest hm rfl hC kk
theorem cs_X4_take_20 {a1 : Value} {x : Int32} {mem2 : xM} (hm : mem[r]? = some (.inr (4, fs))) (hrest : (st.map fun v => v.category).sum ≤ 8) (hC : Dt G kX4_lower [.ref r, a1] mem (some (.int x)) mem2) (kk : E G kX4_take R 0 0 mem2 23 loc (.int x :: st)) : E G kX4_take R 0 0 mem 20 loc (a1 :: .ref r :: st) := E_V1i (k := kX4_take) (k' := kX4_lower) dX4_take_20 rfl okX4_lower wiX4_lower wzX4_lower wl_X4_51 ⟨Nat.le_of_ble_eq_true rfl, Nat.le_of_ble_eq_true rfl⟩ ⟨rfl, rfl⟩ ⟨Nat.zero_le _, Nat.zero_le _⟩ hrest hm rfl hC kk
theorem cs_X4_take_51 {a1 : Value} {x : Int32} {mem2 : xM} (hm : mem[r]? = some (.inr (4, fs))) (hrest : (st.map fun v => v.category).sum ≤ 8) (hC : Dt G kX4_upper [.ref r, a1] mem (some (.int x)) mem2) (kk : E G kX4_take R 0 0 mem2 54 loc (.int x :: st)) : E G kX4_take R 0 0 mem 51 loc (a1 :: .ref r :: st) := E_V1i (k := kX4_take) (k' := kX4_upper) dX4_take_51 rfl okX4_upper wiX4_upper wzX4_upper wl_X4_47 ⟨Nat.le_of_ble_eq_true rfl, Nat.le_of_ble_eq_true rfl⟩ ⟨rfl, rfl⟩ ⟨Nat.zero_le _, Nat.zero_le _⟩ hrest hm rfl hC kk
theorem cs_X4_take_74 {a1 : Value} {x : Int32} {mem2 : xM} (hm : mem[r]? = some (.inr (4, fs))) (hrest : (st.map fun v => v.category).sum ≤ 8) (hC : Dt G kX4_lower [.ref r, a1] mem (some (.int x)) mem2) (kk : E G kX4_take R 0 0 mem2 77 loc (.int x :: st)) : E G kX4_take R 0 0 mem 74 loc (a1 :: .ref r :: st) := E_V1i (k := kX4_take) (k' := kX4_lower) dX4_take_74 rfl okX4_lower wiX4_lower wzX4_lower wl_X4_51 ⟨Nat.le_of_ble_eq_true rfl, Nat.le_of_ble_eq_true rfl⟩ ⟨rfl, rfl⟩ ⟨Nat.zero_le _, Nat.zero_le _⟩ hrest hm rfl hC kk
theorem cs_X4_put_2 {a1 : Value} {x : Int32} {mem2 : xM} (hm : mem[r]? = some (.inr (4, fs))) (hrest : (st.map fun v => v.category).sum ≤ 8) (hC : Dt G kX4_whyNotPut [.ref r, a1] mem (some (.int x)) mem2) (kk : E G kX4_put R 0 0 mem2 5 loc (.int x :: st)) : E G kX4_put R 0 0 mem 2 loc (a1 :: .ref r :: st) := E_V1i (k := kX4_put) (k' := kX4_whyNotPut) dX4_put_2 rfl okX4_whyNotPut wiX4_whyNotPut wzX4_whyNotPut wl_X4_84 ⟨Nat.le_of_ble_eq_true rfl, Nat.le_of_ble_eq_true rfl⟩ ⟨rfl, rfl⟩ ⟨Nat.zero_le _, Nat.zero_le _⟩ hrest hm rfl hC kk
theorem cs_X4_put_13 {mem2 : xM} (hm : mem[r]? = some (.inr (4, fs))) (hrest : (st.map fun v => v.category).sum ≤ 8) (hC : Dt G kX4_record [.ref r] mem (none) mem2) (kk : E G kX4_put R 0 0 mem2 16 loc (st)) : E G kX4_put R 0 0 mem 13 loc (.ref r :: st) := E_V0v (k := kX4_put) (k' := kX4_record) dX4_put_13 rfl okX4_record wiX4_record wzX4_record wl_X4_40 ⟨Nat.le_of_ble_eq_true rfl, Nat.le_of_ble_eq_true rfl⟩ ⟨rfl, rfl⟩ ⟨Nat.zero_le _, Nat.zero_le _⟩ hrest hm rfl hC kk
theorem cs_X4_put_18 {a1 : Value} {x : Int32} {mem2 : xM} (hm : mem[r]? = some (.inr (4, fs))) (hrest : (st.map fun v => v.category).sum ≤ 8) (hC : Dt G kX4_puts [.ref r, a1] mem (some (.int x)) mem2) (kk : E G kX4_put R 0 0 mem2 21 loc (.int x :: st)) : E G kX4_put R 0 0 mem 18 loc (a1 :: .ref r :: st) := E_V1i (k := kX4_put) (k' := kX4_puts) dX4_put_18 rfl okX4_puts wiX4_puts wzX4_puts wl_X4_87 ⟨Nat.le_of_ble_eq_true rfl, Nat.le_of_ble_eq_true rfl⟩ ⟨rfl, rfl⟩ ⟨Nat.zero_le _, Nat.zero_le _⟩ hrest hm rfl hC kk
theorem cs_X4_whyNotPut_2 {a1 : Value} {x : Int32} {mem2 : xM} (hm : mem[r]? = some (.inr (4, fs))) (hrest : (st.map fun v => v.category).sum ≤ 8) (hC : Dt G kX4_isStep [.ref r, a1] mem (some (.int x)) mem2) (kk : E G kX4_whyNotPut R 0 0 mem2 5 loc (.int x :: st)) : E G kX4_whyNotPut R 0 0 mem 2 loc (a1 :: .ref r :: st) := E_V1i (k := kX4_whyNotPut) (k' := kX4_isStep) dX4_whyNotPut_2 rfl okX4_isStep wiX4_isStep wzX4_isStep wl_X4_68 ⟨Nat.le_of_ble_eq_true rfl, Nat.le_of_ble_eq_true rfl⟩ ⟨rfl, rfl⟩ ⟨Nat.zero_le _, Nat.zero_le _⟩ hrest hm rfl hC kk
theorem cs_X4_whyNotPut_14 {a1 : Value} {x : Int32} {mem2 : xM} (hm : mem[r]? = some (.inr (4, fs))) (hrest : (st.map fun v => v.category).sum ≤ 8) (hC : Dt G kX4_isLanding [.ref r, a1] mem (some (.int x)) mem2) (kk : E G kX4_whyNotPut R 0 0 mem2 17 loc (.int x :: st)) : E G kX4_whyNotPut R 0 0 mem 14 loc (a1 :: .ref r :: st) := E_V1i (k := kX4_whyNotPut) (k' := kX4_isLanding) dX4_whyNotPut_14 rfl okX4_isLanding wiX4_isLanding wzX4_isLanding wl_X4_61 ⟨Nat.le_of_ble_eq_true rfl, Nat.le_of_ble_eq_true rfl⟩ ⟨rfl, rfl⟩ ⟨Nat.zero_le _, Nat.zero_le _⟩ hrest hm rfl hC kk
theorem cs_X4_whyNotPut_22 {a1 : Value} {x : Int32} {mem2 : xM} (hm : mem[r]? = some (.inr (4, fs))) (hrest : (st.map fun v => v.category).sum ≤ 8) (hC : Dt G kX4_carpetFrom [.ref r, a1] mem (some (.int x)) mem2) (kk : E G kX4_whyNotPut R 0 0 mem2 25 loc (.int x :: st)) : E G kX4_whyNotPut R 0 0 mem 22 loc (a1 :: .ref r :: st) := E_V1i (k := kX4_whyNotPut) (k' := kX4_carpetFrom) dX4_whyNotPut_22 rfl okX4_carpetFrom wiX4_carpetFrom wzX4_carpetFrom wl_X4_65 ⟨Nat.le_of_ble_eq_true rfl, Nat.le_of_ble_eq_true rfl⟩ ⟨rfl, rfl⟩ ⟨Nat.zero_le _, Nat.zero_le _⟩ hrest hm rfl hC kk
theorem cs_X4_puts_11 {x : Int32} {mem2 : xM} (hm : mem[r]? = some (.inr (4, fs))) (hrest : (st.map fun v => v.category).sum ≤ 8) (hC : Dt G kX4_landings [.ref r] mem (some (.int x)) mem2) (kk : E G kX4_puts R 0 0 mem2 14 loc (.int x :: st)) : E G kX4_puts R 0 0 mem 11 loc (.ref r :: st) := E_V0i (k := kX4_puts) (k' := kX4_landings) dX4_puts_11 rfl okX4_landings wiX4_landings wzX4_landings wl_X4_80 ⟨Nat.le_of_ble_eq_true rfl, Nat.le_of_ble_eq_true rfl⟩ ⟨rfl, rfl⟩ ⟨Nat.zero_le _, Nat.zero_le _⟩ hrest hm rfl hC kk
theorem cs_X4_remove_2 {a1 : Value} {x : Int32} {mem2 : xM} (hm : mem[r]? = some (.inr (4, fs))) (hrest : (st.map fun v => v.category).sum ≤ 8) (hC : Dt G kX4_isStep [.ref r, a1] mem (some (.int x)) mem2) (kk : E G kX4_remove R 0 0 mem2 5 loc (.int x :: st)) : E G kX4_remove R 0 0 mem 2 loc (a1 :: .ref r :: st) := E_V1i (k := kX4_remove) (k' := kX4_isStep) dX4_remove_2 rfl okX4_isStep wiX4_isStep wzX4_isStep wl_X4_68 ⟨Nat.le_of_ble_eq_true rfl, Nat.le_of_ble_eq_true rfl⟩ ⟨rfl, rfl⟩ ⟨Nat.zero_le _, Nat.zero_le _⟩ hrest hm rfl hC kk
theorem cs_X4_remove_10 {a1 : Value} {x : Int32} {mem2 : xM} (hm : mem[r]? = some (.inr (4, fs))) (hrest : (st.map fun v => v.category).sum ≤ 8) (hC : Dt G kX4_isLanding [.ref r, a1] mem (some (.int x)) mem2) (kk : E G kX4_remove R 0 0 mem2 13 loc (.int x :: st)) : E G kX4_remove R 0 0 mem 10 loc (a1 :: .ref r :: st) := E_V1i (k := kX4_remove) (k' := kX4_isLanding) dX4_remove_10 rfl okX4_isLanding wiX4_isLanding wzX4_isLanding wl_X4_61 ⟨Nat.le_of_ble_eq_true rfl, Nat.le_of_ble_eq_true rfl⟩ ⟨rfl, rfl⟩ ⟨Nat.zero_le _, Nat.zero_le _⟩ hrest hm rfl hC kk
theorem cs_X4_remove_19 {mem2 : xM} (hm : mem[r]? = some (.inr (4, fs))) (hrest : (st.map fun v => v.category).sum ≤ 8) (hC : Dt G kX4_record [.ref r] mem (none) mem2) (kk : E G kX4_remove R 0 0 mem2 22 loc (st)) : E G kX4_remove R 0 0 mem 19 loc (.ref r :: st) := E_V0v (k := kX4_remove) (k' := kX4_record) dX4_remove_19 rfl okX4_record wiX4_record wzX4_record wl_X4_40 ⟨Nat.le_of_ble_eq_true rfl, Nat.le_of_ble_eq_true rfl⟩ ⟨rfl, rfl⟩ ⟨Nat.zero_le _, Nat.zero_le _⟩ hrest hm rfl hC kk
theorem cs_X4_remove_34 {a1 : Value} {x : Int32} {mem2 : xM} (hm : mem[r]? = some (.inr (4, fs))) (hrest : (st.map fun v => v.category).sum ≤ 8) (hC : Dt G kX4_climbersOn [.ref r, a1] mem (some (.int x)) mem2) (kk : E G kX4_remove R 0 0 mem2 37 loc (.int x :: st)) : E G kX4_remove R 0 0 mem 34 loc (a1 :: .ref r :: st) := E_V1i (k := kX4_remove) (k' := kX4_climbersOn) dX4_remove_34 rfl okX4_climbersOn wiX4_climbersOn wzX4_climbersOn wl_X4_58 ⟨Nat.le_of_ble_eq_true rfl, Nat.le_of_ble_eq_true rfl⟩ ⟨rfl, rfl⟩ ⟨Nat.zero_le _, Nat.zero_le _⟩ hrest hm rfl hC kk
theorem cs_X4_remove_37 {a1 : Value} {x : Int32} {mem2 : xM} (hrest : (st.map fun v => v.category).sum ≤ 8) (hC : Dt G kX4_bits [a1] mem (some (.int x)) mem2) (kk : E G kX4_remove R 0 0 mem2 40 loc (.int x :: st)) : E G kX4_remove R 0 0 mem 37 loc (a1 :: st) := E_S1i (k := kX4_remove) (k' := kX4_bits) dX4_remove_37 rfl okX4_bits wsX4_bits wl_X4_90 ⟨Nat.le_of_ble_eq_true rfl, Nat.le_of_ble_eq_true rfl⟩ ⟨rfl, rfl⟩ ⟨Nat.zero_le _, Nat.zero_le _⟩ hrest hC kk
theorem cs_X4_join_15 {mem2 : xM} (hm : mem[r]? = some (.inr (4, fs))) (hrest : (st.map fun v => v.category).sum ≤ 8) (hC : Dt G kX4_record [.ref r] mem (none) mem2) (kk : E G kX4_join R 0 0 mem2 18 loc (st)) : E G kX4_join R 0 0 mem 15 loc (.ref r :: st) := E_V0v (k := kX4_join) (k' := kX4_record) dX4_join_15 rfl okX4_record wiX4_record wzX4_record wl_X4_40 ⟨Nat.le_of_ble_eq_true rfl, Nat.le_of_ble_eq_true rfl⟩ ⟨rfl, rfl⟩ ⟨Nat.zero_le _, Nat.zero_le _⟩ hrest hm rfl hC kk
theorem cs_X4_join_19 {x : Int32} {mem2 : xM} (hm : mem[r]? = some (.inr (4, fs))) (hrest : (st.map fun v => v.category).sum ≤ 8) (hC : Dt G kX4_joins [.ref r] mem (some (.int x)) mem2) (kk : E G kX4_join R 0 0 mem2 22 loc (.int x :: st)) : E G kX4_join R 0 0 mem 19 loc (.ref r :: st) := E_V0i (k := kX4_join) (k' := kX4_joins) dX4_join_19 rfl okX4_joins wiX4_joins wzX4_joins wl_X4_97 ⟨Nat.le_of_ble_eq_true rfl, Nat.le_of_ble_eq_true rfl⟩ ⟨rfl, rfl⟩ ⟨Nat.zero_le _, Nat.zero_le _⟩ hrest hm rfl hC kk
theorem cs_X4_joins_17 {a1 a2 a3 : Value} {mem2 : xM} (hm : mem[r]? = some (.inr (4, fs))) (hrest : (st.map fun v => v.category).sum ≤ 8) (hC : Dt G kX4_lays [.ref r, a1, a2, a3] mem (none) mem2) (kk : E G kX4_joins R 0 0 mem2 20 loc (st)) : E G kX4_joins R 0 0 mem 17 loc (a3 :: a2 :: a1 :: .ref r :: st) := E_V3v (k := kX4_joins) (k' := kX4_lays) dX4_joins_17 rfl okX4_lays wiX4_lays wzX4_lays wl_X4_93 ⟨Nat.le_of_ble_eq_true rfl, Nat.le_of_ble_eq_true rfl⟩ ⟨rfl, rfl⟩ ⟨Nat.zero_le _, Nat.zero_le _⟩ hrest hm rfl hC kk
theorem cs_X4_roll_2 {a1 : Value} {x : Int32} {mem2 : xM} (hm : mem[r]? = some (.inr (4, fs))) (hrest : (st.map fun v => v.category).sum ≤ 8) (hC : Dt G kX4_whyNotRoll [.ref r, a1] mem (some (.int x)) mem2) (kk : E G kX4_roll R 0 0 mem2 5 loc (.int x :: st)) : E G kX4_roll R 0 0 mem 2 loc (a1 :: .ref r :: st) := E_V1i (k := kX4_roll) (k' := kX4_whyNotRoll) dX4_roll_2 rfl okX4_whyNotRoll wiX4_whyNotRoll wzX4_whyNotRoll wl_X4_117 ⟨Nat.le_of_ble_eq_true rfl, Nat.le_of_ble_eq_true rfl⟩ ⟨rfl, rfl⟩ ⟨Nat.zero_le _, Nat.zero_le _⟩ hrest hm rfl hC kk
theorem cs_X4_roll_13 {mem2 : xM} (hm : mem[r]? = some (.inr (4, fs))) (hrest : (st.map fun v => v.category).sum ≤ 8) (hC : Dt G kX4_record [.ref r] mem (none) mem2) (kk : E G kX4_roll R 0 0 mem2 16 loc (st)) : E G kX4_roll R 0 0 mem 13 loc (.ref r :: st) := E_V0v (k := kX4_roll) (k' := kX4_record) dX4_roll_13 rfl okX4_record wiX4_record wzX4_record wl_X4_40 ⟨Nat.le_of_ble_eq_true rfl, Nat.le_of_ble_eq_true rfl⟩ ⟨rfl, rfl⟩ ⟨Nat.zero_le _, Nat.zero_le _⟩ hrest hm rfl hC kk
theorem cs_X4_roll_18 {a1 : Value} {x : Int32} {mem2 : xM} (hm : mem[r]? = some (.inr (4, fs))) (hrest : (st.map fun v => v.category).sum ≤ 8) (hC : Dt G kX4_rolls [.ref r, a1] mem (some (.int x)) mem2) (kk : E G kX4_roll R 0 0 mem2 21 loc (.int x :: st)) : E G kX4_roll R 0 0 mem 18 loc (a1 :: .ref r :: st) := E_V1i (k := kX4_roll) (k' := kX4_rolls) dX4_roll_18 rfl okX4_rolls wiX4_rolls wzX4_rolls wl_X4_120 ⟨Nat.le_of_ble_eq_true rfl, Nat.le_of_ble_eq_true rfl⟩ ⟨rfl, rfl⟩ ⟨Nat.zero_le _, Nat.zero_le _⟩ hrest hm rfl hC kk
theorem cs_X4_whyNotRoll_4 {a1 a2 a3 : Value} {x : Int32} {mem2 : xM} (hrest : (st.map fun v => v.category).sum ≤ 8) (hC : Dt G kX4_in [a1, a2, a3] mem (some (.int x)) mem2) (kk : E G kX4_whyNotRoll R 0 0 mem2 7 loc (.int x :: st)) : E G kX4_whyNotRoll R 0 0 mem 4 loc (a3 :: a2 :: a1 :: st) := E_S3i (k := kX4_whyNotRoll) (k' := kX4_in) dX4_whyNotRoll_4 rfl okX4_in wsX4_in wl_X4_43 ⟨Nat.le_of_ble_eq_true rfl, Nat.le_of_ble_eq_true rfl⟩ ⟨rfl, rfl⟩ ⟨Nat.zero_le _, Nat.zero_le _⟩ hrest hC kk
theorem cs_X4_rolls_10 {a1 a2 : Value} {x : Int32} {mem2 : xM} (hm : mem[r]? = some (.inr (4, fs))) (hrest : (st.map fun v => v.category).sum ≤ 8) (hC : Dt G kX4_of [.ref r, a1, a2] mem (some (.int x)) mem2) (kk : E G kX4_rolls R 0 0 mem2 13 loc (.int x :: st)) : E G kX4_rolls R 0 0 mem 10 loc (a2 :: a1 :: .ref r :: st) := E_V2i (k := kX4_rolls) (k' := kX4_of) dX4_rolls_10 rfl okX4_of wiX4_of wzX4_of wl_X4_54 ⟨Nat.le_of_ble_eq_true rfl, Nat.le_of_ble_eq_true rfl⟩ ⟨rfl, rfl⟩ ⟨Nat.zero_le _, Nat.zero_le _⟩ hrest hm rfl hC kk
theorem cs_X4_rolls_18 {a1 : Value} {x : Int32} {mem2 : xM} (hm : mem[r]? = some (.inr (4, fs))) (hrest : (st.map fun v => v.category).sum ≤ 8) (hC : Dt G kX4_passedBy [.ref r, a1] mem (some (.int x)) mem2) (kk : E G kX4_rolls R 0 0 mem2 21 loc (.int x :: st)) : E G kX4_rolls R 0 0 mem 18 loc (a1 :: .ref r :: st) := E_V1i (k := kX4_rolls) (k' := kX4_passedBy) dX4_rolls_18 rfl okX4_passedBy wiX4_passedBy wzX4_passedBy wl_X4_104 ⟨Nat.le_of_ble_eq_true rfl, Nat.le_of_ble_eq_true rfl⟩ ⟨rfl, rfl⟩ ⟨Nat.zero_le _, Nat.zero_le _⟩ hrest hm rfl hC kk
theorem cs_X4_rolls_29 {a1 a2 : Value} {x : Int32} {mem2 : xM} (hm : mem[r]? = some (.inr (4, fs))) (hrest : (st.map fun v => v.category).sum ≤ 8) (hC : Dt G kX4_of [.ref r, a1, a2] mem (some (.int x)) mem2) (kk : E G kX4_rolls R 0 0 mem2 32 loc (.int x :: st)) : E G kX4_rolls R 0 0 mem 29 loc (a2 :: a1 :: .ref r :: st) := E_V2i (k := kX4_rolls) (k' := kX4_of) dX4_rolls_29 rfl okX4_of wiX4_of wzX4_of wl_X4_54 ⟨Nat.le_of_ble_eq_true rfl, Nat.le_of_ble_eq_true rfl⟩ ⟨rfl, rfl⟩ ⟨Nat.zero_le _, Nat.zero_le _⟩ hrest hm rfl hC kk
theorem cs_X4_rolls_34 {a1 : Value} {x : Int32} {mem2 : xM} (hrest : (st.map fun v => v.category).sum ≤ 8) (hC : Dt G kX4_bits [a1] mem (some (.int x)) mem2) (kk : E G kX4_rolls R 0 0 mem2 37 loc (.int x :: st)) : E G kX4_rolls R 0 0 mem 34 loc (a1 :: st) := E_S1i (k := kX4_rolls) (k' := kX4_bits) dX4_rolls_34 rfl okX4_bits wsX4_bits wl_X4_90 ⟨Nat.le_of_ble_eq_true rfl, Nat.le_of_ble_eq_true rfl⟩ ⟨rfl, rfl⟩ ⟨Nat.zero_le _, Nat.zero_le _⟩ hrest hC kk
theorem cs_X4_rolls_38 {a1 a2 a3 : Value} {mem2 : xM} (hm : mem[r]? = some (.inr (4, fs))) (hrest : (st.map fun v => v.category).sum ≤ 8) (hC : Dt G kX4_lays [.ref r, a1, a2, a3] mem (none) mem2) (kk : E G kX4_rolls R 0 0 mem2 41 loc (st)) : E G kX4_rolls R 0 0 mem 38 loc (a3 :: a2 :: a1 :: .ref r :: st) := E_V3v (k := kX4_rolls) (k' := kX4_lays) dX4_rolls_38 rfl okX4_lays wiX4_lays wzX4_lays wl_X4_93 ⟨Nat.le_of_ble_eq_true rfl, Nat.le_of_ble_eq_true rfl⟩ ⟨rfl, rfl⟩ ⟨Nat.zero_le _, Nat.zero_le _⟩ hrest hm rfl hC kk
theorem cs_X4_rolls_50 {a1 : Value} {x : Int32} {mem2 : xM} (hrest : (st.map fun v => v.category).sum ≤ 8) (hC : Dt G kX4_bits [a1] mem (some (.int x)) mem2) (kk : E G kX4_rolls R 0 0 mem2 53 loc (.int x :: st)) : E G kX4_rolls R 0 0 mem 50 loc (a1 :: st) := E_S1i (k := kX4_rolls) (k' := kX4_bits) dX4_rolls_50 rfl okX4_bits wsX4_bits wl_X4_90 ⟨Nat.le_of_ble_eq_true rfl, Nat.le_of_ble_eq_true rfl⟩ ⟨rfl, rfl⟩ ⟨Nat.zero_le _, Nat.zero_le _⟩ hrest hC kk
theorem cs_X4_rolls_73 {a1 : Value} {x : Int32} {mem2 : xM} (hm : mem[r]? = some (.inr (4, fs))) (hrest : (st.map fun v => v.category).sum ≤ 8) (hC : Dt G kX4_highest [.ref r, a1] mem (some (.int x)) mem2) (kk : E G kX4_rolls R 0 0 mem2 76 loc (.int x :: st)) : E G kX4_rolls R 0 0 mem 73 loc (a1 :: .ref r :: st) := E_V1i (k := kX4_rolls) (k' := kX4_highest) dX4_rolls_73 rfl okX4_highest wiX4_highest wzX4_highest wl_X4_107 ⟨Nat.le_of_ble_eq_true rfl, Nat.le_of_ble_eq_true rfl⟩ ⟨rfl, rfl⟩ ⟨Nat.zero_le _, Nat.zero_le _⟩ hrest hm rfl hC kk
theorem cs_X4_rolls_95 {a1 a2 : Value} {x : Int32} {mem2 : xM} (hm : mem[r]? = some (.inr (4, fs))) (hrest : (st.map fun v => v.category).sum ≤ 8) (hC : Dt G kX4_of [.ref r, a1, a2] mem (some (.int x)) mem2) (kk : E G kX4_rolls R 0 0 mem2 98 loc (.int x :: st)) : E G kX4_rolls R 0 0 mem 95 loc (a2 :: a1 :: .ref r :: st) := E_V2i (k := kX4_rolls) (k' := kX4_of) dX4_rolls_95 rfl okX4_of wiX4_of wzX4_of wl_X4_54 ⟨Nat.le_of_ble_eq_true rfl, Nat.le_of_ble_eq_true rfl⟩ ⟨rfl, rfl⟩ ⟨Nat.zero_le _, Nat.zero_le _⟩ hrest hm rfl hC kk
theorem cs_X4_rolls_100 {a1 a2 a3 : Value} {mem2 : xM} (hm : mem[r]? = some (.inr (4, fs))) (hrest : (st.map fun v => v.category).sum ≤ 8) (hC : Dt G kX4_lays [.ref r, a1, a2, a3] mem (none) mem2) (kk : E G kX4_rolls R 0 0 mem2 103 loc (st)) : E G kX4_rolls R 0 0 mem 100 loc (a3 :: a2 :: a1 :: .ref r :: st) := E_V3v (k := kX4_rolls) (k' := kX4_lays) dX4_rolls_100 rfl okX4_lays wiX4_lays wzX4_lays wl_X4_93 ⟨Nat.le_of_ble_eq_true rfl, Nat.le_of_ble_eq_true rfl⟩ ⟨rfl, rfl⟩ ⟨Nat.zero_le _, Nat.zero_le _⟩ hrest hm rfl hC kk
theorem cs_X4_rolls_110 {a1 a2 : Value} {x : Int32} {mem2 : xM} (hm : mem[r]? = some (.inr (4, fs))) (hrest : (st.map fun v => v.category).sum ≤ 8) (hC : Dt G kX4_of [.ref r, a1, a2] mem (some (.int x)) mem2) (kk : E G kX4_rolls R 0 0 mem2 113 loc (.int x :: st)) : E G kX4_rolls R 0 0 mem 110 loc (a2 :: a1 :: .ref r :: st) := E_V2i (k := kX4_rolls) (k' := kX4_of) dX4_rolls_110 rfl okX4_of wiX4_of wzX4_of wl_X4_54 ⟨Nat.le_of_ble_eq_true rfl, Nat.le_of_ble_eq_true rfl⟩ ⟨rfl, rfl⟩ ⟨Nat.zero_le _, Nat.zero_le _⟩ hrest hm rfl hC kk
theorem cs_X4_rolls_115 {a1 a2 : Value} {mem2 : xM} (hm : mem[r]? = some (.inr (4, fs))) (hrest : (st.map fun v => v.category).sum ≤ 8) (hC : Dt G kX4_comes [.ref r, a1, a2] mem (none) mem2) (kk : E G kX4_rolls R 0 0 mem2 118 loc (st)) : E G kX4_rolls R 0 0 mem 115 loc (a2 :: a1 :: .ref r :: st) := E_V2v (k := kX4_rolls) (k' := kX4_comes) dX4_rolls_115 rfl okX4_comes wiX4_comes wzX4_comes wl_X4_110 ⟨Nat.le_of_ble_eq_true rfl, Nat.le_of_ble_eq_true rfl⟩ ⟨rfl, rfl⟩ ⟨Nat.zero_le _, Nat.zero_le _⟩ hrest hm rfl hC kk
theorem cs_X4_rolls_124 {a1 a2 : Value} {mem2 : xM} (hm : mem[r]? = some (.inr (4, fs))) (hrest : (st.map fun v => v.category).sum ≤ 8) (hC : Dt G kX4_comes [.ref r, a1, a2] mem (none) mem2) (kk : E G kX4_rolls R 0 0 mem2 127 loc (st)) : E G kX4_rolls R 0 0 mem 124 loc (a2 :: a1 :: .ref r :: st) := E_V2v (k := kX4_rolls) (k' := kX4_comes) dX4_rolls_124 rfl okX4_comes wiX4_comes wzX4_comes wl_X4_110 ⟨Nat.le_of_ble_eq_true rfl, Nat.le_of_ble_eq_true rfl⟩ ⟨rfl, rfl⟩ ⟨Nat.zero_le _, Nat.zero_le _⟩ hrest hm rfl hC kk
theorem cs_X4_rolls_139 {a1 : Value} {x : Int32} {mem2 : xM} (hm : mem[r]? = some (.inr (4, fs))) (hrest : (st.map fun v => v.category).sum ≤ 8) (hC : Dt G kX4_isLanding [.ref r, a1] mem (some (.int x)) mem2) (kk : E G kX4_rolls R 0 0 mem2 142 loc (.int x :: st)) : E G kX4_rolls R 0 0 mem 139 loc (a1 :: .ref r :: st) := E_V1i (k := kX4_rolls) (k' := kX4_isLanding) dX4_rolls_139 rfl okX4_isLanding wiX4_isLanding wzX4_isLanding wl_X4_61 ⟨Nat.le_of_ble_eq_true rfl, Nat.le_of_ble_eq_true rfl⟩ ⟨rfl, rfl⟩ ⟨Nat.zero_le _, Nat.zero_le _⟩ hrest hm rfl hC kk
theorem cs_X4_rolls_151 {a1 a2 : Value} {x : Int32} {mem2 : xM} (hm : mem[r]? = some (.inr (4, fs))) (hrest : (st.map fun v => v.category).sum ≤ 8) (hC : Dt G kX4_of [.ref r, a1, a2] mem (some (.int x)) mem2) (kk : E G kX4_rolls R 0 0 mem2 154 loc (.int x :: st)) : E G kX4_rolls R 0 0 mem 151 loc (a2 :: a1 :: .ref r :: st) := E_V2i (k := kX4_rolls) (k' := kX4_of) dX4_rolls_151 rfl okX4_of wiX4_of wzX4_of wl_X4_54 ⟨Nat.le_of_ble_eq_true rfl, Nat.le_of_ble_eq_true rfl⟩ ⟨rfl, rfl⟩ ⟨Nat.zero_le _, Nat.zero_le _⟩ hrest hm rfl hC kk
theorem cs_X4_rolls_156 {a1 a2 a3 : Value} {mem2 : xM} (hm : mem[r]? = some (.inr (4, fs))) (hrest : (st.map fun v => v.category).sum ≤ 8) (hC : Dt G kX4_lays [.ref r, a1, a2, a3] mem (none) mem2) (kk : E G kX4_rolls R 0 0 mem2 159 loc (st)) : E G kX4_rolls R 0 0 mem 156 loc (a3 :: a2 :: a1 :: .ref r :: st) := E_V3v (k := kX4_rolls) (k' := kX4_lays) dX4_rolls_156 rfl okX4_lays wiX4_lays wzX4_lays wl_X4_93 ⟨Nat.le_of_ble_eq_true rfl, Nat.le_of_ble_eq_true rfl⟩ ⟨rfl, rfl⟩ ⟨Nat.zero_le _, Nat.zero_le _⟩ hrest hm rfl hC kk
theorem cs_X4_rolls_160 {mem2 : xM} (hm : mem[r]? = some (.inr (4, fs))) (hrest : (st.map fun v => v.category).sum ≤ 8) (hC : Dt G kX4_nextMover [.ref r] mem (none) mem2) (kk : E G kX4_rolls R 0 0 mem2 163 loc (st)) : E G kX4_rolls R 0 0 mem 160 loc (.ref r :: st) := E_V0v (k := kX4_rolls) (k' := kX4_nextMover) dX4_rolls_160 rfl okX4_nextMover wiX4_nextMover wzX4_nextMover wl_X4_114 ⟨Nat.le_of_ble_eq_true rfl, Nat.le_of_ble_eq_true rfl⟩ ⟨rfl, rfl⟩ ⟨Nat.zero_le _, Nat.zero_le _⟩ hrest hm rfl hC kk
theorem cs_X4_rolls_166 {a1 a2 : Value} {x : Int32} {mem2 : xM} (hm : mem[r]? = some (.inr (4, fs))) (hrest : (st.map fun v => v.category).sum ≤ 8) (hC : Dt G kX4_of [.ref r, a1, a2] mem (some (.int x)) mem2) (kk : E G kX4_rolls R 0 0 mem2 169 loc (.int x :: st)) : E G kX4_rolls R 0 0 mem 166 loc (a2 :: a1 :: .ref r :: st) := E_V2i (k := kX4_rolls) (k' := kX4_of) dX4_rolls_166 rfl okX4_of wiX4_of wzX4_of wl_X4_54 ⟨Nat.le_of_ble_eq_true rfl, Nat.le_of_ble_eq_true rfl⟩ ⟨rfl, rfl⟩ ⟨Nat.zero_le _, Nat.zero_le _⟩ hrest hm rfl hC kk
theorem cs_X4_passedBy_18 {a1 a2 : Value} {x : Int32} {mem2 : xM} (hm : mem[r]? = some (.inr (4, fs))) (hrest : (st.map fun v => v.category).sum ≤ 8) (hC : Dt G kX4_isPassed [.ref r, a1, a2] mem (some (.int x)) mem2) (kk : E G kX4_passedBy R 0 0 mem2 21 loc (.int x :: st)) : E G kX4_passedBy R 0 0 mem 18 loc (a2 :: a1 :: .ref r :: st) := E_V2i (k := kX4_passedBy) (k' := kX4_isPassed) dX4_passedBy_18 rfl okX4_isPassed wiX4_isPassed wzX4_isPassed wl_X4_100 ⟨Nat.le_of_ble_eq_true rfl, Nat.le_of_ble_eq_true rfl⟩ ⟨rfl, rfl⟩ ⟨Nat.zero_le _, Nat.zero_le _⟩ hrest hm rfl hC kk
theorem cs_X4_isPassed_8 {a1 a2 : Value} {x : Int32} {mem2 : xM} (hm : mem[r]? = some (.inr (4, fs))) (hrest : (st.map fun v => v.category).sum ≤ 8) (hC : Dt G kX4_of [.ref r, a1, a2] mem (some (.int x)) mem2) (kk : E G kX4_isPassed R 0 0 mem2 11 loc (.int x :: st)) : E G kX4_isPassed R 0 0 mem 8 loc (a2 :: a1 :: .ref r :: st) := E_V2i (k := kX4_isPassed) (k' := kX4_of) dX4_isPassed_8 rfl okX4_of wiX4_of wzX4_of wl_X4_54 ⟨Nat.le_of_ble_eq_true rfl, Nat.le_of_ble_eq_true rfl⟩ ⟨rfl, rfl⟩ ⟨Nat.zero_le _, Nat.zero_le _⟩ hrest hm rfl hC kk
theorem cs_X4_isPassed_25 {a1 a2 : Value} {x : Int32} {mem2 : xM} (hm : mem[r]? = some (.inr (4, fs))) (hrest : (st.map fun v => v.category).sum ≤ 8) (hC : Dt G kX4_of [.ref r, a1, a2] mem (some (.int x)) mem2) (kk : E G kX4_isPassed R 0 0 mem2 28 loc (.int x :: st)) : E G kX4_isPassed R 0 0 mem 25 loc (a2 :: a1 :: .ref r :: st) := E_V2i (k := kX4_isPassed) (k' := kX4_of) dX4_isPassed_25 rfl okX4_of wiX4_of wzX4_of wl_X4_54 ⟨Nat.le_of_ble_eq_true rfl, Nat.le_of_ble_eq_true rfl⟩ ⟨rfl, rfl⟩ ⟨Nat.zero_le _, Nat.zero_le _⟩ hrest hm rfl hC kk
theorem cs_X4_isPassed_35 {a1 a2 : Value} {x : Int32} {mem2 : xM} (hm : mem[r]? = some (.inr (4, fs))) (hrest : (st.map fun v => v.category).sum ≤ 8) (hC : Dt G kX4_of [.ref r, a1, a2] mem (some (.int x)) mem2) (kk : E G kX4_isPassed R 0 0 mem2 38 loc (.int x :: st)) : E G kX4_isPassed R 0 0 mem 35 loc (a2 :: a1 :: .ref r :: st) := E_V2i (k := kX4_isPassed) (k' := kX4_of) dX4_isPassed_35 rfl okX4_of wiX4_of wzX4_of wl_X4_54 ⟨Nat.le_of_ble_eq_true rfl, Nat.le_of_ble_eq_true rfl⟩ ⟨rfl, rfl⟩ ⟨Nat.zero_le _, Nat.zero_le _⟩ hrest hm rfl hC kk
theorem cs_X4_isPassed_48 {a1 a2 : Value} {x : Int32} {mem2 : xM} (hm : mem[r]? = some (.inr (4, fs))) (hrest : (st.map fun v => v.category).sum ≤ 8) (hC : Dt G kX4_of [.ref r, a1, a2] mem (some (.int x)) mem2) (kk : E G kX4_isPassed R 0 0 mem2 51 loc (.int x :: st)) : E G kX4_isPassed R 0 0 mem 48 loc (a2 :: a1 :: .ref r :: st) := E_V2i (k := kX4_isPassed) (k' := kX4_of) dX4_isPassed_48 rfl okX4_of wiX4_of wzX4_of wl_X4_54 ⟨Nat.le_of_ble_eq_true rfl, Nat.le_of_ble_eq_true rfl⟩ ⟨rfl, rfl⟩ ⟨Nat.zero_le _, Nat.zero_le _⟩ hrest hm rfl hC kk
theorem cs_X4_isPassed_51 {a1 : Value} {x : Int32} {mem2 : xM} (hm : mem[r]? = some (.inr (4, fs))) (hrest : (st.map fun v => v.category).sum ≤ 8) (hC : Dt G kX4_isLanding [.ref r, a1] mem (some (.int x)) mem2) (kk : E G kX4_isPassed R 0 0 mem2 54 loc (.int x :: st)) : E G kX4_isPassed R 0 0 mem 51 loc (a1 :: .ref r :: st) := E_V1i (k := kX4_isPassed) (k' := kX4_isLanding) dX4_isPassed_51 rfl okX4_isLanding wiX4_isLanding wzX4_isLanding wl_X4_61 ⟨Nat.le_of_ble_eq_true rfl, Nat.le_of_ble_eq_true rfl⟩ ⟨rfl, rfl⟩ ⟨Nat.zero_le _, Nat.zero_le _⟩ hrest hm rfl hC kk
theorem cs_X4_highest_33 {a1 a2 : Value} {x : Int32} {mem2 : xM} (hm : mem[r]? = some (.inr (4, fs))) (hrest : (st.map fun v => v.category).sum ≤ 8) (hC : Dt G kX4_of [.ref r, a1, a2] mem (some (.int x)) mem2) (kk : E G kX4_highest R 0 0 mem2 36 loc (.int x :: st)) : E G kX4_highest R 0 0 mem 33 loc (a2 :: a1 :: .ref r :: st) := E_V2i (k := kX4_highest) (k' := kX4_of) dX4_highest_33 rfl okX4_of wiX4_of wzX4_of wl_X4_54 ⟨Nat.le_of_ble_eq_true rfl, Nat.le_of_ble_eq_true rfl⟩ ⟨rfl, rfl⟩ ⟨Nat.zero_le _, Nat.zero_le _⟩ hrest hm rfl hC kk
theorem cs_X4_highest_39 {a1 a2 : Value} {x : Int32} {mem2 : xM} (hm : mem[r]? = some (.inr (4, fs))) (hrest : (st.map fun v => v.category).sum ≤ 8) (hC : Dt G kX4_of [.ref r, a1, a2] mem (some (.int x)) mem2) (kk : E G kX4_highest R 0 0 mem2 42 loc (.int x :: st)) : E G kX4_highest R 0 0 mem 39 loc (a2 :: a1 :: .ref r :: st) := E_V2i (k := kX4_highest) (k' := kX4_of) dX4_highest_39 rfl okX4_of wiX4_of wzX4_of wl_X4_54 ⟨Nat.le_of_ble_eq_true rfl, Nat.le_of_ble_eq_true rfl⟩ ⟨rfl, rfl⟩ ⟨Nat.zero_le _, Nat.zero_le _⟩ hrest hm rfl hC kk
theorem cs_X4_comes_16 {a1 a2 : Value} {x : Int32} {mem2 : xM} (hm : mem[r]? = some (.inr (4, fs))) (hrest : (st.map fun v => v.category).sum ≤ 8) (hC : Dt G kX4_of [.ref r, a1, a2] mem (some (.int x)) mem2) (kk : E G kX4_comes R 0 0 mem2 19 loc (.int x :: st)) : E G kX4_comes R 0 0 mem 16 loc (a2 :: a1 :: .ref r :: st) := E_V2i (k := kX4_comes) (k' := kX4_of) dX4_comes_16 rfl okX4_of wiX4_of wzX4_of wl_X4_54 ⟨Nat.le_of_ble_eq_true rfl, Nat.le_of_ble_eq_true rfl⟩ ⟨rfl, rfl⟩ ⟨Nat.zero_le _, Nat.zero_le _⟩ hrest hm rfl hC kk
theorem cs_X4_comes_21 {a1 a2 a3 : Value} {mem2 : xM} (hm : mem[r]? = some (.inr (4, fs))) (hrest : (st.map fun v => v.category).sum ≤ 8) (hC : Dt G kX4_lays [.ref r, a1, a2, a3] mem (none) mem2) (kk : E G kX4_comes R 0 0 mem2 24 loc (st)) : E G kX4_comes R 0 0 mem 21 loc (a3 :: a2 :: a1 :: .ref r :: st) := E_V3v (k := kX4_comes) (k' := kX4_lays) dX4_comes_21 rfl okX4_lays wiX4_lays wzX4_lays wl_X4_93 ⟨Nat.le_of_ble_eq_true rfl, Nat.le_of_ble_eq_true rfl⟩ ⟨rfl, rfl⟩ ⟨Nat.zero_le _, Nat.zero_le _⟩ hrest hm rfl hC kk
theorem cs_X4_comes_28 {a1 a2 a3 : Value} {mem2 : xM} (hm : mem[r]? = some (.inr (4, fs))) (hrest : (st.map fun v => v.category).sum ≤ 8) (hC : Dt G kX4_lays [.ref r, a1, a2, a3] mem (none) mem2) (kk : E G kX4_comes R 0 0 mem2 31 loc (st)) : E G kX4_comes R 0 0 mem 28 loc (a3 :: a2 :: a1 :: .ref r :: st) := E_V3v (k := kX4_comes) (k' := kX4_lays) dX4_comes_28 rfl okX4_lays wiX4_lays wzX4_lays wl_X4_93 ⟨Nat.le_of_ble_eq_true rfl, Nat.le_of_ble_eq_true rfl⟩ ⟨rfl, rfl⟩ ⟨Nat.zero_le _, Nat.zero_le _⟩ hrest hm rfl hC kk
theorem cs_X4_comes_34 {a1 : Value} {x : Int32} {mem2 : xM} (hm : mem[r]? = some (.inr (4, fs))) (hrest : (st.map fun v => v.category).sum ≤ 8) (hC : Dt G kX4_carpetFrom [.ref r, a1] mem (some (.int x)) mem2) (kk : E G kX4_comes R 0 0 mem2 37 loc (.int x :: st)) : E G kX4_comes R 0 0 mem 34 loc (a1 :: .ref r :: st) := E_V1i (k := kX4_comes) (k' := kX4_carpetFrom) dX4_comes_34 rfl okX4_carpetFrom wiX4_carpetFrom wzX4_carpetFrom wl_X4_65 ⟨Nat.le_of_ble_eq_true rfl, Nat.le_of_ble_eq_true rfl⟩ ⟨rfl, rfl⟩ ⟨Nat.zero_le _, Nat.zero_le _⟩ hrest hm rfl hC kk
theorem cs_X4_comes_53 {a1 : Value} {x : Int32} {mem2 : xM} (hm : mem[r]? = some (.inr (4, fs))) (hrest : (st.map fun v => v.category).sum ≤ 8) (hC : Dt G kX4_lower [.ref r, a1] mem (some (.int x)) mem2) (kk : E G kX4_comes R 0 0 mem2 56 loc (.int x :: st)) : E G kX4_comes R 0 0 mem 53 loc (a1 :: .ref r :: st) := E_V1i (k := kX4_comes) (k' := kX4_lower) dX4_comes_53 rfl okX4_lower wiX4_lower wzX4_lower wl_X4_51 ⟨Nat.le_of_ble_eq_true rfl, Nat.le_of_ble_eq_true rfl⟩ ⟨rfl, rfl⟩ ⟨Nat.zero_le _, Nat.zero_le _⟩ hrest hm rfl hC kk
theorem cs_X4_comes_56 {a1 a2 a3 : Value} {mem2 : xM} (hm : mem[r]? = some (.inr (4, fs))) (hrest : (st.map fun v => v.category).sum ≤ 8) (hC : Dt G kX4_lays [.ref r, a1, a2, a3] mem (none) mem2) (kk : E G kX4_comes R 0 0 mem2 59 loc (st)) : E G kX4_comes R 0 0 mem 56 loc (a3 :: a2 :: a1 :: .ref r :: st) := E_V3v (k := kX4_comes) (k' := kX4_lays) dX4_comes_56 rfl okX4_lays wiX4_lays wzX4_lays wl_X4_93 ⟨Nat.le_of_ble_eq_true rfl, Nat.le_of_ble_eq_true rfl⟩ ⟨rfl, rfl⟩ ⟨Nat.zero_le _, Nat.zero_le _⟩ hrest hm rfl hC kk
theorem cs_X4_comes_65 {a1 a2 : Value} {x : Int32} {mem2 : xM} (hm : mem[r]? = some (.inr (4, fs))) (hrest : (st.map fun v => v.category).sum ≤ 8) (hC : Dt G kX4_of [.ref r, a1, a2] mem (some (.int x)) mem2) (kk : E G kX4_comes R 0 0 mem2 68 loc (.int x :: st)) : E G kX4_comes R 0 0 mem 65 loc (a2 :: a1 :: .ref r :: st) := E_V2i (k := kX4_comes) (k' := kX4_of) dX4_comes_65 rfl okX4_of wiX4_of wzX4_of wl_X4_54 ⟨Nat.le_of_ble_eq_true rfl, Nat.le_of_ble_eq_true rfl⟩ ⟨rfl, rfl⟩ ⟨Nat.zero_le _, Nat.zero_le _⟩ hrest hm rfl hC kk
theorem cs_X4_comes_80 {a1 a2 a3 : Value} {mem2 : xM} (hm : mem[r]? = some (.inr (4, fs))) (hrest : (st.map fun v => v.category).sum ≤ 8) (hC : Dt G kX4_lays [.ref r, a1, a2, a3] mem (none) mem2) (kk : E G kX4_comes R 0 0 mem2 83 loc (st)) : E G kX4_comes R 0 0 mem 80 loc (a3 :: a2 :: a1 :: .ref r :: st) := E_V3v (k := kX4_comes) (k' := kX4_lays) dX4_comes_80 rfl okX4_lays wiX4_lays wzX4_lays wl_X4_93 ⟨Nat.le_of_ble_eq_true rfl, Nat.le_of_ble_eq_true rfl⟩ ⟨rfl, rfl⟩ ⟨Nat.zero_le _, Nat.zero_le _⟩ hrest hm rfl hC kk
theorem cs_X4_nextMover_19 {a1 a2 : Value} {x : Int32} {mem2 : xM} (hm : mem[r]? = some (.inr (4, fs))) (hrest : (st.map fun v => v.category).sum ≤ 8) (hC : Dt G kX4_of [.ref r, a1, a2] mem (some (.int x)) mem2) (kk : E G kX4_nextMover R 0 0 mem2 22 loc (.int x :: st)) : E G kX4_nextMover R 0 0 mem 19 loc (a2 :: a1 :: .ref r :: st) := E_V2i (k := kX4_nextMover) (k' := kX4_of) dX4_nextMover_19 rfl okX4_of wiX4_of wzX4_of wl_X4_54 ⟨Nat.le_of_ble_eq_true rfl, Nat.le_of_ble_eq_true rfl⟩ ⟨rfl, rfl⟩ ⟨Nat.zero_le _, Nat.zero_le _⟩ hrest hm rfl hC kk
theorem cs_X4_nextMover_31 {a1 a2 : Value} {x : Int32} {mem2 : xM} (hm : mem[r]? = some (.inr (4, fs))) (hrest : (st.map fun v => v.category).sum ≤ 8) (hC : Dt G kX4_of [.ref r, a1, a2] mem (some (.int x)) mem2) (kk : E G kX4_nextMover R 0 0 mem2 34 loc (.int x :: st)) : E G kX4_nextMover R 0 0 mem 31 loc (a2 :: a1 :: .ref r :: st) := E_V2i (k := kX4_nextMover) (k' := kX4_of) dX4_nextMover_31 rfl okX4_of wiX4_of wzX4_of wl_X4_54 ⟨Nat.le_of_ble_eq_true rfl, Nat.le_of_ble_eq_true rfl⟩ ⟨rfl, rfl⟩ ⟨Nat.zero_le _, Nat.zero_le _⟩ hrest hm rfl hC kk
theorem cs_X4_nextMover_36 {a1 a2 a3 : Value} {mem2 : xM} (hm : mem[r]? = some (.inr (4, fs))) (hrest : (st.map fun v => v.category).sum ≤ 8) (hC : Dt G kX4_lays [.ref r, a1, a2, a3] mem (none) mem2) (kk : E G kX4_nextMover R 0 0 mem2 39 loc (st)) : E G kX4_nextMover R 0 0 mem 36 loc (a3 :: a2 :: a1 :: .ref r :: st) := E_V3v (k := kX4_nextMover) (k' := kX4_lays) dX4_nextMover_36 rfl okX4_lays wiX4_lays wzX4_lays wl_X4_93 ⟨Nat.le_of_ble_eq_true rfl, Nat.le_of_ble_eq_true rfl⟩ ⟨rfl, rfl⟩ ⟨Nat.zero_le _, Nat.zero_le _⟩ hrest hm rfl hC kk
theorem cs_X4_pass_13 {mem2 : xM} (hm : mem[r]? = some (.inr (4, fs))) (hrest : (st.map fun v => v.category).sum ≤ 8) (hC : Dt G kX4_record [.ref r] mem (none) mem2) (kk : E G kX4_pass R 0 0 mem2 16 loc (st)) : E G kX4_pass R 0 0 mem 13 loc (.ref r :: st) := E_V0v (k := kX4_pass) (k' := kX4_record) dX4_pass_13 rfl okX4_record wiX4_record wzX4_record wl_X4_40 ⟨Nat.le_of_ble_eq_true rfl, Nat.le_of_ble_eq_true rfl⟩ ⟨rfl, rfl⟩ ⟨Nat.zero_le _, Nat.zero_le _⟩ hrest hm rfl hC kk
theorem cs_X4_pass_17 {mem2 : xM} (hm : mem[r]? = some (.inr (4, fs))) (hrest : (st.map fun v => v.category).sum ≤ 8) (hC : Dt G kX4_nextMover [.ref r] mem (none) mem2) (kk : E G kX4_pass R 0 0 mem2 20 loc (st)) : E G kX4_pass R 0 0 mem 17 loc (.ref r :: st) := E_V0v (k := kX4_pass) (k' := kX4_nextMover) dX4_pass_17 rfl okX4_nextMover wiX4_nextMover wzX4_nextMover wl_X4_114 ⟨Nat.le_of_ble_eq_true rfl, Nat.le_of_ble_eq_true rfl⟩ ⟨rfl, rfl⟩ ⟨Nat.zero_le _, Nat.zero_le _⟩ hrest hm rfl hC kk
theorem cs_X4_climber_2 {a1 : Value} {x : Int32} {mem2 : xM} (hm : mem[r]? = some (.inr (4, fs))) (hrest : (st.map fun v => v.category).sum ≤ 8) (hC : Dt G kX4_isClimber [.ref r, a1] mem (some (.int x)) mem2) (kk : E G kX4_climber R 0 0 mem2 5 loc (.int x :: st)) : E G kX4_climber R 0 0 mem 2 loc (a1 :: .ref r :: st) := E_V1i (k := kX4_climber) (k' := kX4_isClimber) dX4_climber_2 rfl okX4_isClimber wiX4_isClimber wzX4_isClimber wl_X4_123 ⟨Nat.le_of_ble_eq_true rfl, Nat.le_of_ble_eq_true rfl⟩ ⟨rfl, rfl⟩ ⟨Nat.zero_le _, Nat.zero_le _⟩ hrest hm rfl hC kk
theorem cs_X4_climber_18 {a1 : Value} {x : Int32} {mem2 : xM} (hm : mem[r]? = some (.inr (4, fs))) (hrest : (st.map fun v => v.category).sum ≤ 8) (hC : Dt G kX4_progress [.ref r, a1] mem (some (.int x)) mem2) (kk : E G kX4_climber R 0 0 mem2 21 loc (.int x :: st)) : E G kX4_climber R 0 0 mem 18 loc (a1 :: .ref r :: st) := E_V1i (k := kX4_climber) (k' := kX4_progress) dX4_climber_18 rfl okX4_progress wiX4_progress wzX4_progress wl_X4_126 ⟨Nat.le_of_ble_eq_true rfl, Nat.le_of_ble_eq_true rfl⟩ ⟨rfl, rfl⟩ ⟨Nat.zero_le _, Nat.zero_le _⟩ hrest hm rfl hC kk
theorem cs_X4_climber_27 {a1 a2 a3 : Value} {x : Int32} {mem2 : xM} (hrest : (st.map fun v => v.category).sum ≤ 8) (hC : Dt G kX4_in [a1, a2, a3] mem (some (.int x)) mem2) (kk : E G kX4_climber R 0 0 mem2 30 loc (.int x :: st)) : E G kX4_climber R 0 0 mem 27 loc (a3 :: a2 :: a1 :: st) := E_S3i (k := kX4_climber) (k' := kX4_in) dX4_climber_27 rfl okX4_in wsX4_in wl_X4_43 ⟨Nat.le_of_ble_eq_true rfl, Nat.le_of_ble_eq_true rfl⟩ ⟨rfl, rfl⟩ ⟨Nat.zero_le _, Nat.zero_le _⟩ hrest hC kk
theorem cs_X4_climber_36 {a1 a2 : Value} {x : Int32} {mem2 : xM} (hm : mem[r]? = some (.inr (4, fs))) (hrest : (st.map fun v => v.category).sum ≤ 8) (hC : Dt G kX4_of [.ref r, a1, a2] mem (some (.int x)) mem2) (kk : E G kX4_climber R 0 0 mem2 39 loc (.int x :: st)) : E G kX4_climber R 0 0 mem 36 loc (a2 :: a1 :: .ref r :: st) := E_V2i (k := kX4_climber) (k' := kX4_of) dX4_climber_36 rfl okX4_of wiX4_of wzX4_of wl_X4_54 ⟨Nat.le_of_ble_eq_true rfl, Nat.le_of_ble_eq_true rfl⟩ ⟨rfl, rfl⟩ ⟨Nat.zero_le _, Nat.zero_le _⟩ hrest hm rfl hC kk
theorem cs_X4_isClimber_10 {a1 a2 a3 : Value} {x : Int32} {mem2 : xM} (hrest : (st.map fun v => v.category).sum ≤ 8) (hC : Dt G kX4_in [a1, a2, a3] mem (some (.int x)) mem2) (kk : E G kX4_isClimber R 0 0 mem2 13 loc (.int x :: st)) : E G kX4_isClimber R 0 0 mem 10 loc (a3 :: a2 :: a1 :: st) := E_S3i (k := kX4_isClimber) (k' := kX4_in) dX4_isClimber_10 rfl okX4_in wsX4_in wl_X4_43 ⟨Nat.le_of_ble_eq_true rfl, Nat.le_of_ble_eq_true rfl⟩ ⟨rfl, rfl⟩ ⟨Nat.zero_le _, Nat.zero_le _⟩ hrest hC kk
theorem cs_X4_progress_3 {a1 a2 : Value} {x : Int32} {mem2 : xM} (hm : mem[r]? = some (.inr (4, fs))) (hrest : (st.map fun v => v.category).sum ≤ 8) (hC : Dt G kX4_of [.ref r, a1, a2] mem (some (.int x)) mem2) (kk : E G kX4_progress R 0 0 mem2 6 loc (.int x :: st)) : E G kX4_progress R 0 0 mem 3 loc (a2 :: a1 :: .ref r :: st) := E_V2i (k := kX4_progress) (k' := kX4_of) dX4_progress_3 rfl okX4_of wiX4_of wzX4_of wl_X4_54 ⟨Nat.le_of_ble_eq_true rfl, Nat.le_of_ble_eq_true rfl⟩ ⟨rfl, rfl⟩ ⟨Nat.zero_le _, Nat.zero_le _⟩ hrest hm rfl hC kk
theorem cs_X4_progress_16 {a1 a2 : Value} {x : Int32} {mem2 : xM} (hm : mem[r]? = some (.inr (4, fs))) (hrest : (st.map fun v => v.category).sum ≤ 8) (hC : Dt G kX4_of [.ref r, a1, a2] mem (some (.int x)) mem2) (kk : E G kX4_progress R 0 0 mem2 19 loc (.int x :: st)) : E G kX4_progress R 0 0 mem 16 loc (a2 :: a1 :: .ref r :: st) := E_V2i (k := kX4_progress) (k' := kX4_of) dX4_progress_16 rfl okX4_of wiX4_of wzX4_of wl_X4_54 ⟨Nat.le_of_ble_eq_true rfl, Nat.le_of_ble_eq_true rfl⟩ ⟨rfl, rfl⟩ ⟨Nat.zero_le _, Nat.zero_le _⟩ hrest hm rfl hC kk
theorem cs_X4_on_10 {a1 a2 a3 : Value} {x : Int32} {mem2 : xM} (hrest : (st.map fun v => v.category).sum ≤ 8) (hC : Dt G kX4_in [a1, a2, a3] mem (some (.int x)) mem2) (kk : E G kX4_on R 0 0 mem2 13 loc (.int x :: st)) : E G kX4_on R 0 0 mem 10 loc (a3 :: a2 :: a1 :: st) := E_S3i (k := kX4_on) (k' := kX4_in) dX4_on_10 rfl okX4_in wsX4_in wl_X4_43 ⟨Nat.le_of_ble_eq_true rfl, Nat.le_of_ble_eq_true rfl⟩ ⟨rfl, rfl⟩ ⟨Nat.zero_le _, Nat.zero_le _⟩ hrest hC kk
theorem cs_X4_on_18 {a1 : Value} {x : Int32} {mem2 : xM} (hm : mem[r]? = some (.inr (4, fs))) (hrest : (st.map fun v => v.category).sum ≤ 8) (hC : Dt G kX4_climbersOn [.ref r, a1] mem (some (.int x)) mem2) (kk : E G kX4_on R 0 0 mem2 21 loc (.int x :: st)) : E G kX4_on R 0 0 mem 18 loc (a1 :: .ref r :: st) := E_V1i (k := kX4_on) (k' := kX4_climbersOn) dX4_on_18 rfl okX4_climbersOn wiX4_climbersOn wzX4_climbersOn wl_X4_58 ⟨Nat.le_of_ble_eq_true rfl, Nat.le_of_ble_eq_true rfl⟩ ⟨rfl, rfl⟩ ⟨Nat.zero_le _, Nat.zero_le _⟩ hrest hm rfl hC kk
theorem cs_X4_step_8 {a1 a2 a3 : Value} {x : Int32} {mem2 : xM} (hrest : (st.map fun v => v.category).sum ≤ 8) (hC : Dt G kX4_in [a1, a2, a3] mem (some (.int x)) mem2) (kk : E G kX4_step R 0 0 mem2 11 loc (.int x :: st)) : E G kX4_step R 0 0 mem 8 loc (a3 :: a2 :: a1 :: st) := E_S3i (k := kX4_step) (k' := kX4_in) dX4_step_8 rfl okX4_in wsX4_in wl_X4_43 ⟨Nat.le_of_ble_eq_true rfl, Nat.le_of_ble_eq_true rfl⟩ ⟨rfl, rfl⟩ ⟨Nat.zero_le _, Nat.zero_le _⟩ hrest hC kk
theorem cs_X4_step_18 {a1 : Value} {x : Int32} {mem2 : xM} (hm : mem[r]? = some (.inr (4, fs))) (hrest : (st.map fun v => v.category).sum ≤ 8) (hC : Dt G kX4_carpetFrom [.ref r, a1] mem (some (.int x)) mem2) (kk : E G kX4_step R 0 0 mem2 21 loc (.int x :: st)) : E G kX4_step R 0 0 mem 18 loc (a1 :: .ref r :: st) := E_V1i (k := kX4_step) (k' := kX4_carpetFrom) dX4_step_18 rfl okX4_carpetFrom wiX4_carpetFrom wzX4_carpetFrom wl_X4_65 ⟨Nat.le_of_ble_eq_true rfl, Nat.le_of_ble_eq_true rfl⟩ ⟨rfl, rfl⟩ ⟨Nat.zero_le _, Nat.zero_le _⟩ hrest hm rfl hC kk
theorem cs_X4_step_71 {a1 : Value} {x : Int32} {mem2 : xM} (hm : mem[r]? = some (.inr (4, fs))) (hrest : (st.map fun v => v.category).sum ≤ 8) (hC : Dt G kX4_lower [.ref r, a1] mem (some (.int x)) mem2) (kk : E G kX4_step R 0 0 mem2 74 loc (.int x :: st)) : E G kX4_step R 0 0 mem 71 loc (a1 :: .ref r :: st) := E_V1i (k := kX4_step) (k' := kX4_lower) dX4_step_71 rfl okX4_lower wiX4_lower wzX4_lower wl_X4_51 ⟨Nat.le_of_ble_eq_true rfl, Nat.le_of_ble_eq_true rfl⟩ ⟨rfl, rfl⟩ ⟨Nat.zero_le _, Nat.zero_le _⟩ hrest hm rfl hC kk
theorem cs_X4_step_77 {a1 : Value} {x : Int32} {mem2 : xM} (hm : mem[r]? = some (.inr (4, fs))) (hrest : (st.map fun v => v.category).sum ≤ 8) (hC : Dt G kX4_carpetsTo [.ref r, a1] mem (some (.int x)) mem2) (kk : E G kX4_step R 0 0 mem2 80 loc (.int x :: st)) : E G kX4_step R 0 0 mem 77 loc (a1 :: .ref r :: st) := E_V1i (k := kX4_step) (k' := kX4_carpetsTo) dX4_step_77 rfl okX4_carpetsTo wiX4_carpetsTo wzX4_carpetsTo wl_X4_71 ⟨Nat.le_of_ble_eq_true rfl, Nat.le_of_ble_eq_true rfl⟩ ⟨rfl, rfl⟩ ⟨Nat.zero_le _, Nat.zero_le _⟩ hrest hm rfl hC kk
theorem cs_X4_total_74 {x : Int32} {mem2 : xM} (hm : mem[r]? = some (.inr (4, fs))) (hrest : (st.map fun v => v.category).sum ≤ 8) (hC : Dt G kX4_landings [.ref r] mem (some (.int x)) mem2) (kk : E G kX4_total R 0 0 mem2 77 loc (.int x :: st)) : E G kX4_total R 0 0 mem 74 loc (.ref r :: st) := E_V0i (k := kX4_total) (k' := kX4_landings) dX4_total_74 rfl okX4_landings wiX4_landings wzX4_landings wl_X4_80 ⟨Nat.le_of_ble_eq_true rfl, Nat.le_of_ble_eq_true rfl⟩ ⟨rfl, rfl⟩ ⟨Nat.zero_le _, Nat.zero_le _⟩ hrest hm rfl hC kk
theorem cs_X4_total_101 {x : Int32} {mem2 : xM} (hm : mem[r]? = some (.inr (4, fs))) (hrest : (st.map fun v => v.category).sum ≤ 8) (hC : Dt G kX4_allTops [.ref r] mem (some (.int x)) mem2) (kk : E G kX4_total R 0 0 mem2 104 loc (.int x :: st)) : E G kX4_total R 0 0 mem 101 loc (.ref r :: st) := E_V0i (k := kX4_total) (k' := kX4_allTops) dX4_total_101 rfl okX4_allTops wiX4_allTops wzX4_allTops wl_X4_129 ⟨Nat.le_of_ble_eq_true rfl, Nat.le_of_ble_eq_true rfl⟩ ⟨rfl, rfl⟩ ⟨Nat.zero_le _, Nat.zero_le _⟩ hrest hm rfl hC kk
theorem cs_X4_allTops_18 {a1 a2 : Value} {x : Int32} {mem2 : xM} (hm : mem[r]? = some (.inr (4, fs))) (hrest : (st.map fun v => v.category).sum ≤ 8) (hC : Dt G kX4_of [.ref r, a1, a2] mem (some (.int x)) mem2) (kk : E G kX4_allTops R 0 0 mem2 21 loc (.int x :: st)) : E G kX4_allTops R 0 0 mem 18 loc (a2 :: a1 :: .ref r :: st) := E_V2i (k := kX4_allTops) (k' := kX4_of) dX4_allTops_18 rfl okX4_of wiX4_of wzX4_of wl_X4_54 ⟨Nat.le_of_ble_eq_true rfl, Nat.le_of_ble_eq_true rfl⟩ ⟨rfl, rfl⟩ ⟨Nat.zero_le _, Nat.zero_le _⟩ hrest hm rfl hC kk
theorem cs_X4_rank_24 {a1 : Value} {x : Int32} {mem2 : xM} (hm : mem[r]? = some (.inr (4, fs))) (hrest : (st.map fun v => v.category).sum ≤ 8) (hC : Dt G kX4_ahead [.ref r, a1] mem (some (.int x)) mem2) (kk : E G kX4_rank R 0 0 mem2 27 loc (.int x :: st)) : E G kX4_rank R 0 0 mem 24 loc (a1 :: .ref r :: st) := E_V1i (k := kX4_rank) (k' := kX4_ahead) dX4_rank_24 rfl okX4_ahead wiX4_ahead wzX4_ahead wl_X4_132 ⟨Nat.le_of_ble_eq_true rfl, Nat.le_of_ble_eq_true rfl⟩ ⟨rfl, rfl⟩ ⟨Nat.zero_le _, Nat.zero_le _⟩ hrest hm rfl hC kk
theorem cs_X4_ahead_17 {a1 : Value} {x : Int32} {mem2 : xM} (hm : mem[r]? = some (.inr (4, fs))) (hrest : (st.map fun v => v.category).sum ≤ 8) (hC : Dt G kX4_progress [.ref r, a1] mem (some (.int x)) mem2) (kk : E G kX4_ahead R 0 0 mem2 20 loc (.int x :: st)) : E G kX4_ahead R 0 0 mem 17 loc (a1 :: .ref r :: st) := E_V1i (k := kX4_ahead) (k' := kX4_progress) dX4_ahead_17 rfl okX4_progress wiX4_progress wzX4_progress wl_X4_126 ⟨Nat.le_of_ble_eq_true rfl, Nat.le_of_ble_eq_true rfl⟩ ⟨rfl, rfl⟩ ⟨Nat.zero_le _, Nat.zero_le _⟩ hrest hm rfl hC kk
theorem cs_X4_ahead_22 {a1 : Value} {x : Int32} {mem2 : xM} (hm : mem[r]? = some (.inr (4, fs))) (hrest : (st.map fun v => v.category).sum ≤ 8) (hC : Dt G kX4_progress [.ref r, a1] mem (some (.int x)) mem2) (kk : E G kX4_ahead R 0 0 mem2 25 loc (.int x :: st)) : E G kX4_ahead R 0 0 mem 22 loc (a1 :: .ref r :: st) := E_V1i (k := kX4_ahead) (k' := kX4_progress) dX4_ahead_22 rfl okX4_progress wiX4_progress wzX4_progress wl_X4_126 ⟨Nat.le_of_ble_eq_true rfl, Nat.le_of_ble_eq_true rfl⟩ ⟨rfl, rfl⟩ ⟨Nat.zero_le _, Nat.zero_le _⟩ hrest hm rfl hC kk
theorem cs_X4_ahead_30 {a1 : Value} {x : Int32} {mem2 : xM} (hm : mem[r]? = some (.inr (4, fs))) (hrest : (st.map fun v => v.category).sum ≤ 8) (hC : Dt G kX4_progress [.ref r, a1] mem (some (.int x)) mem2) (kk : E G kX4_ahead R 0 0 mem2 33 loc (.int x :: st)) : E G kX4_ahead R 0 0 mem 30 loc (a1 :: .ref r :: st) := E_V1i (k := kX4_ahead) (k' := kX4_progress) dX4_ahead_30 rfl okX4_progress wiX4_progress wzX4_progress wl_X4_126 ⟨Nat.le_of_ble_eq_true rfl, Nat.le_of_ble_eq_true rfl⟩ ⟨rfl, rfl⟩ ⟨Nat.zero_le _, Nat.zero_le _⟩ hrest hm rfl hC kk
theorem cs_X4_ahead_35 {a1 : Value} {x : Int32} {mem2 : xM} (hm : mem[r]? = some (.inr (4, fs))) (hrest : (st.map fun v => v.category).sum ≤ 8) (hC : Dt G kX4_progress [.ref r, a1] mem (some (.int x)) mem2) (kk : E G kX4_ahead R 0 0 mem2 38 loc (.int x :: st)) : E G kX4_ahead R 0 0 mem 35 loc (a1 :: .ref r :: st) := E_V1i (k := kX4_ahead) (k' := kX4_progress) dX4_ahead_35 rfl okX4_progress wiX4_progress wzX4_progress wl_X4_126 ⟨Nat.le_of_ble_eq_true rfl, Nat.le_of_ble_eq_true rfl⟩ ⟨rfl, rfl⟩ ⟨Nat.zero_le _, Nat.zero_le _⟩ hrest hm rfl hC kk
theorem cs_X4_ifRolled_4 {a1 a2 a3 : Value} {x : Int32} {mem2 : xM} (hrest : (st.map fun v => v.category).sum ≤ 8) (hC : Dt G kX4_in [a1, a2, a3] mem (some (.int x)) mem2) (kk : E G kX4_ifRolled R 0 0 mem2 7 loc (.int x :: st)) : E G kX4_ifRolled R 0 0 mem 4 loc (a3 :: a2 :: a1 :: st) := E_S3i (k := kX4_ifRolled) (k' := kX4_in) dX4_ifRolled_4 rfl okX4_in wsX4_in wl_X4_43 ⟨Nat.le_of_ble_eq_true rfl, Nat.le_of_ble_eq_true rfl⟩ ⟨rfl, rfl⟩ ⟨Nat.zero_le _, Nat.zero_le _⟩ hrest hC kk
theorem cs_X4_ifRolled_13 {a1 a2 a3 : Value} {x : Int32} {mem2 : xM} (hrest : (st.map fun v => v.category).sum ≤ 8) (hC : Dt G kX4_in [a1, a2, a3] mem (some (.int x)) mem2) (kk : E G kX4_ifRolled R 0 0 mem2 16 loc (.int x :: st)) : E G kX4_ifRolled R 0 0 mem 13 loc (a3 :: a2 :: a1 :: st) := E_S3i (k := kX4_ifRolled) (k' := kX4_in) dX4_ifRolled_13 rfl okX4_in wsX4_in wl_X4_43 ⟨Nat.le_of_ble_eq_true rfl, Nat.le_of_ble_eq_true rfl⟩ ⟨rfl, rfl⟩ ⟨Nat.zero_le _, Nat.zero_le _⟩ hrest hC kk
theorem cs_X4_ifRolled_35 {x : Int32} {mem2 : xM} (hm : mem[r]? = some (.inr (4, fs))) (hrest : (st.map fun v => v.category).sum ≤ 8) (hC : Dt G kX4_allTops [.ref r] mem (some (.int x)) mem2) (kk : E G kX4_ifRolled R 0 0 mem2 38 loc (.int x :: st)) : E G kX4_ifRolled R 0 0 mem 35 loc (.ref r :: st) := E_V0i (k := kX4_ifRolled) (k' := kX4_allTops) dX4_ifRolled_35 rfl okX4_allTops wiX4_allTops wzX4_allTops wl_X4_129 ⟨Nat.le_of_ble_eq_true rfl, Nat.le_of_ble_eq_true rfl⟩ ⟨rfl, rfl⟩ ⟨Nat.zero_le _, Nat.zero_le _⟩ hrest hm rfl hC kk
theorem cs_X4_ifRolled_40 {mem2 : xM} (hm : mem[r]? = some (.inr (4, fs))) (hrest : (st.map fun v => v.category).sum ≤ 8) (hC : Dt G kX4_putAside [.ref r] mem (none) mem2) (kk : E G kX4_ifRolled R 0 0 mem2 43 loc (st)) : E G kX4_ifRolled R 0 0 mem 40 loc (.ref r :: st) := E_V0v (k := kX4_ifRolled) (k' := kX4_putAside) dX4_ifRolled_40 rfl okX4_putAside wiX4_putAside wzX4_putAside wl_X4_135 ⟨Nat.le_of_ble_eq_true rfl, Nat.le_of_ble_eq_true rfl⟩ ⟨rfl, rfl⟩ ⟨Nat.zero_le _, Nat.zero_le _⟩ hrest hm rfl hC kk
theorem cs_X4_ifRolled_45 {a1 : Value} {x : Int32} {mem2 : xM} (hm : mem[r]? = some (.inr (4, fs))) (hrest : (st.map fun v => v.category).sum ≤ 8) (hC : Dt G kX4_rolls [.ref r, a1] mem (some (.int x)) mem2) (kk : E G kX4_ifRolled R 0 0 mem2 48 loc (.int x :: st)) : E G kX4_ifRolled R 0 0 mem 45 loc (a1 :: .ref r :: st) := E_V1i (k := kX4_ifRolled) (k' := kX4_rolls) dX4_ifRolled_45 rfl okX4_rolls wiX4_rolls wzX4_rolls wl_X4_120 ⟨Nat.le_of_ble_eq_true rfl, Nat.le_of_ble_eq_true rfl⟩ ⟨rfl, rfl⟩ ⟨Nat.zero_le _, Nat.zero_le _⟩ hrest hm rfl hC kk
theorem cs_X4_ifRolled_86 {x : Int32} {mem2 : xM} (hm : mem[r]? = some (.inr (4, fs))) (hrest : (st.map fun v => v.category).sum ≤ 8) (hC : Dt G kX4_allTops [.ref r] mem (some (.int x)) mem2) (kk : E G kX4_ifRolled R 0 0 mem2 89 loc (.int x :: st)) : E G kX4_ifRolled R 0 0 mem 86 loc (.ref r :: st) := E_V0i (k := kX4_ifRolled) (k' := kX4_allTops) dX4_ifRolled_86 rfl okX4_allTops wiX4_allTops wzX4_allTops wl_X4_129 ⟨Nat.le_of_ble_eq_true rfl, Nat.le_of_ble_eq_true rfl⟩ ⟨rfl, rfl⟩ ⟨Nat.zero_le _, Nat.zero_le _⟩ hrest hm rfl hC kk
theorem cs_X4_ifRolled_126 {mem2 : xM} (hm : mem[r]? = some (.inr (4, fs))) (hrest : (st.map fun v => v.category).sum ≤ 8) (hC : Dt G kX4_takeBack [.ref r] mem (none) mem2) (kk : E G kX4_ifRolled R 0 0 mem2 129 loc (st)) : E G kX4_ifRolled R 0 0 mem 126 loc (.ref r :: st) := E_V0v (k := kX4_ifRolled) (k' := kX4_takeBack) dX4_ifRolled_126 rfl okX4_takeBack wiX4_takeBack wzX4_takeBack wl_X4_138 ⟨Nat.le_of_ble_eq_true rfl, Nat.le_of_ble_eq_true rfl⟩ ⟨rfl, rfl⟩ ⟨Nat.zero_le _, Nat.zero_le _⟩ hrest hm rfl hC kk
theorem cs_X4_bestRoll_35 {mem2 : xM} (hm : mem[r]? = some (.inr (4, fs))) (hrest : (st.map fun v => v.category).sum ≤ 8) (hC : Dt G kX4_putAside [.ref r] mem (none) mem2) (kk : E G kX4_bestRoll R 0 0 mem2 38 loc (st)) : E G kX4_bestRoll R 0 0 mem 35 loc (.ref r :: st) := E_V0v (k := kX4_bestRoll) (k' := kX4_putAside) dX4_bestRoll_35 rfl okX4_putAside wiX4_putAside wzX4_putAside wl_X4_135 ⟨Nat.le_of_ble_eq_true rfl, Nat.le_of_ble_eq_true rfl⟩ ⟨rfl, rfl⟩ ⟨Nat.zero_le _, Nat.zero_le _⟩ hrest hm rfl hC kk
theorem cs_X4_bestRoll_41 {a1 : Value} {x : Int32} {mem2 : xM} (hm : mem[r]? = some (.inr (4, fs))) (hrest : (st.map fun v => v.category).sum ≤ 8) (hC : Dt G kX4_rolls [.ref r, a1] mem (some (.int x)) mem2) (kk : E G kX4_bestRoll R 0 0 mem2 44 loc (.int x :: st)) : E G kX4_bestRoll R 0 0 mem 41 loc (a1 :: .ref r :: st) := E_V1i (k := kX4_bestRoll) (k' := kX4_rolls) dX4_bestRoll_41 rfl okX4_rolls wiX4_rolls wzX4_rolls wl_X4_120 ⟨Nat.le_of_ble_eq_true rfl, Nat.le_of_ble_eq_true rfl⟩ ⟨rfl, rfl⟩ ⟨Nat.zero_le _, Nat.zero_le _⟩ hrest hm rfl hC kk
theorem cs_X4_bestRoll_47 {a1 : Value} {x : Int32} {mem2 : xM} (hm : mem[r]? = some (.inr (4, fs))) (hrest : (st.map fun v => v.category).sum ≤ 8) (hC : Dt G kX4_worth [.ref r, a1] mem (some (.int x)) mem2) (kk : E G kX4_bestRoll R 0 0 mem2 50 loc (.int x :: st)) : E G kX4_bestRoll R 0 0 mem 47 loc (a1 :: .ref r :: st) := E_V1i (k := kX4_bestRoll) (k' := kX4_worth) dX4_bestRoll_47 rfl okX4_worth wiX4_worth wzX4_worth wl_X4_141 ⟨Nat.le_of_ble_eq_true rfl, Nat.le_of_ble_eq_true rfl⟩ ⟨rfl, rfl⟩ ⟨Nat.zero_le _, Nat.zero_le _⟩ hrest hm rfl hC kk
theorem cs_X4_bestRoll_53 {mem2 : xM} (hm : mem[r]? = some (.inr (4, fs))) (hrest : (st.map fun v => v.category).sum ≤ 8) (hC : Dt G kX4_takeBack [.ref r] mem (none) mem2) (kk : E G kX4_bestRoll R 0 0 mem2 56 loc (st)) : E G kX4_bestRoll R 0 0 mem 53 loc (.ref r :: st) := E_V0v (k := kX4_bestRoll) (k' := kX4_takeBack) dX4_bestRoll_53 rfl okX4_takeBack wiX4_takeBack wzX4_takeBack wl_X4_138 ⟨Nat.le_of_ble_eq_true rfl, Nat.le_of_ble_eq_true rfl⟩ ⟨rfl, rfl⟩ ⟨Nat.zero_le _, Nat.zero_le _⟩ hrest hm rfl hC kk
theorem cs_X4_worth_3 {a1 : Value} {x : Int32} {mem2 : xM} (hm : mem[r]? = some (.inr (4, fs))) (hrest : (st.map fun v => v.category).sum ≤ 8) (hC : Dt G kX4_progress [.ref r, a1] mem (some (.int x)) mem2) (kk : E G kX4_worth R 0 0 mem2 6 loc (.int x :: st)) : E G kX4_worth R 0 0 mem 3 loc (a1 :: .ref r :: st) := E_V1i (k := kX4_worth) (k' := kX4_progress) dX4_worth_3 rfl okX4_progress wiX4_progress wzX4_progress wl_X4_126 ⟨Nat.le_of_ble_eq_true rfl, Nat.le_of_ble_eq_true rfl⟩ ⟨rfl, rfl⟩ ⟨Nat.zero_le _, Nat.zero_le _⟩ hrest hm rfl hC kk
theorem cs_X4_worth_23 {a1 : Value} {x : Int32} {mem2 : xM} (hm : mem[r]? = some (.inr (4, fs))) (hrest : (st.map fun v => v.category).sum ≤ 8) (hC : Dt G kX4_progress [.ref r, a1] mem (some (.int x)) mem2) (kk : E G kX4_worth R 0 0 mem2 26 loc (.int x :: st)) : E G kX4_worth R 0 0 mem 23 loc (a1 :: .ref r :: st) := E_V1i (k := kX4_worth) (k' := kX4_progress) dX4_worth_23 rfl okX4_progress wiX4_progress wzX4_progress wl_X4_126 ⟨Nat.le_of_ble_eq_true rfl, Nat.le_of_ble_eq_true rfl⟩ ⟨rfl, rfl⟩ ⟨Nat.zero_le _, Nat.zero_le _⟩ hrest hm rfl hC kk
theorem cs_X4_quietRolls_25 {a1 : Value} {x : Int32} {mem2 : xM} (hm : mem[r]? = some (.inr (4, fs))) (hrest : (st.map fun v => v.category).sum ≤ 8) (hC : Dt G kX4_passedBy [.ref r, a1] mem (some (.int x)) mem2) (kk : E G kX4_quietRolls R 0 0 mem2 28 loc (.int x :: st)) : E G kX4_quietRolls R 0 0 mem 25 loc (a1 :: .ref r :: st) := E_V1i (k := kX4_quietRolls) (k' := kX4_passedBy) dX4_quietRolls_25 rfl okX4_passedBy wiX4_passedBy wzX4_passedBy wl_X4_104 ⟨Nat.le_of_ble_eq_true rfl, Nat.le_of_ble_eq_true rfl⟩ ⟨rfl, rfl⟩ ⟨Nat.zero_le _, Nat.zero_le _⟩ hrest hm rfl hC kk
theorem cs_X4_rollsToTop_2 {a1 : Value} {x : Int32} {mem2 : xM} (hm : mem[r]? = some (.inr (4, fs))) (hrest : (st.map fun v => v.category).sum ≤ 8) (hC : Dt G kX4_isClimber [.ref r, a1] mem (some (.int x)) mem2) (kk : E G kX4_rollsToTop R 0 0 mem2 5 loc (.int x :: st)) : E G kX4_rollsToTop R 0 0 mem 2 loc (a1 :: .ref r :: st) := E_V1i (k := kX4_rollsToTop) (k' := kX4_isClimber) dX4_rollsToTop_2 rfl okX4_isClimber wiX4_isClimber wzX4_isClimber wl_X4_123 ⟨Nat.le_of_ble_eq_true rfl, Nat.le_of_ble_eq_true rfl⟩ ⟨rfl, rfl⟩ ⟨Nat.zero_le _, Nat.zero_le _⟩ hrest hm rfl hC kk
theorem cs_X4_rollsToTop_39 {a1 a2 : Value} {x : Int32} {mem2 : xM} (hm : mem[r]? = some (.inr (4, fs))) (hrest : (st.map fun v => v.category).sum ≤ 8) (hC : Dt G kX4_of [.ref r, a1, a2] mem (some (.int x)) mem2) (kk : E G kX4_rollsToTop R 0 0 mem2 42 loc (.int x :: st)) : E G kX4_rollsToTop R 0 0 mem 39 loc (a2 :: a1 :: .ref r :: st) := E_V2i (k := kX4_rollsToTop) (k' := kX4_of) dX4_rollsToTop_39 rfl okX4_of wiX4_of wzX4_of wl_X4_54 ⟨Nat.le_of_ble_eq_true rfl, Nat.le_of_ble_eq_true rfl⟩ ⟨rfl, rfl⟩ ⟨Nat.zero_le _, Nat.zero_le _⟩ hrest hm rfl hC kk
theorem cs_X4_rollsToTop_108 {a1 : Value} {x : Int32} {mem2 : xM} (hm : mem[r]? = some (.inr (4, fs))) (hrest : (st.map fun v => v.category).sum ≤ 8) (hC : Dt G kX4_carpetFrom [.ref r, a1] mem (some (.int x)) mem2) (kk : E G kX4_rollsToTop R 0 0 mem2 111 loc (.int x :: st)) : E G kX4_rollsToTop R 0 0 mem 108 loc (a1 :: .ref r :: st) := E_V1i (k := kX4_rollsToTop) (k' := kX4_carpetFrom) dX4_rollsToTop_108 rfl okX4_carpetFrom wiX4_carpetFrom wzX4_carpetFrom wl_X4_65 ⟨Nat.le_of_ble_eq_true rfl, Nat.le_of_ble_eq_true rfl⟩ ⟨rfl, rfl⟩ ⟨Nat.zero_le _, Nat.zero_le _⟩ hrest hm rfl hC kk
theorem cs_X4_rollsToTop_128 {a1 : Value} {x : Int32} {mem2 : xM} (hm : mem[r]? = some (.inr (4, fs))) (hrest : (st.map fun v => v.category).sum ≤ 8) (hC : Dt G kX4_lower [.ref r, a1] mem (some (.int x)) mem2) (kk : E G kX4_rollsToTop R 0 0 mem2 131 loc (.int x :: st)) : E G kX4_rollsToTop R 0 0 mem 128 loc (a1 :: .ref r :: st) := E_V1i (k := kX4_rollsToTop) (k' := kX4_lower) dX4_rollsToTop_128 rfl okX4_lower wiX4_lower wzX4_lower wl_X4_51 ⟨Nat.le_of_ble_eq_true rfl, Nat.le_of_ble_eq_true rfl⟩ ⟨rfl, rfl⟩ ⟨Nat.zero_le _, Nat.zero_le _⟩ hrest hm rfl hC kk
theorem cs_X4_append_5 {a1 a2 a3 : Value} {x : Int32} {mem2 : xM} (hrest : (st.map fun v => v.category).sum ≤ 8) (hC : Dt G kX4_in [a1, a2, a3] mem (some (.int x)) mem2) (kk : E G kX4_append R 0 0 mem2 8 loc (.int x :: st)) : E G kX4_append R 0 0 mem 5 loc (a3 :: a2 :: a1 :: st) := E_S3i (k := kX4_append) (k' := kX4_in) dX4_append_5 rfl okX4_in wsX4_in wl_X4_43 ⟨Nat.le_of_ble_eq_true rfl, Nat.le_of_ble_eq_true rfl⟩ ⟨rfl, rfl⟩ ⟨Nat.zero_le _, Nat.zero_le _⟩ hrest hC kk
theorem cs_X4_errorPosition_23 {mem2 : xM} (hm : mem[r]? = some (.inr (4, fs))) (hrest : (st.map fun v => v.category).sum ≤ 8) (hC : Dt G kX4_readMove [.ref r] mem (none) mem2) (kk : E G kX4_errorPosition R 0 0 mem2 26 loc (st)) : E G kX4_errorPosition R 0 0 mem 23 loc (.ref r :: st) := E_V0v (k := kX4_errorPosition) (k' := kX4_readMove) dX4_errorPosition_23 rfl okX4_readMove wiX4_readMove wzX4_readMove wl_X4_166 ⟨Nat.le_of_ble_eq_true rfl, Nat.le_of_ble_eq_true rfl⟩ ⟨rfl, rfl⟩ ⟨Nat.zero_le _, Nat.zero_le _⟩ hrest hm rfl hC kk
theorem cs_X4_errorPosition_58 {x : Int32} {mem2 : xM} (hm : mem[r]? = some (.inr (4, fs))) (hrest : (st.map fun v => v.category).sum ≤ 8) (hC : Dt G kX4_letter [.ref r] mem (some (.int x)) mem2) (kk : E G kX4_errorPosition R 0 0 mem2 61 loc (.int x :: st)) : E G kX4_errorPosition R 0 0 mem 58 loc (.ref r :: st) := E_V0i (k := kX4_errorPosition) (k' := kX4_letter) dX4_errorPosition_58 rfl okX4_letter wiX4_letter wzX4_letter wl_X4_153 ⟨Nat.le_of_ble_eq_true rfl, Nat.le_of_ble_eq_true rfl⟩ ⟨rfl, rfl⟩ ⟨Nat.zero_le _, Nat.zero_le _⟩ hrest hm rfl hC kk
theorem cs_X4_errorPosition_71 {a1 : Value} {mem2 : xM} (hm : mem[r]? = some (.inr (4, fs))) (hrest : (st.map fun v => v.category).sum ≤ 8) (hC : Dt G kX4_wants [.ref r, a1] mem (none) mem2) (kk : E G kX4_errorPosition R 0 0 mem2 74 loc (st)) : E G kX4_errorPosition R 0 0 mem 71 loc (a1 :: .ref r :: st) := E_V1v (k := kX4_errorPosition) (k' := kX4_wants) dX4_errorPosition_71 rfl okX4_wants wiX4_wants wzX4_wants wl_X4_156 ⟨Nat.le_of_ble_eq_true rfl, Nat.le_of_ble_eq_true rfl⟩ ⟨rfl, rfl⟩ ⟨Nat.zero_le _, Nat.zero_le _⟩ hrest hm rfl hC kk
theorem cs_X4_readMove_1 {x : Int32} {mem2 : xM} (hm : mem[r]? = some (.inr (4, fs))) (hrest : (st.map fun v => v.category).sum ≤ 8) (hC : Dt G kX4_letter [.ref r] mem (some (.int x)) mem2) (kk : E G kX4_readMove R 0 0 mem2 4 loc (.int x :: st)) : E G kX4_readMove R 0 0 mem 1 loc (.ref r :: st) := E_V0i (k := kX4_readMove) (k' := kX4_letter) dX4_readMove_1 rfl okX4_letter wiX4_letter wzX4_letter wl_X4_153 ⟨Nat.le_of_ble_eq_true rfl, Nat.le_of_ble_eq_true rfl⟩ ⟨rfl, rfl⟩ ⟨Nat.zero_le _, Nat.zero_le _⟩ hrest hm rfl hC kk
theorem cs_X4_readMove_11 {a1 a2 a3 : Value} {x : Int32} {mem2 : xM} (hrest : (st.map fun v => v.category).sum ≤ 8) (hC : Dt G kX4_in [a1, a2, a3] mem (some (.int x)) mem2) (kk : E G kX4_readMove R 0 0 mem2 14 loc (.int x :: st)) : E G kX4_readMove R 0 0 mem 11 loc (a3 :: a2 :: a1 :: st) := E_S3i (k := kX4_readMove) (k' := kX4_in) dX4_readMove_11 rfl okX4_in wsX4_in wl_X4_43 ⟨Nat.le_of_ble_eq_true rfl, Nat.le_of_ble_eq_true rfl⟩ ⟨rfl, rfl⟩ ⟨Nat.zero_le _, Nat.zero_le _⟩ hrest hC kk
theorem cs_X4_readMove_46 {a1 : Value} {mem2 : xM} (hm : mem[r]? = some (.inr (4, fs))) (hrest : (st.map fun v => v.category).sum ≤ 8) (hC : Dt G kX4_wants [.ref r, a1] mem (none) mem2) (kk : E G kX4_readMove R 0 0 mem2 49 loc (st)) : E G kX4_readMove R 0 0 mem 46 loc (a1 :: .ref r :: st) := E_V1v (k := kX4_readMove) (k' := kX4_wants) dX4_readMove_46 rfl okX4_wants wiX4_wants wzX4_wants wl_X4_156 ⟨Nat.le_of_ble_eq_true rfl, Nat.le_of_ble_eq_true rfl⟩ ⟨rfl, rfl⟩ ⟨Nat.zero_le _, Nat.zero_le _⟩ hrest hm rfl hC kk
theorem cs_X4_readMove_83 {x : Int32} {mem2 : xM} (hm : mem[r]? = some (.inr (4, fs))) (hrest : (st.map fun v => v.category).sum ≤ 8) (hC : Dt G kX4_number [.ref r] mem (some (.int x)) mem2) (kk : E G kX4_readMove R 0 0 mem2 86 loc (.int x :: st)) : E G kX4_readMove R 0 0 mem 83 loc (.ref r :: st) := E_V0i (k := kX4_readMove) (k' := kX4_number) dX4_readMove_83 rfl okX4_number wiX4_number wzX4_number wl_X4_163 ⟨Nat.le_of_ble_eq_true rfl, Nat.le_of_ble_eq_true rfl⟩ ⟨rfl, rfl⟩ ⟨Nat.zero_le _, Nat.zero_le _⟩ hrest hm rfl hC kk
theorem cs_X4_readMove_95 {x : Int32} {mem2 : xM} (hm : mem[r]? = some (.inr (4, fs))) (hrest : (st.map fun v => v.category).sum ≤ 8) (hC : Dt G kX4_letter [.ref r] mem (some (.int x)) mem2) (kk : E G kX4_readMove R 0 0 mem2 98 loc (.int x :: st)) : E G kX4_readMove R 0 0 mem 95 loc (.ref r :: st) := E_V0i (k := kX4_readMove) (k' := kX4_letter) dX4_readMove_95 rfl okX4_letter wiX4_letter wzX4_letter wl_X4_153 ⟨Nat.le_of_ble_eq_true rfl, Nat.le_of_ble_eq_true rfl⟩ ⟨rfl, rfl⟩ ⟨Nat.zero_le _, Nat.zero_le _⟩ hrest hm rfl hC kk
theorem cs_X4_readMove_108 {a1 : Value} {mem2 : xM} (hm : mem[r]? = some (.inr (4, fs))) (hrest : (st.map fun v => v.category).sum ≤ 8) (hC : Dt G kX4_wants [.ref r, a1] mem (none) mem2) (kk : E G kX4_readMove R 0 0 mem2 111 loc (st)) : E G kX4_readMove R 0 0 mem 108 loc (a1 :: .ref r :: st) := E_V1v (k := kX4_readMove) (k' := kX4_wants) dX4_readMove_108 rfl okX4_wants wiX4_wants wzX4_wants wl_X4_156 ⟨Nat.le_of_ble_eq_true rfl, Nat.le_of_ble_eq_true rfl⟩ ⟨rfl, rfl⟩ ⟨Nat.zero_le _, Nat.zero_le _⟩ hrest hm rfl hC kk
theorem cs_X4_readMove_119 {x : Int32} {mem2 : xM} (hm : mem[r]? = some (.inr (4, fs))) (hrest : (st.map fun v => v.category).sum ≤ 8) (hC : Dt G kX4_number [.ref r] mem (some (.int x)) mem2) (kk : E G kX4_readMove R 0 0 mem2 122 loc (.int x :: st)) : E G kX4_readMove R 0 0 mem 119 loc (.ref r :: st) := E_V0i (k := kX4_readMove) (k' := kX4_number) dX4_readMove_119 rfl okX4_number wiX4_number wzX4_number wl_X4_163 ⟨Nat.le_of_ble_eq_true rfl, Nat.le_of_ble_eq_true rfl⟩ ⟨rfl, rfl⟩ ⟨Nat.zero_le _, Nat.zero_le _⟩ hrest hm rfl hC kk
theorem cs_X4_number_1 {x : Int32} {mem2 : xM} (hm : mem[r]? = some (.inr (4, fs))) (hrest : (st.map fun v => v.category).sum ≤ 8) (hC : Dt G kX4_letter [.ref r] mem (some (.int x)) mem2) (kk : E G kX4_number R 0 0 mem2 4 loc (.int x :: st)) : E G kX4_number R 0 0 mem 1 loc (.ref r :: st) := E_V0i (k := kX4_number) (k' := kX4_letter) dX4_number_1 rfl okX4_letter wiX4_letter wzX4_letter wl_X4_153 ⟨Nat.le_of_ble_eq_true rfl, Nat.le_of_ble_eq_true rfl⟩ ⟨rfl, rfl⟩ ⟨Nat.zero_le _, Nat.zero_le _⟩ hrest hm rfl hC kk
theorem cs_X4_number_13 {a1 a2 a3 : Value} {x : Int32} {mem2 : xM} (hrest : (st.map fun v => v.category).sum ≤ 8) (hC : Dt G kX4_in [a1, a2, a3] mem (some (.int x)) mem2) (kk : E G kX4_number R 0 0 mem2 16 loc (.int x :: st)) : E G kX4_number R 0 0 mem 13 loc (a3 :: a2 :: a1 :: st) := E_S3i (k := kX4_number) (k' := kX4_in) dX4_number_13 rfl okX4_in wsX4_in wl_X4_43 ⟨Nat.le_of_ble_eq_true rfl, Nat.le_of_ble_eq_true rfl⟩ ⟨rfl, rfl⟩ ⟨Nat.zero_le _, Nat.zero_le _⟩ hrest hC kk
theorem cs_X4_number_16 {a1 : Value} {mem2 : xM} (hm : mem[r]? = some (.inr (4, fs))) (hrest : (st.map fun v => v.category).sum ≤ 8) (hC : Dt G kX4_wants [.ref r, a1] mem (none) mem2) (kk : E G kX4_number R 0 0 mem2 19 loc (st)) : E G kX4_number R 0 0 mem 16 loc (a1 :: .ref r :: st) := E_V1v (k := kX4_number) (k' := kX4_wants) dX4_number_16 rfl okX4_wants wiX4_wants wzX4_wants wl_X4_156 ⟨Nat.le_of_ble_eq_true rfl, Nat.le_of_ble_eq_true rfl⟩ ⟨rfl, rfl⟩ ⟨Nat.zero_le _, Nat.zero_le _⟩ hrest hm rfl hC kk
theorem cs_X4_number_20 {x : Int32} {mem2 : xM} (hm : mem[r]? = some (.inr (4, fs))) (hrest : (st.map fun v => v.category).sum ≤ 8) (hC : Dt G kX4_letter [.ref r] mem (some (.int x)) mem2) (kk : E G kX4_number R 0 0 mem2 23 loc (.int x :: st)) : E G kX4_number R 0 0 mem 20 loc (.ref r :: st) := E_V0i (k := kX4_number) (k' := kX4_letter) dX4_number_20 rfl okX4_letter wiX4_letter wzX4_letter wl_X4_153 ⟨Nat.le_of_ble_eq_true rfl, Nat.le_of_ble_eq_true rfl⟩ ⟨rfl, rfl⟩ ⟨Nat.zero_le _, Nat.zero_le _⟩ hrest hm rfl hC kk
theorem cs_X4_number_44 {a1 a2 a3 : Value} {x : Int32} {mem2 : xM} (hrest : (st.map fun v => v.category).sum ≤ 8) (hC : Dt G kX4_in [a1, a2, a3] mem (some (.int x)) mem2) (kk : E G kX4_number R 0 0 mem2 47 loc (.int x :: st)) : E G kX4_number R 0 0 mem 44 loc (a3 :: a2 :: a1 :: st) := E_S3i (k := kX4_number) (k' := kX4_in) dX4_number_44 rfl okX4_in wsX4_in wl_X4_43 ⟨Nat.le_of_ble_eq_true rfl, Nat.le_of_ble_eq_true rfl⟩ ⟨rfl, rfl⟩ ⟨Nat.zero_le _, Nat.zero_le _⟩ hrest hC kk
theorem cs_X4_play_1 {x : Int32} {mem2 : xM} (hm : mem[r]? = some (.inr (4, fs))) (hrest : (st.map fun v => v.category).sum ≤ 8) (hC : Dt G kX4_errorPosition [.ref r] mem (some (.int x)) mem2) (kk : E G kX4_play R 0 0 mem2 4 loc (.int x :: st)) : E G kX4_play R 0 0 mem 1 loc (.ref r :: st) := E_V0i (k := kX4_play) (k' := kX4_errorPosition) dX4_play_1 rfl okX4_errorPosition wiX4_errorPosition wzX4_errorPosition wl_X4_169 ⟨Nat.le_of_ble_eq_true rfl, Nat.le_of_ble_eq_true rfl⟩ ⟨rfl, rfl⟩ ⟨Nat.zero_le _, Nat.zero_le _⟩ hrest hm rfl hC kk
theorem cs_X4_play_13 {mem2 : xM} (hm : mem[r]? = some (.inr (4, fs))) (hrest : (st.map fun v => v.category).sum ≤ 8) (hC : Dt G kX4_record [.ref r] mem (none) mem2) (kk : E G kX4_play R 0 0 mem2 16 loc (st)) : E G kX4_play R 0 0 mem 13 loc (.ref r :: st) := E_V0v (k := kX4_play) (k' := kX4_record) dX4_play_13 rfl okX4_record wiX4_record wzX4_record wl_X4_40 ⟨Nat.le_of_ble_eq_true rfl, Nat.le_of_ble_eq_true rfl⟩ ⟨rfl, rfl⟩ ⟨Nat.zero_le _, Nat.zero_le _⟩ hrest hm rfl hC kk
theorem cs_X4_play_30 {a1 : Value} {x : Int32} {mem2 : xM} (hm : mem[r]? = some (.inr (4, fs))) (hrest : (st.map fun v => v.category).sum ≤ 8) (hC : Dt G kX4_makeOne [.ref r, a1] mem (some (.int x)) mem2) (kk : E G kX4_play R 0 0 mem2 33 loc (.int x :: st)) : E G kX4_play R 0 0 mem 30 loc (a1 :: .ref r :: st) := E_V1i (k := kX4_play) (k' := kX4_makeOne) dX4_play_30 rfl okX4_makeOne wiX4_makeOne wzX4_makeOne wl_X4_172 ⟨Nat.le_of_ble_eq_true rfl, Nat.le_of_ble_eq_true rfl⟩ ⟨rfl, rfl⟩ ⟨Nat.zero_le _, Nat.zero_le _⟩ hrest hm rfl hC kk
theorem cs_X4_makeOne_91 {mem2 : xM} (hm : mem[r]? = some (.inr (4, fs))) (hrest : (st.map fun v => v.category).sum ≤ 8) (hC : Dt G kX4_nextMover [.ref r] mem (none) mem2) (kk : E G kX4_makeOne R 0 0 mem2 94 loc (st)) : E G kX4_makeOne R 0 0 mem 91 loc (.ref r :: st) := E_V0v (k := kX4_makeOne) (k' := kX4_nextMover) dX4_makeOne_91 rfl okX4_nextMover wiX4_nextMover wzX4_nextMover wl_X4_114 ⟨Nat.le_of_ble_eq_true rfl, Nat.le_of_ble_eq_true rfl⟩ ⟨rfl, rfl⟩ ⟨Nat.zero_le _, Nat.zero_le _⟩ hrest hm rfl hC kk
theorem cs_X4_makeOne_122 {x : Int32} {mem2 : xM} (hm : mem[r]? = some (.inr (4, fs))) (hrest : (st.map fun v => v.category).sum ≤ 8) (hC : Dt G kX4_joins [.ref r] mem (some (.int x)) mem2) (kk : E G kX4_makeOne R 0 0 mem2 125 loc (.int x :: st)) : E G kX4_makeOne R 0 0 mem 122 loc (.ref r :: st) := E_V0i (k := kX4_makeOne) (k' := kX4_joins) dX4_makeOne_122 rfl okX4_joins wiX4_joins wzX4_joins wl_X4_97 ⟨Nat.le_of_ble_eq_true rfl, Nat.le_of_ble_eq_true rfl⟩ ⟨rfl, rfl⟩ ⟨Nat.zero_le _, Nat.zero_le _⟩ hrest hm rfl hC kk
theorem cs_X4_makeOne_132 {a1 a2 : Value} {x : Int32} {mem2 : xM} (hm : mem[r]? = some (.inr (4, fs))) (hrest : (st.map fun v => v.category).sum ≤ 8) (hC : Dt G kX4_whyNotLay [.ref r, a1, a2] mem (some (.int x)) mem2) (kk : E G kX4_makeOne R 0 0 mem2 135 loc (.int x :: st)) : E G kX4_makeOne R 0 0 mem 132 loc (a2 :: a1 :: .ref r :: st) := E_V2i (k := kX4_makeOne) (k' := kX4_whyNotLay) dX4_makeOne_132 rfl okX4_whyNotLay wiX4_whyNotLay wzX4_whyNotLay wl_X4_74 ⟨Nat.le_of_ble_eq_true rfl, Nat.le_of_ble_eq_true rfl⟩ ⟨rfl, rfl⟩ ⟨Nat.zero_le _, Nat.zero_le _⟩ hrest hm rfl hC kk
theorem cs_X4_makeOne_145 {a1 a2 : Value} {x : Int32} {mem2 : xM} (hm : mem[r]? = some (.inr (4, fs))) (hrest : (st.map fun v => v.category).sum ≤ 8) (hC : Dt G kX4_laysCarpet [.ref r, a1, a2] mem (some (.int x)) mem2) (kk : E G kX4_makeOne R 0 0 mem2 148 loc (.int x :: st)) : E G kX4_makeOne R 0 0 mem 145 loc (a2 :: a1 :: .ref r :: st) := E_V2i (k := kX4_makeOne) (k' := kX4_laysCarpet) dX4_makeOne_145 rfl okX4_laysCarpet wiX4_laysCarpet wzX4_laysCarpet wl_X4_77 ⟨Nat.le_of_ble_eq_true rfl, Nat.le_of_ble_eq_true rfl⟩ ⟨rfl, rfl⟩ ⟨Nat.zero_le _, Nat.zero_le _⟩ hrest hm rfl hC kk
theorem cs_X4_makeOne_154 {a1 : Value} {x : Int32} {mem2 : xM} (hm : mem[r]? = some (.inr (4, fs))) (hrest : (st.map fun v => v.category).sum ≤ 8) (hC : Dt G kX4_whyNotPut [.ref r, a1] mem (some (.int x)) mem2) (kk : E G kX4_makeOne R 0 0 mem2 157 loc (.int x :: st)) : E G kX4_makeOne R 0 0 mem 154 loc (a1 :: .ref r :: st) := E_V1i (k := kX4_makeOne) (k' := kX4_whyNotPut) dX4_makeOne_154 rfl okX4_whyNotPut wiX4_whyNotPut wzX4_whyNotPut wl_X4_84 ⟨Nat.le_of_ble_eq_true rfl, Nat.le_of_ble_eq_true rfl⟩ ⟨rfl, rfl⟩ ⟨Nat.zero_le _, Nat.zero_le _⟩ hrest hm rfl hC kk
theorem cs_X4_makeOne_166 {a1 : Value} {x : Int32} {mem2 : xM} (hm : mem[r]? = some (.inr (4, fs))) (hrest : (st.map fun v => v.category).sum ≤ 8) (hC : Dt G kX4_puts [.ref r, a1] mem (some (.int x)) mem2) (kk : E G kX4_makeOne R 0 0 mem2 169 loc (.int x :: st)) : E G kX4_makeOne R 0 0 mem 166 loc (a1 :: .ref r :: st) := E_V1i (k := kX4_makeOne) (k' := kX4_puts) dX4_makeOne_166 rfl okX4_puts wiX4_puts wzX4_puts wl_X4_87 ⟨Nat.le_of_ble_eq_true rfl, Nat.le_of_ble_eq_true rfl⟩ ⟨rfl, rfl⟩ ⟨Nat.zero_le _, Nat.zero_le _⟩ hrest hm rfl hC kk
theorem cs_X4_makeOne_183 {a1 : Value} {x : Int32} {mem2 : xM} (hm : mem[r]? = some (.inr (4, fs))) (hrest : (st.map fun v => v.category).sum ≤ 8) (hC : Dt G kX4_whyNotRoll [.ref r, a1] mem (some (.int x)) mem2) (kk : E G kX4_makeOne R 0 0 mem2 186 loc (.int x :: st)) : E G kX4_makeOne R 0 0 mem 183 loc (a1 :: .ref r :: st) := E_V1i (k := kX4_makeOne) (k' := kX4_whyNotRoll) dX4_makeOne_183 rfl okX4_whyNotRoll wiX4_whyNotRoll wzX4_whyNotRoll wl_X4_117 ⟨Nat.le_of_ble_eq_true rfl, Nat.le_of_ble_eq_true rfl⟩ ⟨rfl, rfl⟩ ⟨Nat.zero_le _, Nat.zero_le _⟩ hrest hm rfl hC kk
theorem cs_X4_makeOne_203 {a1 : Value} {x : Int32} {mem2 : xM} (hm : mem[r]? = some (.inr (4, fs))) (hrest : (st.map fun v => v.category).sum ≤ 8) (hC : Dt G kX4_rolls [.ref r, a1] mem (some (.int x)) mem2) (kk : E G kX4_makeOne R 0 0 mem2 206 loc (.int x :: st)) : E G kX4_makeOne R 0 0 mem 203 loc (a1 :: .ref r :: st) := E_V1i (k := kX4_makeOne) (k' := kX4_rolls) dX4_makeOne_203 rfl okX4_rolls wiX4_rolls wzX4_rolls wl_X4_120 ⟨Nat.le_of_ble_eq_true rfl, Nat.le_of_ble_eq_true rfl⟩ ⟨rfl, rfl⟩ ⟨Nat.zero_le _, Nat.zero_le _⟩ hrest hm rfl hC kk
theorem cs_L_law_4 {mem2 : xM} (hrest : (st.map fun v => v.category).sum ≤ 8) (hcs : ce + 85 ≤ 600000 ∧ sl + 1590 ≤ 7302250) (hC : Dt G kX3_init [.ref r] mem (none) mem2) (kk : E G kL_law R (ce + 85) (sl + 1590) mem2 7 loc (st)) : E G kL_law R ce sl mem 4 loc (.ref r :: st) := E_I0v (k := kL_law) (k' := kX3_init) dL_law_4 rfl okX3_init rfl rfl wiX3_init wl_L_9 ⟨Nat.le_of_ble_eq_true rfl, Nat.le_of_ble_eq_true rfl⟩ hcs hrest hC kk
theorem cs_L_law_12 {mem2 : xM} (hrest : (st.map fun v => v.category).sum ≤ 8) (hcs : ce + 7 ≤ 600000 ∧ sl + 1158 ≤ 7302250) (hC : Dt G kX4_init [.ref r] mem (none) mem2) (kk : E G kL_law R (ce + 7) (sl + 1158) mem2 15 loc (st)) : E G kL_law R ce sl mem 12 loc (.ref r :: st) := E_I0v (k := kL_law) (k' := kX4_init) dL_law_12 rfl okX4_init rfl rfl wiX4_init wl_L_12 ⟨Nat.le_of_ble_eq_true rfl, Nat.le_of_ble_eq_true rfl⟩ hcs hrest hC kk
theorem cs_L_law_154 {a1 : Value} {x : Int32} {mem2 : xM} (hm : mem[r]? = some (.inr (3, fs))) (hrest : (st.map fun v => v.category).sum ≤ 8) (hcs : ce ≤ 600000 ∧ sl ≤ 7302250) (hC : Dt G kX3_setTop [.ref r, a1] mem (some (.int x)) mem2) (kk : E G kL_law R ce sl mem2 157 loc (.int x :: st)) : E G kL_law R ce sl mem 154 loc (a1 :: .ref r :: st) := E_V1i (k := kL_law) (k' := kX3_setTop) dL_law_154 rfl okX3_setTop wiX3_setTop wzX3_setTop wl_L_13 ⟨Nat.le_of_ble_eq_true rfl, Nat.le_of_ble_eq_true rfl⟩ ⟨rfl, rfl⟩ hcs hrest hm rfl hC kk
theorem cs_L_law_163 {a1 : Value} {x : Int32} {mem2 : xM} (hm : mem[r]? = some (.inr (4, fs))) (hrest : (st.map fun v => v.category).sum ≤ 8) (hcs : ce ≤ 600000 ∧ sl ≤ 7302250) (hC : Dt G kX4_setTop [.ref r, a1] mem (some (.int x)) mem2) (kk : E G kL_law R ce sl mem2 166 loc (.int x :: st)) : E G kL_law R ce sl mem 163 loc (a1 :: .ref r :: st) := E_V1i (k := kL_law) (k' := kX4_setTop) dL_law_163 rfl okX4_setTop wiX4_setTop wzX4_setTop wl_L_17 ⟨Nat.le_of_ble_eq_true rfl, Nat.le_of_ble_eq_true rfl⟩ ⟨rfl, rfl⟩ hcs hrest hm rfl hC kk
theorem cs_L_law_182 {a1 a2 : Value} {x : Int32} {mem2 : xM} (hm : mem[r]? = some (.inr (3, fs))) (hrest : (st.map fun v => v.category).sum ≤ 8) (hcs : ce ≤ 600000 ∧ sl ≤ 7302250) (hC : Dt G kX3_lay [.ref r, a1, a2] mem (some (.int x)) mem2) (kk : E G kL_law R ce sl mem2 185 loc (.int x :: st)) : E G kL_law R ce sl mem 182 loc (a2 :: a1 :: .ref r :: st) := E_V2i (k := kL_law) (k' := kX3_lay) dL_law_182 rfl okX3_lay wiX3_lay wzX3_lay wl_L_18 ⟨Nat.le_of_ble_eq_true rfl, Nat.le_of_ble_eq_true rfl⟩ ⟨rfl, rfl⟩ hcs hrest hm rfl hC kk
theorem cs_L_law_196 {a1 a2 : Value} {x : Int32} {mem2 : xM} (hm : mem[r]? = some (.inr (4, fs))) (hrest : (st.map fun v => v.category).sum ≤ 8) (hcs : ce ≤ 600000 ∧ sl ≤ 7302250) (hC : Dt G kX4_lay [.ref r, a1, a2] mem (some (.int x)) mem2) (kk : E G kL_law R ce sl mem2 199 loc (.int x :: st)) : E G kL_law R ce sl mem 196 loc (a2 :: a1 :: .ref r :: st) := E_V2i (k := kL_law) (k' := kX4_lay) dL_law_196 rfl okX4_lay wiX4_lay wzX4_lay wl_L_22 ⟨Nat.le_of_ble_eq_true rfl, Nat.le_of_ble_eq_true rfl⟩ ⟨rfl, rfl⟩ hcs hrest hm rfl hC kk
theorem cs_L_law_210 {a1 : Value} {x : Int32} {mem2 : xM} (hm : mem[r]? = some (.inr (3, fs))) (hrest : (st.map fun v => v.category).sum ≤ 8) (hcs : ce ≤ 600000 ∧ sl ≤ 7302250) (hC : Dt G kX3_take [.ref r, a1] mem (some (.int x)) mem2) (kk : E G kL_law R ce sl mem2 213 loc (.int x :: st)) : E G kL_law R ce sl mem 210 loc (a1 :: .ref r :: st) := E_V1i (k := kL_law) (k' := kX3_take) dL_law_210 rfl okX3_take wiX3_take wzX3_take wl_L_23 ⟨Nat.le_of_ble_eq_true rfl, Nat.le_of_ble_eq_true rfl⟩ ⟨rfl, rfl⟩ hcs hrest hm rfl hC kk
theorem cs_L_law_219 {a1 : Value} {x : Int32} {mem2 : xM} (hm : mem[r]? = some (.inr (4, fs))) (hrest : (st.map fun v => v.category).sum ≤ 8) (hcs : ce ≤ 600000 ∧ sl ≤ 7302250) (hC : Dt G kX4_take [.ref r, a1] mem (some (.int x)) mem2) (kk : E G kL_law R ce sl mem2 222 loc (.int x :: st)) : E G kL_law R ce sl mem 219 loc (a1 :: .ref r :: st) := E_V1i (k := kL_law) (k' := kX4_take) dL_law_219 rfl okX4_take wiX4_take wzX4_take wl_L_26 ⟨Nat.le_of_ble_eq_true rfl, Nat.le_of_ble_eq_true rfl⟩ ⟨rfl, rfl⟩ hcs hrest hm rfl hC kk
theorem cs_L_law_233 {a1 : Value} {x : Int32} {mem2 : xM} (hm : mem[r]? = some (.inr (3, fs))) (hrest : (st.map fun v => v.category).sum ≤ 8) (hcs : ce ≤ 600000 ∧ sl ≤ 7302250) (hC : Dt G kX3_put [.ref r, a1] mem (some (.int x)) mem2) (kk : E G kL_law R ce sl mem2 236 loc (.int x :: st)) : E G kL_law R ce sl mem 233 loc (a1 :: .ref r :: st) := E_V1i (k := kL_law) (k' := kX3_put) dL_law_233 rfl okX3_put wiX3_put wzX3_put wl_L_27 ⟨Nat.le_of_ble_eq_true rfl, Nat.le_of_ble_eq_true rfl⟩ ⟨rfl, rfl⟩ hcs hrest hm rfl hC kk
theorem cs_L_law_242 {a1 : Value} {x : Int32} {mem2 : xM} (hm : mem[r]? = some (.inr (4, fs))) (hrest : (st.map fun v => v.category).sum ≤ 8) (hcs : ce ≤ 600000 ∧ sl ≤ 7302250) (hC : Dt G kX4_put [.ref r, a1] mem (some (.int x)) mem2) (kk : E G kL_law R ce sl mem2 245 loc (.int x :: st)) : E G kL_law R ce sl mem 242 loc (a1 :: .ref r :: st) := E_V1i (k := kL_law) (k' := kX4_put) dL_law_242 rfl okX4_put wiX4_put wzX4_put wl_L_30 ⟨Nat.le_of_ble_eq_true rfl, Nat.le_of_ble_eq_true rfl⟩ ⟨rfl, rfl⟩ hcs hrest hm rfl hC kk
theorem cs_L_law_256 {a1 : Value} {x : Int32} {mem2 : xM} (hm : mem[r]? = some (.inr (3, fs))) (hrest : (st.map fun v => v.category).sum ≤ 8) (hcs : ce ≤ 600000 ∧ sl ≤ 7302250) (hC : Dt G kX3_remove [.ref r, a1] mem (some (.int x)) mem2) (kk : E G kL_law R ce sl mem2 259 loc (.int x :: st)) : E G kL_law R ce sl mem 256 loc (a1 :: .ref r :: st) := E_V1i (k := kL_law) (k' := kX3_remove) dL_law_256 rfl okX3_remove wiX3_remove wzX3_remove wl_L_31 ⟨Nat.le_of_ble_eq_true rfl, Nat.le_of_ble_eq_true rfl⟩ ⟨rfl, rfl⟩ hcs hrest hm rfl hC kk
theorem cs_L_law_265 {a1 : Value} {x : Int32} {mem2 : xM} (hm : mem[r]? = some (.inr (4, fs))) (hrest : (st.map fun v => v.category).sum ≤ 8) (hcs : ce ≤ 600000 ∧ sl ≤ 7302250) (hC : Dt G kX4_remove [.ref r, a1] mem (some (.int x)) mem2) (kk : E G kL_law R ce sl mem2 268 loc (.int x :: st)) : E G kL_law R ce sl mem 265 loc (a1 :: .ref r :: st) := E_V1i (k := kL_law) (k' := kX4_remove) dL_law_265 rfl okX4_remove wiX4_remove wzX4_remove wl_L_34 ⟨Nat.le_of_ble_eq_true rfl, Nat.le_of_ble_eq_true rfl⟩ ⟨rfl, rfl⟩ hcs hrest hm rfl hC kk
theorem cs_L_law_274 {x : Int32} {mem2 : xM} (hm : mem[r]? = some (.inr (3, fs))) (hrest : (st.map fun v => v.category).sum ≤ 8) (hcs : ce ≤ 600000 ∧ sl ≤ 7302250) (hC : Dt G kX3_join [.ref r] mem (some (.int x)) mem2) (kk : E G kL_law R ce sl mem2 277 loc (.int x :: st)) : E G kL_law R ce sl mem 274 loc (.ref r :: st) := E_V0i (k := kL_law) (k' := kX3_join) dL_law_274 rfl okX3_join wiX3_join wzX3_join wl_L_35 ⟨Nat.le_of_ble_eq_true rfl, Nat.le_of_ble_eq_true rfl⟩ ⟨rfl, rfl⟩ hcs hrest hm rfl hC kk
theorem cs_L_law_278 {x : Int32} {mem2 : xM} (hm : mem[r]? = some (.inr (4, fs))) (hrest : (st.map fun v => v.category).sum ≤ 8) (hcs : ce ≤ 600000 ∧ sl ≤ 7302250) (hC : Dt G kX4_join [.ref r] mem (some (.int x)) mem2) (kk : E G kL_law R ce sl mem2 281 loc (.int x :: st)) : E G kL_law R ce sl mem 278 loc (.ref r :: st) := E_V0i (k := kL_law) (k' := kX4_join) dL_law_278 rfl okX4_join wiX4_join wzX4_join wl_L_39 ⟨Nat.le_of_ble_eq_true rfl, Nat.le_of_ble_eq_true rfl⟩ ⟨rfl, rfl⟩ hcs hrest hm rfl hC kk
theorem cs_L_law_292 {a1 : Value} {x : Int32} {mem2 : xM} (hm : mem[r]? = some (.inr (3, fs))) (hrest : (st.map fun v => v.category).sum ≤ 8) (hcs : ce ≤ 600000 ∧ sl ≤ 7302250) (hC : Dt G kX3_roll [.ref r, a1] mem (some (.int x)) mem2) (kk : E G kL_law R ce sl mem2 295 loc (.int x :: st)) : E G kL_law R ce sl mem 292 loc (a1 :: .ref r :: st) := E_V1i (k := kL_law) (k' := kX3_roll) dL_law_292 rfl okX3_roll wiX3_roll wzX3_roll wl_L_40 ⟨Nat.le_of_ble_eq_true rfl, Nat.le_of_ble_eq_true rfl⟩ ⟨rfl, rfl⟩ hcs hrest hm rfl hC kk
theorem cs_L_law_301 {a1 : Value} {x : Int32} {mem2 : xM} (hm : mem[r]? = some (.inr (4, fs))) (hrest : (st.map fun v => v.category).sum ≤ 8) (hcs : ce ≤ 600000 ∧ sl ≤ 7302250) (hC : Dt G kX4_roll [.ref r, a1] mem (some (.int x)) mem2) (kk : E G kL_law R ce sl mem2 304 loc (.int x :: st)) : E G kL_law R ce sl mem 301 loc (a1 :: .ref r :: st) := E_V1i (k := kL_law) (k' := kX4_roll) dL_law_301 rfl okX4_roll wiX4_roll wzX4_roll wl_L_43 ⟨Nat.le_of_ble_eq_true rfl, Nat.le_of_ble_eq_true rfl⟩ ⟨rfl, rfl⟩ hcs hrest hm rfl hC kk
theorem cs_L_law_310 {x : Int32} {mem2 : xM} (hm : mem[r]? = some (.inr (3, fs))) (hrest : (st.map fun v => v.category).sum ≤ 8) (hcs : ce ≤ 600000 ∧ sl ≤ 7302250) (hC : Dt G kX3_pass [.ref r] mem (some (.int x)) mem2) (kk : E G kL_law R ce sl mem2 313 loc (.int x :: st)) : E G kL_law R ce sl mem 310 loc (.ref r :: st) := E_V0i (k := kL_law) (k' := kX3_pass) dL_law_310 rfl okX3_pass wiX3_pass wzX3_pass wl_L_44 ⟨Nat.le_of_ble_eq_true rfl, Nat.le_of_ble_eq_true rfl⟩ ⟨rfl, rfl⟩ hcs hrest hm rfl hC kk
theorem cs_L_law_314 {x : Int32} {mem2 : xM} (hm : mem[r]? = some (.inr (4, fs))) (hrest : (st.map fun v => v.category).sum ≤ 8) (hcs : ce ≤ 600000 ∧ sl ≤ 7302250) (hC : Dt G kX4_pass [.ref r] mem (some (.int x)) mem2) (kk : E G kL_law R ce sl mem2 317 loc (.int x :: st)) : E G kL_law R ce sl mem 314 loc (.ref r :: st) := E_V0i (k := kL_law) (k' := kX4_pass) dL_law_314 rfl okX4_pass wiX4_pass wzX4_pass wl_L_47 ⟨Nat.le_of_ble_eq_true rfl, Nat.le_of_ble_eq_true rfl⟩ ⟨rfl, rfl⟩ hcs hrest hm rfl hC kk
theorem cs_L_law_333 {a1 a2 : Value} {x : Int32} {mem2 : xM} (hm : mem[r]? = some (.inr (3, fs))) (hrest : (st.map fun v => v.category).sum ≤ 8) (hcs : ce ≤ 600000 ∧ sl ≤ 7302250) (hC : Dt G kX3_climber [.ref r, a1, a2] mem (some (.int x)) mem2) (kk : E G kL_law R ce sl mem2 336 loc (.int x :: st)) : E G kL_law R ce sl mem 333 loc (a2 :: a1 :: .ref r :: st) := E_V2i (k := kL_law) (k' := kX3_climber) dL_law_333 rfl okX3_climber wiX3_climber wzX3_climber wl_L_48 ⟨Nat.le_of_ble_eq_true rfl, Nat.le_of_ble_eq_true rfl⟩ ⟨rfl, rfl⟩ hcs hrest hm rfl hC kk
theorem cs_L_law_347 {a1 a2 : Value} {x : Int32} {mem2 : xM} (hm : mem[r]? = some (.inr (4, fs))) (hrest : (st.map fun v => v.category).sum ≤ 8) (hcs : ce ≤ 600000 ∧ sl ≤ 7302250) (hC : Dt G kX4_climber [.ref r, a1, a2] mem (some (.int x)) mem2) (kk : E G kL_law R ce sl mem2 350 loc (.int x :: st)) : E G kL_law R ce sl mem 347 loc (a2 :: a1 :: .ref r :: st) := E_V2i (k := kL_law) (k' := kX4_climber) dL_law_347 rfl okX4_climber wiX4_climber wzX4_climber wl_L_51 ⟨Nat.le_of_ble_eq_true rfl, Nat.le_of_ble_eq_true rfl⟩ ⟨rfl, rfl⟩ hcs hrest hm rfl hC kk
theorem cs_L_law_356 {x : Int32} {mem2 : xM} (hm : mem[r]? = some (.inr (3, fs))) (hrest : (st.map fun v => v.category).sum ≤ 8) (hcs : ce ≤ 600000 ∧ sl ≤ 7302250) (hC : Dt G kX3_turn [.ref r] mem (some (.int x)) mem2) (kk : E G kL_law R ce sl mem2 359 loc (.int x :: st)) : E G kL_law R ce sl mem 356 loc (.ref r :: st) := E_V0i (k := kL_law) (k' := kX3_turn) dL_law_356 rfl okX3_turn wiX3_turn wzX3_turn wl_L_52 ⟨Nat.le_of_ble_eq_true rfl, Nat.le_of_ble_eq_true rfl⟩ ⟨rfl, rfl⟩ hcs hrest hm rfl hC kk
theorem cs_L_law_360 {x : Int32} {mem2 : xM} (hm : mem[r]? = some (.inr (4, fs))) (hrest : (st.map fun v => v.category).sum ≤ 8) (hcs : ce ≤ 600000 ∧ sl ≤ 7302250) (hC : Dt G kX4_turn [.ref r] mem (some (.int x)) mem2) (kk : E G kL_law R ce sl mem2 363 loc (.int x :: st)) : E G kL_law R ce sl mem 360 loc (.ref r :: st) := E_V0i (k := kL_law) (k' := kX4_turn) dL_law_360 rfl okX4_turn wiX4_turn wzX4_turn wl_L_55 ⟨Nat.le_of_ble_eq_true rfl, Nat.le_of_ble_eq_true rfl⟩ ⟨rfl, rfl⟩ hcs hrest hm rfl hC kk
theorem cs_L_law_374 {a1 : Value} {x : Int32} {mem2 : xM} (hm : mem[r]? = some (.inr (3, fs))) (hrest : (st.map fun v => v.category).sum ≤ 8) (hcs : ce ≤ 600000 ∧ sl ≤ 7302250) (hC : Dt G kX3_on [.ref r, a1] mem (some (.int x)) mem2) (kk : E G kL_law R ce sl mem2 377 loc (.int x :: st)) : E G kL_law R ce sl mem 374 loc (a1 :: .ref r :: st) := E_V1i (k := kL_law) (k' := kX3_on) dL_law_374 rfl okX3_on wiX3_on wzX3_on wl_L_56 ⟨Nat.le_of_ble_eq_true rfl, Nat.le_of_ble_eq_true rfl⟩ ⟨rfl, rfl⟩ hcs hrest hm rfl hC kk
theorem cs_L_law_383 {a1 : Value} {x : Int32} {mem2 : xM} (hm : mem[r]? = some (.inr (4, fs))) (hrest : (st.map fun v => v.category).sum ≤ 8) (hcs : ce ≤ 600000 ∧ sl ≤ 7302250) (hC : Dt G kX4_on [.ref r, a1] mem (some (.int x)) mem2) (kk : E G kL_law R ce sl mem2 386 loc (.int x :: st)) : E G kL_law R ce sl mem 383 loc (a1 :: .ref r :: st) := E_V1i (k := kL_law) (k' := kX4_on) dL_law_383 rfl okX4_on wiX4_on wzX4_on wl_L_59 ⟨Nat.le_of_ble_eq_true rfl, Nat.le_of_ble_eq_true rfl⟩ ⟨rfl, rfl⟩ hcs hrest hm rfl hC kk
theorem cs_L_law_402 {a1 a2 : Value} {x : Int32} {mem2 : xM} (hm : mem[r]? = some (.inr (3, fs))) (hrest : (st.map fun v => v.category).sum ≤ 8) (hcs : ce ≤ 600000 ∧ sl ≤ 7302250) (hC : Dt G kX3_step [.ref r, a1, a2] mem (some (.int x)) mem2) (kk : E G kL_law R ce sl mem2 405 loc (.int x :: st)) : E G kL_law R ce sl mem 402 loc (a2 :: a1 :: .ref r :: st) := E_V2i (k := kL_law) (k' := kX3_step) dL_law_402 rfl okX3_step wiX3_step wzX3_step wl_L_60 ⟨Nat.le_of_ble_eq_true rfl, Nat.le_of_ble_eq_true rfl⟩ ⟨rfl, rfl⟩ hcs hrest hm rfl hC kk
theorem cs_L_law_416 {a1 a2 : Value} {x : Int32} {mem2 : xM} (hm : mem[r]? = some (.inr (4, fs))) (hrest : (st.map fun v => v.category).sum ≤ 8) (hcs : ce ≤ 600000 ∧ sl ≤ 7302250) (hC : Dt G kX4_step [.ref r, a1, a2] mem (some (.int x)) mem2) (kk : E G kL_law R ce sl mem2 419 loc (.int x :: st)) : E G kL_law R ce sl mem 416 loc (a2 :: a1 :: .ref r :: st) := E_V2i (k := kL_law) (k' := kX4_step) dL_law_416 rfl okX4_step wiX4_step wzX4_step wl_L_63 ⟨Nat.le_of_ble_eq_true rfl, Nat.le_of_ble_eq_true rfl⟩ ⟨rfl, rfl⟩ hcs hrest hm rfl hC kk
theorem cs_L_law_430 {a1 : Value} {x : Int32} {mem2 : xM} (hm : mem[r]? = some (.inr (3, fs))) (hrest : (st.map fun v => v.category).sum ≤ 8) (hcs : ce ≤ 600000 ∧ sl ≤ 7302250) (hC : Dt G kX3_total [.ref r, a1] mem (some (.int x)) mem2) (kk : E G kL_law R ce sl mem2 433 loc (.int x :: st)) : E G kL_law R ce sl mem 430 loc (a1 :: .ref r :: st) := E_V1i (k := kL_law) (k' := kX3_total) dL_law_430 rfl okX3_total wiX3_total wzX3_total wl_L_64 ⟨Nat.le_of_ble_eq_true rfl, Nat.le_of_ble_eq_true rfl⟩ ⟨rfl, rfl⟩ hcs hrest hm rfl hC kk
theorem cs_L_law_439 {a1 : Value} {x : Int32} {mem2 : xM} (hm : mem[r]? = some (.inr (4, fs))) (hrest : (st.map fun v => v.category).sum ≤ 8) (hcs : ce ≤ 600000 ∧ sl ≤ 7302250) (hC : Dt G kX4_total [.ref r, a1] mem (some (.int x)) mem2) (kk : E G kL_law R ce sl mem2 442 loc (.int x :: st)) : E G kL_law R ce sl mem 439 loc (a1 :: .ref r :: st) := E_V1i (k := kL_law) (k' := kX4_total) dL_law_439 rfl okX4_total wiX4_total wzX4_total wl_L_67 ⟨Nat.le_of_ble_eq_true rfl, Nat.le_of_ble_eq_true rfl⟩ ⟨rfl, rfl⟩ hcs hrest hm rfl hC kk
theorem cs_L_law_453 {a1 : Value} {x : Int32} {mem2 : xM} (hm : mem[r]? = some (.inr (3, fs))) (hrest : (st.map fun v => v.category).sum ≤ 8) (hcs : ce ≤ 600000 ∧ sl ≤ 7302250) (hC : Dt G kX3_rank [.ref r, a1] mem (some (.int x)) mem2) (kk : E G kL_law R ce sl mem2 456 loc (.int x :: st)) : E G kL_law R ce sl mem 453 loc (a1 :: .ref r :: st) := E_V1i (k := kL_law) (k' := kX3_rank) dL_law_453 rfl okX3_rank wiX3_rank wzX3_rank wl_L_68 ⟨Nat.le_of_ble_eq_true rfl, Nat.le_of_ble_eq_true rfl⟩ ⟨rfl, rfl⟩ hcs hrest hm rfl hC kk
theorem cs_L_law_462 {a1 : Value} {x : Int32} {mem2 : xM} (hm : mem[r]? = some (.inr (4, fs))) (hrest : (st.map fun v => v.category).sum ≤ 8) (hcs : ce ≤ 600000 ∧ sl ≤ 7302250) (hC : Dt G kX4_rank [.ref r, a1] mem (some (.int x)) mem2) (kk : E G kL_law R ce sl mem2 465 loc (.int x :: st)) : E G kL_law R ce sl mem 462 loc (a1 :: .ref r :: st) := E_V1i (k := kL_law) (k' := kX4_rank) dL_law_462 rfl okX4_rank wiX4_rank wzX4_rank wl_L_71 ⟨Nat.le_of_ble_eq_true rfl, Nat.le_of_ble_eq_true rfl⟩ ⟨rfl, rfl⟩ hcs hrest hm rfl hC kk
theorem cs_L_law_481 {a1 a2 : Value} {x : Int32} {mem2 : xM} (hm : mem[r]? = some (.inr (3, fs))) (hrest : (st.map fun v => v.category).sum ≤ 8) (hcs : ce ≤ 600000 ∧ sl ≤ 7302250) (hC : Dt G kX3_ifRolled [.ref r, a1, a2] mem (some (.int x)) mem2) (kk : E G kL_law R ce sl mem2 484 loc (.int x :: st)) : E G kL_law R ce sl mem 481 loc (a2 :: a1 :: .ref r :: st) := E_V2i (k := kL_law) (k' := kX3_ifRolled) dL_law_481 rfl okX3_ifRolled wiX3_ifRolled wzX3_ifRolled wl_L_72 ⟨Nat.le_of_ble_eq_true rfl, Nat.le_of_ble_eq_true rfl⟩ ⟨rfl, rfl⟩ hcs hrest hm rfl hC kk
theorem cs_L_law_495 {a1 a2 : Value} {x : Int32} {mem2 : xM} (hm : mem[r]? = some (.inr (4, fs))) (hrest : (st.map fun v => v.category).sum ≤ 8) (hcs : ce ≤ 600000 ∧ sl ≤ 7302250) (hC : Dt G kX4_ifRolled [.ref r, a1, a2] mem (some (.int x)) mem2) (kk : E G kL_law R ce sl mem2 498 loc (.int x :: st)) : E G kL_law R ce sl mem 495 loc (a2 :: a1 :: .ref r :: st) := E_V2i (k := kL_law) (k' := kX4_ifRolled) dL_law_495 rfl okX4_ifRolled wiX4_ifRolled wzX4_ifRolled wl_L_75 ⟨Nat.le_of_ble_eq_true rfl, Nat.le_of_ble_eq_true rfl⟩ ⟨rfl, rfl⟩ hcs hrest hm rfl hC kk
theorem cs_L_law_504 {x : Int32} {mem2 : xM} (hm : mem[r]? = some (.inr (3, fs))) (hrest : (st.map fun v => v.category).sum ≤ 8) (hcs : ce ≤ 600000 ∧ sl ≤ 7302250) (hC : Dt G kX3_bestRoll [.ref r] mem (some (.int x)) mem2) (kk : E G kL_law R ce sl mem2 507 loc (.int x :: st)) : E G kL_law R ce sl mem 504 loc (.ref r :: st) := E_V0i (k := kL_law) (k' := kX3_bestRoll) dL_law_504 rfl okX3_bestRoll wiX3_bestRoll wzX3_bestRoll wl_L_76 ⟨Nat.le_of_ble_eq_true rfl, Nat.le_of_ble_eq_true rfl⟩ ⟨rfl, rfl⟩ hcs hrest hm rfl hC kk
theorem cs_L_law_508 {x : Int32} {mem2 : xM} (hm : mem[r]? = some (.inr (4, fs))) (hrest : (st.map fun v => v.category).sum ≤ 8) (hcs : ce ≤ 600000 ∧ sl ≤ 7302250) (hC : Dt G kX4_bestRoll [.ref r] mem (some (.int x)) mem2) (kk : E G kL_law R ce sl mem2 511 loc (.int x :: st)) : E G kL_law R ce sl mem 508 loc (.ref r :: st) := E_V0i (k := kL_law) (k' := kX4_bestRoll) dL_law_508 rfl okX4_bestRoll wiX4_bestRoll wzX4_bestRoll wl_L_79 ⟨Nat.le_of_ble_eq_true rfl, Nat.le_of_ble_eq_true rfl⟩ ⟨rfl, rfl⟩ hcs hrest hm rfl hC kk
theorem cs_L_law_517 {x : Int32} {mem2 : xM} (hm : mem[r]? = some (.inr (3, fs))) (hrest : (st.map fun v => v.category).sum ≤ 8) (hcs : ce ≤ 600000 ∧ sl ≤ 7302250) (hC : Dt G kX3_quietRolls [.ref r] mem (some (.int x)) mem2) (kk : E G kL_law R ce sl mem2 520 loc (.int x :: st)) : E G kL_law R ce sl mem 517 loc (.ref r :: st) := E_V0i (k := kL_law) (k' := kX3_quietRolls) dL_law_517 rfl okX3_quietRolls wiX3_quietRolls wzX3_quietRolls wl_L_80 ⟨Nat.le_of_ble_eq_true rfl, Nat.le_of_ble_eq_true rfl⟩ ⟨rfl, rfl⟩ hcs hrest hm rfl hC kk
theorem cs_L_law_521 {x : Int32} {mem2 : xM} (hm : mem[r]? = some (.inr (4, fs))) (hrest : (st.map fun v => v.category).sum ≤ 8) (hcs : ce ≤ 600000 ∧ sl ≤ 7302250) (hC : Dt G kX4_quietRolls [.ref r] mem (some (.int x)) mem2) (kk : E G kL_law R ce sl mem2 524 loc (.int x :: st)) : E G kL_law R ce sl mem 521 loc (.ref r :: st) := E_V0i (k := kL_law) (k' := kX4_quietRolls) dL_law_521 rfl okX4_quietRolls wiX4_quietRolls wzX4_quietRolls wl_L_83 ⟨Nat.le_of_ble_eq_true rfl, Nat.le_of_ble_eq_true rfl⟩ ⟨rfl, rfl⟩ hcs hrest hm rfl hC kk
theorem cs_L_law_535 {a1 : Value} {x : Int32} {mem2 : xM} (hm : mem[r]? = some (.inr (3, fs))) (hrest : (st.map fun v => v.category).sum ≤ 8) (hcs : ce ≤ 600000 ∧ sl ≤ 7302250) (hC : Dt G kX3_rollsToTop [.ref r, a1] mem (some (.int x)) mem2) (kk : E G kL_law R ce sl mem2 538 loc (.int x :: st)) : E G kL_law R ce sl mem 535 loc (a1 :: .ref r :: st) := E_V1i (k := kL_law) (k' := kX3_rollsToTop) dL_law_535 rfl okX3_rollsToTop wiX3_rollsToTop wzX3_rollsToTop wl_L_84 ⟨Nat.le_of_ble_eq_true rfl, Nat.le_of_ble_eq_true rfl⟩ ⟨rfl, rfl⟩ hcs hrest hm rfl hC kk
theorem cs_L_law_544 {a1 : Value} {x : Int32} {mem2 : xM} (hm : mem[r]? = some (.inr (4, fs))) (hrest : (st.map fun v => v.category).sum ≤ 8) (hcs : ce ≤ 600000 ∧ sl ≤ 7302250) (hC : Dt G kX4_rollsToTop [.ref r, a1] mem (some (.int x)) mem2) (kk : E G kL_law R ce sl mem2 547 loc (.int x :: st)) : E G kL_law R ce sl mem 544 loc (a1 :: .ref r :: st) := E_V1i (k := kL_law) (k' := kX4_rollsToTop) dL_law_544 rfl okX4_rollsToTop wiX4_rollsToTop wzX4_rollsToTop wl_L_87 ⟨Nat.le_of_ble_eq_true rfl, Nat.le_of_ble_eq_true rfl⟩ ⟨rfl, rfl⟩ hcs hrest hm rfl hC kk
theorem cs_L_law_558 {a1 : Value} {x : Int32} {mem2 : xM} (hm : mem[r]? = some (.inr (3, fs))) (hrest : (st.map fun v => v.category).sum ≤ 8) (hcs : ce ≤ 600000 ∧ sl ≤ 7302250) (hC : Dt G kX3_append [.ref r, a1] mem (some (.int x)) mem2) (kk : E G kL_law R ce sl mem2 561 loc (.int x :: st)) : E G kL_law R ce sl mem 558 loc (a1 :: .ref r :: st) := E_V1i (k := kL_law) (k' := kX3_append) dL_law_558 rfl okX3_append wiX3_append wzX3_append wl_L_88 ⟨Nat.le_of_ble_eq_true rfl, Nat.le_of_ble_eq_true rfl⟩ ⟨rfl, rfl⟩ hcs hrest hm rfl hC kk
theorem cs_L_law_567 {a1 : Value} {x : Int32} {mem2 : xM} (hm : mem[r]? = some (.inr (4, fs))) (hrest : (st.map fun v => v.category).sum ≤ 8) (hcs : ce ≤ 600000 ∧ sl ≤ 7302250) (hC : Dt G kX4_append [.ref r, a1] mem (some (.int x)) mem2) (kk : E G kL_law R ce sl mem2 570 loc (.int x :: st)) : E G kL_law R ce sl mem 567 loc (a1 :: .ref r :: st) := E_V1i (k := kL_law) (k' := kX4_append) dL_law_567 rfl okX4_append wiX4_append wzX4_append wl_L_91 ⟨Nat.le_of_ble_eq_true rfl, Nat.le_of_ble_eq_true rfl⟩ ⟨rfl, rfl⟩ hcs hrest hm rfl hC kk
theorem cs_L_law_576 {x : Int32} {mem2 : xM} (hm : mem[r]? = some (.inr (3, fs))) (hrest : (st.map fun v => v.category).sum ≤ 8) (hcs : ce ≤ 600000 ∧ sl ≤ 7302250) (hC : Dt G kX3_clearText [.ref r] mem (some (.int x)) mem2) (kk : E G kL_law R ce sl mem2 579 loc (.int x :: st)) : E G kL_law R ce sl mem 576 loc (.ref r :: st) := E_V0i (k := kL_law) (k' := kX3_clearText) dL_law_576 rfl okX3_clearText wiX3_clearText wzX3_clearText wl_L_92 ⟨Nat.le_of_ble_eq_true rfl, Nat.le_of_ble_eq_true rfl⟩ ⟨rfl, rfl⟩ hcs hrest hm rfl hC kk
theorem cs_L_law_580 {x : Int32} {mem2 : xM} (hm : mem[r]? = some (.inr (4, fs))) (hrest : (st.map fun v => v.category).sum ≤ 8) (hcs : ce ≤ 600000 ∧ sl ≤ 7302250) (hC : Dt G kX4_clearText [.ref r] mem (some (.int x)) mem2) (kk : E G kL_law R ce sl mem2 583 loc (.int x :: st)) : E G kL_law R ce sl mem 580 loc (.ref r :: st) := E_V0i (k := kL_law) (k' := kX4_clearText) dL_law_580 rfl okX4_clearText wiX4_clearText wzX4_clearText wl_L_95 ⟨Nat.le_of_ble_eq_true rfl, Nat.le_of_ble_eq_true rfl⟩ ⟨rfl, rfl⟩ hcs hrest hm rfl hC kk
theorem cs_L_law_589 {x : Int32} {mem2 : xM} (hm : mem[r]? = some (.inr (3, fs))) (hrest : (st.map fun v => v.category).sum ≤ 8) (hcs : ce ≤ 600000 ∧ sl ≤ 7302250) (hC : Dt G kX3_errorPosition [.ref r] mem (some (.int x)) mem2) (kk : E G kL_law R ce sl mem2 592 loc (.int x :: st)) : E G kL_law R ce sl mem 589 loc (.ref r :: st) := E_V0i (k := kL_law) (k' := kX3_errorPosition) dL_law_589 rfl okX3_errorPosition wiX3_errorPosition wzX3_errorPosition wl_L_96 ⟨Nat.le_of_ble_eq_true rfl, Nat.le_of_ble_eq_true rfl⟩ ⟨rfl, rfl⟩ hcs hrest hm rfl hC kk
theorem cs_L_law_593 {x : Int32} {mem2 : xM} (hm : mem[r]? = some (.inr (4, fs))) (hrest : (st.map fun v => v.category).sum ≤ 8) (hcs : ce ≤ 600000 ∧ sl ≤ 7302250) (hC : Dt G kX4_errorPosition [.ref r] mem (some (.int x)) mem2) (kk : E G kL_law R ce sl mem2 596 loc (.int x :: st)) : E G kL_law R ce sl mem 593 loc (.ref r :: st) := E_V0i (k := kL_law) (k' := kX4_errorPosition) dL_law_593 rfl okX4_errorPosition wiX4_errorPosition wzX4_errorPosition wl_L_99 ⟨Nat.le_of_ble_eq_true rfl, Nat.le_of_ble_eq_true rfl⟩ ⟨rfl, rfl⟩ hcs hrest hm rfl hC kk
theorem cs_L_law_602 {x : Int32} {mem2 : xM} (hm : mem[r]? = some (.inr (3, fs))) (hrest : (st.map fun v => v.category).sum ≤ 8) (hcs : ce ≤ 600000 ∧ sl ≤ 7302250) (hC : Dt G kX3_play [.ref r] mem (some (.int x)) mem2) (kk : E G kL_law R ce sl mem2 605 loc (.int x :: st)) : E G kL_law R ce sl mem 602 loc (.ref r :: st) := E_V0i (k := kL_law) (k' := kX3_play) dL_law_602 rfl okX3_play wiX3_play wzX3_play wl_L_100 ⟨Nat.le_of_ble_eq_true rfl, Nat.le_of_ble_eq_true rfl⟩ ⟨rfl, rfl⟩ hcs hrest hm rfl hC kk
theorem cs_L_law_606 {x : Int32} {mem2 : xM} (hm : mem[r]? = some (.inr (4, fs))) (hrest : (st.map fun v => v.category).sum ≤ 8) (hcs : ce ≤ 600000 ∧ sl ≤ 7302250) (hC : Dt G kX4_play [.ref r] mem (some (.int x)) mem2) (kk : E G kL_law R ce sl mem2 609 loc (.int x :: st)) : E G kL_law R ce sl mem 606 loc (.ref r :: st) := E_V0i (k := kL_law) (k' := kX4_play) dL_law_606 rfl okX4_play wiX4_play wzX4_play wl_L_103 ⟨Nat.le_of_ble_eq_true rfl, Nat.le_of_ble_eq_true rfl⟩ ⟨rfl, rfl⟩ hcs hrest hm rfl hC kk
theorem cs_L_law_615 {x : Int32} {mem2 : xM} (hm : mem[r]? = some (.inr (3, fs))) (hrest : (st.map fun v => v.category).sum ≤ 8) (hcs : ce ≤ 600000 ∧ sl ≤ 7302250) (hC : Dt G kX3_undo [.ref r] mem (some (.int x)) mem2) (kk : E G kL_law R ce sl mem2 618 loc (.int x :: st)) : E G kL_law R ce sl mem 615 loc (.ref r :: st) := E_V0i (k := kL_law) (k' := kX3_undo) dL_law_615 rfl okX3_undo wiX3_undo wzX3_undo wl_L_104 ⟨Nat.le_of_ble_eq_true rfl, Nat.le_of_ble_eq_true rfl⟩ ⟨rfl, rfl⟩ hcs hrest hm rfl hC kk
theorem cs_L_law_619 {x : Int32} {mem2 : xM} (hm : mem[r]? = some (.inr (4, fs))) (hrest : (st.map fun v => v.category).sum ≤ 8) (hcs : ce ≤ 600000 ∧ sl ≤ 7302250) (hC : Dt G kX4_undo [.ref r] mem (some (.int x)) mem2) (kk : E G kL_law R ce sl mem2 622 loc (.int x :: st)) : E G kL_law R ce sl mem 619 loc (.ref r :: st) := E_V0i (k := kL_law) (k' := kX4_undo) dL_law_619 rfl okX4_undo wiX4_undo wzX4_undo wl_L_107 ⟨Nat.le_of_ble_eq_true rfl, Nat.le_of_ble_eq_true rfl⟩ ⟨rfl, rfl⟩ hcs hrest hm rfl hC kk
theorem cs_L_law_628 {x : Int32} {mem2 : xM} (hm : mem[r]? = some (.inr (3, fs))) (hrest : (st.map fun v => v.category).sum ≤ 8) (hcs : ce ≤ 600000 ∧ sl ≤ 7302250) (hC : Dt G kX3_save [.ref r] mem (some (.int x)) mem2) (kk : E G kL_law R ce sl mem2 631 loc (.int x :: st)) : E G kL_law R ce sl mem 628 loc (.ref r :: st) := E_V0i (k := kL_law) (k' := kX3_save) dL_law_628 rfl okX3_save wiX3_save wzX3_save wl_L_108 ⟨Nat.le_of_ble_eq_true rfl, Nat.le_of_ble_eq_true rfl⟩ ⟨rfl, rfl⟩ hcs hrest hm rfl hC kk
theorem cs_L_law_632 {x : Int32} {mem2 : xM} (hm : mem[r]? = some (.inr (4, fs))) (hrest : (st.map fun v => v.category).sum ≤ 8) (hcs : ce ≤ 600000 ∧ sl ≤ 7302250) (hC : Dt G kX4_save [.ref r] mem (some (.int x)) mem2) (kk : E G kL_law R ce sl mem2 635 loc (.int x :: st)) : E G kL_law R ce sl mem 632 loc (.ref r :: st) := E_V0i (k := kL_law) (k' := kX4_save) dL_law_632 rfl okX4_save wiX4_save wzX4_save wl_L_111 ⟨Nat.le_of_ble_eq_true rfl, Nat.le_of_ble_eq_true rfl⟩ ⟨rfl, rfl⟩ hcs hrest hm rfl hC kk
theorem cs_L_law_641 {x : Int32} {mem2 : xM} (hm : mem[r]? = some (.inr (3, fs))) (hrest : (st.map fun v => v.category).sum ≤ 8) (hcs : ce ≤ 600000 ∧ sl ≤ 7302250) (hC : Dt G kX3_restore [.ref r] mem (some (.int x)) mem2) (kk : E G kL_law R ce sl mem2 644 loc (.int x :: st)) : E G kL_law R ce sl mem 641 loc (.ref r :: st) := E_V0i (k := kL_law) (k' := kX3_restore) dL_law_641 rfl okX3_restore wiX3_restore wzX3_restore wl_L_112 ⟨Nat.le_of_ble_eq_true rfl, Nat.le_of_ble_eq_true rfl⟩ ⟨rfl, rfl⟩ hcs hrest hm rfl hC kk
theorem cs_L_law_645 {x : Int32} {mem2 : xM} (hm : mem[r]? = some (.inr (4, fs))) (hrest : (st.map fun v => v.category).sum ≤ 8) (hcs : ce ≤ 600000 ∧ sl ≤ 7302250) (hC : Dt G kX4_restore [.ref r] mem (some (.int x)) mem2) (kk : E G kL_law R ce sl mem2 648 loc (.int x :: st)) : E G kL_law R ce sl mem 645 loc (.ref r :: st) := E_V0i (k := kL_law) (k' := kX4_restore) dL_law_645 rfl okX4_restore wiX4_restore wzX4_restore wl_L_115 ⟨Nat.le_of_ble_eq_true rfl, Nat.le_of_ble_eq_true rfl⟩ ⟨rfl, rfl⟩ hcs hrest hm rfl hC kk
end L
end
section
/-! the state of a Game: le la pl tp rs tl lm sl top climbers mover rolls leftOut -/
abbrev gS : Type := (Nat → Int32) × (Nat → Int32) × (Nat → Int32) × (Nat → Int32) × (Nat → Int32) × (Nat → Int32) × (Nat → Int32) × (Nat → Int32) × Int32 × Int32 × Int32 × Int32 × Int32
abbrev g_le (S : gS) : Nat → Int32 := S.1
abbrev g_la (S : gS) : Nat → Int32 := S.2.1
abbrev g_pl (S : gS) : Nat → Int32 := S.2.2.1
abbrev g_tp (S : gS) : Nat → Int32 := S.2.2.2.1
abbrev g_rs (S : gS) : Nat → Int32 := S.2.2.2.2.1
abbrev g_tl (S : gS) : Nat → Int32 := S.2.2.2.2.2.1
abbrev g_lm (S : gS) : Nat → Int32 := S.2.2.2.2.2.2.1
abbrev g_sl (S : gS) : Nat → Int32 := S.2.2.2.2.2.2.2.1
abbrev g_top (S : gS) : Int32 := S.2.2.2.2.2.2.2.2.1
abbrev g_cl (S : gS) : Int32 := S.2.2.2.2.2.2.2.2.2.1
abbrev g_mv (S : gS) : Int32 := S.2.2.2.2.2.2.2.2.2.2.1
abbrev g_ro (S : gS) : Int32 := S.2.2.2.2.2.2.2.2.2.2.2.1
abbrev g_lo (S : gS) : Int32 := S.2.2.2.2.2.2.2.2.2.2.2.2
abbrev g_o (g : Nat) (S : gS) : va_E := .inr (0, [.ref (g + 1), .ref (g + 2), .ref (g + 3), .ref (g + 4), .ref (g + 5), .ref (g + 6), .ref (g + 7), .ref (g + 8), .int (g_top S), .int (g_cl S), .int (g_mv S), .int (g_ro S), .int (g_lo S)])
abbrev g_a (t n : Nat) (f : Nat → Int32) : va_E := .inl (t, n, .inl f)
def gCells (g : Nat) (S : gS) : List va_E := [g_o g S, g_a 0 60 (g_le S), g_a 1 60 (g_la S), g_a 0 6 (g_pl S), g_a 0 6 (g_tp S), g_a 0 6 (g_rs S), g_a 0 6 (g_tl S), g_a 0 6 (g_lm S), g_a 0 6 (g_sl S)]
def gAt (mem : xM) (g : Nat) (S : gS) : Prop := mem[g]? = some (g_o g S) ∧ mem[g + 1]? = some (g_a 0 60 (g_le S)) ∧ mem[g + 2]? = some (g_a 1 60 (g_la S)) ∧ mem[g + 3]? = some (g_a 0 6 (g_pl S)) ∧ mem[g + 4]? = some (g_a 0 6 (g_tp S)) ∧ mem[g + 5]? = some (g_a 0 6 (g_rs S)) ∧ mem[g + 6]? = some (g_a 0 6 (g_tl S)) ∧ mem[g + 7]? = some (g_a 0 6 (g_lm S)) ∧ mem[g + 8]? = some (g_a 0 6 (g_sl S))
/-- cells from g on written over -/
def x_seg (mem : xM) (g : Nat) (cs : List va_E) : xM := mem.take g ++ (cs ++ mem.drop (g + cs.length))
def gPut (mem : xM) (g : Nat) (S : gS) : xM := x_seg mem g (gCells g S)
theorem x_seg_len {mem : xM} {g : Nat} {cs : List va_E} (h : g + cs.length ≤ mem.length) : (x_seg mem g cs).length = mem.length := by
  simp only [x_seg, List.length_append, List.length_take, List.length_drop]
  omega
theorem x_seg_in {mem : xM} {g i : Nat} {cs : List va_E} (h : g + cs.length ≤ mem.length) (hi : i < cs.length) : (x_seg mem g cs)[g + i]? = cs[i]? := by
  have e : (mem.take g).length = g := by rw [List.length_take]; omega
  rw [x_seg, List.getElem?_append_right (by rw [e]; omega), e, show g + i - g = i by omega, List.getElem?_append_left hi]
theorem x_seg_lo {mem : xM} {g i : Nat} {cs : List va_E} (h : g + cs.length ≤ mem.length) (hi : i < g) : (x_seg mem g cs)[i]? = mem[i]? := by
  have e : (mem.take g).length = g := by rw [List.length_take]; omega
  rw [x_seg, List.getElem?_append_left (by rw [e]; omega), List.getElem?_take, if_pos hi]
theorem x_seg_hi {mem : xM} {g i : Nat} {cs : List va_E} (h : g + cs.length ≤ mem.length) (hi : g + cs.length ≤ i) : (x_seg mem g cs)[i]? = mem[i]? := by
  have e : (mem.take g).length = g := by rw [List.length_take]; omega
  rw [x_seg, List.getElem?_append_right (by rw [e]; omega), e, List.getElem?_append_right (by omega), List.getElem?_drop]
  congr 1
  omega
theorem x_seg_set {mem : xM} {g i : Nat} {cs : List va_E} {c : va_E} (h : g + cs.length ≤ mem.length) (hi : i < cs.length) : (x_seg mem g cs).set (g + i) c = x_seg mem g (cs.set i c) := by
  have e : (mem.take g).length = g := by rw [List.length_take]; omega
  rw [x_seg, List.set_append, if_neg (by rw [e]; omega), e, show g + i - g = i by omega, List.set_append, if_pos hi, x_seg, List.length_set]
theorem x_seg_seg {mem : xM} {g : Nat} {cs ds : List va_E} (h : g + cs.length ≤ mem.length) (hd : ds.length = cs.length) : x_seg (x_seg mem g cs) g ds = x_seg mem g ds := by
  apply List.ext_getElem?
  intro i
  have hl := x_seg_len h
  by_cases h1 : i < g
  · rw [x_seg_lo (by omega) h1, x_seg_lo h h1, x_seg_lo (by omega) h1]
  · by_cases h2 : i < g + ds.length
    · obtain ⟨j, rfl⟩ : ∃ j, i = g + j := ⟨i - g, by omega⟩
      rw [x_seg_in (by omega) (by omega), x_seg_in (by omega) (by omega)]
    · rw [x_seg_hi (by omega) (by omega), x_seg_hi h (by omega), x_seg_hi (by omega) (by omega)]
theorem gAt_len {mem : xM} {g : Nat} {S : gS} (h : gAt mem g S) : g + 9 ≤ mem.length := by
  have := (List.getElem?_eq_some_iff.mp h.2.2.2.2.2.2.2.2).1
  omega
theorem gAt_put {mem : xM} {g : Nat} {S : gS} (h : gAt mem g S) (S' : gS) : gAt (gPut mem g S') g S' := by
  have hl : g + (gCells g S').length ≤ mem.length := gAt_len h
  refine ⟨x_seg_in (i := 0) hl (Nat.le_of_ble_eq_true rfl), x_seg_in (i := 1) hl (Nat.le_of_ble_eq_true rfl), x_seg_in (i := 2) hl (Nat.le_of_ble_eq_true rfl), x_seg_in (i := 3) hl (Nat.le_of_ble_eq_true rfl), x_seg_in (i := 4) hl (Nat.le_of_ble_eq_true rfl), x_seg_in (i := 5) hl (Nat.le_of_ble_eq_true rfl), x_seg_in (i := 6) hl (Nat.le_of_ble_eq_true rfl), x_seg_in (i := 7) hl (Nat.le_of_ble_eq_true rfl), x_seg_in (i := 8) hl (Nat.le_of_ble_eq_true rfl)⟩
theorem gPut_put {mem : xM} {g : Nat} {S : gS} (h : gAt mem g S) (S1 S2 : gS) : gPut (gPut mem g S1) g S2 = gPut mem g S2 := x_seg_seg (gAt_len h) rfl
theorem gPut_len {mem : xM} {g : Nat} {S : gS} (h : gAt mem g S) (S1 : gS) : (gPut mem g S1).length = mem.length := x_seg_len (gAt_len h)
theorem gPut_self {mem : xM} {g : Nat} {S : gS} (h : gAt mem g S) : gPut mem g S = mem := by
  apply List.ext_getElem?
  intro i
  have hl : g + (gCells g S).length ≤ mem.length := gAt_len h
  by_cases h1 : i < g
  · exact x_seg_lo hl h1
  · by_cases h2 : i < g + 9
    · obtain ⟨j, rfl⟩ : ∃ j, i = g + j := ⟨i - g, by omega⟩
      have hj : j < 9 := by omega
      rw [gPut, x_seg_in hl hj]
      obtain ⟨a0, a1, a2, a3, a4, a5, a6, a7, a8⟩ := h
      match j, hj with
      | 0, _ => exact a0.symm
      | 1, _ => exact a1.symm
      | 2, _ => exact a2.symm
      | 3, _ => exact a3.symm
      | 4, _ => exact a4.symm
      | 5, _ => exact a5.symm
      | 6, _ => exact a6.symm
      | 7, _ => exact a7.symm
      | 8, _ => exact a8.symm
    · exact x_seg_hi hl (by show g + 9 ≤ i; omega)
theorem gPut_other {mem : xM} {g i : Nat} {S : gS} (h : gAt mem g S) (S1 : gS) (hi : i < g ∨ g + 9 ≤ i) : (gPut mem g S1)[i]? = mem[i]? := by
  have hl : g + (gCells g S1).length ≤ mem.length := gAt_len h
  rcases hi with hi | hi
  · exact x_seg_lo hl hi
  · exact x_seg_hi hl hi
/-- one cell of a game written: the game with the new state -/
theorem gSet {mem : xM} {g : Nat} {S : gS} (h : gAt mem g S) (S' : gS) (i : Nat) (c : va_E) (hi : i < 9) (he : (gCells g S).set i c = gCells g S') : mem.set (g + i) c = gPut mem g S' := by
  have hl : g + (gCells g S).length ≤ mem.length := gAt_len h
  calc mem.set (g + i) c = (gPut mem g S).set (g + i) c := by rw [gPut_self h]
    _ = x_seg mem g ((gCells g S).set i c) := x_seg_set hl hi
    _ = gPut mem g S' := by rw [he]; rfl
theorem gSet0 {mem : xM} {g : Nat} {S : gS} (h : gAt mem g S) (S' : gS) (c : va_E) (he : (gCells g S).set 0 c = gCells g S') : mem.set g c = gPut mem g S' := gSet h S' 0 c (by decide) he
theorem gSetP {mem : xM} {g : Nat} {S T : gS} {c : va_E} (h : gAt mem g S) (T' : gS) (i : Nat) (hi : i < 9) (he : (gCells g T).set i c = gCells g T') : (gPut mem g T).set (g + i) c = gPut mem g T' := by
  rw [gSet (gAt_put h T) T' i c hi he, gPut_put h]
theorem gSetP0 {mem : xM} {g : Nat} {S T : gS} {c : va_E} (h : gAt mem g S) (T' : gS) (he : (gCells g T).set 0 c = gCells g T') : (gPut mem g T).set g c = gPut mem g T' := gSetP h T' 0 (by decide) he
abbrev g_wLe (S : gS) (f : Nat → Int32) : gS := (f, S.2)
abbrev g_wLa (S : gS) (f : Nat → Int32) : gS := (S.1, f, S.2.2)
abbrev g_wPl (S : gS) (f : Nat → Int32) : gS := (S.1, S.2.1, f, S.2.2.2)
abbrev g_wTp (S : gS) (f : Nat → Int32) : gS := (S.1, S.2.1, S.2.2.1, f, S.2.2.2.2)
abbrev g_wRs (S : gS) (f : Nat → Int32) : gS := (S.1, S.2.1, S.2.2.1, S.2.2.2.1, f, S.2.2.2.2.2)
abbrev g_wTl (S : gS) (f : Nat → Int32) : gS := (S.1, S.2.1, S.2.2.1, S.2.2.2.1, S.2.2.2.2.1, f, S.2.2.2.2.2.2)
abbrev g_wLm (S : gS) (f : Nat → Int32) : gS := (S.1, S.2.1, S.2.2.1, S.2.2.2.1, S.2.2.2.2.1, S.2.2.2.2.2.1, f, S.2.2.2.2.2.2.2)
abbrev g_wSl (S : gS) (f : Nat → Int32) : gS := (S.1, S.2.1, S.2.2.1, S.2.2.2.1, S.2.2.2.2.1, S.2.2.2.2.2.1, S.2.2.2.2.2.2.1, f, S.2.2.2.2.2.2.2.2)
abbrev g_wO (S : gS) (a b c d e : Int32) : gS := (S.1, S.2.1, S.2.2.1, S.2.2.2.1, S.2.2.2.2.1, S.2.2.2.2.2.1, S.2.2.2.2.2.2.1, S.2.2.2.2.2.2.2.1, a, b, c, d, e)
/-! numbers -/
def b2i (p : Prop) [Decidable p] : Int32 := if p then 1 else 0
theorem b2i_t {p : Prop} [Decidable p] (h : p) : b2i p = 1 := if_pos h
theorem b2i_f {p : Prop} [Decidable p] (h : ¬ p) : b2i p = 0 := if_neg h
theorem b2i_0 {p : Prop} [Decidable p] : b2i p = 0 ↔ ¬ p := by
  unfold b2i
  by_cases h : p <;> simp [h]
theorem b2i_n0 {p : Prop} [Decidable p] : ¬ b2i p = 0 ↔ p := by
  unfold b2i
  by_cases h : p <;> simp [h]
theorem b2i_c {p q : Prop} [Decidable p] [Decidable q] (h : p ↔ q) : b2i p = b2i q := by
  unfold b2i
  by_cases hp : p
  · rw [if_pos hp, if_pos (h.mp hp)]
  · rw [if_neg hp, if_neg (fun hq => hp (h.mpr hq))]
theorem i_rng (x : Int32) : -2147483648 ≤ x.toInt ∧ x.toInt ≤ 2147483647 := by
  have a := x.le_toInt
  have b := x.toInt_lt
  omega
theorem i_add {x y : Int32} (h1 : -2147483648 ≤ x.toInt + y.toInt) (h2 : x.toInt + y.toInt ≤ 2147483647) : (x + y).toInt = x.toInt + y.toInt := by
  rw [Int32.toInt_add, Int.bmod_eq_of_le] <;> omega
theorem i_sub {x y : Int32} (h1 : -2147483648 ≤ x.toInt - y.toInt) (h2 : x.toInt - y.toInt ≤ 2147483647) : (x - y).toInt = x.toInt - y.toInt := by
  rw [Int32.toInt_sub, Int.bmod_eq_of_le] <;> omega
theorem i_mul {x y : Int32} (h1 : -2147483648 ≤ x.toInt * y.toInt) (h2 : x.toInt * y.toInt ≤ 2147483647) : (x * y).toInt = x.toInt * y.toInt := by
  rw [Int32.toInt_mul, Int.bmod_eq_of_le] <;> omega
theorem i_in {x : Int32} {n : Nat} (h1 : 0 ≤ x.toInt) (h2 : x.toInt < n) : vp_in x n := vp_in_iff.mpr ⟨h1, h2⟩
theorem i_cl {x : Int32} (h : 0 ≤ x.toInt) : (x.toNatClampNeg : Int) = x.toInt := by
  show ((x.toInt.toNat : Nat) : Int) = x.toInt
  omega
theorem i_nI {x : Int32} (h : 0 ≤ x.toInt) : x = nI x.toNatClampNeg := by
  have e := i_cl h
  have r := i_rng x
  rw [i_eq, nI_toInt (by omega)]
  omega
end
section
/-! methods of Game that read alone -/
theorem b2i_nar {p : Prop} [Decidable p] : narrow .boolean (.int (b2i p)) = .int (b2i p) := by
  unfold b2i
  by_cases h : p
  · rw [if_pos h]; decide
  · rw [if_neg h]; decide
theorem b2i_T0 {p : Prop} [Decidable p] : (b2i p).toInt = 0 ↔ ¬ p := by
  unfold b2i
  by_cases h : p <;> simp [h]
section G1
variable {G : xG} {mem : xM} {g : Nat} {S : gS}
abbrev g_below (S : gS) (x : Int32) : Prop := 0 ≤ x.toInt ∧ x.toInt < (g_top S).toInt
abbrev g_isCl (S : gS) (x : Int32) : Prop := 0 ≤ x.toInt ∧ x.toInt < (g_cl S).toInt
abbrev g_isLa (S : gS) (x : Int32) : Prop := (0 ≤ x.toInt ∧ x.toInt < (g_top S).toInt) ∧ (g_la S x.toNatClampNeg).toInt ≠ 0
abbrev g_isUp (S : gS) (x : Int32) : Prop := (0 ≤ x.toInt ∧ x.toInt < (g_top S).toInt) ∧ (g_le S x.toNatClampNeg).toInt ≠ -6
theorem c_isBelowTop (h : gAt mem g S) (x : Int32) : Dt G kX0_isBelowTop [.ref g, .int x] mem (some (.int (b2i (g_below S x)))) mem := by
  obtain ⟨a0, a1, a2, a3, a4, a5, a6, a7, a8⟩ := h
  refine Ct_of (by decide) (Nat.le_of_ble_eq_true rfl) ?_
  refine E_iload_n dX0_isBelowTop_0 (by rfl) ?_
  refine E_if_lt (tgt := 16) dX0_isBelowTop_1 (by decide) (fun q1 => ?_) (fun q1 => ?_)
  · refine E_iconst (v := 0) dX0_isBelowTop_16 (by decide) ?_
    refine E_iret dX0_isBelowTop_17 rfl (by decide) (Nat.zero_le _) (Nat.zero_le _) ?_
    first | exact ⟨by rw [b2i_t (by omega)], rfl⟩ | exact ⟨by rw [b2i_f (by omega)], rfl⟩
  · refine E_iload_n dX0_isBelowTop_4 (by rfl) ?_
    refine E_aload_n dX0_isBelowTop_5 (by rfl) ?_
    refine gf_X0_37 dX0_isBelowTop_6 rfl (by assumption) (by rfl) ?_
    refine E_icmp_ge (n := _) rfl (tgt := 16) dX0_isBelowTop_9 (by decide) (fun q9 => ?_) (fun q9 => ?_)
    · refine E_iconst (v := 0) dX0_isBelowTop_16 (by decide) ?_
      refine E_iret dX0_isBelowTop_17 rfl (by decide) (Nat.zero_le _) (Nat.zero_le _) ?_
      first | exact ⟨by rw [b2i_t (by omega)], rfl⟩ | exact ⟨by rw [b2i_f (by omega)], rfl⟩
    · refine E_iconst (v := 1) dX0_isBelowTop_12 (by decide) ?_
      refine E_goto (tgt := 17) dX0_isBelowTop_13 (by decide) ?_
      refine E_iret dX0_isBelowTop_17 rfl (by decide) (Nat.zero_le _) (Nat.zero_le _) ?_
      first | exact ⟨by rw [b2i_t (by omega)], rfl⟩ | exact ⟨by rw [b2i_f (by omega)], rfl⟩
theorem c_isClimber (h : gAt mem g S) (x : Int32) : Dt G kX0_isClimber [.ref g, .int x] mem (some (.int (b2i (g_isCl S x)))) mem := by
  obtain ⟨a0, a1, a2, a3, a4, a5, a6, a7, a8⟩ := h
  refine Ct_of (by decide) (Nat.le_of_ble_eq_true rfl) ?_
  refine E_iload_n dX0_isClimber_0 (by rfl) ?_
  refine E_if_lt (tgt := 16) dX0_isClimber_1 (by decide) (fun q1 => ?_) (fun q1 => ?_)
  · refine E_iconst (v := 0) dX0_isClimber_16 (by decide) ?_
    refine E_iret dX0_isClimber_17 rfl (by decide) (Nat.zero_le _) (Nat.zero_le _) ?_
    first | exact ⟨by rw [b2i_t (by omega)], rfl⟩ | exact ⟨by rw [b2i_f (by omega)], rfl⟩
  · refine E_iload_n dX0_isClimber_4 (by rfl) ?_
    refine E_aload_n dX0_isClimber_5 (by rfl) ?_
    refine gf_X0_41 dX0_isClimber_6 rfl (by assumption) (by rfl) ?_
    refine E_icmp_ge (n := _) rfl (tgt := 16) dX0_isClimber_9 (by decide) (fun q9 => ?_) (fun q9 => ?_)
    · refine E_iconst (v := 0) dX0_isClimber_16 (by decide) ?_
      refine E_iret dX0_isClimber_17 rfl (by decide) (Nat.zero_le _) (Nat.zero_le _) ?_
      first | exact ⟨by rw [b2i_t (by omega)], rfl⟩ | exact ⟨by rw [b2i_f (by omega)], rfl⟩
    · refine E_iconst (v := 1) dX0_isClimber_12 (by decide) ?_
      refine E_goto (tgt := 17) dX0_isClimber_13 (by decide) ?_
      refine E_iret dX0_isClimber_17 rfl (by decide) (Nat.zero_le _) (Nat.zero_le _) ?_
      first | exact ⟨by rw [b2i_t (by omega)], rfl⟩ | exact ⟨by rw [b2i_f (by omega)], rfl⟩
theorem c_hasMover (h : gAt mem g S) : Dt G kX0_hasMover [.ref g] mem (some (.int (b2i (g_isCl S (g_mv S))))) mem := by
  obtain ⟨a0, a1, a2, a3, a4, a5, a6, a7, a8⟩ := id h
  refine Ct_of (by decide) (Nat.le_of_ble_eq_true rfl) ?_
  refine E_aload_n dX0_hasMover_0 (by rfl) ?_
  refine E_aload_n dX0_hasMover_1 (by rfl) ?_
  refine gf_X0_44 dX0_hasMover_2 rfl (by assumption) (by rfl) ?_
  refine cs_X0_hasMover_5 (by assumption) (Nat.le_of_ble_eq_true rfl) (c_isClimber h _) ?_
  refine E_iret dX0_hasMover_8 rfl b2i_nar (Nat.zero_le _) (Nat.zero_le _) ?_
  exact ⟨rfl, rfl⟩
theorem c_isLanding (h : gAt mem g S) (ht : (g_top S).toInt ≤ 60) (x : Int32) : Dt G kX0_isLanding [.ref g, .int x] mem (some (.int (b2i (g_isLa S x)))) mem := by
  obtain ⟨a0, a1, a2, a3, a4, a5, a6, a7, a8⟩ := id h
  refine Ct_of (by decide) (Nat.le_of_ble_eq_true rfl) ?_
  refine E_iload_n dX0_isLanding_0 (by rfl) ?_
  refine E_if_lt (tgt := 25) dX0_isLanding_1 (by decide) (fun q1 => ?_) (fun q1 => ?_)
  · refine E_iconst (v := 0) dX0_isLanding_25 (by decide) ?_
    refine E_iret dX0_isLanding_26 rfl (by decide) (Nat.zero_le _) (Nat.zero_le _) ?_
    first | exact ⟨by rw [b2i_t (by omega)], rfl⟩ | exact ⟨by rw [b2i_f (by omega)], rfl⟩
  · refine E_iload_n dX0_isLanding_4 (by rfl) ?_
    refine E_aload_n dX0_isLanding_5 (by rfl) ?_
    refine gf_X0_37 dX0_isLanding_6 rfl (by assumption) (by rfl) ?_
    refine E_icmp_ge (n := _) rfl (tgt := 25) dX0_isLanding_9 (by decide) (fun q9 => ?_) (fun q9 => ?_)
    · refine E_iconst (v := 0) dX0_isLanding_25 (by decide) ?_
      refine E_iret dX0_isLanding_26 rfl (by decide) (Nat.zero_le _) (Nat.zero_le _) ?_
      first | exact ⟨by rw [b2i_t (by omega)], rfl⟩ | exact ⟨by rw [b2i_f (by omega)], rfl⟩
    · refine E_aload_n dX0_isLanding_12 (by rfl) ?_
      refine gf_X0_15 dX0_isLanding_13 rfl (by assumption) (by rfl) ?_
      refine E_iload_n dX0_isLanding_16 (by rfl) ?_
      refine E_zald dX0_isLanding_17 (by assumption) (i_in (by omega) (by omega)) ?_
      refine E_if_eq (tgt := 25) dX0_isLanding_18 (by decide) (fun q18 => ?_) (fun q18 => ?_)
      · refine E_iconst (v := 0) dX0_isLanding_25 (by decide) ?_
        refine E_iret dX0_isLanding_26 rfl (by decide) (Nat.zero_le _) (Nat.zero_le _) ?_
        first | exact ⟨by rw [b2i_t (by omega)], rfl⟩ | exact ⟨by rw [b2i_f (by omega)], rfl⟩
      · refine E_iconst (v := 1) dX0_isLanding_21 (by decide) ?_
        refine E_goto (tgt := 26) dX0_isLanding_22 (by decide) ?_
        refine E_iret dX0_isLanding_26 rfl (by decide) (Nat.zero_le _) (Nat.zero_le _) ?_
        first | exact ⟨by rw [b2i_t (by omega)], rfl⟩ | exact ⟨by rw [b2i_f (by omega)], rfl⟩
theorem c_isUpperEnd (h : gAt mem g S) (ht : (g_top S).toInt ≤ 60) (x : Int32) : Dt G kX0_isUpperEnd [.ref g, .int x] mem (some (.int (b2i (g_isUp S x)))) mem := by
  obtain ⟨a0, a1, a2, a3, a4, a5, a6, a7, a8⟩ := id h
  refine Ct_of (by decide) (Nat.le_of_ble_eq_true rfl) ?_
  refine E_iload_n dX0_isUpperEnd_0 (by rfl) ?_
  refine E_if_lt (tgt := 27) dX0_isUpperEnd_1 (by decide) (fun q1 => ?_) (fun q1 => ?_)
  · refine E_iconst (v := 0) dX0_isUpperEnd_27 (by decide) ?_
    refine E_iret dX0_isUpperEnd_28 rfl (by decide) (Nat.zero_le _) (Nat.zero_le _) ?_
    first | exact ⟨by rw [b2i_t (by omega)], rfl⟩ | exact ⟨by rw [b2i_f (by omega)], rfl⟩
  · refine E_iload_n dX0_isUpperEnd_4 (by rfl) ?_
    refine E_aload_n dX0_isUpperEnd_5 (by rfl) ?_
    refine gf_X0_37 dX0_isUpperEnd_6 rfl (by assumption) (by rfl) ?_
    refine E_icmp_ge (n := _) rfl (tgt := 27) dX0_isUpperEnd_9 (by decide) (fun q9 => ?_) (fun q9 => ?_)
    · refine E_iconst (v := 0) dX0_isUpperEnd_27 (by decide) ?_
      refine E_iret dX0_isUpperEnd_28 rfl (by decide) (Nat.zero_le _) (Nat.zero_le _) ?_
      first | exact ⟨by rw [b2i_t (by omega)], rfl⟩ | exact ⟨by rw [b2i_f (by omega)], rfl⟩
    · refine E_aload_n dX0_isUpperEnd_12 (by rfl) ?_
      refine gf_X0_9 dX0_isUpperEnd_13 rfl (by assumption) (by rfl) ?_
      refine E_iload_n dX0_isUpperEnd_16 (by rfl) ?_
      refine E_iald dX0_isUpperEnd_17 (by assumption) (i_in (by omega) (by omega)) ?_
      refine E_bipush (v := (-6)) dX0_isUpperEnd_18 (by decide) ?_
      refine E_icmp_eq (n := (-6)) (by decide) (tgt := 27) dX0_isUpperEnd_20 (by decide) (fun q20 => ?_) (fun q20 => ?_)
      · refine E_iconst (v := 0) dX0_isUpperEnd_27 (by decide) ?_
        refine E_iret dX0_isUpperEnd_28 rfl (by decide) (Nat.zero_le _) (Nat.zero_le _) ?_
        first | exact ⟨by rw [b2i_t (by omega)], rfl⟩ | exact ⟨by rw [b2i_f (by omega)], rfl⟩
      · refine E_iconst (v := 1) dX0_isUpperEnd_23 (by decide) ?_
        refine E_goto (tgt := 28) dX0_isUpperEnd_24 (by decide) ?_
        refine E_iret dX0_isUpperEnd_28 rfl (by decide) (Nat.zero_le _) (Nat.zero_le _) ?_
        first | exact ⟨by rw [b2i_t (by omega)], rfl⟩ | exact ⟨by rw [b2i_f (by omega)], rfl⟩
theorem c_behind (h : gAt mem g S) (x : Int32) : Dt G kX0_behind [.ref g, .int x] mem (some (.int (if g_isCl S (x + 1) then x + 1 else 0))) mem := by
  obtain ⟨a0, a1, a2, a3, a4, a5, a6, a7, a8⟩ := id h
  refine Ct_of (by decide) (Nat.le_of_ble_eq_true rfl) ?_
  refine E_aload_n dX0_behind_0 (by rfl) ?_
  refine E_iload_n dX0_behind_1 (by rfl) ?_
  refine E_iconst (v := 1) dX0_behind_2 (by decide) ?_
  refine E_iadd dX0_behind_3 ?_
  refine cs_X0_behind_4 (by assumption) (Nat.le_of_ble_eq_true rfl) (c_isClimber h _) ?_
  refine E_if_eq (tgt := 16) dX0_behind_7 (by decide) (fun q7 => ?_) (fun q7 => ?_)
  · refine E_iconst (v := 0) dX0_behind_16 (by decide) ?_
    refine E_iret dX0_behind_17 rfl rfl (Nat.zero_le _) (Nat.zero_le _) ?_
    rw [b2i_T0] at q7
    first | exact ⟨by rw [if_neg q7], rfl⟩ | exact ⟨by rw [if_pos (Classical.not_not.mp q7)], rfl⟩
  · refine E_iload_n dX0_behind_10 (by rfl) ?_
    refine E_iconst (v := 1) dX0_behind_11 (by decide) ?_
    refine E_iadd dX0_behind_12 ?_
    refine E_goto (tgt := 17) dX0_behind_13 (by decide) ?_
    refine E_iret dX0_behind_17 rfl rfl (Nat.zero_le _) (Nat.zero_le _) ?_
    rw [b2i_T0] at q7
    first | exact ⟨by rw [if_neg q7], rfl⟩ | exact ⟨by rw [if_pos (Classical.not_not.mp q7)], rfl⟩
end G1
end
section
/-! loops of Game that read alone -/
/-- the climbers on a step, of the first n -/
def sOn (pl : Nat → Int32) (x : Int32) : Nat → Int32
  | 0 => 0
  | c + 1 => if (pl c).toInt = x.toInt then sOn pl x c ||| (1 <<< (nI c &&& 31)) else sOn pl x c
/-- how many of the first n are so -/
def sCn (p : Nat → Prop) [DecidablePred p] : Nat → Int32
  | 0 => 0
  | c + 1 => if p c then sCn p c + 1 else sCn p c
def sSm (f : Nat → Int32) : Nat → Int32
  | 0 => 0
  | c + 1 => sSm f c + f c
section G2
variable {G : xG} {mem : xM} {g : Nat} {S : gS} {t n : Nat}
theorem c_climbersOn (h : gAt mem g S) (hc : g_cl S = nI n) (hn : n ≤ 6) (x : Int32) : Dt G kX0_climbersOn [.ref g, .int x] mem (some (.int (sOn (g_pl S) x n))) mem := by
  obtain ⟨a0, a1, a2, a3, a4, a5, a6, a7, a8⟩ := id h
  have hc' : (g_cl S).toInt = (n : Int) := by rw [hc]; exact nI_toInt (by omega)
  refine Ct_of (by decide) (Nat.le_of_ble_eq_true rfl) ?_
  have loop : ∀ di i : Nat, n < i + di → i ≤ n → E G kX0_climbersOn (x_R (some (.int (sOn (g_pl S) x n))) mem) 0 0 (mem) 4 (x_L [(0, .ref g), (1, .int x), (2, .int (sOn (g_pl S) x i)), (3, .int (nI i))]) [] := by
    intro di
    induction di with
    | zero => intro i hi1 hi2; exact absurd hi1 (by omega)
    | succ di ihi =>
      intro i hi1 hi2
      have ei : (nI i).toInt = (i : Int) := nI_toInt (by omega)
      have eci : (nI i).toNatClampNeg = i := nI_clamp (by omega)
      refine E_iload_n dX0_climbersOn_4 (by rfl) ?_
      refine E_aload_n dX0_climbersOn_5 (by rfl) ?_
      refine gf_X0_41 dX0_climbersOn_6 rfl (by assumption) (by rfl) ?_
      refine E_icmp_ge (n := _) rfl (tgt := 34) dX0_climbersOn_9 (by decide) (fun q9 => ?_) (fun q9 => ?_)
      · refine E_iload_n dX0_climbersOn_34 (by rfl) ?_
        refine E_iret dX0_climbersOn_35 rfl rfl (Nat.zero_le _) (Nat.zero_le _) ?_
        exact x_leaf (by rw [show i = n by omega])
      · refine E_aload_n dX0_climbersOn_12 (by rfl) ?_
        refine gf_X0_19 dX0_climbersOn_13 rfl (by assumption) (by rfl) ?_
        refine E_iload_n dX0_climbersOn_16 (by rfl) ?_
        refine E_iald dX0_climbersOn_17 (by assumption) (i_in (by omega) (by omega)) ?_
        refine E_iload_n dX0_climbersOn_18 (by rfl) ?_
        refine E_icmp_ne (n := _) rfl (tgt := 28) dX0_climbersOn_19 (by decide) (fun q19 => ?_) (fun q19 => ?_)
        · rw [eci] at q19
          refine E_iinc (d := 1) dX0_climbersOn_28 (by rfl) (by decide) (Nat.le_of_ble_eq_true rfl) (by rfl) ?_
          refine E_goto (tgt := 4) dX0_climbersOn_31 (by decide) ?_
          exact E_loc [(0, .ref g), (1, .int x), (2, .int (sOn (g_pl S) x (i + 1))), (3, .int (nI (i + 1)))] ⟨rfl, rfl, x_i (by simp only [sOn]; first | rw [if_pos q19] | rw [if_neg q19]), x_i (by first | exact nI_1 _ | decide), trivial⟩ (ihi (i + 1) (by omega) (by omega))
        · refine E_iload_n dX0_climbersOn_22 (by rfl) ?_
          refine E_iconst (v := 1) dX0_climbersOn_23 (by decide) ?_
          refine E_iload_n dX0_climbersOn_24 (by rfl) ?_
          refine E_ishl dX0_climbersOn_25 ?_
          refine E_ior dX0_climbersOn_26 ?_
          refine E_istore_n dX0_climbersOn_27 (Nat.le_of_ble_eq_true rfl) (by rfl) ?_
          rw [eci] at q19
          refine E_iinc (d := 1) dX0_climbersOn_28 (by rfl) (by decide) (Nat.le_of_ble_eq_true rfl) (by rfl) ?_
          refine E_goto (tgt := 4) dX0_climbersOn_31 (by decide) ?_
          exact E_loc [(0, .ref g), (1, .int x), (2, .int (sOn (g_pl S) x (i + 1))), (3, .int (nI (i + 1)))] ⟨rfl, rfl, x_i (by simp only [sOn]; first | rw [if_pos q19] | rw [if_neg q19]), x_i (by first | exact nI_1 _ | decide), trivial⟩ (ihi (i + 1) (by omega) (by omega))
  refine E_iconst (v := 0) dX0_climbersOn_0 (by decide) ?_
  refine E_istore_n dX0_climbersOn_1 (Nat.le_of_ble_eq_true rfl) (by rfl) ?_
  refine E_iconst (v := 0) dX0_climbersOn_2 (by decide) ?_
  refine E_istore_n dX0_climbersOn_3 (Nat.le_of_ble_eq_true rfl) (by rfl) ?_
  exact E_loc [(0, .ref g), (1, .int x), (2, .int (sOn (g_pl S) x 0)), (3, .int (nI 0))] ⟨rfl, rfl, x_i (by rfl), x_i (by first | rfl | decide), trivial⟩ (loop (n + 1) 0 (by omega) (by omega))
abbrev g_up (le : Nat → Int32) (s : Nat) : Prop := (le s).toInt ≠ -6
theorem c_countCarpets (h : gAt mem g S) (ht : g_top S = nI t) (ht60 : t ≤ 60) : Dt G kX0_countCarpets [.ref g] mem (some (.int (sCn (g_up (g_le S)) t))) mem := by
  obtain ⟨a0, a1, a2, a3, a4, a5, a6, a7, a8⟩ := id h
  have ht' : (g_top S).toInt = (t : Int) := by rw [ht]; exact nI_toInt (by omega)
  refine Ct_of (by decide) (Nat.le_of_ble_eq_true rfl) ?_
  have loop : ∀ di i : Nat, t < i + di → i ≤ t → E G kX0_countCarpets (x_R (some (.int (sCn (g_up (g_le S)) t))) mem) 0 0 (mem) 4 (x_L [(0, .ref g), (1, .int (sCn (g_up (g_le S)) i)), (2, .int (nI i))]) [] := by
    intro di
    induction di with
    | zero => intro i hi1 hi2; exact absurd hi1 (by omega)
    | succ di ihi =>
      intro i hi1 hi2
      have ei : (nI i).toInt = (i : Int) := nI_toInt (by omega)
      have eci : (nI i).toNatClampNeg = i := nI_clamp (by omega)
      refine E_iload_n dX0_countCarpets_4 (by rfl) ?_
      refine E_aload_n dX0_countCarpets_5 (by rfl) ?_
      refine gf_X0_37 dX0_countCarpets_6 rfl (by assumption) (by rfl) ?_
      refine E_icmp_ge (n := _) rfl (tgt := 29) dX0_countCarpets_9 (by decide) (fun q9 => ?_) (fun q9 => ?_)
      · refine E_iload_n dX0_countCarpets_29 (by rfl) ?_
        refine E_iret dX0_countCarpets_30 rfl rfl (Nat.zero_le _) (Nat.zero_le _) ?_
        exact x_leaf (by rw [show i = t by omega])
      · refine E_aload_n dX0_countCarpets_12 (by rfl) ?_
        refine E_iload_n dX0_countCarpets_13 (by rfl) ?_
        refine cs_X0_countCarpets_14 (by assumption) (Nat.le_of_ble_eq_true rfl) (c_isUpperEnd h (by omega) _) ?_
        refine E_if_eq (tgt := 23) dX0_countCarpets_17 (by decide) (fun q17 => ?_) (fun q17 => ?_)
        · rw [b2i_T0] at q17; simp only [g_isUp, eci] at q17
          refine E_iinc (d := 1) dX0_countCarpets_23 (by rfl) (by decide) (Nat.le_of_ble_eq_true rfl) (by rfl) ?_
          refine E_goto (tgt := 4) dX0_countCarpets_26 (by decide) ?_
          exact E_loc [(0, .ref g), (1, .int (sCn (g_up (g_le S)) (i + 1))), (2, .int (nI (i + 1)))] ⟨rfl, x_i (by simp only [sCn]; first | rw [if_pos (fun hh => q17 (fun h2 => h2.2 hh))] | rw [if_neg (fun hh => q17 ⟨⟨by omega, by omega⟩, hh⟩)]), x_i (by first | exact nI_1 _ | decide), trivial⟩ (ihi (i + 1) (by omega) (by omega))
        · refine E_iinc (d := 1) dX0_countCarpets_20 (by rfl) (by decide) (Nat.le_of_ble_eq_true rfl) (by rfl) ?_
          rw [b2i_T0] at q17; simp only [g_isUp, eci] at q17
          refine E_iinc (d := 1) dX0_countCarpets_23 (by rfl) (by decide) (Nat.le_of_ble_eq_true rfl) (by rfl) ?_
          refine E_goto (tgt := 4) dX0_countCarpets_26 (by decide) ?_
          exact E_loc [(0, .ref g), (1, .int (sCn (g_up (g_le S)) (i + 1))), (2, .int (nI (i + 1)))] ⟨rfl, x_i (by simp only [sCn]; first | rw [if_pos (fun hh => q17 (fun h2 => h2.2 hh))] | rw [if_neg (fun hh => q17 ⟨⟨by omega, by omega⟩, hh⟩)]), x_i (by first | exact nI_1 _ | decide), trivial⟩ (ihi (i + 1) (by omega) (by omega))
  refine E_iconst (v := 0) dX0_countCarpets_0 (by decide) ?_
  refine E_istore_n dX0_countCarpets_1 (Nat.le_of_ble_eq_true rfl) (by rfl) ?_
  refine E_iconst (v := 0) dX0_countCarpets_2 (by decide) ?_
  refine E_istore_n dX0_countCarpets_3 (Nat.le_of_ble_eq_true rfl) (by rfl) ?_
  exact E_loc [(0, .ref g), (1, .int (sCn (g_up (g_le S)) 0)), (2, .int (nI 0))] ⟨rfl, x_i (by rfl), x_i (by first | rfl | decide), trivial⟩ (loop (t + 1) 0 (by omega) (by omega))
abbrev g_lan (la : Nat → Int32) (s : Nat) : Prop := (la s).toInt ≠ 0
theorem c_countLandings (h : gAt mem g S) (ht : g_top S = nI t) (ht60 : t ≤ 60) : Dt G kX0_countLandings [.ref g] mem (some (.int (sCn (g_lan (g_la S)) t))) mem := by
  obtain ⟨a0, a1, a2, a3, a4, a5, a6, a7, a8⟩ := id h
  have ht' : (g_top S).toInt = (t : Int) := by rw [ht]; exact nI_toInt (by omega)
  refine Ct_of (by decide) (Nat.le_of_ble_eq_true rfl) ?_
  have loop : ∀ di i : Nat, t < i + di → i ≤ t → E G kX0_countLandings (x_R (some (.int (sCn (g_lan (g_la S)) t))) mem) 0 0 (mem) 4 (x_L [(0, .ref g), (1, .int (sCn (g_lan (g_la S)) i)), (2, .int (nI i))]) [] := by
    intro di
    induction di with
    | zero => intro i hi1 hi2; exact absurd hi1 (by omega)
    | succ di ihi =>
      intro i hi1 hi2
      have ei : (nI i).toInt = (i : Int) := nI_toInt (by omega)
      have eci : (nI i).toNatClampNeg = i := nI_clamp (by omega)
      refine E_iload_n dX0_countLandings_4 (by rfl) ?_
      refine E_aload_n dX0_countLandings_5 (by rfl) ?_
      refine gf_X0_37 dX0_countLandings_6 rfl (by assumption) (by rfl) ?_
      refine E_icmp_ge (n := _) rfl (tgt := 29) dX0_countLandings_9 (by decide) (fun q9 => ?_) (fun q9 => ?_)
      · refine E_iload_n dX0_countLandings_29 (by rfl) ?_
        refine E_iret dX0_countLandings_30 rfl rfl (Nat.zero_le _) (Nat.zero_le _) ?_
        exact x_leaf (by rw [show i = t by omega])
      · refine E_aload_n dX0_countLandings_12 (by rfl) ?_
        refine E_iload_n dX0_countLandings_13 (by rfl) ?_
        refine cs_X0_countLandings_14 (by assumption) (Nat.le_of_ble_eq_true rfl) (c_isLanding h (by omega) _) ?_
        refine E_if_eq (tgt := 23) dX0_countLandings_17 (by decide) (fun q17 => ?_) (fun q17 => ?_)
        · rw [b2i_T0] at q17; simp only [g_isLa, eci] at q17
          refine E_iinc (d := 1) dX0_countLandings_23 (by rfl) (by decide) (Nat.le_of_ble_eq_true rfl) (by rfl) ?_
          refine E_goto (tgt := 4) dX0_countLandings_26 (by decide) ?_
          exact E_loc [(0, .ref g), (1, .int (sCn (g_lan (g_la S)) (i + 1))), (2, .int (nI (i + 1)))] ⟨rfl, x_i (by simp only [sCn]; first | rw [if_pos (fun hh => q17 (fun h2 => h2.2 hh))] | rw [if_neg (fun hh => q17 ⟨⟨by omega, by omega⟩, hh⟩)]), x_i (by first | exact nI_1 _ | decide), trivial⟩ (ihi (i + 1) (by omega) (by omega))
        · refine E_iinc (d := 1) dX0_countLandings_20 (by rfl) (by decide) (Nat.le_of_ble_eq_true rfl) (by rfl) ?_
          rw [b2i_T0] at q17; simp only [g_isLa, eci] at q17
          refine E_iinc (d := 1) dX0_countLandings_23 (by rfl) (by decide) (Nat.le_of_ble_eq_true rfl) (by rfl) ?_
          refine E_goto (tgt := 4) dX0_countLandings_26 (by decide) ?_
          exact E_loc [(0, .ref g), (1, .int (sCn (g_lan (g_la S)) (i + 1))), (2, .int (nI (i + 1)))] ⟨rfl, x_i (by simp only [sCn]; first | rw [if_pos (fun hh => q17 (fun h2 => h2.2 hh))] | rw [if_neg (fun hh => q17 ⟨⟨by omega, by omega⟩, hh⟩)]), x_i (by first | exact nI_1 _ | decide), trivial⟩ (ihi (i + 1) (by omega) (by omega))
  refine E_iconst (v := 0) dX0_countLandings_0 (by decide) ?_
  refine E_istore_n dX0_countLandings_1 (Nat.le_of_ble_eq_true rfl) (by rfl) ?_
  refine E_iconst (v := 0) dX0_countLandings_2 (by decide) ?_
  refine E_istore_n dX0_countLandings_3 (Nat.le_of_ble_eq_true rfl) (by rfl) ?_
  exact E_loc [(0, .ref g), (1, .int (sCn (g_lan (g_la S)) 0)), (2, .int (nI 0))] ⟨rfl, x_i (by rfl), x_i (by first | rfl | decide), trivial⟩ (loop (t + 1) 0 (by omega) (by omega))
theorem c_lowerEndsAt (h : gAt mem g S) (ht : g_top S = nI t) (ht60 : t ≤ 60) (x : Int32) : Dt G kX0_lowerEndsAt [.ref g, .int x] mem (some (.int (sCn (fun s => (g_le S s).toInt = x.toInt) t))) mem := by
  obtain ⟨a0, a1, a2, a3, a4, a5, a6, a7, a8⟩ := id h
  have ht' : (g_top S).toInt = (t : Int) := by rw [ht]; exact nI_toInt (by omega)
  refine Ct_of (by decide) (Nat.le_of_ble_eq_true rfl) ?_
  have loop : ∀ di i : Nat, t < i + di → i ≤ t → E G kX0_lowerEndsAt (x_R (some (.int (sCn (fun s => (g_le S s).toInt = x.toInt) t))) mem) 0 0 (mem) 4 (x_L [(0, .ref g), (1, .int x), (2, .int (sCn (fun s => (g_le S s).toInt = x.toInt) i)), (3, .int (nI i))]) [] := by
    intro di
    induction di with
    | zero => intro i hi1 hi2; exact absurd hi1 (by omega)
    | succ di ihi =>
      intro i hi1 hi2
      have ei : (nI i).toInt = (i : Int) := nI_toInt (by omega)
      have eci : (nI i).toNatClampNeg = i := nI_clamp (by omega)
      refine E_iload_n dX0_lowerEndsAt_4 (by rfl) ?_
      refine E_aload_n dX0_lowerEndsAt_5 (by rfl) ?_
      refine gf_X0_37 dX0_lowerEndsAt_6 rfl (by assumption) (by rfl) ?_
      refine E_icmp_ge (n := _) rfl (tgt := 31) dX0_lowerEndsAt_9 (by decide) (fun q9 => ?_) (fun q9 => ?_)
      · refine E_iload_n dX0_lowerEndsAt_31 (by rfl) ?_
        refine E_iret dX0_lowerEndsAt_32 rfl rfl (Nat.zero_le _) (Nat.zero_le _) ?_
        exact x_leaf (by rw [show i = t by omega])
      · refine E_aload_n dX0_lowerEndsAt_12 (by rfl) ?_
        refine gf_X0_9 dX0_lowerEndsAt_13 rfl (by assumption) (by rfl) ?_
        refine E_iload_n dX0_lowerEndsAt_16 (by rfl) ?_
        refine E_iald dX0_lowerEndsAt_17 (by assumption) (i_in (by omega) (by omega)) ?_
        refine E_iload_n dX0_lowerEndsAt_18 (by rfl) ?_
        refine E_icmp_ne (n := _) rfl (tgt := 25) dX0_lowerEndsAt_19 (by decide) (fun q19 => ?_) (fun q19 => ?_)
        · rw [eci] at q19
          refine E_iinc (d := 1) dX0_lowerEndsAt_25 (by rfl) (by decide) (Nat.le_of_ble_eq_true rfl) (by rfl) ?_
          refine E_goto (tgt := 4) dX0_lowerEndsAt_28 (by decide) ?_
          exact E_loc [(0, .ref g), (1, .int x), (2, .int (sCn (fun s => (g_le S s).toInt = x.toInt) (i + 1))), (3, .int (nI (i + 1)))] ⟨rfl, rfl, x_i (by simp only [sCn]; first | rw [if_pos q19] | rw [if_neg q19]), x_i (by first | exact nI_1 _ | decide), trivial⟩ (ihi (i + 1) (by omega) (by omega))
        · refine E_iinc (d := 1) dX0_lowerEndsAt_22 (by rfl) (by decide) (Nat.le_of_ble_eq_true rfl) (by rfl) ?_
          rw [eci] at q19
          refine E_iinc (d := 1) dX0_lowerEndsAt_25 (by rfl) (by decide) (Nat.le_of_ble_eq_true rfl) (by rfl) ?_
          refine E_goto (tgt := 4) dX0_lowerEndsAt_28 (by decide) ?_
          exact E_loc [(0, .ref g), (1, .int x), (2, .int (sCn (fun s => (g_le S s).toInt = x.toInt) (i + 1))), (3, .int (nI (i + 1)))] ⟨rfl, rfl, x_i (by simp only [sCn]; first | rw [if_pos q19] | rw [if_neg q19]), x_i (by first | exact nI_1 _ | decide), trivial⟩ (ihi (i + 1) (by omega) (by omega))
  refine E_iconst (v := 0) dX0_lowerEndsAt_0 (by decide) ?_
  refine E_istore_n dX0_lowerEndsAt_1 (Nat.le_of_ble_eq_true rfl) (by rfl) ?_
  refine E_iconst (v := 0) dX0_lowerEndsAt_2 (by decide) ?_
  refine E_istore_n dX0_lowerEndsAt_3 (Nat.le_of_ble_eq_true rfl) (by rfl) ?_
  exact E_loc [(0, .ref g), (1, .int x), (2, .int (sCn (fun s => (g_le S s).toInt = x.toInt) 0)), (3, .int (nI 0))] ⟨rfl, rfl, x_i (by rfl), x_i (by first | rfl | decide), trivial⟩ (loop (t + 1) 0 (by omega) (by omega))
theorem c_sumOf {a : Nat} {f : Nat → Int32} (h : mem[a]? = some (g_a 0 6 f)) : Dt G kX0_sumOf [.ref a] mem (some (.int (sSm f 6))) mem := by
  refine Ct_of (by decide) (Nat.le_of_ble_eq_true rfl) ?_
  have loop : ∀ di i : Nat, 6 < i + di → i ≤ 6 → E G kX0_sumOf (x_R (some (.int (sSm f 6))) mem) 0 0 (mem) 10 (x_L [(0, .ref a), (1, .int (sSm f i)), (2, .ref a), (3, .int 6), (4, .int (nI i))]) [] := by
    intro di
    induction di with
    | zero => intro i hi1 hi2; exact absurd hi1 (by omega)
    | succ di ihi =>
      intro i hi1 hi2
      have ei : (nI i).toInt = (i : Int) := nI_toInt (by omega)
      have eci : (nI i).toNatClampNeg = i := nI_clamp (by omega)
      have e6 : (6 : Int32).toInt = 6 := by decide
      refine E_iload dX0_sumOf_10 (by rfl) ?_
      refine E_iload_n dX0_sumOf_12 (by rfl) ?_
      refine E_icmp_ge (n := _) rfl (tgt := 33) dX0_sumOf_13 (by decide) (fun q13 => ?_) (fun q13 => ?_)
      · refine E_iload_n dX0_sumOf_33 (by rfl) ?_
        refine E_iret dX0_sumOf_34 rfl rfl (Nat.zero_le _) (Nat.zero_le _) ?_
        exact x_leaf (by rw [show i = 6 by omega])
      · refine E_aload_n dX0_sumOf_16 (by rfl) ?_
        refine E_iload dX0_sumOf_17 (by rfl) ?_
        refine E_iald dX0_sumOf_19 (by assumption) (i_in (by omega) (by omega)) ?_
        refine E_istore dX0_sumOf_20 (Nat.le_of_ble_eq_true rfl) (by rfl) ?_
        refine E_iload_n dX0_sumOf_22 (by rfl) ?_
        refine E_iload dX0_sumOf_23 (by rfl) ?_
        refine E_iadd dX0_sumOf_25 ?_
        refine E_istore_n dX0_sumOf_26 (Nat.le_of_ble_eq_true rfl) (by rfl) ?_
        refine E_iinc (d := 1) dX0_sumOf_27 (by rfl) (by decide) (Nat.le_of_ble_eq_true rfl) (by rfl) ?_
        refine E_goto (tgt := 10) dX0_sumOf_30 (by decide) ?_
        exact E_loc [(0, .ref a), (1, .int (sSm f (i + 1))), (2, .ref a), (3, .int 6), (4, .int (nI (i + 1)))] ⟨rfl, x_i (by simp only [sSm, eci]), rfl, rfl, x_i (by first | exact nI_1 _ | decide), trivial⟩ (ihi (i + 1) (by omega) (by omega))
  refine E_iconst (v := 0) dX0_sumOf_0 (by decide) ?_
  refine E_istore_n dX0_sumOf_1 (Nat.le_of_ble_eq_true rfl) (by rfl) ?_
  refine E_aload_n dX0_sumOf_2 (by rfl) ?_
  refine E_astore_n dX0_sumOf_3 (Nat.le_of_ble_eq_true rfl) (by rfl) ?_
  refine E_aload_n dX0_sumOf_4 (by rfl) ?_
  refine E_alen dX0_sumOf_5 (by assumption) rfl rfl ?_
  refine E_istore_n dX0_sumOf_6 (Nat.le_of_ble_eq_true rfl) (by rfl) ?_
  refine E_iconst (v := 0) dX0_sumOf_7 (by decide) ?_
  refine E_istore dX0_sumOf_8 (Nat.le_of_ble_eq_true rfl) (by rfl) ?_
  exact E_loc [(0, .ref a), (1, .int (sSm f 0)), (2, .ref a), (3, .int 6), (4, .int (nI 0))] ⟨rfl, x_i (by rfl), rfl, rfl, x_i (by first | rfl | decide), trivial⟩ (loop (6 + 1) 0 (by omega) (by omega))
theorem c_liftsOfAll (h : gAt mem g S) : Dt G kX0_liftsOfAll [.ref g] mem (some (.int (sSm (g_tl S) 6))) mem := by
  obtain ⟨a0, a1, a2, a3, a4, a5, a6, a7, a8⟩ := id h
  refine Ct_of (by decide) (Nat.le_of_ble_eq_true rfl) ?_
  refine E_aload_n dX0_liftsOfAll_0 (by rfl) ?_
  refine gf_X0_28 dX0_liftsOfAll_1 rfl (by assumption) (by rfl) ?_
  refine cs_X0_liftsOfAll_4 (Nat.le_of_ble_eq_true rfl) (c_sumOf a6) ?_
  refine E_iret dX0_liftsOfAll_7 rfl rfl (Nat.zero_le _) (Nat.zero_le _) ?_
  exact x_leaf rfl
theorem c_slipsOfAll (h : gAt mem g S) : Dt G kX0_slipsOfAll [.ref g] mem (some (.int (sSm (g_sl S) 6))) mem := by
  obtain ⟨a0, a1, a2, a3, a4, a5, a6, a7, a8⟩ := id h
  refine Ct_of (by decide) (Nat.le_of_ble_eq_true rfl) ?_
  refine E_aload_n dX0_slipsOfAll_0 (by rfl) ?_
  refine gf_X0_34 dX0_slipsOfAll_1 rfl (by assumption) (by rfl) ?_
  refine cs_X0_slipsOfAll_4 (Nat.le_of_ble_eq_true rfl) (c_sumOf a8) ?_
  refine E_iret dX0_slipsOfAll_7 rfl rfl (Nat.zero_le _) (Nat.zero_le _) ?_
  exact x_leaf rfl
theorem c_topsOfAll (h : gAt mem g S) : Dt G kX0_topsOfAll [.ref g] mem (some (.int (sSm (g_tp S) 6))) mem := by
  obtain ⟨a0, a1, a2, a3, a4, a5, a6, a7, a8⟩ := id h
  refine Ct_of (by decide) (Nat.le_of_ble_eq_true rfl) ?_
  refine E_aload_n dX0_topsOfAll_0 (by rfl) ?_
  refine gf_X0_22 dX0_topsOfAll_1 rfl (by assumption) (by rfl) ?_
  refine cs_X0_topsOfAll_4 (Nat.le_of_ble_eq_true rfl) (c_sumOf a4) ?_
  refine E_iret dX0_topsOfAll_7 rfl rfl (Nat.zero_le _) (Nat.zero_le _) ?_
  exact x_leaf rfl
def gPr (S : gS) (c : Int32) : Int32 := if g_isCl S c then g_tp S c.toNatClampNeg * g_top S + g_pl S c.toNatClampNeg else 0
theorem c_progressOf (h : gAt mem g S) (hc : (g_cl S).toInt ≤ 6) (x : Int32) : Dt G kX0_progressOf [.ref g, .int x] mem (some (.int (gPr S x))) mem := by
  obtain ⟨a0, a1, a2, a3, a4, a5, a6, a7, a8⟩ := id h
  refine Ct_of (by decide) (Nat.le_of_ble_eq_true rfl) ?_
  refine E_aload_n dX0_progressOf_0 (by rfl) ?_
  refine E_iload_n dX0_progressOf_1 (by rfl) ?_
  refine cs_X0_progressOf_2 (by assumption) (Nat.le_of_ble_eq_true rfl) (c_isClimber h _) ?_
  refine E_if_eq (tgt := 29) dX0_progressOf_5 (by decide) (fun q5 => ?_) (fun q5 => ?_)
  · rw [b2i_T0] at q5
    refine E_iconst (v := 0) dX0_progressOf_29 (by decide) ?_
    refine E_iret dX0_progressOf_30 rfl rfl (Nat.zero_le _) (Nat.zero_le _) ?_
    first | exact x_leaf (by rw [gPr, if_neg q5]) | exact x_leaf (by rw [gPr, if_pos q5])
  · rw [b2i_T0] at q5; have q5 := Classical.not_not.mp q5
    refine E_aload_n dX0_progressOf_8 (by rfl) ?_
    refine gf_X0_22 dX0_progressOf_9 rfl (by assumption) (by rfl) ?_
    refine E_iload_n dX0_progressOf_12 (by rfl) ?_
    refine E_iald dX0_progressOf_13 (by assumption) (i_in (by omega) (by omega)) ?_
    refine E_aload_n dX0_progressOf_14 (by rfl) ?_
    refine gf_X0_37 dX0_progressOf_15 rfl (by assumption) (by rfl) ?_
    refine E_imul dX0_progressOf_18 ?_
    refine E_aload_n dX0_progressOf_19 (by rfl) ?_
    refine gf_X0_19 dX0_progressOf_20 rfl (by assumption) (by rfl) ?_
    refine E_iload_n dX0_progressOf_23 (by rfl) ?_
    refine E_iald dX0_progressOf_24 (by assumption) (i_in (by omega) (by omega)) ?_
    refine E_iadd dX0_progressOf_25 ?_
    refine E_goto (tgt := 30) dX0_progressOf_26 (by decide) ?_
    refine E_iret dX0_progressOf_30 rfl rfl (Nat.zero_le _) (Nat.zero_le _) ?_
    first | exact x_leaf (by rw [gPr, if_neg q5]) | exact x_leaf (by rw [gPr, if_pos q5])
end G2
end
section
/-! more of Game: what is asked by search, errors, and the writing of single cells -/
section G3
variable {G : xG} {mem : xM} {g : Nat} {S T : gS} {t n : Nat}
theorem c_isRoll (x : Int32) : Dt G kX3_isRoll [.int x] mem (some (.int (b2i (1 ≤ x.toInt ∧ x.toInt ≤ 6)))) mem := by
  refine Ct_of (by decide) (Nat.le_of_ble_eq_true rfl) ?_
  refine E_iload_n dX3_isRoll_0 (by rfl) ?_
  refine E_iconst (v := 1) dX3_isRoll_1 (by decide) ?_
  refine E_icmp_lt (n := 1) (by decide) (tgt := 15) dX3_isRoll_2 (by decide) (fun q2 => ?_) (fun q2 => ?_)
  · refine E_iconst (v := 0) dX3_isRoll_15 (by decide) ?_
    refine E_iret dX3_isRoll_16 rfl (by decide) (Nat.zero_le _) (Nat.zero_le _) ?_
    first | exact ⟨by rw [b2i_t (by omega)], rfl⟩ | exact ⟨by rw [b2i_f (by omega)], rfl⟩
  · refine E_iload_n dX3_isRoll_5 (by rfl) ?_
    refine E_bipush (v := 6) dX3_isRoll_6 (by decide) ?_
    refine E_icmp_gt (n := 6) (by decide) (tgt := 15) dX3_isRoll_8 (by decide) (fun q8 => ?_) (fun q8 => ?_)
    · refine E_iconst (v := 0) dX3_isRoll_15 (by decide) ?_
      refine E_iret dX3_isRoll_16 rfl (by decide) (Nat.zero_le _) (Nat.zero_le _) ?_
      first | exact ⟨by rw [b2i_t (by omega)], rfl⟩ | exact ⟨by rw [b2i_f (by omega)], rfl⟩
    · refine E_iconst (v := 1) dX3_isRoll_11 (by decide) ?_
      refine E_goto (tgt := 16) dX3_isRoll_12 (by decide) ?_
      refine E_iret dX3_isRoll_16 rfl (by decide) (Nat.zero_le _) (Nat.zero_le _) ?_
      first | exact ⟨by rw [b2i_t (by omega)], rfl⟩ | exact ⟨by rw [b2i_f (by omega)], rfl⟩
abbrev g_psd (S : gS) (c : Nat) (u : Int32) : Prop := (g_pl S (g_mv S).toNatClampNeg).toInt < (g_pl S c).toInt ∧ (g_pl S c).toInt < (g_pl S (g_mv S).toNatClampNeg + u).toInt ∧ ¬ g_isLa S (g_pl S c)
theorem c_isPassed (h : gAt mem g S) (ht : (g_top S).toInt ≤ 60) (hm : 0 ≤ (g_mv S).toInt ∧ (g_mv S).toInt < 6) {x : Int32} (hx : 0 ≤ x.toInt ∧ x.toInt < 6) (u : Int32) : Dt G kX0_isPassed [.ref g, .int x, .int u] mem (some (.int (b2i (g_psd S x.toNatClampNeg u)))) mem := by
  obtain ⟨a0, a1, a2, a3, a4, a5, a6, a7, a8⟩ := id h
  refine Ct_of (by decide) (Nat.le_of_ble_eq_true rfl) ?_
  refine E_aload_n dX0_isPassed_0 (by rfl) ?_
  refine gf_X0_19 dX0_isPassed_1 rfl (by assumption) (by rfl) ?_
  refine E_iload_n dX0_isPassed_4 (by rfl) ?_
  refine E_iald dX0_isPassed_5 (by assumption) (i_in (by omega) (by omega)) ?_
  refine E_istore_n dX0_isPassed_6 (Nat.le_of_ble_eq_true rfl) (by rfl) ?_
  refine E_aload_n dX0_isPassed_7 (by rfl) ?_
  refine gf_X0_19 dX0_isPassed_8 rfl (by assumption) (by rfl) ?_
  refine E_aload_n dX0_isPassed_11 (by rfl) ?_
  refine gf_X0_44 dX0_isPassed_12 rfl (by assumption) (by rfl) ?_
  refine E_iald dX0_isPassed_15 (by assumption) (i_in (by omega) (by omega)) ?_
  refine E_istore dX0_isPassed_16 (Nat.le_of_ble_eq_true rfl) (by rfl) ?_
  refine E_iload_n dX0_isPassed_18 (by rfl) ?_
  refine E_iload dX0_isPassed_19 (by rfl) ?_
  refine E_icmp_le (n := _) rfl (tgt := 44) dX0_isPassed_21 (by decide) (fun q21 => ?_) (fun q21 => ?_)
  · refine E_iconst (v := 0) dX0_isPassed_44 (by decide) ?_
    refine E_iret dX0_isPassed_45 rfl (by decide) (Nat.zero_le _) (Nat.zero_le _) ?_
    exact x_leaf (by rw [b2i_f (fun hh => by have := hh.1; omega)])
  · refine E_iload_n dX0_isPassed_24 (by rfl) ?_
    refine E_iload dX0_isPassed_25 (by rfl) ?_
    refine E_iload_n dX0_isPassed_27 (by rfl) ?_
    refine E_iadd dX0_isPassed_28 ?_
    refine E_icmp_ge (n := _) rfl (tgt := 44) dX0_isPassed_29 (by decide) (fun q29 => ?_) (fun q29 => ?_)
    · refine E_iconst (v := 0) dX0_isPassed_44 (by decide) ?_
      refine E_iret dX0_isPassed_45 rfl (by decide) (Nat.zero_le _) (Nat.zero_le _) ?_
      exact x_leaf (by rw [b2i_f (fun hh => by have := hh.2.1; omega)])
    · refine E_aload_n dX0_isPassed_32 (by rfl) ?_
      refine E_iload_n dX0_isPassed_33 (by rfl) ?_
      refine cs_X0_isPassed_34 (by assumption) (Nat.le_of_ble_eq_true rfl) (c_isLanding h ht _) ?_
      refine E_if_ne (tgt := 44) dX0_isPassed_37 (by decide) (fun q37 => ?_) (fun q37 => ?_)
      · rw [b2i_T0] at q37; have q37 := Classical.not_not.mp q37
        refine E_iconst (v := 0) dX0_isPassed_44 (by decide) ?_
        refine E_iret dX0_isPassed_45 rfl (by decide) (Nat.zero_le _) (Nat.zero_le _) ?_
        exact x_leaf (by rw [b2i_f (fun hh => hh.2.2 q37)])
      · rw [b2i_T0] at q37
        refine E_iconst (v := 1) dX0_isPassed_40 (by decide) ?_
        refine E_goto (tgt := 45) dX0_isPassed_41 (by decide) ?_
        refine E_iret dX0_isPassed_45 rfl (by decide) (Nat.zero_le _) (Nat.zero_le _) ?_
        exact x_leaf (by rw [b2i_t ⟨by omega, by omega, q37⟩])
def sNo (p : Nat → Prop) [DecidablePred p] : Nat → Bool
  | 0 => true
  | c + 1 => sNo p c && !decide (p c)
theorem sNo_iff {p : Nat → Prop} [DecidablePred p] (n : Nat) : sNo p n = true ↔ ∀ c, c < n → ¬ p c := by
  induction n with
  | zero => exact ⟨fun _ c h => by omega, fun _ => rfl⟩
  | succ n ih =>
    simp only [sNo, Bool.and_eq_true, ih, Bool.not_eq_true', decide_eq_false_iff_not]
    constructor
    · rintro ⟨h1, h2⟩ c hc
      by_cases e : c = n
      · rw [e]; exact h2
      · exact h1 c (by omega)
    · intro h
      exact ⟨fun c hc => h c (by omega), h n (by omega)⟩
theorem c_wouldLift (h : gAt mem g S) (ht : (g_top S).toInt ≤ 60) (hc : g_cl S = nI n) (hn : n ≤ 6) (hm : 0 ≤ (g_mv S).toInt ∧ (g_mv S).toInt < 6) (u : Int32) : Dt G kX0_wouldLift [.ref g, .int u] mem (some (.int (b2i (sNo (fun c => g_psd S c u) n = false)))) mem := by
  obtain ⟨a0, a1, a2, a3, a4, a5, a6, a7, a8⟩ := id h
  have hc' : (g_cl S).toInt = (n : Int) := by rw [hc]; exact nI_toInt (by omega)
  refine Ct_of (by decide) (Nat.le_of_ble_eq_true rfl) ?_
  have loop : ∀ di i : Nat, n < i + di → i ≤ n → (∀ c, c < i → ¬ g_psd S c u) → E G kX0_wouldLift (x_R (some (.int (b2i (sNo (fun c => g_psd S c u) n = false)))) mem) 0 0 (mem) 2 (x_L [(0, .ref g), (1, .int u), (2, .int (nI i))]) [] := by
    intro di
    induction di with
    | zero => intro i hi1 hi2 _; exact absurd hi1 (by omega)
    | succ di ihi =>
      intro i hi1 hi2 hinv
      have ei : (nI i).toInt = (i : Int) := nI_toInt (by omega)
      have eci : (nI i).toNatClampNeg = i := nI_clamp (by omega)
      refine E_iload_n dX0_wouldLift_2 (by rfl) ?_
      refine E_aload_n dX0_wouldLift_3 (by rfl) ?_
      refine gf_X0_41 dX0_wouldLift_4 rfl (by assumption) (by rfl) ?_
      refine E_icmp_ge (n := _) rfl (tgt := 27) dX0_wouldLift_7 (by decide) (fun q7 => ?_) (fun q7 => ?_)
      · refine E_iconst (v := 0) dX0_wouldLift_27 (by decide) ?_
        refine E_iret dX0_wouldLift_28 rfl (by decide) (Nat.zero_le _) (Nat.zero_le _) ?_
        exact x_leaf (by rw [b2i_f]; rw [(sNo_iff n).mpr (fun c hcn => hinv c (by omega))]; decide)
      · refine E_aload_n dX0_wouldLift_10 (by rfl) ?_
        refine E_iload_n dX0_wouldLift_11 (by rfl) ?_
        refine E_iload_n dX0_wouldLift_12 (by rfl) ?_
        refine cs_X0_wouldLift_13 (by assumption) (Nat.le_of_ble_eq_true rfl) (c_isPassed h ht hm (by omega) u) ?_
        refine E_if_eq (tgt := 21) dX0_wouldLift_16 (by decide) (fun q16 => ?_) (fun q16 => ?_)
        · rw [b2i_T0, eci] at q16
          refine E_iinc (d := 1) dX0_wouldLift_21 (by rfl) (by decide) (Nat.le_of_ble_eq_true rfl) (by rfl) ?_
          refine E_goto (tgt := 2) dX0_wouldLift_24 (by decide) ?_
          exact E_loc [(0, .ref g), (1, .int u), (2, .int (nI (i + 1)))] ⟨rfl, rfl, x_i (by first | exact nI_1 _ | decide), trivial⟩ (ihi (i + 1) (by omega) (by omega) (lt_s hinv q16))
        · rw [b2i_T0, eci] at q16; have q16 := Classical.not_not.mp q16
          refine E_iconst (v := 1) dX0_wouldLift_19 (by decide) ?_
          refine E_iret dX0_wouldLift_20 rfl (by decide) (Nat.zero_le _) (Nat.zero_le _) ?_
          exact x_leaf (by rw [b2i_t]; exact Bool.eq_false_iff.mpr (fun hh => (sNo_iff n).mp hh i (by omega) q16))
  refine E_iconst (v := 0) dX0_wouldLift_0 (by decide) ?_
  refine E_istore_n dX0_wouldLift_1 (Nat.le_of_ble_eq_true rfl) (by rfl) ?_
  exact E_loc [(0, .ref g), (1, .int u), (2, .int (nI 0))] ⟨rfl, rfl, x_i (by first | rfl | decide), trivial⟩ (loop (n + 1) 0 (by omega) (by omega) lt_0)
/-- the first of n, from i on, that is so -/
def sFst (p : Nat → Prop) [DecidablePred p] : Nat → Nat → Int32
  | 0, _ => -6
  | d + 1, i => if p i then nI i else sFst p d (i + 1)
abbrev g_ahd (S : gS) (x : Int32) (o : Nat) : Prop := (gPr S x).toInt < (gPr S (nI o)).toInt ∨ (gPr S (nI o)).toInt = (gPr S x).toInt ∧ (nI o).toInt < x.toInt
theorem c_climbersAheadOf (h : gAt mem g S) (hc : g_cl S = nI n) (hn : n ≤ 6) (x : Int32) : Dt G kX0_climbersAheadOf [.ref g, .int x] mem (some (.int (sCn (g_ahd S x) n))) mem := by
  obtain ⟨a0, a1, a2, a3, a4, a5, a6, a7, a8⟩ := id h
  have hc' : (g_cl S).toInt = (n : Int) := by rw [hc]; exact nI_toInt (by omega)
  refine Ct_of (by decide) (Nat.le_of_ble_eq_true rfl) ?_
  have loop : ∀ di i : Nat, n < i + di → i ≤ n → E G kX0_climbersAheadOf (x_R (some (.int (sCn (g_ahd S x) n))) mem) 0 0 (mem) 11 (x_L [(0, .ref g), (1, .int x), (2, .int (sCn (g_ahd S x) i)), (3, .int (gPr S x)), (4, .int (nI i))]) [] := by
    intro di
    induction di with
    | zero => intro i hi1 hi2; exact absurd hi1 (by omega)
    | succ di ihi =>
      intro i hi1 hi2
      have ei : (nI i).toInt = (i : Int) := nI_toInt (by omega)
      have eci : (nI i).toNatClampNeg = i := nI_clamp (by omega)
      refine E_iload dX0_climbersAheadOf_11 (by rfl) ?_
      refine E_aload_n dX0_climbersAheadOf_13 (by rfl) ?_
      refine gf_X0_41 dX0_climbersAheadOf_14 rfl (by assumption) (by rfl) ?_
      refine E_icmp_ge (n := _) rfl (tgt := 55) dX0_climbersAheadOf_17 (by decide) (fun q17 => ?_) (fun q17 => ?_)
      · refine E_iload_n dX0_climbersAheadOf_55 (by rfl) ?_
        refine E_iret dX0_climbersAheadOf_56 rfl rfl (Nat.zero_le _) (Nat.zero_le _) ?_
        exact x_leaf (by rw [show i = n by omega])
      · refine E_aload_n dX0_climbersAheadOf_20 (by rfl) ?_
        refine E_iload dX0_climbersAheadOf_21 (by rfl) ?_
        refine cs_X0_climbersAheadOf_23 (by assumption) (Nat.le_of_ble_eq_true rfl) (c_progressOf h (by omega) _) ?_
        refine E_istore dX0_climbersAheadOf_26 (Nat.le_of_ble_eq_true rfl) (by rfl) ?_
        refine E_iload dX0_climbersAheadOf_28 (by rfl) ?_
        refine E_iload_n dX0_climbersAheadOf_30 (by rfl) ?_
        refine E_icmp_gt (n := _) rfl (tgt := 46) dX0_climbersAheadOf_31 (by decide) (fun q31 => ?_) (fun q31 => ?_)
        · refine E_iinc (d := 1) dX0_climbersAheadOf_46 (by rfl) (by decide) (Nat.le_of_ble_eq_true rfl) (by rfl) ?_
          refine E_iinc (d := 1) dX0_climbersAheadOf_49 (by rfl) (by decide) (Nat.le_of_ble_eq_true rfl) (by rfl) ?_
          refine E_goto (tgt := 11) dX0_climbersAheadOf_52 (by decide) ?_
          exact E_loc [(0, .ref g), (1, .int x), (2, .int (sCn (g_ahd S x) (i + 1))), (3, .int (gPr S x)), (4, .int (nI (i + 1)))] ⟨rfl, rfl, x_i (by simp only [sCn]; first | rw [if_pos (by unfold g_ahd; omega)] | rw [if_neg (by unfold g_ahd; omega)]), rfl, x_i (by first | exact nI_1 _ | decide), trivial⟩ (ihi (i + 1) (by omega) (by omega))
        · refine E_iload dX0_climbersAheadOf_34 (by rfl) ?_
          refine E_iload_n dX0_climbersAheadOf_36 (by rfl) ?_
          refine E_icmp_ne (n := _) rfl (tgt := 49) dX0_climbersAheadOf_37 (by decide) (fun q37 => ?_) (fun q37 => ?_)
          · refine E_iinc (d := 1) dX0_climbersAheadOf_49 (by rfl) (by decide) (Nat.le_of_ble_eq_true rfl) (by rfl) ?_
            refine E_goto (tgt := 11) dX0_climbersAheadOf_52 (by decide) ?_
            exact E_loc [(0, .ref g), (1, .int x), (2, .int (sCn (g_ahd S x) (i + 1))), (3, .int (gPr S x)), (4, .int (nI (i + 1)))] ⟨rfl, rfl, x_i (by simp only [sCn]; first | rw [if_pos (by unfold g_ahd; omega)] | rw [if_neg (by unfold g_ahd; omega)]), rfl, x_i (by first | exact nI_1 _ | decide), trivial⟩ (ihi (i + 1) (by omega) (by omega))
          · refine E_iload dX0_climbersAheadOf_40 (by rfl) ?_
            refine E_iload_n dX0_climbersAheadOf_42 (by rfl) ?_
            refine E_icmp_ge (n := _) rfl (tgt := 49) dX0_climbersAheadOf_43 (by decide) (fun q43 => ?_) (fun q43 => ?_)
            · refine E_iinc (d := 1) dX0_climbersAheadOf_49 (by rfl) (by decide) (Nat.le_of_ble_eq_true rfl) (by rfl) ?_
              refine E_goto (tgt := 11) dX0_climbersAheadOf_52 (by decide) ?_
              exact E_loc [(0, .ref g), (1, .int x), (2, .int (sCn (g_ahd S x) (i + 1))), (3, .int (gPr S x)), (4, .int (nI (i + 1)))] ⟨rfl, rfl, x_i (by simp only [sCn]; first | rw [if_pos (by unfold g_ahd; omega)] | rw [if_neg (by unfold g_ahd; omega)]), rfl, x_i (by first | exact nI_1 _ | decide), trivial⟩ (ihi (i + 1) (by omega) (by omega))
            · refine E_iinc (d := 1) dX0_climbersAheadOf_46 (by rfl) (by decide) (Nat.le_of_ble_eq_true rfl) (by rfl) ?_
              refine E_iinc (d := 1) dX0_climbersAheadOf_49 (by rfl) (by decide) (Nat.le_of_ble_eq_true rfl) (by rfl) ?_
              refine E_goto (tgt := 11) dX0_climbersAheadOf_52 (by decide) ?_
              exact E_loc [(0, .ref g), (1, .int x), (2, .int (sCn (g_ahd S x) (i + 1))), (3, .int (gPr S x)), (4, .int (nI (i + 1)))] ⟨rfl, rfl, x_i (by simp only [sCn]; first | rw [if_pos (by unfold g_ahd; omega)] | rw [if_neg (by unfold g_ahd; omega)]), rfl, x_i (by first | exact nI_1 _ | decide), trivial⟩ (ihi (i + 1) (by omega) (by omega))
  refine E_iconst (v := 0) dX0_climbersAheadOf_0 (by decide) ?_
  refine E_istore_n dX0_climbersAheadOf_1 (Nat.le_of_ble_eq_true rfl) (by rfl) ?_
  refine E_aload_n dX0_climbersAheadOf_2 (by rfl) ?_
  refine E_iload_n dX0_climbersAheadOf_3 (by rfl) ?_
  refine cs_X0_climbersAheadOf_4 (by assumption) (Nat.le_of_ble_eq_true rfl) (c_progressOf h (by omega) _) ?_
  refine E_istore_n dX0_climbersAheadOf_7 (Nat.le_of_ble_eq_true rfl) (by rfl) ?_
  refine E_iconst (v := 0) dX0_climbersAheadOf_8 (by decide) ?_
  refine E_istore dX0_climbersAheadOf_9 (Nat.le_of_ble_eq_true rfl) (by rfl) ?_
  exact E_loc [(0, .ref g), (1, .int x), (2, .int (sCn (g_ahd S x) 0)), (3, .int (gPr S x)), (4, .int (nI 0))] ⟨rfl, rfl, x_i (by rfl), rfl, x_i (by first | rfl | decide), trivial⟩ (loop (n + 1) 0 (by omega) (by omega))
theorem c_climberAtPlace (h : gAt mem g S) (hc : g_cl S = nI n) (hn : n ≤ 6) (x : Int32) : Dt G kX0_climberAtPlace [.ref g, .int x] mem (some (.int (sFst (fun c => (sCn (g_ahd S (nI c)) n).toInt = x.toInt) n 0))) mem := by
  obtain ⟨a0, a1, a2, a3, a4, a5, a6, a7, a8⟩ := id h
  have hc' : (g_cl S).toInt = (n : Int) := by rw [hc]; exact nI_toInt (by omega)
  refine Ct_of (by decide) (Nat.le_of_ble_eq_true rfl) ?_
  have loop : ∀ di i : Nat, n < i + di → i ≤ n → (sFst (fun c => (sCn (g_ahd S (nI c)) n).toInt = x.toInt) n 0 = sFst (fun c => (sCn (g_ahd S (nI c)) n).toInt = x.toInt) (n - i) i) → E G kX0_climberAtPlace (x_R (some (.int (sFst (fun c => (sCn (g_ahd S (nI c)) n).toInt = x.toInt) n 0))) mem) 0 0 (mem) 2 (x_L [(0, .ref g), (1, .int x), (2, .int (nI i))]) [] := by
    intro di
    induction di with
    | zero => intro i hi1 hi2 _; exact absurd hi1 (by omega)
    | succ di ihi =>
      intro i hi1 hi2 hinv
      have ei : (nI i).toInt = (i : Int) := nI_toInt (by omega)
      have eci : (nI i).toNatClampNeg = i := nI_clamp (by omega)
      refine E_iload_n dX0_climberAtPlace_2 (by rfl) ?_
      refine E_aload_n dX0_climberAtPlace_3 (by rfl) ?_
      refine gf_X0_41 dX0_climberAtPlace_4 rfl (by assumption) (by rfl) ?_
      refine E_icmp_ge (n := _) rfl (tgt := 27) dX0_climberAtPlace_7 (by decide) (fun q7 => ?_) (fun q7 => ?_)
      · refine E_bipush (v := (-6)) dX0_climberAtPlace_27 (by decide) ?_
        refine E_iret dX0_climberAtPlace_29 rfl rfl (Nat.zero_le _) (Nat.zero_le _) ?_
        exact x_leaf (by rw [hinv, show n - i = 0 by omega]; rfl)
      · refine E_aload_n dX0_climberAtPlace_10 (by rfl) ?_
        refine E_iload_n dX0_climberAtPlace_11 (by rfl) ?_
        refine cs_X0_climberAtPlace_12 (by assumption) (Nat.le_of_ble_eq_true rfl) (c_climbersAheadOf h hc hn _) ?_
        refine E_iload_n dX0_climberAtPlace_15 (by rfl) ?_
        refine E_icmp_ne (n := _) rfl (tgt := 21) dX0_climberAtPlace_16 (by decide) (fun q16 => ?_) (fun q16 => ?_)
        · refine E_iinc (d := 1) dX0_climberAtPlace_21 (by rfl) (by decide) (Nat.le_of_ble_eq_true rfl) (by rfl) ?_
          refine E_goto (tgt := 2) dX0_climberAtPlace_24 (by decide) ?_
          exact E_loc [(0, .ref g), (1, .int x), (2, .int (nI (i + 1)))] ⟨rfl, rfl, x_i (by first | exact nI_1 _ | decide), trivial⟩ (ihi (i + 1) (by omega) (by omega) (by rw [hinv, show n - i = (n - (i + 1)) + 1 by omega, sFst, if_neg q16]))
        · refine E_iload_n dX0_climberAtPlace_19 (by rfl) ?_
          refine E_iret dX0_climberAtPlace_20 rfl rfl (Nat.zero_le _) (Nat.zero_le _) ?_
          exact x_leaf (by rw [hinv, show n - i = (n - (i + 1)) + 1 by omega, sFst, if_pos q16])
  refine E_iconst (v := 0) dX0_climberAtPlace_0 (by decide) ?_
  refine E_istore_n dX0_climberAtPlace_1 (Nat.le_of_ble_eq_true rfl) (by rfl) ?_
  exact E_loc [(0, .ref g), (1, .int x), (2, .int (nI 0))] ⟨rfl, rfl, x_i (by first | rfl | decide), trivial⟩ (loop (n + 1) 0 (by omega) (by omega) rfl)
/-! setTop -/
theorem x_exn {P : Nat → Prop} {i t : Nat} (h : ∃ s, i ≤ s ∧ s < t ∧ P s) (hn : ¬ P i) : ∃ s, i + 1 ≤ s ∧ s < t ∧ P s := by
  obtain ⟨s, h1, h2, h3⟩ := h
  refine ⟨s, ?_, h2, h3⟩
  rcases Nat.lt_or_ge i s with h | h
  · exact h
  · have e : s = i := by omega
    rw [e] at h3
    exact absurd h3 hn
abbrev g_blk (S : gS) (n s : Nat) : Prop := (g_la S s).toInt ≠ 0 ∨ g_isUp S (nI s) ∨ (sOn (g_pl S) (nI s) n).toInt ≠ 0
theorem c_changeTop_out (x : Int32) (hx : x.toInt < 10 ∨ 60 < x.toInt) : Dt G kX0_changeTop [.ref g, .int x] mem (some (.int (-2))) mem := by
  refine Ct_of (by decide) (Nat.le_of_ble_eq_true rfl) ?_
  refine E_iload_n dX0_changeTop_0 (by rfl) ?_
  refine E_bipush (v := 10) dX0_changeTop_1 (by decide) ?_
  refine E_icmp_lt (n := 10) (by decide) (tgt := 12) dX0_changeTop_3 (by decide) (fun q3 => ?_) (fun q3 => ?_)
  · refine E_bipush (v := (-2)) dX0_changeTop_12 (by decide) ?_
    refine E_iret dX0_changeTop_14 rfl rfl (Nat.zero_le _) (Nat.zero_le _) ?_
    exact x_leaf rfl
  · refine E_iload_n dX0_changeTop_6 (by rfl) ?_
    refine E_bipush (v := 60) dX0_changeTop_7 (by decide) ?_
    refine E_icmp_le (n := 60) (by decide) (tgt := 15) dX0_changeTop_9 (by decide) (fun q9 => ?_) (fun q9 => ?_)
    · exact absurd hx (by omega)
    · refine E_bipush (v := (-2)) dX0_changeTop_12 (by decide) ?_
      refine E_iret dX0_changeTop_14 rfl rfl (Nat.zero_le _) (Nat.zero_le _) ?_
      exact x_leaf rfl
theorem c_changeTop_blk (h : gAt mem g S) (ht : g_top S = nI t) (ht60 : t ≤ 60) (hc : g_cl S = nI n) (hn : n ≤ 6) {x : Nat} (hx : 10 ≤ x ∧ x ≤ 60) (hb : ∃ s, x ≤ s ∧ s < t ∧ g_blk S n s) : Dt G kX0_changeTop [.ref g, .int (nI x)] mem (some (.int (-3))) mem := by
  obtain ⟨a0, a1, a2, a3, a4, a5, a6, a7, a8⟩ := id h
  have ht' : (g_top S).toInt = (t : Int) := by rw [ht]; exact nI_toInt (by omega)
  have ex : (nI x).toInt = (x : Int) := nI_toInt (by omega)
  have hxt : x ≤ t := by obtain ⟨s, h1, h2, -⟩ := hb; omega
  refine Ct_of (by decide) (Nat.le_of_ble_eq_true rfl) ?_
  have loop : ∀ di i : Nat, t < i + di → i ≤ t → (x ≤ i ∧ ∃ s, i ≤ s ∧ s < t ∧ g_blk S n s) → E G kX0_changeTop (x_R (some (.int (-3))) mem) 0 0 (mem) 17 (x_L [(0, .ref g), (1, .int (nI x)), (2, .int (nI i))]) [] := by
    intro di
    induction di with
    | zero => intro i hi1 hi2 _; exact absurd hi1 (by omega)
    | succ di ihi =>
      intro i hi1 hi2 hinv
      have ei : (nI i).toInt = (i : Int) := nI_toInt (by omega)
      have eci : (nI i).toNatClampNeg = i := nI_clamp (by omega)
      refine E_iload_n dX0_changeTop_17 (by rfl) ?_
      refine E_aload_n dX0_changeTop_18 (by rfl) ?_
      refine gf_X0_37 dX0_changeTop_19 rfl (by assumption) (by rfl) ?_
      refine E_icmp_ge (n := _) rfl (tgt := 59) dX0_changeTop_22 (by decide) (fun q22 => ?_) (fun q22 => ?_)
      · obtain ⟨h1, s, h2, h3, h4⟩ := hinv; exact absurd h3 (by omega)
      · refine E_aload_n dX0_changeTop_25 (by rfl) ?_
        refine gf_X0_15 dX0_changeTop_26 rfl (by assumption) (by rfl) ?_
        refine E_iload_n dX0_changeTop_29 (by rfl) ?_
        refine E_zald dX0_changeTop_30 (by assumption) (i_in (by omega) (by omega)) ?_
        refine E_if_ne (tgt := 50) dX0_changeTop_31 (by decide) (fun q31 => ?_) (fun q31 => ?_)
        · refine E_bipush (v := (-3)) dX0_changeTop_50 (by decide) ?_
          refine E_iret dX0_changeTop_52 rfl rfl (Nat.zero_le _) (Nat.zero_le _) ?_
          exact x_leaf rfl
        · refine E_aload_n dX0_changeTop_34 (by rfl) ?_
          refine E_iload_n dX0_changeTop_35 (by rfl) ?_
          refine cs_X0_changeTop_36 (by assumption) (Nat.le_of_ble_eq_true rfl) (c_isUpperEnd h (by omega) _) ?_
          refine E_if_ne (tgt := 50) dX0_changeTop_39 (by decide) (fun q39 => ?_) (fun q39 => ?_)
          · refine E_bipush (v := (-3)) dX0_changeTop_50 (by decide) ?_
            refine E_iret dX0_changeTop_52 rfl rfl (Nat.zero_le _) (Nat.zero_le _) ?_
            exact x_leaf rfl
          · refine E_aload_n dX0_changeTop_42 (by rfl) ?_
            refine E_iload_n dX0_changeTop_43 (by rfl) ?_
            refine cs_X0_changeTop_44 (by assumption) (Nat.le_of_ble_eq_true rfl) (c_climbersOn h hc hn _) ?_
            refine E_if_eq (tgt := 53) dX0_changeTop_47 (by decide) (fun q47 => ?_) (fun q47 => ?_)
            · rw [eci] at q31; rw [b2i_T0] at q39; have hnb : ¬ g_blk S n i := fun z => z.elim (fun z => z q31) (fun z => z.elim q39 (fun z => z q47))
              refine E_iinc (d := 1) dX0_changeTop_53 (by rfl) (by decide) (Nat.le_of_ble_eq_true rfl) (by rfl) ?_
              refine E_goto (tgt := 17) dX0_changeTop_56 (by decide) ?_
              exact E_loc [(0, .ref g), (1, .int (nI x)), (2, .int (nI (i + 1)))] ⟨rfl, rfl, x_i (by first | exact nI_1 _ | decide), trivial⟩ (ihi (i + 1) (by omega) (by omega) ⟨by omega, x_exn hinv.2 hnb⟩)
            · refine E_bipush (v := (-3)) dX0_changeTop_50 (by decide) ?_
              refine E_iret dX0_changeTop_52 rfl rfl (Nat.zero_le _) (Nat.zero_le _) ?_
              exact x_leaf rfl
  refine E_iload_n dX0_changeTop_0 (by rfl) ?_
  refine E_bipush (v := 10) dX0_changeTop_1 (by decide) ?_
  refine E_icmp_lt (n := 10) (by decide) (tgt := 12) dX0_changeTop_3 (by decide) (fun q3 => ?_) (fun q3 => ?_)
  · exact absurd hx (by omega)
  · refine E_iload_n dX0_changeTop_6 (by rfl) ?_
    refine E_bipush (v := 60) dX0_changeTop_7 (by decide) ?_
    refine E_icmp_le (n := 60) (by decide) (tgt := 15) dX0_changeTop_9 (by decide) (fun q9 => ?_) (fun q9 => ?_)
    · refine E_iload_n dX0_changeTop_15 (by rfl) ?_
      refine E_istore_n dX0_changeTop_16 (Nat.le_of_ble_eq_true rfl) (by rfl) ?_
      exact E_loc [(0, .ref g), (1, .int (nI x)), (2, .int (nI x))] ⟨rfl, rfl, x_i (by first | rfl | decide), trivial⟩ (loop (t + 1) x (by omega) (by omega) ⟨Nat.le_refl _, hb⟩)
    · exact absurd hx (by omega)
theorem c_changeTop_ok (h : gAt mem g S) (ht : g_top T = nI t) (ht60 : t ≤ 60) (hc : g_cl T = nI n) (hn : n ≤ 6) {x : Nat} (hx : 10 ≤ x ∧ x ≤ 60) (hb : ∀ s, x ≤ s → s < t → ¬ g_blk T n s) : Dt G kX0_changeTop [.ref g, .int (nI x)] (gPut mem g T) (some (.int (nI t))) (gPut mem g (g_wO T (nI x) (g_cl T) (g_mv T) (g_ro T) (g_lo T))) := by
  obtain ⟨a0, a1, a2, a3, a4, a5, a6, a7, a8⟩ := gAt_put h T
  have ht' : (g_top T).toInt = (t : Int) := by rw [ht]; exact nI_toInt (by omega)
  have ex : (nI x).toInt = (x : Int) := nI_toInt (by omega)
  refine Ct_of (by decide) (Nat.le_of_ble_eq_true rfl) ?_
  refine (?_ : ∀ (K : E G kX0_changeTop (x_R (some (.int (nI t))) (gPut mem g (g_wO T (nI x) (g_cl T) (g_mv T) (g_ro T) (g_lo T)))) 0 0 (gPut mem g T) 59 (x_L [(0, .ref g), (1, .int (nI x))]) []), E G kX0_changeTop _ 0 0 (gPut mem g T) 0 _ []) ?_
  · intro K
    by_cases hxt : t < x
    · refine E_iload_n dX0_changeTop_0 (by rfl) ?_
      refine E_bipush (v := 10) dX0_changeTop_1 (by decide) ?_
      refine E_icmp_lt (n := 10) (by decide) (tgt := 12) dX0_changeTop_3 (by decide) (fun q3 => ?_) (fun q3 => ?_)
      · exact absurd hx (by omega)
      · refine E_iload_n dX0_changeTop_6 (by rfl) ?_
        refine E_bipush (v := 60) dX0_changeTop_7 (by decide) ?_
        refine E_icmp_le (n := 60) (by decide) (tgt := 15) dX0_changeTop_9 (by decide) (fun q9 => ?_) (fun q9 => ?_)
        · refine E_iload_n dX0_changeTop_15 (by rfl) ?_
          refine E_istore_n dX0_changeTop_16 (Nat.le_of_ble_eq_true rfl) (by rfl) ?_
          refine E_iload_n dX0_changeTop_17 (by rfl) ?_
          refine E_aload_n dX0_changeTop_18 (by rfl) ?_
          refine gf_X0_37 dX0_changeTop_19 rfl (by assumption) (by rfl) ?_
          refine E_icmp_ge (n := _) rfl (tgt := 59) dX0_changeTop_22 (by decide) (fun q22 => ?_) (fun q22 => ?_)
          · exact E_loc [(0, .ref g), (1, .int (nI x))] ⟨rfl, rfl, trivial⟩ K
          · exact absurd hxt (by omega)
        · exact absurd hx (by omega)
    · have loop : ∀ di i : Nat, t < i + di → i ≤ t → (x ≤ i) → E G kX0_changeTop (x_R (some (.int (nI t))) (gPut mem g (g_wO T (nI x) (g_cl T) (g_mv T) (g_ro T) (g_lo T)))) 0 0 ((gPut mem g T)) 17 (x_L [(0, .ref g), (1, .int (nI x)), (2, .int (nI i))]) [] := by
        intro di
        induction di with
        | zero => intro i hi1 hi2 _; exact absurd hi1 (by omega)
        | succ di ihi =>
          intro i hi1 hi2 hinv
          have ei : (nI i).toInt = (i : Int) := nI_toInt (by omega)
          have eci : (nI i).toNatClampNeg = i := nI_clamp (by omega)
          refine E_iload_n dX0_changeTop_17 (by rfl) ?_
          refine E_aload_n dX0_changeTop_18 (by rfl) ?_
          refine gf_X0_37 dX0_changeTop_19 rfl (by assumption) (by rfl) ?_
          refine E_icmp_ge (n := _) rfl (tgt := 59) dX0_changeTop_22 (by decide) (fun q22 => ?_) (fun q22 => ?_)
          · exact E_loc [(0, .ref g), (1, .int (nI x))] ⟨rfl, rfl, trivial⟩ K
          · refine E_aload_n dX0_changeTop_25 (by rfl) ?_
            refine gf_X0_15 dX0_changeTop_26 rfl (by assumption) (by rfl) ?_
            refine E_iload_n dX0_changeTop_29 (by rfl) ?_
            refine E_zald dX0_changeTop_30 (by assumption) (i_in (by omega) (by omega)) ?_
            refine E_if_ne (tgt := 50) dX0_changeTop_31 (by decide) (fun q31 => ?_) (fun q31 => ?_)
            · rw [eci] at q31; exact absurd (Or.inl q31) (hb i hinv (by omega))
            · refine E_aload_n dX0_changeTop_34 (by rfl) ?_
              refine E_iload_n dX0_changeTop_35 (by rfl) ?_
              refine cs_X0_changeTop_36 (by assumption) (Nat.le_of_ble_eq_true rfl) (c_isUpperEnd (gAt_put h T) (by omega) _) ?_
              refine E_if_ne (tgt := 50) dX0_changeTop_39 (by decide) (fun q39 => ?_) (fun q39 => ?_)
              · rw [b2i_T0] at q39; exact absurd (Or.inr (Or.inl (Classical.not_not.mp q39))) (hb i hinv (by omega))
              · refine E_aload_n dX0_changeTop_42 (by rfl) ?_
                refine E_iload_n dX0_changeTop_43 (by rfl) ?_
                refine cs_X0_changeTop_44 (by assumption) (Nat.le_of_ble_eq_true rfl) (c_climbersOn (gAt_put h T) hc hn _) ?_
                refine E_if_eq (tgt := 53) dX0_changeTop_47 (by decide) (fun q47 => ?_) (fun q47 => ?_)
                · refine E_iinc (d := 1) dX0_changeTop_53 (by rfl) (by decide) (Nat.le_of_ble_eq_true rfl) (by rfl) ?_
                  refine E_goto (tgt := 17) dX0_changeTop_56 (by decide) ?_
                  exact E_loc [(0, .ref g), (1, .int (nI x)), (2, .int (nI (i + 1)))] ⟨rfl, rfl, x_i (by first | exact nI_1 _ | decide), trivial⟩ (ihi (i + 1) (by omega) (by omega) (by omega))
                · exact absurd (Or.inr (Or.inr q47)) (hb i hinv (by omega))
      refine E_iload_n dX0_changeTop_0 (by rfl) ?_
      refine E_bipush (v := 10) dX0_changeTop_1 (by decide) ?_
      refine E_icmp_lt (n := 10) (by decide) (tgt := 12) dX0_changeTop_3 (by decide) (fun q3 => ?_) (fun q3 => ?_)
      · exact absurd hx (by omega)
      · refine E_iload_n dX0_changeTop_6 (by rfl) ?_
        refine E_bipush (v := 60) dX0_changeTop_7 (by decide) ?_
        refine E_icmp_le (n := 60) (by decide) (tgt := 15) dX0_changeTop_9 (by decide) (fun q9 => ?_) (fun q9 => ?_)
        · refine E_iload_n dX0_changeTop_15 (by rfl) ?_
          refine E_istore_n dX0_changeTop_16 (Nat.le_of_ble_eq_true rfl) (by rfl) ?_
          exact E_loc [(0, .ref g), (1, .int (nI x)), (2, .int (nI x))] ⟨rfl, rfl, x_i (by first | rfl | decide), trivial⟩ (loop (t + 1) x (by omega) (by omega) (Nat.le_refl _))
        · exact absurd hx (by omega)
  · refine E_aload_n dX0_changeTop_59 (by rfl) ?_
    refine gf_X0_37 dX0_changeTop_60 rfl (by assumption) (by rfl) ?_
    refine E_istore_n dX0_changeTop_63 (Nat.le_of_ble_eq_true rfl) (by rfl) ?_
    refine E_aload_n dX0_changeTop_64 (by rfl) ?_
    refine E_iload_n dX0_changeTop_65 (by rfl) ?_
    refine pf_X0_37 dX0_changeTop_66 rfl (by assumption) (Nat.le_of_ble_eq_true rfl) ?_
    refine E_mem (gSetP0 h (g_wO T (nI x) (g_cl T) (g_mv T) (g_ro T) (g_lo T)) (by rfl)) ?_
    obtain ⟨a0, a1, a2, a3, a4, a5, a6, a7, a8⟩ := gAt_put h (g_wO T (nI x) (g_cl T) (g_mv T) (g_ro T) (g_lo T))
    refine E_iload_n dX0_changeTop_69 (by rfl) ?_
    refine E_iret dX0_changeTop_70 rfl rfl (Nat.zero_le _) (Nat.zero_le _) ?_
    exact x_leaf (by rw [← ht])
end G3
end
