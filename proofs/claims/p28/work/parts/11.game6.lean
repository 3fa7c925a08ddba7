/-! Game: parts, totals, the fewest rolls, copies -/
theorem lg_cmp0 {x y : Int64} : (lg_cmp x y).toInt = 0 ↔ x = y := by
  unfold lg_cmp
  by_cases h1 : y < x
  · rw [if_pos h1]
    constructor
    · intro h; exact absurd h (by decide)
    · intro h; rw [h, Int64.lt_iff_toInt_lt] at h1; omega
  · rw [if_neg h1]
    by_cases h2 : x = y
    · rw [if_pos h2]
      exact ⟨fun _ => h2, fun _ => by decide⟩
    · rw [if_neg h2]
      exact ⟨fun h => absurd h (by decide), fun h => absurd h h2⟩
section G6
variable {G : xG} {mem : xM} {g : Nat} {S T : gS} {t n : Nat}
def gPS (S : gS) (t : Nat) (x p : Int32) : Int32 :=
  if ¬ (x.toInt = (g_top S).toInt ∨ g_below S x) then -1 else if p = 0 then b2i (g_isLa S x) else if p = 1 then (if g_isUp S x then g_le S x.toNatClampNeg else -6) else if p = 2 then sCn (fun s => (g_le S s).toInt = x.toInt) t else -2
theorem c_partOfStep (h : gAt mem g S) (ht : g_top S = nI t) (ht60 : t ≤ 60) (x p : Int32) : Dt G kX0_partOfStep [.ref g, .int x, .int p] mem (some (.int (gPS S t x p))) mem := by
  obtain ⟨a0, a1, a2, a3, a4, a5, a6, a7, a8⟩ := id h
  have ht' : (g_top S).toInt = (t : Int) := by rw [ht]; exact nI_toInt (by omega)
  have rest : (x.toInt = (g_top S).toInt ∨ g_below S x) → E G kX0_partOfStep (x_R (some (.int (gPS S t x p))) mem) 0 0 mem 18 (x_L [(0, .ref g), (1, .int x), (2, .int p)]) [] := by
    intro hok
    unfold gPS
    rw [if_neg (fun z => z hok)]
    refine E_iload_n dX0_partOfStep_18 (by rfl) ?_
    by_cases c19_0 : p = 0
    · rw [c19_0]
      refine E_tableIn (off := 25) (tgt := 44) dX0_partOfStep_19 (by decide) (by decide) (by decide) (by decide) ?_
      refine E_aload_n dX0_partOfStep_44 (by rfl) ?_
      refine E_iload_n dX0_partOfStep_45 (by rfl) ?_
      refine cs_X0_partOfStep_46 (by assumption) (Nat.le_of_ble_eq_true rfl) (c_isLanding h (by omega) _) ?_
      refine E_if_eq (tgt := 56) dX0_partOfStep_49 (by decide) (fun q49 => ?_) (fun q49 => ?_)
      · rw [b2i_T0] at q49
        refine E_iconst (v := 0) dX0_partOfStep_56 (by decide) ?_
        refine E_iret dX0_partOfStep_57 rfl rfl (Nat.zero_le _) (Nat.zero_le _) ?_
        exact x_leaf (by rw [if_pos rfl, b2i_f q49])
      · rw [b2i_T0] at q49; have q49 := Classical.not_not.mp q49
        refine E_iconst (v := 1) dX0_partOfStep_52 (by decide) ?_
        refine E_goto (tgt := 57) dX0_partOfStep_53 (by decide) ?_
        refine E_iret dX0_partOfStep_57 rfl rfl (Nat.zero_le _) (Nat.zero_le _) ?_
        exact x_leaf (by rw [if_pos rfl, b2i_t q49])
    by_cases c19_1 : p = 1
    · rw [c19_1]
      refine E_tableIn (off := 39) (tgt := 58) dX0_partOfStep_19 (by decide) (by decide) (by decide) (by decide) ?_
      refine E_aload_n dX0_partOfStep_58 (by rfl) ?_
      refine E_iload_n dX0_partOfStep_59 (by rfl) ?_
      refine cs_X0_partOfStep_60 (by assumption) (Nat.le_of_ble_eq_true rfl) (c_isUpperEnd h (by omega) _) ?_
      refine E_if_eq (tgt := 75) dX0_partOfStep_63 (by decide) (fun q63 => ?_) (fun q63 => ?_)
      · rw [b2i_T0] at q63
        refine E_bipush (v := (-6)) dX0_partOfStep_75 (by decide) ?_
        refine E_iret dX0_partOfStep_77 rfl rfl (Nat.zero_le _) (Nat.zero_le _) ?_
        exact x_leaf (by rw [if_neg (by decide), if_pos rfl, if_neg q63])
      · rw [b2i_T0] at q63; have q63 := Classical.not_not.mp q63; have q63' := q63.1
        refine E_aload_n dX0_partOfStep_66 (by rfl) ?_
        refine gf_X0_9 dX0_partOfStep_67 rfl (by assumption) (by rfl) ?_
        refine E_iload_n dX0_partOfStep_70 (by rfl) ?_
        refine E_iald dX0_partOfStep_71 (by assumption) (i_in (by omega) (by omega)) ?_
        refine E_goto (tgt := 77) dX0_partOfStep_72 (by decide) ?_
        refine E_iret dX0_partOfStep_77 rfl rfl (Nat.zero_le _) (Nat.zero_le _) ?_
        exact x_leaf (by rw [if_neg (by decide), if_pos rfl, if_pos q63])
    by_cases c19_2 : p = 2
    · rw [c19_2]
      refine E_tableIn (off := 59) (tgt := 78) dX0_partOfStep_19 (by decide) (by decide) (by decide) (by decide) ?_
      refine E_aload_n dX0_partOfStep_78 (by rfl) ?_
      refine E_iload_n dX0_partOfStep_79 (by rfl) ?_
      refine cs_X0_partOfStep_80 (by assumption) (Nat.le_of_ble_eq_true rfl) (c_lowerEndsAt h ht ht60 _) ?_
      refine E_iret dX0_partOfStep_83 rfl rfl (Nat.zero_le _) (Nat.zero_le _) ?_
      exact x_leaf (by rw [if_neg (by decide), if_neg (by decide), if_pos rfl])
    have n19_0 : (p).toInt ≠ 0 := fun e => c19_0 (Int32.toInt_inj.mp (e.trans (by decide)))
    have n19_1 : (p).toInt ≠ 1 := fun e => c19_1 (Int32.toInt_inj.mp (e.trans (by decide)))
    have n19_2 : (p).toInt ≠ 2 := fun e => c19_2 (Int32.toInt_inj.mp (e.trans (by decide)))
    refine E_tableOut (tgt := 84) dX0_partOfStep_19 (by omega) (by decide) ?_
    refine E_bipush (v := (-2)) dX0_partOfStep_84 (by decide) ?_
    refine E_iret dX0_partOfStep_86 rfl rfl (Nat.zero_le _) (Nat.zero_le _) ?_
    exact x_leaf (by rw [if_neg c19_0, if_neg c19_1, if_neg c19_2])
  refine Ct_of (by decide) (Nat.le_of_ble_eq_true rfl) ?_
  refine E_iload_n dX0_partOfStep_0 (by rfl) ?_
  refine E_aload_n dX0_partOfStep_1 (by rfl) ?_
  refine gf_X0_37 dX0_partOfStep_2 rfl (by assumption) (by rfl) ?_
  refine E_icmp_eq (n := _) rfl (tgt := 18) dX0_partOfStep_5 (by decide) (fun q5 => ?_) (fun q5 => ?_)
  · exact E_loc [(0, .ref g), (1, .int x), (2, .int p)] ⟨rfl, rfl, rfl, trivial⟩ (rest (by first | exact Or.inl q5 | exact Or.inr q13))
  · refine E_aload_n dX0_partOfStep_8 (by rfl) ?_
    refine E_iload_n dX0_partOfStep_9 (by rfl) ?_
    refine cs_X0_partOfStep_10 (by assumption) (Nat.le_of_ble_eq_true rfl) (c_isBelowTop h _) ?_
    refine E_if_ne (tgt := 18) dX0_partOfStep_13 (by decide) (fun q13 => ?_) (fun q13 => ?_)
    · rw [b2i_T0] at q13; have q13 := Classical.not_not.mp q13
      exact E_loc [(0, .ref g), (1, .int x), (2, .int p)] ⟨rfl, rfl, rfl, trivial⟩ (rest (by first | exact Or.inl q5 | exact Or.inr q13))
    · rw [b2i_T0] at q13
      refine E_iconst (v := (-1)) dX0_partOfStep_16 (by decide) ?_
      refine E_iret dX0_partOfStep_17 rfl rfl (Nat.zero_le _) (Nat.zero_le _) ?_
      exact x_leaf (by unfold gPS; rw [if_pos (fun z => z.elim q5 q13)])
def gPC (S : gS) (x p : Int32) : Int32 :=
  if ¬ g_isCl S x then -1 else if p = 0 then g_pl S x.toNatClampNeg else if p = 1 then g_tp S x.toNatClampNeg else if p = 2 then g_rs S x.toNatClampNeg else if p = 3 then g_tl S x.toNatClampNeg else if p = 4 then g_lm S x.toNatClampNeg else if p = 5 then g_sl S x.toNatClampNeg else if p = 6 then gPr S x else -2
theorem c_partOfClimber (h : gAt mem g S) (hc : (g_cl S).toInt ≤ 6) (x p : Int32) : Dt G kX0_partOfClimber [.ref g, .int x, .int p] mem (some (.int (gPC S x p))) mem := by
  obtain ⟨a0, a1, a2, a3, a4, a5, a6, a7, a8⟩ := id h
  refine Ct_of (by decide) (Nat.le_of_ble_eq_true rfl) ?_
  unfold gPC
  refine E_aload_n dX0_partOfClimber_0 (by rfl) ?_
  refine E_iload_n dX0_partOfClimber_1 (by rfl) ?_
  refine cs_X0_partOfClimber_2 (by assumption) (Nat.le_of_ble_eq_true rfl) (c_isClimber h _) ?_
  refine E_if_ne (tgt := 10) dX0_partOfClimber_5 (by decide) (fun q5 => ?_) (fun q5 => ?_)
  · rw [b2i_T0] at q5; have q5 := Classical.not_not.mp q5; rw [if_neg (fun z => z q5)]
    refine E_iload_n dX0_partOfClimber_10 (by rfl) ?_
    by_cases c11_0 : p = 0
    · rw [c11_0]
      refine E_tableIn (off := 41) (tgt := 52) dX0_partOfClimber_11 (by decide) (by decide) (by decide) (by decide) ?_
      refine E_aload_n dX0_partOfClimber_52 (by rfl) ?_
      refine gf_X0_19 dX0_partOfClimber_53 rfl (by assumption) (by rfl) ?_
      refine E_iload_n dX0_partOfClimber_56 (by rfl) ?_
      refine E_iald dX0_partOfClimber_57 (by assumption) (i_in (by omega) (by omega)) ?_
      refine E_iret dX0_partOfClimber_58 rfl rfl (Nat.zero_le _) (Nat.zero_le _) ?_
      exact x_leaf (by rw [if_pos rfl])
    by_cases c11_1 : p = 1
    · rw [c11_1]
      refine E_tableIn (off := 48) (tgt := 59) dX0_partOfClimber_11 (by decide) (by decide) (by decide) (by decide) ?_
      refine E_aload_n dX0_partOfClimber_59 (by rfl) ?_
      refine gf_X0_22 dX0_partOfClimber_60 rfl (by assumption) (by rfl) ?_
      refine E_iload_n dX0_partOfClimber_63 (by rfl) ?_
      refine E_iald dX0_partOfClimber_64 (by assumption) (i_in (by omega) (by omega)) ?_
      refine E_iret dX0_partOfClimber_65 rfl rfl (Nat.zero_le _) (Nat.zero_le _) ?_
      exact x_leaf (by rw [if_neg (by decide), if_pos rfl])
    by_cases c11_2 : p = 2
    · rw [c11_2]
      refine E_tableIn (off := 55) (tgt := 66) dX0_partOfClimber_11 (by decide) (by decide) (by decide) (by decide) ?_
      refine E_aload_n dX0_partOfClimber_66 (by rfl) ?_
      refine gf_X0_25 dX0_partOfClimber_67 rfl (by assumption) (by rfl) ?_
      refine E_iload_n dX0_partOfClimber_70 (by rfl) ?_
      refine E_iald dX0_partOfClimber_71 (by assumption) (i_in (by omega) (by omega)) ?_
      refine E_iret dX0_partOfClimber_72 rfl rfl (Nat.zero_le _) (Nat.zero_le _) ?_
      exact x_leaf (by rw [if_neg (by decide), if_neg (by decide), if_pos rfl])
    by_cases c11_3 : p = 3
    · rw [c11_3]
      refine E_tableIn (off := 62) (tgt := 73) dX0_partOfClimber_11 (by decide) (by decide) (by decide) (by decide) ?_
      refine E_aload_n dX0_partOfClimber_73 (by rfl) ?_
      refine gf_X0_28 dX0_partOfClimber_74 rfl (by assumption) (by rfl) ?_
      refine E_iload_n dX0_partOfClimber_77 (by rfl) ?_
      refine E_iald dX0_partOfClimber_78 (by assumption) (i_in (by omega) (by omega)) ?_
      refine E_iret dX0_partOfClimber_79 rfl rfl (Nat.zero_le _) (Nat.zero_le _) ?_
      exact x_leaf (by rw [if_neg (by decide), if_neg (by decide), if_neg (by decide), if_pos rfl])
    by_cases c11_4 : p = 4
    · rw [c11_4]
      refine E_tableIn (off := 69) (tgt := 80) dX0_partOfClimber_11 (by decide) (by decide) (by decide) (by decide) ?_
      refine E_aload_n dX0_partOfClimber_80 (by rfl) ?_
      refine gf_X0_31 dX0_partOfClimber_81 rfl (by assumption) (by rfl) ?_
      refine E_iload_n dX0_partOfClimber_84 (by rfl) ?_
      refine E_iald dX0_partOfClimber_85 (by assumption) (i_in (by omega) (by omega)) ?_
      refine E_iret dX0_partOfClimber_86 rfl rfl (Nat.zero_le _) (Nat.zero_le _) ?_
      exact x_leaf (by rw [if_neg (by decide), if_neg (by decide), if_neg (by decide), if_neg (by decide), if_pos rfl])
    by_cases c11_5 : p = 5
    · rw [c11_5]
      refine E_tableIn (off := 76) (tgt := 87) dX0_partOfClimber_11 (by decide) (by decide) (by decide) (by decide) ?_
      refine E_aload_n dX0_partOfClimber_87 (by rfl) ?_
      refine gf_X0_34 dX0_partOfClimber_88 rfl (by assumption) (by rfl) ?_
      refine E_iload_n dX0_partOfClimber_91 (by rfl) ?_
      refine E_iald dX0_partOfClimber_92 (by assumption) (i_in (by omega) (by omega)) ?_
      refine E_iret dX0_partOfClimber_93 rfl rfl (Nat.zero_le _) (Nat.zero_le _) ?_
      exact x_leaf (by rw [if_neg (by decide), if_neg (by decide), if_neg (by decide), if_neg (by decide), if_neg (by decide), if_pos rfl])
    by_cases c11_6 : p = 6
    · rw [c11_6]
      refine E_tableIn (off := 83) (tgt := 94) dX0_partOfClimber_11 (by decide) (by decide) (by decide) (by decide) ?_
      refine E_aload_n dX0_partOfClimber_94 (by rfl) ?_
      refine E_iload_n dX0_partOfClimber_95 (by rfl) ?_
      refine cs_X0_partOfClimber_96 (by assumption) (Nat.le_of_ble_eq_true rfl) (c_progressOf h hc _) ?_
      refine E_iret dX0_partOfClimber_99 rfl rfl (Nat.zero_le _) (Nat.zero_le _) ?_
      exact x_leaf (by rw [if_neg (by decide), if_neg (by decide), if_neg (by decide), if_neg (by decide), if_neg (by decide), if_neg (by decide), if_pos rfl])
    have n11_0 : (p).toInt ≠ 0 := fun e => c11_0 (Int32.toInt_inj.mp (e.trans (by decide)))
    have n11_1 : (p).toInt ≠ 1 := fun e => c11_1 (Int32.toInt_inj.mp (e.trans (by decide)))
    have n11_2 : (p).toInt ≠ 2 := fun e => c11_2 (Int32.toInt_inj.mp (e.trans (by decide)))
    have n11_3 : (p).toInt ≠ 3 := fun e => c11_3 (Int32.toInt_inj.mp (e.trans (by decide)))
    have n11_4 : (p).toInt ≠ 4 := fun e => c11_4 (Int32.toInt_inj.mp (e.trans (by decide)))
    have n11_5 : (p).toInt ≠ 5 := fun e => c11_5 (Int32.toInt_inj.mp (e.trans (by decide)))
    have n11_6 : (p).toInt ≠ 6 := fun e => c11_6 (Int32.toInt_inj.mp (e.trans (by decide)))
    refine E_tableOut (tgt := 100) dX0_partOfClimber_11 (by omega) (by decide) ?_
    refine E_bipush (v := (-2)) dX0_partOfClimber_100 (by decide) ?_
    refine E_iret dX0_partOfClimber_102 rfl rfl (Nat.zero_le _) (Nat.zero_le _) ?_
    exact x_leaf (by rw [if_neg c11_0, if_neg c11_1, if_neg c11_2, if_neg c11_3, if_neg c11_4, if_neg c11_5, if_neg c11_6])
  · rw [b2i_T0] at q5; rw [if_pos q5]
    refine E_iconst (v := (-1)) dX0_partOfClimber_8 (by decide) ?_
    refine E_iret dX0_partOfClimber_9 rfl rfl (Nat.zero_le _) (Nat.zero_le _) ?_
    exact x_leaf rfl
def gTo (S : gS) (t : Nat) (p : Int32) : Int32 :=
  if p = 0 then g_top S else if p = 1 then g_cl S else if p = 2 then sCn (g_up (g_le S)) t else if p = 3 then sCn (g_lan (g_la S)) t else if p = 4 then g_ro S else if p = 5 then sSm (g_tl S) 6 else if p = 6 then sSm (g_sl S) 6 else if p = 7 then sSm (g_tp S) 6 else if p = 8 then g_lo S else -2
theorem c_totalOf (h : gAt mem g S) (ht : g_top S = nI t) (ht60 : t ≤ 60) (p : Int32) : Dt G kX0_totalOf [.ref g, .int p] mem (some (.int (gTo S t p))) mem := by
  obtain ⟨a0, a1, a2, a3, a4, a5, a6, a7, a8⟩ := id h
  refine Ct_of (by decide) (Nat.le_of_ble_eq_true rfl) ?_
  unfold gTo
  refine E_iload_n dX0_totalOf_0 (by rfl) ?_
  by_cases c1_0 : p = 0
  · rw [c1_0]
    refine E_tableIn (off := 51) (tgt := 52) dX0_totalOf_1 (by decide) (by decide) (by decide) (by decide) ?_
    refine E_aload_n dX0_totalOf_52 (by rfl) ?_
    refine gf_X0_37 dX0_totalOf_53 rfl (by assumption) (by rfl) ?_
    refine E_iret dX0_totalOf_56 rfl rfl (Nat.zero_le _) (Nat.zero_le _) ?_
    exact x_leaf (by rw [if_pos rfl])
  by_cases c1_1 : p = 1
  · rw [c1_1]
    refine E_tableIn (off := 56) (tgt := 57) dX0_totalOf_1 (by decide) (by decide) (by decide) (by decide) ?_
    refine E_aload_n dX0_totalOf_57 (by rfl) ?_
    refine gf_X0_41 dX0_totalOf_58 rfl (by assumption) (by rfl) ?_
    refine E_iret dX0_totalOf_61 rfl rfl (Nat.zero_le _) (Nat.zero_le _) ?_
    exact x_leaf (by rw [if_neg (by decide), if_pos rfl])
  by_cases c1_2 : p = 2
  · rw [c1_2]
    refine E_tableIn (off := 61) (tgt := 62) dX0_totalOf_1 (by decide) (by decide) (by decide) (by decide) ?_
    refine E_aload_n dX0_totalOf_62 (by rfl) ?_
    refine cs_X0_totalOf_63 (by assumption) (Nat.le_of_ble_eq_true rfl) (c_countCarpets h ht ht60) ?_
    refine E_iret dX0_totalOf_66 rfl rfl (Nat.zero_le _) (Nat.zero_le _) ?_
    exact x_leaf (by rw [if_neg (by decide), if_neg (by decide), if_pos rfl])
  by_cases c1_3 : p = 3
  · rw [c1_3]
    refine E_tableIn (off := 66) (tgt := 67) dX0_totalOf_1 (by decide) (by decide) (by decide) (by decide) ?_
    refine E_aload_n dX0_totalOf_67 (by rfl) ?_
    refine cs_X0_totalOf_68 (by assumption) (Nat.le_of_ble_eq_true rfl) (c_countLandings h ht ht60) ?_
    refine E_iret dX0_totalOf_71 rfl rfl (Nat.zero_le _) (Nat.zero_le _) ?_
    exact x_leaf (by rw [if_neg (by decide), if_neg (by decide), if_neg (by decide), if_pos rfl])
  by_cases c1_4 : p = 4
  · rw [c1_4]
    refine E_tableIn (off := 71) (tgt := 72) dX0_totalOf_1 (by decide) (by decide) (by decide) (by decide) ?_
    refine E_aload_n dX0_totalOf_72 (by rfl) ?_
    refine gf_X0_47 dX0_totalOf_73 rfl (by assumption) (by rfl) ?_
    refine E_iret dX0_totalOf_76 rfl rfl (Nat.zero_le _) (Nat.zero_le _) ?_
    exact x_leaf (by rw [if_neg (by decide), if_neg (by decide), if_neg (by decide), if_neg (by decide), if_pos rfl])
  by_cases c1_5 : p = 5
  · rw [c1_5]
    refine E_tableIn (off := 76) (tgt := 77) dX0_totalOf_1 (by decide) (by decide) (by decide) (by decide) ?_
    refine E_aload_n dX0_totalOf_77 (by rfl) ?_
    refine cs_X0_totalOf_78 (by assumption) (Nat.le_of_ble_eq_true rfl) (c_liftsOfAll h) ?_
    refine E_iret dX0_totalOf_81 rfl rfl (Nat.zero_le _) (Nat.zero_le _) ?_
    exact x_leaf (by rw [if_neg (by decide), if_neg (by decide), if_neg (by decide), if_neg (by decide), if_neg (by decide), if_pos rfl])
  by_cases c1_6 : p = 6
  · rw [c1_6]
    refine E_tableIn (off := 81) (tgt := 82) dX0_totalOf_1 (by decide) (by decide) (by decide) (by decide) ?_
    refine E_aload_n dX0_totalOf_82 (by rfl) ?_
    refine cs_X0_totalOf_83 (by assumption) (Nat.le_of_ble_eq_true rfl) (c_slipsOfAll h) ?_
    refine E_iret dX0_totalOf_86 rfl rfl (Nat.zero_le _) (Nat.zero_le _) ?_
    exact x_leaf (by rw [if_neg (by decide), if_neg (by decide), if_neg (by decide), if_neg (by decide), if_neg (by decide), if_neg (by decide), if_pos rfl])
  by_cases c1_7 : p = 7
  · rw [c1_7]
    refine E_tableIn (off := 86) (tgt := 87) dX0_totalOf_1 (by decide) (by decide) (by decide) (by decide) ?_
    refine E_aload_n dX0_totalOf_87 (by rfl) ?_
    refine cs_X0_totalOf_88 (by assumption) (Nat.le_of_ble_eq_true rfl) (c_topsOfAll h) ?_
    refine E_iret dX0_totalOf_91 rfl rfl (Nat.zero_le _) (Nat.zero_le _) ?_
    exact x_leaf (by rw [if_neg (by decide), if_neg (by decide), if_neg (by decide), if_neg (by decide), if_neg (by decide), if_neg (by decide), if_neg (by decide), if_pos rfl])
  by_cases c1_8 : p = 8
  · rw [c1_8]
    refine E_tableIn (off := 91) (tgt := 92) dX0_totalOf_1 (by decide) (by decide) (by decide) (by decide) ?_
    refine E_aload_n dX0_totalOf_92 (by rfl) ?_
    refine gf_X0_50 dX0_totalOf_93 rfl (by assumption) (by rfl) ?_
    refine E_iret dX0_totalOf_96 rfl rfl (Nat.zero_le _) (Nat.zero_le _) ?_
    exact x_leaf (by rw [if_neg (by decide), if_neg (by decide), if_neg (by decide), if_neg (by decide), if_neg (by decide), if_neg (by decide), if_neg (by decide), if_neg (by decide), if_pos rfl])
  have n1_0 : (p).toInt ≠ 0 := fun e => c1_0 (Int32.toInt_inj.mp (e.trans (by decide)))
  have n1_1 : (p).toInt ≠ 1 := fun e => c1_1 (Int32.toInt_inj.mp (e.trans (by decide)))
  have n1_2 : (p).toInt ≠ 2 := fun e => c1_2 (Int32.toInt_inj.mp (e.trans (by decide)))
  have n1_3 : (p).toInt ≠ 3 := fun e => c1_3 (Int32.toInt_inj.mp (e.trans (by decide)))
  have n1_4 : (p).toInt ≠ 4 := fun e => c1_4 (Int32.toInt_inj.mp (e.trans (by decide)))
  have n1_5 : (p).toInt ≠ 5 := fun e => c1_5 (Int32.toInt_inj.mp (e.trans (by decide)))
  have n1_6 : (p).toInt ≠ 6 := fun e => c1_6 (Int32.toInt_inj.mp (e.trans (by decide)))
  have n1_7 : (p).toInt ≠ 7 := fun e => c1_7 (Int32.toInt_inj.mp (e.trans (by decide)))
  have n1_8 : (p).toInt ≠ 8 := fun e => c1_8 (Int32.toInt_inj.mp (e.trans (by decide)))
  refine E_tableOut (tgt := 97) dX0_totalOf_1 (by omega) (by decide) ?_
  refine E_bipush (v := (-2)) dX0_totalOf_97 (by decide) ?_
  refine E_iret dX0_totalOf_99 rfl rfl (Nat.zero_le _) (Nat.zero_le _) ?_
  exact x_leaf (by rw [if_neg c1_0, if_neg c1_1, if_neg c1_2, if_neg c1_3, if_neg c1_4, if_neg c1_5, if_neg c1_6, if_neg c1_7, if_neg c1_8])
/-! the fewest rolls -/
def lB (d : Int32) : Int64 := 1 <<< (d.toInt64 &&& 63)
def gDst (S : gS) (s : Nat) : Int32 := if g_isUp S (nI s) then g_le S s else nI s
def sRF (d : Nat → Int32) (a : Nat) : Nat → Int64
  | 0 => 0
  | s + 1 => if a < s then sRF d a s ||| lB (d s) else 0
theorem c_reachedFrom (h : gAt mem g S) (ht : g_top S = nI t) (ht60 : t ≤ 60) {a : Nat} (ha : a < t) : Dt G kX0_reachedFrom [.ref g, .int (nI a)] mem (some (.long (sRF (gDst S) a (min (a + 7) t)))) mem := by
  obtain ⟨a0, a1, a2, a3, a4, a5, a6, a7, a8⟩ := id h
  have ht' : (g_top S).toInt = (t : Int) := by rw [ht]; exact nI_toInt (by omega)
  have ea7 : (nI a + 6).toInt = (a : Int) + 6 := by rw [show nI a + 6 = nI (a + 6) from nI_add a 6, nI_toInt (by omega)]; omega
  have hz : sRF (gDst S) a (a + 1) = 0 := by rw [sRF, if_neg (by omega)]
  refine Ct_of (by decide) (Nat.le_of_ble_eq_true rfl) ?_
  have loop : ∀ di i : Nat, (min (a + 7) t) < i + di → i ≤ (min (a + 7) t) → (a + 1 ≤ i) → E G kX0_reachedFrom (x_R (some (.long (sRF (gDst S) a (min (a + 7) t)))) mem) 0 0 (mem) 7 (x_L [(0, .ref g), (1, .int (nI a)), (2, .long (sRF (gDst S) a i)), (4, .int (nI i))]) [] := by
    intro di
    induction di with
    | zero => intro i hi1 hi2 _; exact absurd hi1 (by omega)
    | succ di ihi =>
      intro i hi1 hi2 hinv
      have ei : (nI i).toInt = (i : Int) := nI_toInt (by omega)
      have eci : (nI i).toNatClampNeg = i := nI_clamp (by omega)
      refine E_iload dX0_reachedFrom_7 (by rfl) ?_
      refine E_iload_n dX0_reachedFrom_9 (by rfl) ?_
      refine E_bipush (v := 6) dX0_reachedFrom_10 (by decide) ?_
      refine E_iadd dX0_reachedFrom_12 ?_
      refine E_icmp_gt (n := _) rfl (tgt := 57) dX0_reachedFrom_13 (by decide) (fun q13 => ?_) (fun q13 => ?_)
      · refine E_lload_n dX0_reachedFrom_57 (by rfl) ?_
        refine E_lret dX0_reachedFrom_58 rfl (Nat.zero_le _) (Nat.zero_le _) ?_
        exact x_leaf (by rw [show i = min (a + 7) t by omega])
      · refine E_iload dX0_reachedFrom_16 (by rfl) ?_
        refine E_aload_n dX0_reachedFrom_18 (by rfl) ?_
        refine gf_X0_37 dX0_reachedFrom_19 rfl (by assumption) (by rfl) ?_
        refine E_icmp_ge (n := _) rfl (tgt := 57) dX0_reachedFrom_22 (by decide) (fun q22 => ?_) (fun q22 => ?_)
        · refine E_lload_n dX0_reachedFrom_57 (by rfl) ?_
          refine E_lret dX0_reachedFrom_58 rfl (Nat.zero_le _) (Nat.zero_le _) ?_
          exact x_leaf (by rw [show i = min (a + 7) t by omega])
        · refine E_lload_n dX0_reachedFrom_25 (by rfl) ?_
          refine E_lconst (v := 1) dX0_reachedFrom_26 (by decide) ?_
          refine E_aload_n dX0_reachedFrom_27 (by rfl) ?_
          refine E_iload dX0_reachedFrom_28 (by rfl) ?_
          refine cs_X0_reachedFrom_30 (by assumption) (Nat.le_of_ble_eq_true rfl) (c_isUpperEnd h (by omega) _) ?_
          refine E_if_eq (tgt := 46) dX0_reachedFrom_33 (by decide) (fun q33 => ?_) (fun q33 => ?_)
          · rw [b2i_T0] at q33; have hd : gDst S i = nI i := by unfold gDst; rw [if_neg q33]
            refine E_iload dX0_reachedFrom_46 (by rfl) ?_
            refine E_lshl dX0_reachedFrom_48 rfl ?_
            refine E_lor dX0_reachedFrom_49 ?_
            refine E_lstore_n dX0_reachedFrom_50 (Nat.le_of_ble_eq_true rfl) (by rfl) ?_
            refine E_iinc (d := 1) dX0_reachedFrom_51 (by rfl) (by decide) (Nat.le_of_ble_eq_true rfl) (by rfl) ?_
            refine E_goto (tgt := 7) dX0_reachedFrom_54 (by decide) ?_
            exact E_loc [(0, .ref g), (1, .int (nI a)), (2, .long (sRF (gDst S) a (i + 1))), (4, .int (nI (i + 1)))] ⟨rfl, rfl, x_l (by simp only [sRF, lB]; rw [if_pos (by omega), hd]; try rw [eci]), x_i (by first | exact nI_1 _ | decide), trivial⟩ (ihi (i + 1) (by omega) (by omega) (by omega))
          · rw [b2i_T0] at q33; have q33 := Classical.not_not.mp q33; have hd : gDst S i = g_le S i := by unfold gDst; rw [if_pos q33]
            refine E_aload_n dX0_reachedFrom_36 (by rfl) ?_
            refine gf_X0_9 dX0_reachedFrom_37 rfl (by assumption) (by rfl) ?_
            refine E_iload dX0_reachedFrom_40 (by rfl) ?_
            refine E_iald dX0_reachedFrom_42 (by assumption) (i_in (by omega) (by omega)) ?_
            refine E_goto (tgt := 48) dX0_reachedFrom_43 (by decide) ?_
            refine E_lshl dX0_reachedFrom_48 rfl ?_
            refine E_lor dX0_reachedFrom_49 ?_
            refine E_lstore_n dX0_reachedFrom_50 (Nat.le_of_ble_eq_true rfl) (by rfl) ?_
            refine E_iinc (d := 1) dX0_reachedFrom_51 (by rfl) (by decide) (Nat.le_of_ble_eq_true rfl) (by rfl) ?_
            refine E_goto (tgt := 7) dX0_reachedFrom_54 (by decide) ?_
            exact E_loc [(0, .ref g), (1, .int (nI a)), (2, .long (sRF (gDst S) a (i + 1))), (4, .int (nI (i + 1)))] ⟨rfl, rfl, x_l (by simp only [sRF, lB]; rw [if_pos (by omega), hd]; try rw [eci]), x_i (by first | exact nI_1 _ | decide), trivial⟩ (ihi (i + 1) (by omega) (by omega) (by omega))
  refine E_lconst (v := 0) dX0_reachedFrom_0 (by decide) ?_
  refine E_lstore_n dX0_reachedFrom_1 (Nat.le_of_ble_eq_true rfl) (by rfl) ?_
  refine E_iload_n dX0_reachedFrom_2 (by rfl) ?_
  refine E_iconst (v := 1) dX0_reachedFrom_3 (by decide) ?_
  refine E_iadd dX0_reachedFrom_4 ?_
  refine E_istore dX0_reachedFrom_5 (Nat.le_of_ble_eq_true rfl) (by rfl) ?_
  exact E_loc [(0, .ref g), (1, .int (nI a)), (2, .long (sRF (gDst S) a (a + 1))), (4, .int (nI (a + 1)))] ⟨rfl, rfl, x_l (by exact hz.symm), x_i (nI_1 a), trivial⟩ (loop ((min (a + 7) t) + 1) (a + 1) (by omega) (by omega) (Nat.le_refl _))
abbrev lT (r : Int64) (s : Nat) : Prop := (r.toUInt64 >>> ((nI s).toInt64.toUInt64 &&& Int64.toUInt64 63)).toInt64 &&& 1 ≠ 0
def sRM (S : gS) (t : Nat) (r : Int64) : Nat → Int64
  | 0 => r
  | s + 1 => if lT r s then sRM S t r s ||| sRF (gDst S) s (min (s + 7) t) else sRM S t r s
theorem c_reachedWithOneMore (h : gAt mem g S) (ht : g_top S = nI t) (ht60 : t ≤ 60) (r : Int64) : Dt G kX0_reachedWithOneMore [.ref g, .long r] mem (some (.long (sRM S t r t))) mem := by
  obtain ⟨a0, a1, a2, a3, a4, a5, a6, a7, a8⟩ := id h
  have ht' : (g_top S).toInt = (t : Int) := by rw [ht]; exact nI_toInt (by omega)
  refine Ct_of (by decide) (Nat.le_of_ble_eq_true rfl) ?_
  have loop : ∀ di i : Nat, t < i + di → i ≤ t → E G kX0_reachedWithOneMore (x_R (some (.long (sRM S t r t))) mem) 0 0 (mem) 5 (x_L [(0, .ref g), (1, .long r), (3, .long (sRM S t r i)), (5, .int (nI i))]) [] := by
    intro di
    induction di with
    | zero => intro i hi1 hi2; exact absurd hi1 (by omega)
    | succ di ihi =>
      intro i hi1 hi2
      have ei : (nI i).toInt = (i : Int) := nI_toInt (by omega)
      have eci : (nI i).toNatClampNeg = i := nI_clamp (by omega)
      refine E_iload dX0_reachedWithOneMore_5 (by rfl) ?_
      refine E_aload_n dX0_reachedWithOneMore_7 (by rfl) ?_
      refine gf_X0_37 dX0_reachedWithOneMore_8 rfl (by assumption) (by rfl) ?_
      refine E_icmp_ge (n := _) rfl (tgt := 40) dX0_reachedWithOneMore_11 (by decide) (fun q11 => ?_) (fun q11 => ?_)
      · refine E_lload_n dX0_reachedWithOneMore_40 (by rfl) ?_
        refine E_lret dX0_reachedWithOneMore_41 rfl (Nat.zero_le _) (Nat.zero_le _) ?_
        exact x_leaf (by rw [show i = t by omega])
      · refine E_lload_n dX0_reachedWithOneMore_14 (by rfl) ?_
        refine E_iload dX0_reachedWithOneMore_15 (by rfl) ?_
        refine E_lushr dX0_reachedWithOneMore_17 rfl ?_
        refine E_lconst (v := 1) dX0_reachedWithOneMore_18 (by decide) ?_
        refine E_land dX0_reachedWithOneMore_19 ?_
        refine E_lconst (v := 0) dX0_reachedWithOneMore_20 (by decide) ?_
        refine E_lcmp dX0_reachedWithOneMore_21 ?_
        refine E_if_eq (tgt := 34) dX0_reachedWithOneMore_22 (by decide) (fun q22 => ?_) (fun q22 => ?_)
        · rw [lg_cmp0] at q22
          refine E_iinc (d := 1) dX0_reachedWithOneMore_34 (by rfl) (by decide) (Nat.le_of_ble_eq_true rfl) (by rfl) ?_
          refine E_goto (tgt := 5) dX0_reachedWithOneMore_37 (by decide) ?_
          exact E_loc [(0, .ref g), (1, .long r), (3, .long (sRM S t r (i + 1))), (5, .int (nI (i + 1)))] ⟨rfl, rfl, x_l (by simp only [sRM]; first | rw [if_pos q22] | rw [if_neg (fun z => z q22)]), x_i (by first | exact nI_1 _ | decide), trivial⟩ (ihi (i + 1) (by omega) (by omega))
        · rw [lg_cmp0] at q22
          refine E_lload_n dX0_reachedWithOneMore_25 (by rfl) ?_
          refine E_aload_n dX0_reachedWithOneMore_26 (by rfl) ?_
          refine E_iload dX0_reachedWithOneMore_27 (by rfl) ?_
          refine cs_X0_reachedWithOneMore_29 (by assumption) (Nat.le_of_ble_eq_true rfl) (c_reachedFrom h ht ht60 (by omega)) ?_
          refine E_lor dX0_reachedWithOneMore_32 ?_
          refine E_lstore_n dX0_reachedWithOneMore_33 (Nat.le_of_ble_eq_true rfl) (by rfl) ?_
          refine E_iinc (d := 1) dX0_reachedWithOneMore_34 (by rfl) (by decide) (Nat.le_of_ble_eq_true rfl) (by rfl) ?_
          refine E_goto (tgt := 5) dX0_reachedWithOneMore_37 (by decide) ?_
          exact E_loc [(0, .ref g), (1, .long r), (3, .long (sRM S t r (i + 1))), (5, .int (nI (i + 1)))] ⟨rfl, rfl, x_l (by simp only [sRM]; first | rw [if_pos q22] | rw [if_neg (fun z => z q22)]), x_i (by first | exact nI_1 _ | decide), trivial⟩ (ihi (i + 1) (by omega) (by omega))
  refine E_lload_n dX0_reachedWithOneMore_0 (by rfl) ?_
  refine E_lstore_n dX0_reachedWithOneMore_1 (Nat.le_of_ble_eq_true rfl) (by rfl) ?_
  refine E_iconst (v := 0) dX0_reachedWithOneMore_2 (by decide) ?_
  refine E_istore dX0_reachedWithOneMore_3 (Nat.le_of_ble_eq_true rfl) (by rfl) ?_
  exact E_loc [(0, .ref g), (1, .long r), (3, .long (sRM S t r 0)), (5, .int (nI 0))] ⟨rfl, rfl, x_l (by rfl), x_i (by first | rfl | decide), trivial⟩ (loop (t + 1) 0 (by omega) (by omega))
abbrev lTop (r : Int64) (t : Nat) : Prop := (r.toUInt64 >>> ((nI t - 6).toInt64.toUInt64 &&& Int64.toUInt64 63)).toInt64 ≠ 0
def sFew (S : gS) (t : Nat) : Nat → Nat → Int64 → Int32
  | 0, _, _ => -6
  | f + 1, c, r => if lTop r t then nI c else sFew S t f (c + 1) (sRM S t r t)
theorem c_fewestRollsOf (h : gAt mem g S) (ht : g_top S = nI t) (ht60 : t ≤ 60) {x : Int32} (hx : 0 ≤ x.toInt ∧ x.toInt < 6) : Dt G kX0_fewestRollsOf [.ref g, .int x] mem (some (.int (sFew S t t 1 (lB (g_pl S x.toNatClampNeg))))) mem := by
  obtain ⟨a0, a1, a2, a3, a4, a5, a6, a7, a8⟩ := id h
  have ht' : (g_top S).toInt = (t : Int) := by rw [ht]; exact nI_toInt (by omega)
  refine Ct_of (by decide) (Nat.le_of_ble_eq_true rfl) ?_
  have loop : ∀ (f : Nat) (r : Int64) (R : Option Value → xM → Prop), R (some (.int (sFew S t f (t - f + 1) r))) mem → f ≤ t → E G kX0_fewestRollsOf R 0 0 mem 12 (x_L [(0, .ref g), (2, .long r), (4, .int (nI (t - f + 1)))]) [] := by
    intro f
    induction f with
    | zero =>
      intro r R hR hf
      have e1 : (nI (t - 0 + 1)).toInt = (t : Int) + 1 := by rw [nI_toInt (by omega)]; omega
      refine E_iload dX0_fewestRollsOf_12 (by rfl) ?_
      refine E_aload_n dX0_fewestRollsOf_14 (by rfl) ?_
      refine gf_X0_37 dX0_fewestRollsOf_15 rfl (by assumption) (by rfl) ?_
      refine E_icmp_gt (n := _) rfl (tgt := 50) dX0_fewestRollsOf_18 (by decide) (fun q18 => ?_) (fun q18 => ?_)
      · refine E_bipush (v := (-6)) dX0_fewestRollsOf_50 (by decide) ?_
        refine E_iret dX0_fewestRollsOf_52 rfl rfl (Nat.zero_le _) (Nat.zero_le _) ?_
        exact hR
      · exact absurd e1 (by omega)
    | succ f ih =>
      intro r R hR hf
      have e1 : (nI (t - (f + 1) + 1)).toInt = ((t - (f + 1) + 1 : Nat) : Int) := nI_toInt (by omega)
      refine E_iload dX0_fewestRollsOf_12 (by rfl) ?_
      refine E_aload_n dX0_fewestRollsOf_14 (by rfl) ?_
      refine gf_X0_37 dX0_fewestRollsOf_15 rfl (by assumption) (by rfl) ?_
      refine E_icmp_gt (n := _) rfl (tgt := 50) dX0_fewestRollsOf_18 (by decide) (fun q18 => ?_) (fun q18 => ?_)
      · exact absurd e1 (by omega)
      · refine E_lload_n dX0_fewestRollsOf_21 (by rfl) ?_
        refine E_aload_n dX0_fewestRollsOf_22 (by rfl) ?_
        refine gf_X0_37 dX0_fewestRollsOf_23 rfl (by assumption) (by rfl) ?_
        refine E_bipush (v := 6) dX0_fewestRollsOf_26 (by decide) ?_
        refine E_isub dX0_fewestRollsOf_28 ?_
        refine E_lushr dX0_fewestRollsOf_29 rfl ?_
        refine E_lconst (v := 0) dX0_fewestRollsOf_30 (by decide) ?_
        refine E_lcmp dX0_fewestRollsOf_31 ?_
        refine E_if_eq (tgt := 38) dX0_fewestRollsOf_32 (by decide) (fun q32 => ?_) (fun q32 => ?_)
        · rw [lg_cmp0, ht] at q32
          refine E_aload_n dX0_fewestRollsOf_38 (by rfl) ?_
          refine E_lload_n dX0_fewestRollsOf_39 (by rfl) ?_
          refine cs_X0_fewestRollsOf_40 (by assumption) (Nat.le_of_ble_eq_true rfl) (c_reachedWithOneMore h ht ht60 _) ?_
          refine E_lstore_n dX0_fewestRollsOf_43 (Nat.le_of_ble_eq_true rfl) (by rfl) ?_
          refine E_iinc (d := 1) dX0_fewestRollsOf_44 (by rfl) (by decide) (Nat.le_of_ble_eq_true rfl) (by rfl) ?_
          refine E_goto (tgt := 12) dX0_fewestRollsOf_47 (by decide) ?_
          exact E_loc [(0, .ref g), (2, .long (sRM S t r t)), (4, .int (nI (t - f + 1)))] ⟨rfl, rfl, x_i ((nI_1 _).trans (congrArg nI (by omega))), trivial⟩ (ih _ R (by rw [sFew, if_neg (fun z => z q32), show t - (f + 1) + 1 + 1 = t - f + 1 by omega] at hR; exact hR) (by omega))
        · rw [lg_cmp0, ht] at q32
          refine E_iload dX0_fewestRollsOf_35 (by rfl) ?_
          refine E_iret dX0_fewestRollsOf_37 rfl rfl (Nat.zero_le _) (Nat.zero_le _) ?_
          rw [sFew, if_pos q32] at hR; exact hR
  refine E_lconst (v := 1) dX0_fewestRollsOf_0 (by decide) ?_
  refine E_aload_n dX0_fewestRollsOf_1 (by rfl) ?_
  refine gf_X0_19 dX0_fewestRollsOf_2 rfl (by assumption) (by rfl) ?_
  refine E_iload_n dX0_fewestRollsOf_5 (by rfl) ?_
  refine E_iald dX0_fewestRollsOf_6 (by assumption) (i_in (by omega) (by omega)) ?_
  refine E_lshl dX0_fewestRollsOf_7 rfl ?_
  refine E_lstore_n dX0_fewestRollsOf_8 (Nat.le_of_ble_eq_true rfl) (by rfl) ?_
  refine E_iconst (v := 1) dX0_fewestRollsOf_9 (by decide) ?_
  refine E_istore dX0_fewestRollsOf_10 (Nat.le_of_ble_eq_true rfl) (by rfl) ?_
  exact E_loc [(0, .ref g), (2, .long (lB (g_pl S x.toNatClampNeg))), (4, .int (nI (t - t + 1)))] ⟨rfl, rfl, x_i (by rw [Nat.sub_self]; decide), trivial⟩ (loop t _ _ (x_leaf (by rw [Nat.sub_self])) (Nat.le_refl _))
/-! copies -/
theorem gAt_other {g2 : Nat} {S2 : gS} (h : gAt mem g S) (h2 : gAt mem g2 S2) (hd : g2 + 9 ≤ g ∨ g + 9 ≤ g2) (T : gS) : gAt (gPut mem g T) g2 S2 := by
  obtain ⟨b0, b1, b2, b3, b4, b5, b6, b7, b8⟩ := h2
  have ho : ∀ i, i < 9 → (gPut mem g T)[g2 + i]? = mem[g2 + i]? := fun i hi => gPut_other h T (by omega)
  exact ⟨(ho 0 (by decide)).trans b0, (ho 1 (by decide)).trans b1, (ho 2 (by decide)).trans b2, (ho 3 (by decide)).trans b3, (ho 4 (by decide)).trans b4, (ho 5 (by decide)).trans b5, (ho 6 (by decide)).trans b6, (ho 7 (by decide)).trans b7, (ho 8 (by decide)).trans b8⟩
abbrev g_la01 (S : gS) : Prop := ∀ i, i < 60 → g_la S i = 0 ∨ g_la S i = 1
theorem c_copyFrom {g2 : Nat} {S2 : gS} (h : gAt mem g S) (h2 : gAt mem g2 S2) (hd : g2 + 9 ≤ g ∨ g + 9 ≤ g2) (hla : g_la01 S2) : Dt G kX0_copyFrom [.ref g, .ref g2] (gPut mem g T) none (gPut mem g S2) := by
  have hf : ∀ i, i < 60 → fits .boolean (.int (g_la S2 i)) = true := fun i hi => by rcases hla i hi with e | e <;> rw [e] <;> rfl
  obtain ⟨a0, a1, a2, a3, a4, a5, a6, a7, a8⟩ := gAt_put h T
  obtain ⟨b0, b1, b2, b3, b4, b5, b6, b7, b8⟩ := gAt_other h h2 hd T
  refine Ct_of (by decide) (Nat.le_of_ble_eq_true rfl) ?_
  refine E_aload_n dX0_copyFrom_0 (by rfl) ?_
  refine E_ifnonnull (tgt := 5) dX0_copyFrom_1 (by decide) ?_
  refine E_aload_n dX0_copyFrom_5 (by rfl) ?_
  refine gf_X0_9 dX0_copyFrom_6 rfl (by assumption) (by rfl) ?_
  refine E_iconst (v := 0) dX0_copyFrom_9 (by decide) ?_
  refine E_aload_n dX0_copyFrom_10 (by rfl) ?_
  refine gf_X0_9 dX0_copyFrom_11 rfl (by assumption) (by rfl) ?_
  refine E_iconst (v := 0) dX0_copyFrom_14 (by decide) ?_
  refine E_bipush (v := 60) dX0_copyFrom_15 (by decide) ?_
  refine E_copyA (t := 0) dX0_copyFrom_17 rfl wl_X0_53 w_native w_acstat wn_RJ10 rfl rfl (by assumption) (by assumption) (by decide) (by decide) (fun _ _ => rfl) (Nat.le_of_ble_eq_true rfl) (Nat.le_of_ble_eq_true rfl) ?_
  refine E_mem (gSetP h ((S2.1, T.2)) 1 (by decide) (by rfl)) ?_
  obtain ⟨a0, a1, a2, a3, a4, a5, a6, a7, a8⟩ := gAt_put h ((S2.1, T.2))
  obtain ⟨b0, b1, b2, b3, b4, b5, b6, b7, b8⟩ := gAt_other h h2 hd ((S2.1, T.2))
  refine E_aload_n dX0_copyFrom_20 (by rfl) ?_
  refine gf_X0_15 dX0_copyFrom_21 rfl (by assumption) (by rfl) ?_
  refine E_iconst (v := 0) dX0_copyFrom_24 (by decide) ?_
  refine E_aload_n dX0_copyFrom_25 (by rfl) ?_
  refine gf_X0_15 dX0_copyFrom_26 rfl (by assumption) (by rfl) ?_
  refine E_iconst (v := 0) dX0_copyFrom_29 (by decide) ?_
  refine E_bipush (v := 60) dX0_copyFrom_30 (by decide) ?_
  refine E_copyA (t := 1) dX0_copyFrom_32 rfl wl_X0_53 w_native w_acstat wn_RJ10 rfl rfl (by assumption) (by assumption) (by decide) (by decide) hf (Nat.le_of_ble_eq_true rfl) (Nat.le_of_ble_eq_true rfl) ?_
  refine E_mem (gSetP h ((S2.1, S2.2.1, T.2.2)) 2 (by decide) (by rfl)) ?_
  obtain ⟨a0, a1, a2, a3, a4, a5, a6, a7, a8⟩ := gAt_put h ((S2.1, S2.2.1, T.2.2))
  obtain ⟨b0, b1, b2, b3, b4, b5, b6, b7, b8⟩ := gAt_other h h2 hd ((S2.1, S2.2.1, T.2.2))
  refine E_aload_n dX0_copyFrom_35 (by rfl) ?_
  refine gf_X0_19 dX0_copyFrom_36 rfl (by assumption) (by rfl) ?_
  refine E_iconst (v := 0) dX0_copyFrom_39 (by decide) ?_
  refine E_aload_n dX0_copyFrom_40 (by rfl) ?_
  refine gf_X0_19 dX0_copyFrom_41 rfl (by assumption) (by rfl) ?_
  refine E_iconst (v := 0) dX0_copyFrom_44 (by decide) ?_
  refine E_bipush (v := 6) dX0_copyFrom_45 (by decide) ?_
  refine E_copyA (t := 0) dX0_copyFrom_47 rfl wl_X0_53 w_native w_acstat wn_RJ10 rfl rfl (by assumption) (by assumption) (by decide) (by decide) (fun _ _ => rfl) (Nat.le_of_ble_eq_true rfl) (Nat.le_of_ble_eq_true rfl) ?_
  refine E_mem (gSetP h ((S2.1, S2.2.1, S2.2.2.1, T.2.2.2)) 3 (by decide) (by rfl)) ?_
  obtain ⟨a0, a1, a2, a3, a4, a5, a6, a7, a8⟩ := gAt_put h ((S2.1, S2.2.1, S2.2.2.1, T.2.2.2))
  obtain ⟨b0, b1, b2, b3, b4, b5, b6, b7, b8⟩ := gAt_other h h2 hd ((S2.1, S2.2.1, S2.2.2.1, T.2.2.2))
  refine E_aload_n dX0_copyFrom_50 (by rfl) ?_
  refine gf_X0_22 dX0_copyFrom_51 rfl (by assumption) (by rfl) ?_
  refine E_iconst (v := 0) dX0_copyFrom_54 (by decide) ?_
  refine E_aload_n dX0_copyFrom_55 (by rfl) ?_
  refine gf_X0_22 dX0_copyFrom_56 rfl (by assumption) (by rfl) ?_
  refine E_iconst (v := 0) dX0_copyFrom_59 (by decide) ?_
  refine E_bipush (v := 6) dX0_copyFrom_60 (by decide) ?_
  refine E_copyA (t := 0) dX0_copyFrom_62 rfl wl_X0_53 w_native w_acstat wn_RJ10 rfl rfl (by assumption) (by assumption) (by decide) (by decide) (fun _ _ => rfl) (Nat.le_of_ble_eq_true rfl) (Nat.le_of_ble_eq_true rfl) ?_
  refine E_mem (gSetP h ((S2.1, S2.2.1, S2.2.2.1, S2.2.2.2.1, T.2.2.2.2)) 4 (by decide) (by rfl)) ?_
  obtain ⟨a0, a1, a2, a3, a4, a5, a6, a7, a8⟩ := gAt_put h ((S2.1, S2.2.1, S2.2.2.1, S2.2.2.2.1, T.2.2.2.2))
  obtain ⟨b0, b1, b2, b3, b4, b5, b6, b7, b8⟩ := gAt_other h h2 hd ((S2.1, S2.2.1, S2.2.2.1, S2.2.2.2.1, T.2.2.2.2))
  refine E_aload_n dX0_copyFrom_65 (by rfl) ?_
  refine gf_X0_25 dX0_copyFrom_66 rfl (by assumption) (by rfl) ?_
  refine E_iconst (v := 0) dX0_copyFrom_69 (by decide) ?_
  refine E_aload_n dX0_copyFrom_70 (by rfl) ?_
  refine gf_X0_25 dX0_copyFrom_71 rfl (by assumption) (by rfl) ?_
  refine E_iconst (v := 0) dX0_copyFrom_74 (by decide) ?_
  refine E_bipush (v := 6) dX0_copyFrom_75 (by decide) ?_
  refine E_copyA (t := 0) dX0_copyFrom_77 rfl wl_X0_53 w_native w_acstat wn_RJ10 rfl rfl (by assumption) (by assumption) (by decide) (by decide) (fun _ _ => rfl) (Nat.le_of_ble_eq_true rfl) (Nat.le_of_ble_eq_true rfl) ?_
  refine E_mem (gSetP h ((S2.1, S2.2.1, S2.2.2.1, S2.2.2.2.1, S2.2.2.2.2.1, T.2.2.2.2.2)) 5 (by decide) (by rfl)) ?_
  obtain ⟨a0, a1, a2, a3, a4, a5, a6, a7, a8⟩ := gAt_put h ((S2.1, S2.2.1, S2.2.2.1, S2.2.2.2.1, S2.2.2.2.2.1, T.2.2.2.2.2))
  obtain ⟨b0, b1, b2, b3, b4, b5, b6, b7, b8⟩ := gAt_other h h2 hd ((S2.1, S2.2.1, S2.2.2.1, S2.2.2.2.1, S2.2.2.2.2.1, T.2.2.2.2.2))
  refine E_aload_n dX0_copyFrom_80 (by rfl) ?_
  refine gf_X0_28 dX0_copyFrom_81 rfl (by assumption) (by rfl) ?_
  refine E_iconst (v := 0) dX0_copyFrom_84 (by decide) ?_
  refine E_aload_n dX0_copyFrom_85 (by rfl) ?_
  refine gf_X0_28 dX0_copyFrom_86 rfl (by assumption) (by rfl) ?_
  refine E_iconst (v := 0) dX0_copyFrom_89 (by decide) ?_
  refine E_bipush (v := 6) dX0_copyFrom_90 (by decide) ?_
  refine E_copyA (t := 0) dX0_copyFrom_92 rfl wl_X0_53 w_native w_acstat wn_RJ10 rfl rfl (by assumption) (by assumption) (by decide) (by decide) (fun _ _ => rfl) (Nat.le_of_ble_eq_true rfl) (Nat.le_of_ble_eq_true rfl) ?_
  refine E_mem (gSetP h ((S2.1, S2.2.1, S2.2.2.1, S2.2.2.2.1, S2.2.2.2.2.1, S2.2.2.2.2.2.1, T.2.2.2.2.2.2)) 6 (by decide) (by rfl)) ?_
  obtain ⟨a0, a1, a2, a3, a4, a5, a6, a7, a8⟩ := gAt_put h ((S2.1, S2.2.1, S2.2.2.1, S2.2.2.2.1, S2.2.2.2.2.1, S2.2.2.2.2.2.1, T.2.2.2.2.2.2))
  obtain ⟨b0, b1, b2, b3, b4, b5, b6, b7, b8⟩ := gAt_other h h2 hd ((S2.1, S2.2.1, S2.2.2.1, S2.2.2.2.1, S2.2.2.2.2.1, S2.2.2.2.2.2.1, T.2.2.2.2.2.2))
  refine E_aload_n dX0_copyFrom_95 (by rfl) ?_
  refine gf_X0_31 dX0_copyFrom_96 rfl (by assumption) (by rfl) ?_
  refine E_iconst (v := 0) dX0_copyFrom_99 (by decide) ?_
  refine E_aload_n dX0_copyFrom_100 (by rfl) ?_
  refine gf_X0_31 dX0_copyFrom_101 rfl (by assumption) (by rfl) ?_
  refine E_iconst (v := 0) dX0_copyFrom_104 (by decide) ?_
  refine E_bipush (v := 6) dX0_copyFrom_105 (by decide) ?_
  refine E_copyA (t := 0) dX0_copyFrom_107 rfl wl_X0_53 w_native w_acstat wn_RJ10 rfl rfl (by assumption) (by assumption) (by decide) (by decide) (fun _ _ => rfl) (Nat.le_of_ble_eq_true rfl) (Nat.le_of_ble_eq_true rfl) ?_
  refine E_mem (gSetP h ((S2.1, S2.2.1, S2.2.2.1, S2.2.2.2.1, S2.2.2.2.2.1, S2.2.2.2.2.2.1, S2.2.2.2.2.2.2.1, T.2.2.2.2.2.2.2)) 7 (by decide) (by rfl)) ?_
  obtain ⟨a0, a1, a2, a3, a4, a5, a6, a7, a8⟩ := gAt_put h ((S2.1, S2.2.1, S2.2.2.1, S2.2.2.2.1, S2.2.2.2.2.1, S2.2.2.2.2.2.1, S2.2.2.2.2.2.2.1, T.2.2.2.2.2.2.2))
  obtain ⟨b0, b1, b2, b3, b4, b5, b6, b7, b8⟩ := gAt_other h h2 hd ((S2.1, S2.2.1, S2.2.2.1, S2.2.2.2.1, S2.2.2.2.2.1, S2.2.2.2.2.2.1, S2.2.2.2.2.2.2.1, T.2.2.2.2.2.2.2))
  refine E_aload_n dX0_copyFrom_110 (by rfl) ?_
  refine gf_X0_34 dX0_copyFrom_111 rfl (by assumption) (by rfl) ?_
  refine E_iconst (v := 0) dX0_copyFrom_114 (by decide) ?_
  refine E_aload_n dX0_copyFrom_115 (by rfl) ?_
  refine gf_X0_34 dX0_copyFrom_116 rfl (by assumption) (by rfl) ?_
  refine E_iconst (v := 0) dX0_copyFrom_119 (by decide) ?_
  refine E_bipush (v := 6) dX0_copyFrom_120 (by decide) ?_
  refine E_copyA (t := 0) dX0_copyFrom_122 rfl wl_X0_53 w_native w_acstat wn_RJ10 rfl rfl (by assumption) (by assumption) (by decide) (by decide) (fun _ _ => rfl) (Nat.le_of_ble_eq_true rfl) (Nat.le_of_ble_eq_true rfl) ?_
  refine E_mem (gSetP h (g_wO S2 (g_top T) (g_cl T) (g_mv T) (g_ro T) (g_lo T)) 8 (by decide) (by rfl)) ?_
  obtain ⟨a0, a1, a2, a3, a4, a5, a6, a7, a8⟩ := gAt_put h (g_wO S2 (g_top T) (g_cl T) (g_mv T) (g_ro T) (g_lo T))
  obtain ⟨b0, b1, b2, b3, b4, b5, b6, b7, b8⟩ := gAt_other h h2 hd (g_wO S2 (g_top T) (g_cl T) (g_mv T) (g_ro T) (g_lo T))
  refine E_aload_n dX0_copyFrom_125 (by rfl) ?_
  refine E_aload_n dX0_copyFrom_126 (by rfl) ?_
  refine gf_X0_37 dX0_copyFrom_127 rfl (by assumption) (by rfl) ?_
  refine pf_X0_37 dX0_copyFrom_130 rfl (by assumption) (Nat.le_of_ble_eq_true rfl) ?_
  refine E_mem (gSetP0 h (g_wO S2 (g_top S2) (g_cl T) (g_mv T) (g_ro T) (g_lo T)) (by rfl)) ?_
  obtain ⟨a0, a1, a2, a3, a4, a5, a6, a7, a8⟩ := gAt_put h (g_wO S2 (g_top S2) (g_cl T) (g_mv T) (g_ro T) (g_lo T))
  obtain ⟨b0, b1, b2, b3, b4, b5, b6, b7, b8⟩ := gAt_other h h2 hd (g_wO S2 (g_top S2) (g_cl T) (g_mv T) (g_ro T) (g_lo T))
  refine E_aload_n dX0_copyFrom_133 (by rfl) ?_
  refine E_aload_n dX0_copyFrom_134 (by rfl) ?_
  refine gf_X0_41 dX0_copyFrom_135 rfl (by assumption) (by rfl) ?_
  refine pf_X0_41 dX0_copyFrom_138 rfl (by assumption) (Nat.le_of_ble_eq_true rfl) ?_
  refine E_mem (gSetP0 h (g_wO S2 (g_top S2) (g_cl S2) (g_mv T) (g_ro T) (g_lo T)) (by rfl)) ?_
  obtain ⟨a0, a1, a2, a3, a4, a5, a6, a7, a8⟩ := gAt_put h (g_wO S2 (g_top S2) (g_cl S2) (g_mv T) (g_ro T) (g_lo T))
  obtain ⟨b0, b1, b2, b3, b4, b5, b6, b7, b8⟩ := gAt_other h h2 hd (g_wO S2 (g_top S2) (g_cl S2) (g_mv T) (g_ro T) (g_lo T))
  refine E_aload_n dX0_copyFrom_141 (by rfl) ?_
  refine E_aload_n dX0_copyFrom_142 (by rfl) ?_
  refine gf_X0_44 dX0_copyFrom_143 rfl (by assumption) (by rfl) ?_
  refine pf_X0_44 dX0_copyFrom_146 rfl (by assumption) (Nat.le_of_ble_eq_true rfl) ?_
  refine E_mem (gSetP0 h (g_wO S2 (g_top S2) (g_cl S2) (g_mv S2) (g_ro T) (g_lo T)) (by rfl)) ?_
  obtain ⟨a0, a1, a2, a3, a4, a5, a6, a7, a8⟩ := gAt_put h (g_wO S2 (g_top S2) (g_cl S2) (g_mv S2) (g_ro T) (g_lo T))
  obtain ⟨b0, b1, b2, b3, b4, b5, b6, b7, b8⟩ := gAt_other h h2 hd (g_wO S2 (g_top S2) (g_cl S2) (g_mv S2) (g_ro T) (g_lo T))
  refine E_aload_n dX0_copyFrom_149 (by rfl) ?_
  refine E_aload_n dX0_copyFrom_150 (by rfl) ?_
  refine gf_X0_47 dX0_copyFrom_151 rfl (by assumption) (by rfl) ?_
  refine pf_X0_47 dX0_copyFrom_154 rfl (by assumption) (Nat.le_of_ble_eq_true rfl) ?_
  refine E_mem (gSetP0 h (g_wO S2 (g_top S2) (g_cl S2) (g_mv S2) (g_ro S2) (g_lo T)) (by rfl)) ?_
  obtain ⟨a0, a1, a2, a3, a4, a5, a6, a7, a8⟩ := gAt_put h (g_wO S2 (g_top S2) (g_cl S2) (g_mv S2) (g_ro S2) (g_lo T))
  obtain ⟨b0, b1, b2, b3, b4, b5, b6, b7, b8⟩ := gAt_other h h2 hd (g_wO S2 (g_top S2) (g_cl S2) (g_mv S2) (g_ro S2) (g_lo T))
  refine E_aload_n dX0_copyFrom_157 (by rfl) ?_
  refine E_aload_n dX0_copyFrom_158 (by rfl) ?_
  refine gf_X0_50 dX0_copyFrom_159 rfl (by assumption) (by rfl) ?_
  refine pf_X0_50 dX0_copyFrom_162 rfl (by assumption) (Nat.le_of_ble_eq_true rfl) ?_
  refine E_mem (gSetP0 h (S2) (by rfl)) ?_
  obtain ⟨a0, a1, a2, a3, a4, a5, a6, a7, a8⟩ := gAt_put h (S2)
  obtain ⟨b0, b1, b2, b3, b4, b5, b6, b7, b8⟩ := gAt_other h h2 hd (S2)
  refine E_vret dX0_copyFrom_165 rfl (Nat.zero_le _) (Nat.zero_le _) ?_
  exact ⟨rfl, rfl⟩
end G6
