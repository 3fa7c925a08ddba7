/-! MoveText -/
section T1
variable {G : xG} {mem : xM}
abbrev t_o (len : Int32) : va_E := .inr (2, [.ref 85, .int len])
abbrev t_s (f : Nat → Int32) : va_E := .inl (2, 60, .inl f)
theorem i_lit {x : Int32} {n : Int} (y : Int32) (hy : y.toInt = n) (h : x.toInt = n) : x = y := by
  rw [i_eq, h, hy]
def wD (c : Int32) : Prop := 48 ≤ c.toInt ∧ c.toInt ≤ 57
theorem c_isDigit (c : Int32) : Dt G kX2_isDigit [.int c] mem (some (.int (@b2i (48 ≤ c.toInt ∧ c.toInt ≤ 57) _))) mem := by
  refine Ct_of (by decide) (Nat.le_of_ble_eq_true rfl) ?_
  refine E_iload_n dX2_isDigit_0 (by rfl) ?_
  refine E_bipush (v := 48) dX2_isDigit_1 (by decide) ?_
  refine E_icmp_lt (n := 48) (by decide) (tgt := 16) dX2_isDigit_3 (by decide) (fun q3 => ?_) (fun q3 => ?_)
  · refine E_iconst (v := 0) dX2_isDigit_16 (by decide) ?_
    refine E_iret dX2_isDigit_17 rfl (by decide) (Nat.zero_le _) (Nat.zero_le _) ?_
    first | exact ⟨by rw [b2i_t (by omega)], rfl⟩ | exact ⟨by rw [b2i_f (by omega)], rfl⟩
  · refine E_iload_n dX2_isDigit_6 (by rfl) ?_
    refine E_bipush (v := 57) dX2_isDigit_7 (by decide) ?_
    refine E_icmp_gt (n := 57) (by decide) (tgt := 16) dX2_isDigit_9 (by decide) (fun q9 => ?_) (fun q9 => ?_)
    · refine E_iconst (v := 0) dX2_isDigit_16 (by decide) ?_
      refine E_iret dX2_isDigit_17 rfl (by decide) (Nat.zero_le _) (Nat.zero_le _) ?_
      first | exact ⟨by rw [b2i_t (by omega)], rfl⟩ | exact ⟨by rw [b2i_f (by omega)], rfl⟩
    · refine E_iconst (v := 1) dX2_isDigit_12 (by decide) ?_
      refine E_goto (tgt := 17) dX2_isDigit_13 (by decide) ?_
      refine E_iret dX2_isDigit_17 rfl (by decide) (Nat.zero_le _) (Nat.zero_le _) ?_
      first | exact ⟨by rw [b2i_t (by omega)], rfl⟩ | exact ⟨by rw [b2i_f (by omega)], rfl⟩
def wMS (c : Int32) : Int32 := if c.toInt = 112 ∨ c.toInt = 106 ∨ (1 ≤ (c - 48).toInt ∧ (c - 48).toInt ≤ 6) then 2 else if c.toInt = 99 then 3 else if c.toInt = 108 then 6 else 0
def wC (c : Int32) : Int32 := if c.toInt = 44 then 1 else 0
def wA (c : Int32) : Int32 := if c.toInt = 62 then 6 else 0
def wN (c z o : Int32) : Int32 := if 48 ≤ c.toInt ∧ c.toInt ≤ 57 then (if c.toInt = 48 then z else o) else 0
theorem c_wMS (c : Int32) : Dt G kX2_wantedBehindMoveStart [.int c] mem (some (.int (wMS c))) mem := by
  refine Ct_of (by decide) (Nat.le_of_ble_eq_true rfl) ?_
  unfold wMS
  refine E_iload_n dX2_wantedBehindMoveStart_0 (by rfl) ?_
  refine E_bipush (v := 112) dX2_wantedBehindMoveStart_1 (by decide) ?_
  refine E_icmp_eq (n := 112) (by decide) (tgt := 22) dX2_wantedBehindMoveStart_3 (by decide) (fun q3 => ?_) (fun q3 => ?_)
  · refine E_iconst (v := 2) dX2_wantedBehindMoveStart_22 (by decide) ?_
    refine E_iret dX2_wantedBehindMoveStart_23 rfl rfl (Nat.zero_le _) (Nat.zero_le _) ?_
    exact x_leaf (by rw [if_pos (Or.inl q3)])
  · refine E_iload_n dX2_wantedBehindMoveStart_6 (by rfl) ?_
    refine E_bipush (v := 106) dX2_wantedBehindMoveStart_7 (by decide) ?_
    refine E_icmp_eq (n := 106) (by decide) (tgt := 22) dX2_wantedBehindMoveStart_9 (by decide) (fun q9 => ?_) (fun q9 => ?_)
    · refine E_iconst (v := 2) dX2_wantedBehindMoveStart_22 (by decide) ?_
      refine E_iret dX2_wantedBehindMoveStart_23 rfl rfl (Nat.zero_le _) (Nat.zero_le _) ?_
      exact x_leaf (by rw [if_pos (Or.inr (Or.inl q9))])
    · refine E_iload_n dX2_wantedBehindMoveStart_12 (by rfl) ?_
      refine E_bipush (v := 48) dX2_wantedBehindMoveStart_13 (by decide) ?_
      refine E_isub dX2_wantedBehindMoveStart_15 ?_
      refine cs_X2_wantedBehindMoveStart_16 (Nat.le_of_ble_eq_true rfl) (c_isRoll (c - 48)) ?_
      refine E_if_eq (tgt := 24) dX2_wantedBehindMoveStart_19 (by decide) (fun q19 => ?_) (fun q19 => ?_)
      · rw [b2i_T0] at q19
        refine E_iload_n dX2_wantedBehindMoveStart_24 (by rfl) ?_
        refine E_bipush (v := 99) dX2_wantedBehindMoveStart_25 (by decide) ?_
        refine E_icmp_ne (n := 99) (by decide) (tgt := 32) dX2_wantedBehindMoveStart_27 (by decide) (fun q27 => ?_) (fun q27 => ?_)
        · refine E_iload_n dX2_wantedBehindMoveStart_32 (by rfl) ?_
          refine E_bipush (v := 108) dX2_wantedBehindMoveStart_33 (by decide) ?_
          refine E_icmp_ne (n := 108) (by decide) (tgt := 43) dX2_wantedBehindMoveStart_35 (by decide) (fun q35 => ?_) (fun q35 => ?_)
          · refine E_iconst (v := 0) dX2_wantedBehindMoveStart_43 (by decide) ?_
            refine E_iret dX2_wantedBehindMoveStart_44 rfl rfl (Nat.zero_le _) (Nat.zero_le _) ?_
            exact x_leaf (by rw [if_neg (fun z => z.elim q3 (fun z => z.elim q9 q19)), if_neg q27, if_neg q35])
          · refine E_bipush (v := 6) dX2_wantedBehindMoveStart_38 (by decide) ?_
            refine E_goto (tgt := 44) dX2_wantedBehindMoveStart_40 (by decide) ?_
            refine E_iret dX2_wantedBehindMoveStart_44 rfl rfl (Nat.zero_le _) (Nat.zero_le _) ?_
            exact x_leaf (by rw [if_neg (fun z => z.elim q3 (fun z => z.elim q9 q19)), if_neg q27, if_pos q35])
        · refine E_iconst (v := 3) dX2_wantedBehindMoveStart_30 (by decide) ?_
          refine E_iret dX2_wantedBehindMoveStart_31 rfl rfl (Nat.zero_le _) (Nat.zero_le _) ?_
          exact x_leaf (by rw [if_neg (fun z => z.elim q3 (fun z => z.elim q9 q19)), if_pos q27])
      · rw [b2i_T0] at q19; have q19 := Classical.not_not.mp q19
        refine E_iconst (v := 2) dX2_wantedBehindMoveStart_22 (by decide) ?_
        refine E_iret dX2_wantedBehindMoveStart_23 rfl rfl (Nat.zero_le _) (Nat.zero_le _) ?_
        exact x_leaf (by rw [if_pos (Or.inr (Or.inr q19))])
theorem c_wC (c : Int32) : Dt G kX2_wantedBehindComma [.int c] mem (some (.int (wC c))) mem := by
  refine Ct_of (by decide) (Nat.le_of_ble_eq_true rfl) ?_
  unfold wC
  refine E_iload_n dX2_wantedBehindComma_0 (by rfl) ?_
  refine E_bipush (v := 44) dX2_wantedBehindComma_1 (by decide) ?_
  refine E_icmp_ne (n := 44) (by decide) (tgt := 10) dX2_wantedBehindComma_3 (by decide) (fun q3 => ?_) (fun q3 => ?_)
  · refine E_iconst (v := 0) dX2_wantedBehindComma_10 (by decide) ?_
    refine E_iret dX2_wantedBehindComma_11 rfl rfl (Nat.zero_le _) (Nat.zero_le _) ?_
    exact x_leaf (by rw [if_neg q3])
  · refine E_iconst (v := 1) dX2_wantedBehindComma_6 (by decide) ?_
    refine E_goto (tgt := 11) dX2_wantedBehindComma_7 (by decide) ?_
    refine E_iret dX2_wantedBehindComma_11 rfl rfl (Nat.zero_le _) (Nat.zero_le _) ?_
    exact x_leaf (by rw [if_pos q3])
theorem c_wA (c : Int32) : Dt G kX2_wantedBehindArrow [.int c] mem (some (.int (wA c))) mem := by
  refine Ct_of (by decide) (Nat.le_of_ble_eq_true rfl) ?_
  unfold wA
  refine E_iload_n dX2_wantedBehindArrow_0 (by rfl) ?_
  refine E_bipush (v := 62) dX2_wantedBehindArrow_1 (by decide) ?_
  refine E_icmp_ne (n := 62) (by decide) (tgt := 11) dX2_wantedBehindArrow_3 (by decide) (fun q3 => ?_) (fun q3 => ?_)
  · refine E_iconst (v := 0) dX2_wantedBehindArrow_11 (by decide) ?_
    refine E_iret dX2_wantedBehindArrow_12 rfl rfl (Nat.zero_le _) (Nat.zero_le _) ?_
    exact x_leaf (by rw [if_neg q3])
  · refine E_bipush (v := 6) dX2_wantedBehindArrow_6 (by decide) ?_
    refine E_goto (tgt := 12) dX2_wantedBehindArrow_8 (by decide) ?_
    refine E_iret dX2_wantedBehindArrow_12 rfl rfl (Nat.zero_le _) (Nat.zero_le _) ?_
    exact x_leaf (by rw [if_pos q3])
theorem c_wN (c z o : Int32) : Dt G kX2_wantedBehindNumberStart [.int c, .int z, .int o] mem (some (.int (wN c z o))) mem := by
  refine Ct_of (by decide) (Nat.le_of_ble_eq_true rfl) ?_
  unfold wN
  refine E_iload_n dX2_wantedBehindNumberStart_0 (by rfl) ?_
  refine cs_X2_wantedBehindNumberStart_1 (Nat.le_of_ble_eq_true rfl) (c_isDigit c) ?_
  refine E_if_ne (tgt := 9) dX2_wantedBehindNumberStart_4 (by decide) (fun q4 => ?_) (fun q4 => ?_)
  · rw [b2i_T0] at q4; have q4 := Classical.not_not.mp q4
    refine E_iload_n dX2_wantedBehindNumberStart_9 (by rfl) ?_
    refine E_bipush (v := 48) dX2_wantedBehindNumberStart_10 (by decide) ?_
    refine E_icmp_ne (n := 48) (by decide) (tgt := 19) dX2_wantedBehindNumberStart_12 (by decide) (fun q12 => ?_) (fun q12 => ?_)
    · refine E_iload_n dX2_wantedBehindNumberStart_19 (by rfl) ?_
      refine E_iret dX2_wantedBehindNumberStart_20 rfl rfl (Nat.zero_le _) (Nat.zero_le _) ?_
      exact x_leaf (by rw [if_pos q4, if_neg q12])
    · refine E_iload_n dX2_wantedBehindNumberStart_15 (by rfl) ?_
      refine E_goto (tgt := 20) dX2_wantedBehindNumberStart_16 (by decide) ?_
      refine E_iret dX2_wantedBehindNumberStart_20 rfl rfl (Nat.zero_le _) (Nat.zero_le _) ?_
      exact x_leaf (by rw [if_pos q4, if_pos q12])
  · rw [b2i_T0] at q4
    refine E_iconst (v := 0) dX2_wantedBehindNumberStart_7 (by decide) ?_
    refine E_iret dX2_wantedBehindNumberStart_8 rfl rfl (Nat.zero_le _) (Nat.zero_le _) ?_
    exact x_leaf (by rw [if_neg q4])
def wB (w c : Int32) : Int32 :=
  if w = 1 then wMS c else if w = 2 then wC c else if w = 3 then wN c 5 4 else if w = 4 then (if 48 ≤ c.toInt ∧ c.toInt ≤ 57 then 5 else wA c) else if w = 5 then wA c else if w = 6 then wN c 2 7 else if w = 7 then (if 48 ≤ c.toInt ∧ c.toInt ≤ 57 then 2 else wC c) else 0
theorem c_wB (w c : Int32) : Dt G kX2_wantedBehind [.int w, .int c] mem (some (.int (wB w c))) mem := by
  refine Ct_of (by decide) (Nat.le_of_ble_eq_true rfl) ?_
  unfold wB
  refine E_iload_n dX2_wantedBehind_0 (by rfl) ?_
  by_cases c1_1 : w = 1
  · rw [c1_1]
    refine E_tableIn (off := 43) (tgt := 44) dX2_wantedBehind_1 (by decide) (by decide) (by decide) (by decide) ?_
    refine E_iload_n dX2_wantedBehind_44 (by rfl) ?_
    refine cs_X2_wantedBehind_45 (Nat.le_of_ble_eq_true rfl) (c_wMS c) ?_
    refine E_iret dX2_wantedBehind_48 rfl rfl (Nat.zero_le _) (Nat.zero_le _) ?_
    exact x_leaf (by rw [if_pos rfl])
  by_cases c1_2 : w = 2
  · rw [c1_2]
    refine E_tableIn (off := 48) (tgt := 49) dX2_wantedBehind_1 (by decide) (by decide) (by decide) (by decide) ?_
    refine E_iload_n dX2_wantedBehind_49 (by rfl) ?_
    refine cs_X2_wantedBehind_50 (Nat.le_of_ble_eq_true rfl) (c_wC c) ?_
    refine E_iret dX2_wantedBehind_53 rfl rfl (Nat.zero_le _) (Nat.zero_le _) ?_
    exact x_leaf (by rw [if_neg (by decide), if_pos rfl])
  by_cases c1_3 : w = 3
  · rw [c1_3]
    refine E_tableIn (off := 53) (tgt := 54) dX2_wantedBehind_1 (by decide) (by decide) (by decide) (by decide) ?_
    refine E_iload_n dX2_wantedBehind_54 (by rfl) ?_
    refine E_iconst (v := 5) dX2_wantedBehind_55 (by decide) ?_
    refine E_iconst (v := 4) dX2_wantedBehind_56 (by decide) ?_
    refine cs_X2_wantedBehind_57 (Nat.le_of_ble_eq_true rfl) (c_wN c 5 4) ?_
    refine E_iret dX2_wantedBehind_60 rfl rfl (Nat.zero_le _) (Nat.zero_le _) ?_
    exact x_leaf (by rw [if_neg (by decide), if_neg (by decide), if_pos rfl])
  by_cases c1_4 : w = 4
  · rw [c1_4]
    refine E_tableIn (off := 60) (tgt := 61) dX2_wantedBehind_1 (by decide) (by decide) (by decide) (by decide) ?_
    refine E_iload_n dX2_wantedBehind_61 (by rfl) ?_
    refine cs_X2_wantedBehind_62 (Nat.le_of_ble_eq_true rfl) (c_isDigit c) ?_
    refine E_if_eq (tgt := 72) dX2_wantedBehind_65 (by decide) (fun q65 => ?_) (fun q65 => ?_)
    · rw [b2i_T0] at q65
      refine E_iload_n dX2_wantedBehind_72 (by rfl) ?_
      refine cs_X2_wantedBehind_73 (Nat.le_of_ble_eq_true rfl) (c_wA c) ?_
      refine E_iret dX2_wantedBehind_76 rfl rfl (Nat.zero_le _) (Nat.zero_le _) ?_
      exact x_leaf (by rw [if_neg (by decide), if_neg (by decide), if_neg (by decide), if_pos rfl, if_neg q65])
    · rw [b2i_T0] at q65; have q65 := Classical.not_not.mp q65
      refine E_iconst (v := 5) dX2_wantedBehind_68 (by decide) ?_
      refine E_goto (tgt := 76) dX2_wantedBehind_69 (by decide) ?_
      refine E_iret dX2_wantedBehind_76 rfl rfl (Nat.zero_le _) (Nat.zero_le _) ?_
      exact x_leaf (by rw [if_neg (by decide), if_neg (by decide), if_neg (by decide), if_pos rfl, if_pos q65])
  by_cases c1_5 : w = 5
  · rw [c1_5]
    refine E_tableIn (off := 76) (tgt := 77) dX2_wantedBehind_1 (by decide) (by decide) (by decide) (by decide) ?_
    refine E_iload_n dX2_wantedBehind_77 (by rfl) ?_
    refine cs_X2_wantedBehind_78 (Nat.le_of_ble_eq_true rfl) (c_wA c) ?_
    refine E_iret dX2_wantedBehind_81 rfl rfl (Nat.zero_le _) (Nat.zero_le _) ?_
    exact x_leaf (by rw [if_neg (by decide), if_neg (by decide), if_neg (by decide), if_neg (by decide), if_pos rfl])
  by_cases c1_6 : w = 6
  · rw [c1_6]
    refine E_tableIn (off := 81) (tgt := 82) dX2_wantedBehind_1 (by decide) (by decide) (by decide) (by decide) ?_
    refine E_iload_n dX2_wantedBehind_82 (by rfl) ?_
    refine E_iconst (v := 2) dX2_wantedBehind_83 (by decide) ?_
    refine E_bipush (v := 7) dX2_wantedBehind_84 (by decide) ?_
    refine cs_X2_wantedBehind_86 (Nat.le_of_ble_eq_true rfl) (c_wN c 2 7) ?_
    refine E_iret dX2_wantedBehind_89 rfl rfl (Nat.zero_le _) (Nat.zero_le _) ?_
    exact x_leaf (by rw [if_neg (by decide), if_neg (by decide), if_neg (by decide), if_neg (by decide), if_neg (by decide), if_pos rfl])
  by_cases c1_7 : w = 7
  · rw [c1_7]
    refine E_tableIn (off := 89) (tgt := 90) dX2_wantedBehind_1 (by decide) (by decide) (by decide) (by decide) ?_
    refine E_iload_n dX2_wantedBehind_90 (by rfl) ?_
    refine cs_X2_wantedBehind_91 (Nat.le_of_ble_eq_true rfl) (c_isDigit c) ?_
    refine E_if_eq (tgt := 101) dX2_wantedBehind_94 (by decide) (fun q94 => ?_) (fun q94 => ?_)
    · rw [b2i_T0] at q94
      refine E_iload_n dX2_wantedBehind_101 (by rfl) ?_
      refine cs_X2_wantedBehind_102 (Nat.le_of_ble_eq_true rfl) (c_wC c) ?_
      refine E_iret dX2_wantedBehind_105 rfl rfl (Nat.zero_le _) (Nat.zero_le _) ?_
      exact x_leaf (by rw [if_neg (by decide), if_neg (by decide), if_neg (by decide), if_neg (by decide), if_neg (by decide), if_neg (by decide), if_pos rfl, if_neg q94])
    · rw [b2i_T0] at q94; have q94 := Classical.not_not.mp q94
      refine E_iconst (v := 2) dX2_wantedBehind_97 (by decide) ?_
      refine E_goto (tgt := 105) dX2_wantedBehind_98 (by decide) ?_
      refine E_iret dX2_wantedBehind_105 rfl rfl (Nat.zero_le _) (Nat.zero_le _) ?_
      exact x_leaf (by rw [if_neg (by decide), if_neg (by decide), if_neg (by decide), if_neg (by decide), if_neg (by decide), if_neg (by decide), if_pos rfl, if_pos q94])
  have n1_1 : (w).toInt ≠ 1 := fun e => c1_1 (Int32.toInt_inj.mp (e.trans (by decide)))
  have n1_2 : (w).toInt ≠ 2 := fun e => c1_2 (Int32.toInt_inj.mp (e.trans (by decide)))
  have n1_3 : (w).toInt ≠ 3 := fun e => c1_3 (Int32.toInt_inj.mp (e.trans (by decide)))
  have n1_4 : (w).toInt ≠ 4 := fun e => c1_4 (Int32.toInt_inj.mp (e.trans (by decide)))
  have n1_5 : (w).toInt ≠ 5 := fun e => c1_5 (Int32.toInt_inj.mp (e.trans (by decide)))
  have n1_6 : (w).toInt ≠ 6 := fun e => c1_6 (Int32.toInt_inj.mp (e.trans (by decide)))
  have n1_7 : (w).toInt ≠ 7 := fun e => c1_7 (Int32.toInt_inj.mp (e.trans (by decide)))
  refine E_tableOut (tgt := 106) dX2_wantedBehind_1 (by omega) (by decide) ?_
  refine E_iconst (v := 0) dX2_wantedBehind_106 (by decide) ?_
  refine E_iret dX2_wantedBehind_107 rfl rfl (Nat.zero_le _) (Nat.zero_le _) ?_
  exact x_leaf (by rw [if_neg c1_1, if_neg c1_2, if_neg c1_3, if_neg c1_4, if_neg c1_5, if_neg c1_6, if_neg c1_7])
/-- the state of the reading behind the first n signs -/
def tW (f : Nat → Int32) : Nat → Int32
  | 0 => 1
  | i + 1 => wB (tW f i) (f i)
/-- d signs are left behind the first i -/
def tFE (f : Nat → Int32) : Nat → Nat → Int32
  | 0, i => if (tW f i).toInt = 2 ∨ (tW f i).toInt = 7 then -6 else nI i
  | d + 1, i => if (tW f (i + 1)).toInt = 0 then nI i else tFE f d (i + 1)
variable {f : Nat → Int32} {n : Nat}
theorem c_firstError (h0 : mem[84]? = some (t_o (nI n))) (h1 : mem[85]? = some (t_s f)) (hn : n ≤ 60) : Dt G kX2_firstError [.ref 84] mem (some (.int (tFE f n 0))) mem := by
  have en : (nI n).toInt = (n : Int) := nI_toInt (by omega)
  refine Ct_of (by decide) (Nat.le_of_ble_eq_true rfl) ?_
  have loop : ∀ di i : Nat, n < i + di → i ≤ n → (tFE f n 0 = tFE f (n - i) i) → E G kX2_firstError (x_R (some (.int (tFE f n 0))) mem) 0 0 (mem) 4 (x_L [(0, .ref 84), (1, .int (tW f i)), (2, .int (nI i))]) [] := by
    intro di
    induction di with
    | zero => intro i hi1 hi2 _; exact absurd hi1 (by omega)
    | succ di ihi =>
      intro i hi1 hi2 hinv
      have ei : (nI i).toInt = (i : Int) := nI_toInt (by omega)
      have eci : (nI i).toNatClampNeg = i := nI_clamp (by omega)
      refine E_iload_n dX2_firstError_4 (by rfl) ?_
      refine E_aload_n dX2_firstError_5 (by rfl) ?_
      refine gf_X2_15 dX2_firstError_6 rfl (by assumption) (by rfl) ?_
      refine E_icmp_ge (n := _) rfl (tgt := 35) dX2_firstError_9 (by decide) (fun q9 => ?_) (fun q9 => ?_)
      · obtain rfl : i = n := by omega
        rw [Nat.sub_self, tFE] at hinv
        refine E_iload_n dX2_firstError_35 (by rfl) ?_
        refine E_iconst (v := 2) dX2_firstError_36 (by decide) ?_
        refine E_icmp_eq (n := 2) (by decide) (tgt := 46) dX2_firstError_37 (by decide) (fun q37 => ?_) (fun q37 => ?_)
        · refine E_bipush (v := (-6)) dX2_firstError_46 (by decide) ?_
          refine E_goto (tgt := 55) dX2_firstError_48 (by decide) ?_
          refine E_iret dX2_firstError_55 rfl rfl (Nat.zero_le _) (Nat.zero_le _) ?_
          exact x_leaf (by rw [hinv, if_pos (Or.inl q37)])
        · refine E_iload_n dX2_firstError_40 (by rfl) ?_
          refine E_bipush (v := 7) dX2_firstError_41 (by decide) ?_
          refine E_icmp_ne (n := 7) (by decide) (tgt := 51) dX2_firstError_43 (by decide) (fun q43 => ?_) (fun q43 => ?_)
          · refine E_aload_n dX2_firstError_51 (by rfl) ?_
            refine gf_X2_15 dX2_firstError_52 rfl (by assumption) (by rfl) ?_
            refine E_iret dX2_firstError_55 rfl rfl (Nat.zero_le _) (Nat.zero_le _) ?_
            exact x_leaf (by rw [hinv, if_neg (fun z => z.elim q37 q43)])
          · refine E_bipush (v := (-6)) dX2_firstError_46 (by decide) ?_
            refine E_goto (tgt := 55) dX2_firstError_48 (by decide) ?_
            refine E_iret dX2_firstError_55 rfl rfl (Nat.zero_le _) (Nat.zero_le _) ?_
            exact x_leaf (by rw [hinv, if_pos (Or.inr q43)])
      · refine E_iload_n dX2_firstError_12 (by rfl) ?_
        refine E_aload_n dX2_firstError_13 (by rfl) ?_
        refine gf_X2_9 dX2_firstError_14 rfl (by assumption) (by rfl) ?_
        refine E_iload_n dX2_firstError_17 (by rfl) ?_
        refine E_cald dX2_firstError_18 (by assumption) (i_in (by omega) (by omega)) ?_
        refine cs_X2_firstError_19 (Nat.le_of_ble_eq_true rfl) (c_wB _ _) ?_
        rw [eci]
        refine (?_ : E G kX2_firstError _ 0 0 mem 22 _ [.int (tW f (i + 1))])
        refine E_istore_n dX2_firstError_22 (Nat.le_of_ble_eq_true rfl) (by rfl) ?_
        refine E_iload_n dX2_firstError_23 (by rfl) ?_
        refine E_if_ne (tgt := 29) dX2_firstError_24 (by decide) (fun q24 => ?_) (fun q24 => ?_)
        · refine E_iinc (d := 1) dX2_firstError_29 (by rfl) (by decide) (Nat.le_of_ble_eq_true rfl) (by rfl) ?_
          refine E_goto (tgt := 4) dX2_firstError_32 (by decide) ?_
          exact E_loc [(0, .ref 84), (1, .int (tW f (i + 1))), (2, .int (nI (i + 1)))] ⟨rfl, x_i (by exact rfl), x_i (by first | exact nI_1 _ | decide), trivial⟩ (ihi (i + 1) (by omega) (by omega) (by rw [hinv, show n - i = (n - (i + 1)) + 1 by omega, tFE, if_neg q24]))
        · refine E_iload_n dX2_firstError_27 (by rfl) ?_
          refine E_iret dX2_firstError_28 rfl rfl (Nat.zero_le _) (Nat.zero_le _) ?_
          exact x_leaf (by rw [hinv, show n - i = (n - (i + 1)) + 1 by omega, tFE, if_pos q24])
  refine E_iconst (v := 1) dX2_firstError_0 (by decide) ?_
  refine E_istore_n dX2_firstError_1 (Nat.le_of_ble_eq_true rfl) (by rfl) ?_
  refine E_iconst (v := 0) dX2_firstError_2 (by decide) ?_
  refine E_istore_n dX2_firstError_3 (Nat.le_of_ble_eq_true rfl) (by rfl) ?_
  exact E_loc [(0, .ref 84), (1, .int (tW f 0)), (2, .int (nI 0))] ⟨rfl, x_i (by rfl), x_i (by first | rfl | decide), trivial⟩ (loop (n + 1) 0 (by omega) (by omega) rfl)
theorem c_addSign_no1 (h0 : mem[84]? = some (t_o (nI n))) (c : Int32) (hc : c.toInt < 33 ∨ 126 < c.toInt) : Dt G kX2_addSign [.ref 84, .int c] mem (some (.int (-2))) mem := by
  refine Ct_of (by decide) (Nat.le_of_ble_eq_true rfl) ?_
  refine E_iload_n dX2_addSign_0 (by rfl) ?_
  refine E_bipush (v := 33) dX2_addSign_1 (by decide) ?_
  refine E_icmp_lt (n := 33) (by decide) (tgt := 12) dX2_addSign_3 (by decide) (fun q3 => ?_) (fun q3 => ?_)
  · refine E_bipush (v := (-2)) dX2_addSign_12 (by decide) ?_
    refine E_iret dX2_addSign_14 rfl rfl (Nat.zero_le _) (Nat.zero_le _) ?_
    exact x_leaf rfl
  · refine E_iload_n dX2_addSign_6 (by rfl) ?_
    refine E_bipush (v := 126) dX2_addSign_7 (by decide) ?_
    refine E_icmp_le (n := 126) (by decide) (tgt := 15) dX2_addSign_9 (by decide) (fun q9 => ?_) (fun q9 => ?_)
    · exact absurd hc (by omega)
    · refine E_bipush (v := (-2)) dX2_addSign_12 (by decide) ?_
      refine E_iret dX2_addSign_14 rfl rfl (Nat.zero_le _) (Nat.zero_le _) ?_
      exact x_leaf rfl
theorem c_addSign_no2 (h0 : mem[84]? = some (t_o (nI 60))) (c : Int32) (hc : 33 ≤ c.toInt ∧ c.toInt ≤ 126) : Dt G kX2_addSign [.ref 84, .int c] mem (some (.int (-4))) mem := by
  have en : (nI 60).toInt = 60 := by decide
  refine Ct_of (by decide) (Nat.le_of_ble_eq_true rfl) ?_
  refine E_iload_n dX2_addSign_0 (by rfl) ?_
  refine E_bipush (v := 33) dX2_addSign_1 (by decide) ?_
  refine E_icmp_lt (n := 33) (by decide) (tgt := 12) dX2_addSign_3 (by decide) (fun q3 => ?_) (fun q3 => ?_)
  · exact absurd hc (by omega)
  · refine E_iload_n dX2_addSign_6 (by rfl) ?_
    refine E_bipush (v := 126) dX2_addSign_7 (by decide) ?_
    refine E_icmp_le (n := 126) (by decide) (tgt := 15) dX2_addSign_9 (by decide) (fun q9 => ?_) (fun q9 => ?_)
    · refine E_aload_n dX2_addSign_15 (by rfl) ?_
      refine gf_X2_15 dX2_addSign_16 rfl (by assumption) (by rfl) ?_
      refine E_bipush (v := 60) dX2_addSign_19 (by decide) ?_
      refine E_icmp_lt (n := 60) (by decide) (tgt := 27) dX2_addSign_21 (by decide) (fun q21 => ?_) (fun q21 => ?_)
      · exact absurd q21 (by omega)
      · refine E_bipush (v := (-4)) dX2_addSign_24 (by decide) ?_
        refine E_iret dX2_addSign_26 rfl rfl (Nat.zero_le _) (Nat.zero_le _) ?_
        exact x_leaf rfl
    · exact absurd hc (by omega)
theorem t_char {c : Int32} (hc : 0 ≤ c.toInt ∧ c.toInt ≤ 65535) : (c.toUInt32 % 65536).toInt32 = c := by
  rw [pk_char]
  have h1 : c = nI c.toNatClampNeg := i_nI hc.1
  have h2 : c.toBitVec.toNat = c.toNatClampNeg := by
    conv => lhs; rw [h1]
    have := i_cl hc.1
    exact pk_tn (by omega)
  rw [h2, Nat.mod_eq_of_lt (by have := i_cl hc.1; omega)]
  exact h1.symm
theorem t_nar {c : Int32} (hc : 0 ≤ c.toInt ∧ c.toInt ≤ 65535) : narrow .char (.int c) = .int c := by
  have h := pk_nc c
  rw [t_char hc] at h
  exact h
theorem c_addSign_ok (h0 : mem[84]? = some (t_o (nI n))) (h1 : mem[85]? = some (t_s f)) (hn : n < 60) (c : Int32) (hc : 33 ≤ c.toInt ∧ c.toInt ≤ 126) : Dt G kX2_addSign [.ref 84, .int c] mem (some (.int (nI (n + 1)))) ((mem.set 85 (t_s (upd f n c))).set 84 (t_o (nI (n + 1)))) := by
  have en : (nI n).toInt = (n : Int) := nI_toInt (by omega)
  have ecn : (nI n).toNatClampNeg = n := nI_clamp (by omega)
  have hn1 : nI n + 1 = nI (n + 1) := nI_1 n
  have hch := t_nar (c := c) (by omega)
  have k0 : (mem.set 85 (t_s (upd f n c)))[84]? = some (t_o (nI n)) := x_get_set h0 (by decide)
  have k1 : ((mem.set 85 (t_s (upd f n c))).set 84 (t_o (nI (n + 1))))[84]? = some (t_o (nI (n + 1))) := x_get_same k0
  refine Ct_of (by decide) (Nat.le_of_ble_eq_true rfl) ?_
  refine E_iload_n dX2_addSign_0 (by rfl) ?_
  refine E_bipush (v := 33) dX2_addSign_1 (by decide) ?_
  refine E_icmp_lt (n := 33) (by decide) (tgt := 12) dX2_addSign_3 (by decide) (fun q3 => ?_) (fun q3 => ?_)
  · exact absurd hc (by omega)
  · refine E_iload_n dX2_addSign_6 (by rfl) ?_
    refine E_bipush (v := 126) dX2_addSign_7 (by decide) ?_
    refine E_icmp_le (n := 126) (by decide) (tgt := 15) dX2_addSign_9 (by decide) (fun q9 => ?_) (fun q9 => ?_)
    · refine E_aload_n dX2_addSign_15 (by rfl) ?_
      refine gf_X2_15 dX2_addSign_16 rfl (by assumption) (by rfl) ?_
      refine E_bipush (v := 60) dX2_addSign_19 (by decide) ?_
      refine E_icmp_lt (n := 60) (by decide) (tgt := 27) dX2_addSign_21 (by decide) (fun q21 => ?_) (fun q21 => ?_)
      · refine E_aload_n dX2_addSign_27 (by rfl) ?_
        refine gf_X2_9 dX2_addSign_28 rfl (by assumption) (by rfl) ?_
        refine E_aload_n dX2_addSign_31 (by rfl) ?_
        refine gf_X2_15 dX2_addSign_32 rfl (by assumption) (by rfl) ?_
        refine E_iload_n dX2_addSign_35 (by rfl) ?_
        refine E_i2c dX2_addSign_36 rfl ?_
        rw [t_char (c := c) (by omega)]
        refine E_cast dX2_addSign_37 (by assumption) (i_in (by omega) (by omega)) (by assumption) ?_
        refine E_mem (mem' := mem.set 85 (t_s (upd f n c))) (by rw [ecn]) ?_
        refine E_aload_n dX2_addSign_38 (by rfl) ?_
        refine E_dup dX2_addSign_39 rfl ?_
        refine gf_X2_15 dX2_addSign_40 rfl (by assumption) (by rfl) ?_
        refine E_iconst (v := 1) dX2_addSign_43 (by decide) ?_
        refine E_iadd dX2_addSign_44 ?_
        refine pf_X2_15 dX2_addSign_45 rfl (by assumption) (Nat.le_of_ble_eq_true rfl) ?_
        refine E_mem (mem' := (mem.set 85 (t_s (upd f n c))).set 84 (t_o (nI (n + 1)))) (by rw [hn1]; rfl) ?_
        refine E_aload_n dX2_addSign_48 (by rfl) ?_
        refine gf_X2_15 dX2_addSign_49 rfl (by assumption) (by rfl) ?_
        refine E_iret dX2_addSign_52 rfl rfl (Nat.zero_le _) (Nat.zero_le _) ?_
        exact ⟨rfl, rfl⟩
      · exact absurd q21 (by omega)
    · exact absurd hc (by omega)
theorem c_dropAll {l : Int32} (h0 : mem[84]? = some (t_o l)) : Dt G kX2_dropAll [.ref 84] mem (some (.int l)) (mem.set 84 (t_o 0)) := by
  refine Ct_of (by decide) (Nat.le_of_ble_eq_true rfl) ?_
  refine E_aload_n dX2_dropAll_0 (by rfl) ?_
  refine gf_X2_15 dX2_dropAll_1 rfl (by assumption) (by rfl) ?_
  refine E_istore_n dX2_dropAll_4 (Nat.le_of_ble_eq_true rfl) (by rfl) ?_
  refine E_aload_n dX2_dropAll_5 (by rfl) ?_
  refine E_iconst (v := 0) dX2_dropAll_6 (by decide) ?_
  refine pf_X2_15 dX2_dropAll_7 rfl (by assumption) (Nat.le_of_ble_eq_true rfl) ?_
  refine E_iload_n dX2_dropAll_10 (by rfl) ?_
  refine E_iret dX2_dropAll_11 rfl rfl (Nat.zero_le _) (Nat.zero_le _) ?_
  exact ⟨rfl, rfl⟩
/-- the sign at a place; a blank outside -/
def tSg (f : Nat → Int32) (n : Nat) (i : Int32) : Int32 := if 0 ≤ i.toInt ∧ i.toInt < n then f i.toNatClampNeg else 32
abbrev tOk (f : Nat → Int32) (n : Nat) : Prop := ∀ i, i < n → 33 ≤ (f i).toInt ∧ (f i).toInt ≤ 126
theorem tSg_rng (hf : tOk f n) (i : Int32) : 0 ≤ (tSg f n i).toInt ∧ (tSg f n i).toInt ≤ 65535 := by
  unfold tSg
  by_cases h : 0 ≤ i.toInt ∧ i.toInt < n
  · rw [if_pos h]
    have e := i_cl h.1
    have := hf i.toNatClampNeg (by omega)
    omega
  · rw [if_neg h]; decide
theorem c_signAt (h0 : mem[84]? = some (t_o (nI n))) (h1 : mem[85]? = some (t_s f)) (hn : n ≤ 60) (hf : tOk f n) (i : Int32) : Dt G kX2_signAt [.ref 84, .int i] mem (some (.int (tSg f n i))) mem := by
  have en : (nI n).toInt = (n : Int) := nI_toInt (by omega)
  have hr := tSg_rng hf i
  refine Ct_of (by decide) (Nat.le_of_ble_eq_true rfl) ?_
  unfold tSg at hr ⊢
  refine E_iload_n dX2_signAt_0 (by rfl) ?_
  refine E_if_lt (tgt := 21) dX2_signAt_1 (by decide) (fun q1 => ?_) (fun q1 => ?_)
  · refine E_bipush (v := 32) dX2_signAt_21 (by decide) ?_
    refine E_iret dX2_signAt_23 rfl (by decide) (Nat.zero_le _) (Nat.zero_le _) ?_
    exact x_leaf (by rw [if_neg (by omega)])
  · refine E_iload_n dX2_signAt_4 (by rfl) ?_
    refine E_aload_n dX2_signAt_5 (by rfl) ?_
    refine gf_X2_15 dX2_signAt_6 rfl (by assumption) (by rfl) ?_
    refine E_icmp_ge (n := _) rfl (tgt := 21) dX2_signAt_9 (by decide) (fun q9 => ?_) (fun q9 => ?_)
    · refine E_bipush (v := 32) dX2_signAt_21 (by decide) ?_
      refine E_iret dX2_signAt_23 rfl (by decide) (Nat.zero_le _) (Nat.zero_le _) ?_
      exact x_leaf (by rw [if_neg (by omega)])
    · rw [if_pos (by omega)] at hr
      refine E_aload_n dX2_signAt_12 (by rfl) ?_
      refine gf_X2_9 dX2_signAt_13 rfl (by assumption) (by rfl) ?_
      refine E_iload_n dX2_signAt_16 (by rfl) ?_
      refine E_cald dX2_signAt_17 (by assumption) (i_in (by omega) (by omega)) ?_
      refine E_goto (tgt := 23) dX2_signAt_18 (by decide) ?_
      refine E_iret dX2_signAt_23 rfl (t_nar hr) (Nat.zero_le _) (Nat.zero_le _) ?_
      exact x_leaf (by rw [if_pos (by omega)])
theorem c_isMoveStart (h0 : mem[84]? = some (t_o (nI n))) (h1 : mem[85]? = some (t_s f)) (hn : n ≤ 60) (hf : tOk f n) (i : Int32) : Dt G kX2_isMoveStart [.ref 84, .int i] mem (some (.int (b2i (i.toInt = 0 ∨ (tSg f n (i - 1)).toInt = 44)))) mem := by
  refine Ct_of (by decide) (Nat.le_of_ble_eq_true rfl) ?_
  refine E_iload_n dX2_isMoveStart_0 (by rfl) ?_
  refine E_if_eq (tgt := 16) dX2_isMoveStart_1 (by decide) (fun q1 => ?_) (fun q1 => ?_)
  · refine E_iconst (v := 1) dX2_isMoveStart_16 (by decide) ?_
    refine E_goto (tgt := 21) dX2_isMoveStart_17 (by decide) ?_
    refine E_iret dX2_isMoveStart_21 rfl (by decide) (Nat.zero_le _) (Nat.zero_le _) ?_
    first | exact ⟨by rw [b2i_t (by omega)], rfl⟩ | exact ⟨by rw [b2i_f (by omega)], rfl⟩
  · refine E_aload_n dX2_isMoveStart_4 (by rfl) ?_
    refine E_iload_n dX2_isMoveStart_5 (by rfl) ?_
    refine E_iconst (v := 1) dX2_isMoveStart_6 (by decide) ?_
    refine E_isub dX2_isMoveStart_7 ?_
    refine cs_X2_isMoveStart_8 (by assumption) (Nat.le_of_ble_eq_true rfl) (c_signAt h0 h1 hn hf _) ?_
    refine E_bipush (v := 44) dX2_isMoveStart_11 (by decide) ?_
    refine E_icmp_ne (n := 44) (by decide) (tgt := 20) dX2_isMoveStart_13 (by decide) (fun q13 => ?_) (fun q13 => ?_)
    · refine E_iconst (v := 0) dX2_isMoveStart_20 (by decide) ?_
      refine E_iret dX2_isMoveStart_21 rfl (by decide) (Nat.zero_le _) (Nat.zero_le _) ?_
      first | exact ⟨by rw [b2i_t (by omega)], rfl⟩ | exact ⟨by rw [b2i_f (by omega)], rfl⟩
    · refine E_iconst (v := 1) dX2_isMoveStart_16 (by decide) ?_
      refine E_goto (tgt := 21) dX2_isMoveStart_17 (by decide) ?_
      refine E_iret dX2_isMoveStart_21 rfl (by decide) (Nat.zero_le _) (Nat.zero_le _) ?_
      first | exact ⟨by rw [b2i_t (by omega)], rfl⟩ | exact ⟨by rw [b2i_f (by omega)], rfl⟩
/-- the number that begins at a place; d: how many signs may follow -/
def tNum (f : Nat → Int32) (n : Nat) : Nat → Nat → Int32 → Int32
  | 0, _, v => v
  | d + 1, i, v => if i < n ∧ (48 ≤ (f i).toInt ∧ (f i).toInt ≤ 57) then tNum f n d (i + 1) (10 * v + (f i - 48)) else v
theorem c_numberAt (h0 : mem[84]? = some (t_o (nI n))) (h1 : mem[85]? = some (t_s f)) (hn : n ≤ 60) (hf : tOk f n) (a : Nat) (ha : a ≤ 61) : Dt G kX2_numberAt [.ref 84, .int (nI a)] mem (some (.int (tNum f n 62 a 0))) mem := by
  have en : (nI n).toInt = (n : Int) := nI_toInt (by omega)
  have loop : ∀ (d i : Nat) (v : Int32) (R : Option Value → xM → Prop), R (some (.int (tNum f n d i v))) mem → n < i + d → i + d ≤ 123 → E G kX2_numberAt R 0 0 mem 4 (x_L [(0, .ref 84), (2, .int v), (3, .int (nI i))]) [] := by
    intro d
    induction d with
    | zero =>
      intro i v R hR hi h2
      have ei : (nI i).toInt = (i : Int) := nI_toInt (by omega)
      refine E_iload_n dX2_numberAt_4 (by rfl) ?_
      refine E_aload_n dX2_numberAt_5 (by rfl) ?_
      refine gf_X2_15 dX2_numberAt_6 rfl (by assumption) (by rfl) ?_
      refine E_icmp_ge (n := _) rfl (tgt := 43) dX2_numberAt_9 (by decide) (fun q9 => ?_) (fun q9 => ?_)
      · refine E_iload_n dX2_numberAt_43 (by rfl) ?_
        refine E_iret dX2_numberAt_44 rfl rfl (Nat.zero_le _) (Nat.zero_le _) ?_
        exact hR
      · exact absurd ei (by omega)
    | succ d ih =>
      intro i v R hR hi h2
      have ei : (nI i).toInt = (i : Int) := nI_toInt (by omega)
      have eci : (nI i).toNatClampNeg = i := nI_clamp (by omega)
      refine E_iload_n dX2_numberAt_4 (by rfl) ?_
      refine E_aload_n dX2_numberAt_5 (by rfl) ?_
      refine gf_X2_15 dX2_numberAt_6 rfl (by assumption) (by rfl) ?_
      refine E_icmp_ge (n := _) rfl (tgt := 43) dX2_numberAt_9 (by decide) (fun q9 => ?_) (fun q9 => ?_)
      · refine E_iload_n dX2_numberAt_43 (by rfl) ?_
        refine E_iret dX2_numberAt_44 rfl rfl (Nat.zero_le _) (Nat.zero_le _) ?_
        rw [tNum, if_neg (fun z => by omega)] at hR; exact hR
      · have es : tSg f n (nI i) = f i := by unfold tSg; rw [if_pos (by omega), eci]
        refine E_aload_n dX2_numberAt_12 (by rfl) ?_
        refine E_iload_n dX2_numberAt_13 (by rfl) ?_
        refine cs_X2_numberAt_14 (by assumption) (Nat.le_of_ble_eq_true rfl) (c_signAt h0 h1 hn hf _) ?_
        refine cs_X2_numberAt_17 (Nat.le_of_ble_eq_true rfl) (c_isDigit _) ?_
        refine E_if_eq (tgt := 43) dX2_numberAt_20 (by decide) (fun q20 => ?_) (fun q20 => ?_)
        · rw [b2i_T0, es] at q20
          refine E_iload_n dX2_numberAt_43 (by rfl) ?_
          refine E_iret dX2_numberAt_44 rfl rfl (Nat.zero_le _) (Nat.zero_le _) ?_
          rw [tNum, if_neg (fun z => q20 z.2)] at hR; exact hR
        · rw [b2i_T0, es] at q20; have q20 := Classical.not_not.mp q20
          refine E_bipush (v := 10) dX2_numberAt_23 (by decide) ?_
          refine E_iload_n dX2_numberAt_25 (by rfl) ?_
          refine E_imul dX2_numberAt_26 ?_
          refine E_aload_n dX2_numberAt_27 (by rfl) ?_
          refine E_iload_n dX2_numberAt_28 (by rfl) ?_
          refine cs_X2_numberAt_29 (by assumption) (Nat.le_of_ble_eq_true rfl) (c_signAt h0 h1 hn hf _) ?_
          refine E_bipush (v := 48) dX2_numberAt_32 (by decide) ?_
          refine E_isub dX2_numberAt_34 ?_
          refine E_iadd dX2_numberAt_35 ?_
          refine E_istore_n dX2_numberAt_36 (Nat.le_of_ble_eq_true rfl) (by rfl) ?_
          refine E_iinc (d := 1) dX2_numberAt_37 (by rfl) (by decide) (Nat.le_of_ble_eq_true rfl) (by rfl) ?_
          refine E_goto (tgt := 4) dX2_numberAt_40 (by decide) ?_
          exact E_loc [(0, .ref 84), (2, .int (10 * v + (f i - 48))), (3, .int (nI (i + 1)))] ⟨rfl, x_i (by rw [es]), x_i (nI_1 i), trivial⟩ (ih (i + 1) _ R (by rw [tNum, if_pos ⟨by omega, q20⟩] at hR; exact hR) (by omega) (by omega))
  refine Ct_of (by decide) (Nat.le_of_ble_eq_true rfl) ?_
  refine E_iconst (v := 0) dX2_numberAt_0 (by decide) ?_
  refine E_istore_n dX2_numberAt_1 (Nat.le_of_ble_eq_true rfl) (by rfl) ?_
  refine E_iload_n dX2_numberAt_2 (by rfl) ?_
  refine E_istore_n dX2_numberAt_3 (Nat.le_of_ble_eq_true rfl) (by rfl) ?_
  exact E_loc [(0, .ref 84), (2, .int 0), (3, .int (nI a))] ⟨rfl, rfl, rfl, trivial⟩ (loop 62 a 0 _ (x_leaf rfl) (by omega) (by omega))
/-- behind the first '>' from a place on -/
def tArr (f : Nat → Int32) (n : Nat) : Nat → Nat → Int32
  | 0, _ => nI n
  | d + 1, i => if (f i).toInt = 62 then nI (i + 1) else tArr f n d (i + 1)
theorem c_behindArrow (h0 : mem[84]? = some (t_o (nI n))) (h1 : mem[85]? = some (t_s f)) (hn : n ≤ 60) (hf : tOk f n) (a : Nat) (ha : a ≤ n) : Dt G kX2_behindArrow [.ref 84, .int (nI a)] mem (some (.int (tArr f n (n - a) a))) mem := by
  have en : (nI n).toInt = (n : Int) := nI_toInt (by omega)
  refine Ct_of (by decide) (Nat.le_of_ble_eq_true rfl) ?_
  have loop : ∀ di i : Nat, n < i + di → i ≤ n → (tArr f n (n - a) a = tArr f n (n - i) i) → E G kX2_behindArrow (x_R (some (.int (tArr f n (n - a) a))) mem) 0 0 (mem) 2 (x_L [(0, .ref 84), (2, .int (nI i))]) [] := by
    intro di
    induction di with
    | zero => intro i hi1 hi2 _; exact absurd hi1 (by omega)
    | succ di ihi =>
      intro i hi1 hi2 hinv
      have ei : (nI i).toInt = (i : Int) := nI_toInt (by omega)
      have eci : (nI i).toNatClampNeg = i := nI_clamp (by omega)
      refine E_iload_n dX2_behindArrow_2 (by rfl) ?_
      refine E_aload_n dX2_behindArrow_3 (by rfl) ?_
      refine gf_X2_15 dX2_behindArrow_4 rfl (by assumption) (by rfl) ?_
      refine E_icmp_ge (n := _) rfl (tgt := 30) dX2_behindArrow_7 (by decide) (fun q7 => ?_) (fun q7 => ?_)
      · refine E_aload_n dX2_behindArrow_30 (by rfl) ?_
        refine gf_X2_15 dX2_behindArrow_31 rfl (by assumption) (by rfl) ?_
        refine E_iret dX2_behindArrow_34 rfl rfl (Nat.zero_le _) (Nat.zero_le _) ?_
        exact x_leaf (by rw [hinv, show n - i = 0 by omega]; rfl)
      · have es : tSg f n (nI i) = f i := by unfold tSg; rw [if_pos (by omega), eci]
        refine E_aload_n dX2_behindArrow_10 (by rfl) ?_
        refine E_iload_n dX2_behindArrow_11 (by rfl) ?_
        refine cs_X2_behindArrow_12 (by assumption) (Nat.le_of_ble_eq_true rfl) (c_signAt h0 h1 hn hf _) ?_
        refine E_bipush (v := 62) dX2_behindArrow_15 (by decide) ?_
        refine E_icmp_ne (n := 62) (by decide) (tgt := 24) dX2_behindArrow_17 (by decide) (fun q17 => ?_) (fun q17 => ?_)
        · rw [es] at q17
          refine E_iinc (d := 1) dX2_behindArrow_24 (by rfl) (by decide) (Nat.le_of_ble_eq_true rfl) (by rfl) ?_
          refine E_goto (tgt := 2) dX2_behindArrow_27 (by decide) ?_
          exact E_loc [(0, .ref 84), (2, .int (nI (i + 1)))] ⟨rfl, x_i (by first | exact nI_1 _ | decide), trivial⟩ (ihi (i + 1) (by omega) (by omega) (by rw [hinv, show n - i = (n - (i + 1)) + 1 by omega, tArr, if_neg q17]))
        · rw [es] at q17
          refine E_iload_n dX2_behindArrow_20 (by rfl) ?_
          refine E_iconst (v := 1) dX2_behindArrow_21 (by decide) ?_
          refine E_iadd dX2_behindArrow_22 ?_
          refine E_iret dX2_behindArrow_23 rfl rfl (Nat.zero_le _) (Nat.zero_le _) ?_
          exact x_leaf (by rw [hinv, show n - i = (n - (i + 1)) + 1 by omega, tArr, if_pos q17, nI_1])
  refine E_iload_n dX2_behindArrow_0 (by rfl) ?_
  refine E_istore_n dX2_behindArrow_1 (Nat.le_of_ble_eq_true rfl) (by rfl) ?_
  exact E_loc [(0, .ref 84), (2, .int (nI a))] ⟨rfl, rfl, trivial⟩ (loop (n + 1) a (by omega) (by omega) rfl)
end T1
