/-! more of Game: what is asked by search, errors, and the writing of single cells -/
section G3
variable {G : xG} {mem : xM} {g : Nat} {S T : gS} {t n : Nat}
theorem c_isRoll (x : Int32) : Dt G kX3_isRoll [.int x] mem (some (.int (b2i (1 ≤ x.toInt ∧ x.toInt ≤ 6)))) mem := by
  refine Ct_of (by decide) (Nat.le_of_ble_eq_true rfl) ?_
  refine E_iload_n dX3_isRoll_0 (by rfl) ?_
  refine E_iconst (v := 1) dX3_isRoll_1 (by decide) ?_
  refine E_icmp_lt (n := 1) (by decide) (tgt := 15) dX3_isRoll_2 (by decide) (fun q2 => ?_) (fun q2 => ?_)
  · refine E_iconst (v := 0) dX3_isRoll_15 (by decide) ?_
    refine E_iret dX3_isRoll_16 rfl (by decide) (Nat.zero_le _) (Nat.zero_le _) ?_
    first | exact ⟨by rw [b2i_t (by omega)], rfl⟩ | exact ⟨by rw [b2i_f (by omega)], rfl⟩
  · refine E_iload_n dX3_isRoll_5 (by rfl) ?_
    refine E_bipush (v := 6) dX3_isRoll_6 (by decide) ?_
    refine E_icmp_gt (n := 6) (by decide) (tgt := 15) dX3_isRoll_8 (by decide) (fun q8 => ?_) (fun q8 => ?_)
    · refine E_iconst (v := 0) dX3_isRoll_15 (by decide) ?_
      refine E_iret dX3_isRoll_16 rfl (by decide) (Nat.zero_le _) (Nat.zero_le _) ?_
      first | exact ⟨by rw [b2i_t (by omega)], rfl⟩ | exact ⟨by rw [b2i_f (by omega)], rfl⟩
    · refine E_iconst (v := 1) dX3_isRoll_11 (by decide) ?_
      refine E_goto (tgt := 16) dX3_isRoll_12 (by decide) ?_
      refine E_iret dX3_isRoll_16 rfl (by decide) (Nat.zero_le _) (Nat.zero_le _) ?_
      first | exact ⟨by rw [b2i_t (by omega)], rfl⟩ | exact ⟨by rw [b2i_f (by omega)], rfl⟩
abbrev g_psd (S : gS) (c : Nat) (u : Int32) : Prop := (g_pl S (g_mv S).toNatClampNeg).toInt < (g_pl S c).toInt ∧ (g_pl S c).toInt < (g_pl S (g_mv S).toNatClampNeg + u).toInt ∧ ¬ g_isLa S (g_pl S c)
theorem c_isPassed (h : gAt mem g S) (ht : (g_top S).toInt ≤ 60) (hm : 0 ≤ (g_mv S).toInt ∧ (g_mv S).toInt < 6) {x : Int32} (hx : 0 ≤ x.toInt ∧ x.toInt < 6) (u : Int32) : Dt G kX0_isPassed [.ref g, .int x, .int u] mem (some (.int (b2i (g_psd S x.toNatClampNeg u)))) mem := by
  obtain ⟨a0, a1, a2, a3, a4, a5, a6, a7, a8⟩ := id h
  refine Ct_of (by decide) (Nat.le_of_ble_eq_true rfl) ?_
  refine E_aload_n dX0_isPassed_0 (by rfl) ?_
  refine gf_X0_19 dX0_isPassed_1 rfl (by assumption) (by rfl) ?_
  refine E_iload_n dX0_isPassed_4 (by rfl) ?_
  refine E_iald dX0_isPassed_5 (by assumption) (i_in (by omega) (by omega)) ?_
  refine E_istore_n dX0_isPassed_6 (Nat.le_of_ble_eq_true rfl) (by rfl) ?_
  refine E_aload_n dX0_isPassed_7 (by rfl) ?_
  refine gf_X0_19 dX0_isPassed_8 rfl (by assumption) (by rfl) ?_
  refine E_aload_n dX0_isPassed_11 (by rfl) ?_
  refine gf_X0_44 dX0_isPassed_12 rfl (by assumption) (by rfl) ?_
  refine E_iald dX0_isPassed_15 (by assumption) (i_in (by omega) (by omega)) ?_
  refine E_istore dX0_isPassed_16 (Nat.le_of_ble_eq_true rfl) (by rfl) ?_
  refine E_iload_n dX0_isPassed_18 (by rfl) ?_
  refine E_iload dX0_isPassed_19 (by rfl) ?_
  refine E_icmp_le (n := _) rfl (tgt := 44) dX0_isPassed_21 (by decide) (fun q21 => ?_) (fun q21 => ?_)
  · refine E_iconst (v := 0) dX0_isPassed_44 (by decide) ?_
    refine E_iret dX0_isPassed_45 rfl (by decide) (Nat.zero_le _) (Nat.zero_le _) ?_
    exact x_leaf (by rw [b2i_f (fun hh => by have := hh.1; omega)])
  · refine E_iload_n dX0_isPassed_24 (by rfl) ?_
    refine E_iload dX0_isPassed_25 (by rfl) ?_
    refine E_iload_n dX0_isPassed_27 (by rfl) ?_
    refine E_iadd dX0_isPassed_28 ?_
    refine E_icmp_ge (n := _) rfl (tgt := 44) dX0_isPassed_29 (by decide) (fun q29 => ?_) (fun q29 => ?_)
    · refine E_iconst (v := 0) dX0_isPassed_44 (by decide) ?_
      refine E_iret dX0_isPassed_45 rfl (by decide) (Nat.zero_le _) (Nat.zero_le _) ?_
      exact x_leaf (by rw [b2i_f (fun hh => by have := hh.2.1; omega)])
    · refine E_aload_n dX0_isPassed_32 (by rfl) ?_
      refine E_iload_n dX0_isPassed_33 (by rfl) ?_
      refine cs_X0_isPassed_34 (by assumption) (Nat.le_of_ble_eq_true rfl) (c_isLanding h ht _) ?_
      refine E_if_ne (tgt := 44) dX0_isPassed_37 (by decide) (fun q37 => ?_) (fun q37 => ?_)
      · rw [b2i_T0] at q37; have q37 := Classical.not_not.mp q37
        refine E_iconst (v := 0) dX0_isPassed_44 (by decide) ?_
        refine E_iret dX0_isPassed_45 rfl (by decide) (Nat.zero_le _) (Nat.zero_le _) ?_
        exact x_leaf (by rw [b2i_f (fun hh => hh.2.2 q37)])
      · rw [b2i_T0] at q37
        refine E_iconst (v := 1) dX0_isPassed_40 (by decide) ?_
        refine E_goto (tgt := 45) dX0_isPassed_41 (by decide) ?_
        refine E_iret dX0_isPassed_45 rfl (by decide) (Nat.zero_le _) (Nat.zero_le _) ?_
        exact x_leaf (by rw [b2i_t ⟨by omega, by omega, q37⟩])
def sNo (p : Nat → Prop) [DecidablePred p] : Nat → Bool
  | 0 => true
  | c + 1 => sNo p c && !decide (p c)
theorem sNo_iff {p : Nat → Prop} [DecidablePred p] (n : Nat) : sNo p n = true ↔ ∀ c, c < n → ¬ p c := by
  induction n with
  | zero => exact ⟨fun _ c h => by omega, fun _ => rfl⟩
  | succ n ih =>
    simp only [sNo, Bool.and_eq_true, ih, Bool.not_eq_true', decide_eq_false_iff_not]
    constructor
    · rintro ⟨h1, h2⟩ c hc
      by_cases e : c = n
      · rw [e]; exact h2
      · exact h1 c (by omega)
    · intro h
      exact ⟨fun c hc => h c (by omega), h n (by omega)⟩
theorem c_wouldLift (h : gAt mem g S) (ht : (g_top S).toInt ≤ 60) (hc : g_cl S = nI n) (hn : n ≤ 6) (hm : 0 ≤ (g_mv S).toInt ∧ (g_mv S).toInt < 6) (u : Int32) : Dt G kX0_wouldLift [.ref g, .int u] mem (some (.int (b2i (sNo (fun c => g_psd S c u) n = false)))) mem := by
  obtain ⟨a0, a1, a2, a3, a4, a5, a6, a7, a8⟩ := id h
  have hc' : (g_cl S).toInt = (n : Int) := by rw [hc]; exact nI_toInt (by omega)
  refine Ct_of (by decide) (Nat.le_of_ble_eq_true rfl) ?_
  have loop : ∀ di i : Nat, n < i + di → i ≤ n → (∀ c, c < i → ¬ g_psd S c u) → E G kX0_wouldLift (x_R (some (.int (b2i (sNo (fun c => g_psd S c u) n = false)))) mem) 0 0 (mem) 2 (x_L [(0, .ref g), (1, .int u), (2, .int (nI i))]) [] := by
    intro di
    induction di with
    | zero => intro i hi1 hi2 _; exact absurd hi1 (by omega)
    | succ di ihi =>
      intro i hi1 hi2 hinv
      have ei : (nI i).toInt = (i : Int) := nI_toInt (by omega)
      have eci : (nI i).toNatClampNeg = i := nI_clamp (by omega)
      refine E_iload_n dX0_wouldLift_2 (by rfl) ?_
      refine E_aload_n dX0_wouldLift_3 (by rfl) ?_
      refine gf_X0_41 dX0_wouldLift_4 rfl (by assumption) (by rfl) ?_
      refine E_icmp_ge (n := _) rfl (tgt := 27) dX0_wouldLift_7 (by decide) (fun q7 => ?_) (fun q7 => ?_)
      · refine E_iconst (v := 0) dX0_wouldLift_27 (by decide) ?_
        refine E_iret dX0_wouldLift_28 rfl (by decide) (Nat.zero_le _) (Nat.zero_le _) ?_
        exact x_leaf (by rw [b2i_f]; rw [(sNo_iff n).mpr (fun c hcn => hinv c (by omega))]; decide)
      · refine E_aload_n dX0_wouldLift_10 (by rfl) ?_
        refine E_iload_n dX0_wouldLift_11 (by rfl) ?_
        refine E_iload_n dX0_wouldLift_12 (by rfl) ?_
        refine cs_X0_wouldLift_13 (by assumption) (Nat.le_of_ble_eq_true rfl) (c_isPassed h ht hm (by omega) u) ?_
        refine E_if_eq (tgt := 21) dX0_wouldLift_16 (by decide) (fun q16 => ?_) (fun q16 => ?_)
        · rw [b2i_T0, eci] at q16
          refine E_iinc (d := 1) dX0_wouldLift_21 (by rfl) (by decide) (Nat.le_of_ble_eq_true rfl) (by rfl) ?_
          refine E_goto (tgt := 2) dX0_wouldLift_24 (by decide) ?_
          exact E_loc [(0, .ref g), (1, .int u), (2, .int (nI (i + 1)))] ⟨rfl, rfl, x_i (by first | exact nI_1 _ | decide), trivial⟩ (ihi (i + 1) (by omega) (by omega) (lt_s hinv q16))
        · rw [b2i_T0, eci] at q16; have q16 := Classical.not_not.mp q16
          refine E_iconst (v := 1) dX0_wouldLift_19 (by decide) ?_
          refine E_iret dX0_wouldLift_20 rfl (by decide) (Nat.zero_le _) (Nat.zero_le _) ?_
          exact x_leaf (by rw [b2i_t]; exact Bool.eq_false_iff.mpr (fun hh => (sNo_iff n).mp hh i (by omega) q16))
  refine E_iconst (v := 0) dX0_wouldLift_0 (by decide) ?_
  refine E_istore_n dX0_wouldLift_1 (Nat.le_of_ble_eq_true rfl) (by rfl) ?_
  exact E_loc [(0, .ref g), (1, .int u), (2, .int (nI 0))] ⟨rfl, rfl, x_i (by first | rfl | decide), trivial⟩ (loop (n + 1) 0 (by omega) (by omega) lt_0)
/-- the first of n, from i on, that is so -/
def sFst (p : Nat → Prop) [DecidablePred p] : Nat → Nat → Int32
  | 0, _ => -6
  | d + 1, i => if p i then nI i else sFst p d (i + 1)
abbrev g_ahd (S : gS) (x : Int32) (o : Nat) : Prop := (gPr S x).toInt < (gPr S (nI o)).toInt ∨ (gPr S (nI o)).toInt = (gPr S x).toInt ∧ (nI o).toInt < x.toInt
theorem c_climbersAheadOf (h : gAt mem g S) (hc : g_cl S = nI n) (hn : n ≤ 6) (x : Int32) : Dt G kX0_climbersAheadOf [.ref g, .int x] mem (some (.int (sCn (g_ahd S x) n))) mem := by
  obtain ⟨a0, a1, a2, a3, a4, a5, a6, a7, a8⟩ := id h
  have hc' : (g_cl S).toInt = (n : Int) := by rw [hc]; exact nI_toInt (by omega)
  refine Ct_of (by decide) (Nat.le_of_ble_eq_true rfl) ?_
  have loop : ∀ di i : Nat, n < i + di → i ≤ n → E G kX0_climbersAheadOf (x_R (some (.int (sCn (g_ahd S x) n))) mem) 0 0 (mem) 11 (x_L [(0, .ref g), (1, .int x), (2, .int (sCn (g_ahd S x) i)), (3, .int (gPr S x)), (4, .int (nI i))]) [] := by
    intro di
    induction di with
    | zero => intro i hi1 hi2; exact absurd hi1 (by omega)
    | succ di ihi =>
      intro i hi1 hi2
      have ei : (nI i).toInt = (i : Int) := nI_toInt (by omega)
      have eci : (nI i).toNatClampNeg = i := nI_clamp (by omega)
      refine E_iload dX0_climbersAheadOf_11 (by rfl) ?_
      refine E_aload_n dX0_climbersAheadOf_13 (by rfl) ?_
      refine gf_X0_41 dX0_climbersAheadOf_14 rfl (by assumption) (by rfl) ?_
      refine E_icmp_ge (n := _) rfl (tgt := 55) dX0_climbersAheadOf_17 (by decide) (fun q17 => ?_) (fun q17 => ?_)
      · refine E_iload_n dX0_climbersAheadOf_55 (by rfl) ?_
        refine E_iret dX0_climbersAheadOf_56 rfl rfl (Nat.zero_le _) (Nat.zero_le _) ?_
        exact x_leaf (by rw [show i = n by omega])
      · refine E_aload_n dX0_climbersAheadOf_20 (by rfl) ?_
        refine E_iload dX0_climbersAheadOf_21 (by rfl) ?_
        refine cs_X0_climbersAheadOf_23 (by assumption) (Nat.le_of_ble_eq_true rfl) (c_progressOf h (by omega) _) ?_
        refine E_istore dX0_climbersAheadOf_26 (Nat.le_of_ble_eq_true rfl) (by rfl) ?_
        refine E_iload dX0_climbersAheadOf_28 (by rfl) ?_
        refine E_iload_n dX0_climbersAheadOf_30 (by rfl) ?_
        refine E_icmp_gt (n := _) rfl (tgt := 46) dX0_climbersAheadOf_31 (by decide) (fun q31 => ?_) (fun q31 => ?_)
        · refine E_iinc (d := 1) dX0_climbersAheadOf_46 (by rfl) (by decide) (Nat.le_of_ble_eq_true rfl) (by rfl) ?_
          refine E_iinc (d := 1) dX0_climbersAheadOf_49 (by rfl) (by decide) (Nat.le_of_ble_eq_true rfl) (by rfl) ?_
          refine E_goto (tgt := 11) dX0_climbersAheadOf_52 (by decide) ?_
          exact E_loc [(0, .ref g), (1, .int x), (2, .int (sCn (g_ahd S x) (i + 1))), (3, .int (gPr S x)), (4, .int (nI (i + 1)))] ⟨rfl, rfl, x_i (by simp only [sCn]; first | rw [if_pos (by unfold g_ahd; omega)] | rw [if_neg (by unfold g_ahd; omega)]), rfl, x_i (by first | exact nI_1 _ | decide), trivial⟩ (ihi (i + 1) (by omega) (by omega))
        · refine E_iload dX0_climbersAheadOf_34 (by rfl) ?_
          refine E_iload_n dX0_climbersAheadOf_36 (by rfl) ?_
          refine E_icmp_ne (n := _) rfl (tgt := 49) dX0_climbersAheadOf_37 (by decide) (fun q37 => ?_) (fun q37 => ?_)
          · refine E_iinc (d := 1) dX0_climbersAheadOf_49 (by rfl) (by decide) (Nat.le_of_ble_eq_true rfl) (by rfl) ?_
            refine E_goto (tgt := 11) dX0_climbersAheadOf_52 (by decide) ?_
            exact E_loc [(0, .ref g), (1, .int x), (2, .int (sCn (g_ahd S x) (i + 1))), (3, .int (gPr S x)), (4, .int (nI (i + 1)))] ⟨rfl, rfl, x_i (by simp only [sCn]; first | rw [if_pos (by unfold g_ahd; omega)] | rw [if_neg (by unfold g_ahd; omega)]), rfl, x_i (by first | exact nI_1 _ | decide), trivial⟩ (ihi (i + 1) (by omega) (by omega))
          · refine E_iload dX0_climbersAheadOf_40 (by rfl) ?_
            refine E_iload_n dX0_climbersAheadOf_42 (by rfl) ?_
            refine E_icmp_ge (n := _) rfl (tgt := 49) dX0_climbersAheadOf_43 (by decide) (fun q43 => ?_) (fun q43 => ?_)
            · refine E_iinc (d := 1) dX0_climbersAheadOf_49 (by rfl) (by decide) (Nat.le_of_ble_eq_true rfl) (by rfl) ?_
              refine E_goto (tgt := 11) dX0_climbersAheadOf_52 (by decide) ?_
              exact E_loc [(0, .ref g), (1, .int x), (2, .int (sCn (g_ahd S x) (i + 1))), (3, .int (gPr S x)), (4, .int (nI (i + 1)))] ⟨rfl, rfl, x_i (by simp only [sCn]; first | rw [if_pos (by unfold g_ahd; omega)] | rw [if_neg (by unfold g_ahd; omega)]), rfl, x_i (by first | exact nI_1 _ | decide), trivial⟩ (ihi (i + 1) (by omega) (by omega))
            · refine E_iinc (d := 1) dX0_climbersAheadOf_46 (by rfl) (by decide) (Nat.le_of_ble_eq_true rfl) (by rfl) ?_
              refine E_iinc (d := 1) dX0_climbersAheadOf_49 (by rfl) (by decide) (Nat.le_of_ble_eq_true rfl) (by rfl) ?_
              refine E_goto (tgt := 11) dX0_climbersAheadOf_52 (by decide) ?_
              exact E_loc [(0, .ref g), (1, .int x), (2, .int (sCn (g_ahd S x) (i + 1))), (3, .int (gPr S x)), (4, .int (nI (i + 1)))] ⟨rfl, rfl, x_i (by simp only [sCn]; first | rw [if_pos (by unfold g_ahd; omega)] | rw [if_neg (by unfold g_ahd; omega)]), rfl, x_i (by first | exact nI_1 _ | decide), trivial⟩ (ihi (i + 1) (by omega) (by omega))
  refine E_iconst (v := 0) dX0_climbersAheadOf_0 (by decide) ?_
  refine E_istore_n dX0_climbersAheadOf_1 (Nat.le_of_ble_eq_true rfl) (by rfl) ?_
  refine E_aload_n dX0_climbersAheadOf_2 (by rfl) ?_
  refine E_iload_n dX0_climbersAheadOf_3 (by rfl) ?_
  refine cs_X0_climbersAheadOf_4 (by assumption) (Nat.le_of_ble_eq_true rfl) (c_progressOf h (by omega) _) ?_
  refine E_istore_n dX0_climbersAheadOf_7 (Nat.le_of_ble_eq_true rfl) (by rfl) ?_
  refine E_iconst (v := 0) dX0_climbersAheadOf_8 (by decide) ?_
  refine E_istore dX0_climbersAheadOf_9 (Nat.le_of_ble_eq_true rfl) (by rfl) ?_
  exact E_loc [(0, .ref g), (1, .int x), (2, .int (sCn (g_ahd S x) 0)), (3, .int (gPr S x)), (4, .int (nI 0))] ⟨rfl, rfl, x_i (by rfl), rfl, x_i (by first | rfl | decide), trivial⟩ (loop (n + 1) 0 (by omega) (by omega))
theorem c_climberAtPlace (h : gAt mem g S) (hc : g_cl S = nI n) (hn : n ≤ 6) (x : Int32) : Dt G kX0_climberAtPlace [.ref g, .int x] mem (some (.int (sFst (fun c => (sCn (g_ahd S (nI c)) n).toInt = x.toInt) n 0))) mem := by
  obtain ⟨a0, a1, a2, a3, a4, a5, a6, a7, a8⟩ := id h
  have hc' : (g_cl S).toInt = (n : Int) := by rw [hc]; exact nI_toInt (by omega)
  refine Ct_of (by decide) (Nat.le_of_ble_eq_true rfl) ?_
  have loop : ∀ di i : Nat, n < i + di → i ≤ n → (sFst (fun c => (sCn (g_ahd S (nI c)) n).toInt = x.toInt) n 0 = sFst (fun c => (sCn (g_ahd S (nI c)) n).toInt = x.toInt) (n - i) i) → E G kX0_climberAtPlace (x_R (some (.int (sFst (fun c => (sCn (g_ahd S (nI c)) n).toInt = x.toInt) n 0))) mem) 0 0 (mem) 2 (x_L [(0, .ref g), (1, .int x), (2, .int (nI i))]) [] := by
    intro di
    induction di with
    | zero => intro i hi1 hi2 _; exact absurd hi1 (by omega)
    | succ di ihi =>
      intro i hi1 hi2 hinv
      have ei : (nI i).toInt = (i : Int) := nI_toInt (by omega)
      have eci : (nI i).toNatClampNeg = i := nI_clamp (by omega)
      refine E_iload_n dX0_climberAtPlace_2 (by rfl) ?_
      refine E_aload_n dX0_climberAtPlace_3 (by rfl) ?_
      refine gf_X0_41 dX0_climberAtPlace_4 rfl (by assumption) (by rfl) ?_
      refine E_icmp_ge (n := _) rfl (tgt := 27) dX0_climberAtPlace_7 (by decide) (fun q7 => ?_) (fun q7 => ?_)
      · refine E_bipush (v := (-6)) dX0_climberAtPlace_27 (by decide) ?_
        refine E_iret dX0_climberAtPlace_29 rfl rfl (Nat.zero_le _) (Nat.zero_le _) ?_
        exact x_leaf (by rw [hinv, show n - i = 0 by omega]; rfl)
      · refine E_aload_n dX0_climberAtPlace_10 (by rfl) ?_
        refine E_iload_n dX0_climberAtPlace_11 (by rfl) ?_
        refine cs_X0_climberAtPlace_12 (by assumption) (Nat.le_of_ble_eq_true rfl) (c_climbersAheadOf h hc hn _) ?_
        refine E_iload_n dX0_climberAtPlace_15 (by rfl) ?_
        refine E_icmp_ne (n := _) rfl (tgt := 21) dX0_climberAtPlace_16 (by decide) (fun q16 => ?_) (fun q16 => ?_)
        · refine E_iinc (d := 1) dX0_climberAtPlace_21 (by rfl) (by decide) (Nat.le_of_ble_eq_true rfl) (by rfl) ?_
          refine E_goto (tgt := 2) dX0_climberAtPlace_24 (by decide) ?_
          exact E_loc [(0, .ref g), (1, .int x), (2, .int (nI (i + 1)))] ⟨rfl, rfl, x_i (by first | exact nI_1 _ | decide), trivial⟩ (ihi (i + 1) (by omega) (by omega) (by rw [hinv, show n - i = (n - (i + 1)) + 1 by omega, sFst, if_neg q16]))
        · refine E_iload_n dX0_climberAtPlace_19 (by rfl) ?_
          refine E_iret dX0_climberAtPlace_20 rfl rfl (Nat.zero_le _) (Nat.zero_le _) ?_
          exact x_leaf (by rw [hinv, show n - i = (n - (i + 1)) + 1 by omega, sFst, if_pos q16])
  refine E_iconst (v := 0) dX0_climberAtPlace_0 (by decide) ?_
  refine E_istore_n dX0_climberAtPlace_1 (Nat.le_of_ble_eq_true rfl) (by rfl) ?_
  exact E_loc [(0, .ref g), (1, .int x), (2, .int (nI 0))] ⟨rfl, rfl, x_i (by first | rfl | decide), trivial⟩ (loop (n + 1) 0 (by omega) (by omega) rfl)
/-! setTop -/
theorem x_exn {P : Nat → Prop} {i t : Nat} (h : ∃ s, i ≤ s ∧ s < t ∧ P s) (hn : ¬ P i) : ∃ s, i + 1 ≤ s ∧ s < t ∧ P s := by
  obtain ⟨s, h1, h2, h3⟩ := h
  refine ⟨s, ?_, h2, h3⟩
  rcases Nat.lt_or_ge i s with h | h
  · exact h
  · have e : s = i := by omega
    rw [e] at h3
    exact absurd h3 hn
abbrev g_blk (S : gS) (n s : Nat) : Prop := (g_la S s).toInt ≠ 0 ∨ g_isUp S (nI s) ∨ (sOn (g_pl S) (nI s) n).toInt ≠ 0
theorem c_changeTop_out (x : Int32) (hx : x.toInt < 10 ∨ 60 < x.toInt) : Dt G kX0_changeTop [.ref g, .int x] mem (some (.int (-2))) mem := by
  refine Ct_of (by decide) (Nat.le_of_ble_eq_true rfl) ?_
  refine E_iload_n dX0_changeTop_0 (by rfl) ?_
  refine E_bipush (v := 10) dX0_changeTop_1 (by decide) ?_
  refine E_icmp_lt (n := 10) (by decide) (tgt := 12) dX0_changeTop_3 (by decide) (fun q3 => ?_) (fun q3 => ?_)
  · refine E_bipush (v := (-2)) dX0_changeTop_12 (by decide) ?_
    refine E_iret dX0_changeTop_14 rfl rfl (Nat.zero_le _) (Nat.zero_le _) ?_
    exact x_leaf rfl
  · refine E_iload_n dX0_changeTop_6 (by rfl) ?_
    refine E_bipush (v := 60) dX0_changeTop_7 (by decide) ?_
    refine E_icmp_le (n := 60) (by decide) (tgt := 15) dX0_changeTop_9 (by decide) (fun q9 => ?_) (fun q9 => ?_)
    · exact absurd hx (by omega)
    · refine E_bipush (v := (-2)) dX0_changeTop_12 (by decide) ?_
      refine E_iret dX0_changeTop_14 rfl rfl (Nat.zero_le _) (Nat.zero_le _) ?_
      exact x_leaf rfl
theorem c_changeTop_blk (h : gAt mem g S) (ht : g_top S = nI t) (ht60 : t ≤ 60) (hc : g_cl S = nI n) (hn : n ≤ 6) {x : Nat} (hx : 10 ≤ x ∧ x ≤ 60) (hb : ∃ s, x ≤ s ∧ s < t ∧ g_blk S n s) : Dt G kX0_changeTop [.ref g, .int (nI x)] mem (some (.int (-3))) mem := by
  obtain ⟨a0, a1, a2, a3, a4, a5, a6, a7, a8⟩ := id h
  have ht' : (g_top S).toInt = (t : Int) := by rw [ht]; exact nI_toInt (by omega)
  have ex : (nI x).toInt = (x : Int) := nI_toInt (by omega)
  have hxt : x ≤ t := by obtain ⟨s, h1, h2, -⟩ := hb; omega
  refine Ct_of (by decide) (Nat.le_of_ble_eq_true rfl) ?_
  have loop : ∀ di i : Nat, t < i + di → i ≤ t → (x ≤ i ∧ ∃ s, i ≤ s ∧ s < t ∧ g_blk S n s) → E G kX0_changeTop (x_R (some (.int (-3))) mem) 0 0 (mem) 17 (x_L [(0, .ref g), (1, .int (nI x)), (2, .int (nI i))]) [] := by
    intro di
    induction di with
    | zero => intro i hi1 hi2 _; exact absurd hi1 (by omega)
    | succ di ihi =>
      intro i hi1 hi2 hinv
      have ei : (nI i).toInt = (i : Int) := nI_toInt (by omega)
      have eci : (nI i).toNatClampNeg = i := nI_clamp (by omega)
      refine E_iload_n dX0_changeTop_17 (by rfl) ?_
      refine E_aload_n dX0_changeTop_18 (by rfl) ?_
      refine gf_X0_37 dX0_changeTop_19 rfl (by assumption) (by rfl) ?_
      refine E_icmp_ge (n := _) rfl (tgt := 59) dX0_changeTop_22 (by decide) (fun q22 => ?_) (fun q22 => ?_)
      · obtain ⟨h1, s, h2, h3, h4⟩ := hinv; exact absurd h3 (by omega)
      · refine E_aload_n dX0_changeTop_25 (by rfl) ?_
        refine gf_X0_15 dX0_changeTop_26 rfl (by assumption) (by rfl) ?_
        refine E_iload_n dX0_changeTop_29 (by rfl) ?_
        refine E_zald dX0_changeTop_30 (by assumption) (i_in (by omega) (by omega)) ?_
        refine E_if_ne (tgt := 50) dX0_changeTop_31 (by decide) (fun q31 => ?_) (fun q31 => ?_)
        · refine E_bipush (v := (-3)) dX0_changeTop_50 (by decide) ?_
          refine E_iret dX0_changeTop_52 rfl rfl (Nat.zero_le _) (Nat.zero_le _) ?_
          exact x_leaf rfl
        · refine E_aload_n dX0_changeTop_34 (by rfl) ?_
          refine E_iload_n dX0_changeTop_35 (by rfl) ?_
          refine cs_X0_changeTop_36 (by assumption) (Nat.le_of_ble_eq_true rfl) (c_isUpperEnd h (by omega) _) ?_
          refine E_if_ne (tgt := 50) dX0_changeTop_39 (by decide) (fun q39 => ?_) (fun q39 => ?_)
          · refine E_bipush (v := (-3)) dX0_changeTop_50 (by decide) ?_
            refine E_iret dX0_changeTop_52 rfl rfl (Nat.zero_le _) (Nat.zero_le _) ?_
            exact x_leaf rfl
          · refine E_aload_n dX0_changeTop_42 (by rfl) ?_
            refine E_iload_n dX0_changeTop_43 (by rfl) ?_
            refine cs_X0_changeTop_44 (by assumption) (Nat.le_of_ble_eq_true rfl) (c_climbersOn h hc hn _) ?_
            refine E_if_eq (tgt := 53) dX0_changeTop_47 (by decide) (fun q47 => ?_) (fun q47 => ?_)
            · rw [eci] at q31; rw [b2i_T0] at q39; have hnb : ¬ g_blk S n i := fun z => z.elim (fun z => z q31) (fun z => z.elim q39 (fun z => z q47))
              refine E_iinc (d := 1) dX0_changeTop_53 (by rfl) (by decide) (Nat.le_of_ble_eq_true rfl) (by rfl) ?_
              refine E_goto (tgt := 17) dX0_changeTop_56 (by decide) ?_
              exact E_loc [(0, .ref g), (1, .int (nI x)), (2, .int (nI (i + 1)))] ⟨rfl, rfl, x_i (by first | exact nI_1 _ | decide), trivial⟩ (ihi (i + 1) (by omega) (by omega) ⟨by omega, x_exn hinv.2 hnb⟩)
            · refine E_bipush (v := (-3)) dX0_changeTop_50 (by decide) ?_
              refine E_iret dX0_changeTop_52 rfl rfl (Nat.zero_le _) (Nat.zero_le _) ?_
              exact x_leaf rfl
  refine E_iload_n dX0_changeTop_0 (by rfl) ?_
  refine E_bipush (v := 10) dX0_changeTop_1 (by decide) ?_
  refine E_icmp_lt (n := 10) (by decide) (tgt := 12) dX0_changeTop_3 (by decide) (fun q3 => ?_) (fun q3 => ?_)
  · exact absurd hx (by omega)
  · refine E_iload_n dX0_changeTop_6 (by rfl) ?_
    refine E_bipush (v := 60) dX0_changeTop_7 (by decide) ?_
    refine E_icmp_le (n := 60) (by decide) (tgt := 15) dX0_changeTop_9 (by decide) (fun q9 => ?_) (fun q9 => ?_)
    · refine E_iload_n dX0_changeTop_15 (by rfl) ?_
      refine E_istore_n dX0_changeTop_16 (Nat.le_of_ble_eq_true rfl) (by rfl) ?_
      exact E_loc [(0, .ref g), (1, .int (nI x)), (2, .int (nI x))] ⟨rfl, rfl, x_i (by first | rfl | decide), trivial⟩ (loop (t + 1) x (by omega) (by omega) ⟨Nat.le_refl _, hb⟩)
    · exact absurd hx (by omega)
theorem c_changeTop_ok (h : gAt mem g S) (ht : g_top T = nI t) (ht60 : t ≤ 60) (hc : g_cl T = nI n) (hn : n ≤ 6) {x : Nat} (hx : 10 ≤ x ∧ x ≤ 60) (hb : ∀ s, x ≤ s → s < t → ¬ g_blk T n s) : Dt G kX0_changeTop [.ref g, .int (nI x)] (gPut mem g T) (some (.int (nI t))) (gPut mem g (g_wO T (nI x) (g_cl T) (g_mv T) (g_ro T) (g_lo T))) := by
  obtain ⟨a0, a1, a2, a3, a4, a5, a6, a7, a8⟩ := gAt_put h T
  have ht' : (g_top T).toInt = (t : Int) := by rw [ht]; exact nI_toInt (by omega)
  have ex : (nI x).toInt = (x : Int) := nI_toInt (by omega)
  refine Ct_of (by decide) (Nat.le_of_ble_eq_true rfl) ?_
  refine (?_ : ∀ (K : E G kX0_changeTop (x_R (some (.int (nI t))) (gPut mem g (g_wO T (nI x) (g_cl T) (g_mv T) (g_ro T) (g_lo T)))) 0 0 (gPut mem g T) 59 (x_L [(0, .ref g), (1, .int (nI x))]) []), E G kX0_changeTop _ 0 0 (gPut mem g T) 0 _ []) ?_
  · intro K
    by_cases hxt : t < x
    · refine E_iload_n dX0_changeTop_0 (by rfl) ?_
      refine E_bipush (v := 10) dX0_changeTop_1 (by decide) ?_
      refine E_icmp_lt (n := 10) (by decide) (tgt := 12) dX0_changeTop_3 (by decide) (fun q3 => ?_) (fun q3 => ?_)
      · exact absurd hx (by omega)
      · refine E_iload_n dX0_changeTop_6 (by rfl) ?_
        refine E_bipush (v := 60) dX0_changeTop_7 (by decide) ?_
        refine E_icmp_le (n := 60) (by decide) (tgt := 15) dX0_changeTop_9 (by decide) (fun q9 => ?_) (fun q9 => ?_)
        · refine E_iload_n dX0_changeTop_15 (by rfl) ?_
          refine E_istore_n dX0_changeTop_16 (Nat.le_of_ble_eq_true rfl) (by rfl) ?_
          refine E_iload_n dX0_changeTop_17 (by rfl) ?_
          refine E_aload_n dX0_changeTop_18 (by rfl) ?_
          refine gf_X0_37 dX0_changeTop_19 rfl (by assumption) (by rfl) ?_
          refine E_icmp_ge (n := _) rfl (tgt := 59) dX0_changeTop_22 (by decide) (fun q22 => ?_) (fun q22 => ?_)
          · exact E_loc [(0, .ref g), (1, .int (nI x))] ⟨rfl, rfl, trivial⟩ K
          · exact absurd hxt (by omega)
        · exact absurd hx (by omega)
    · have loop : ∀ di i : Nat, t < i + di → i ≤ t → (x ≤ i) → E G kX0_changeTop (x_R (some (.int (nI t))) (gPut mem g (g_wO T (nI x) (g_cl T) (g_mv T) (g_ro T) (g_lo T)))) 0 0 ((gPut mem g T)) 17 (x_L [(0, .ref g), (1, .int (nI x)), (2, .int (nI i))]) [] := by
        intro di
        induction di with
        | zero => intro i hi1 hi2 _; exact absurd hi1 (by omega)
        | succ di ihi =>
          intro i hi1 hi2 hinv
          have ei : (nI i).toInt = (i : Int) := nI_toInt (by omega)
          have eci : (nI i).toNatClampNeg = i := nI_clamp (by omega)
          refine E_iload_n dX0_changeTop_17 (by rfl) ?_
          refine E_aload_n dX0_changeTop_18 (by rfl) ?_
          refine gf_X0_37 dX0_changeTop_19 rfl (by assumption) (by rfl) ?_
          refine E_icmp_ge (n := _) rfl (tgt := 59) dX0_changeTop_22 (by decide) (fun q22 => ?_) (fun q22 => ?_)
          · exact E_loc [(0, .ref g), (1, .int (nI x))] ⟨rfl, rfl, trivial⟩ K
          · refine E_aload_n dX0_changeTop_25 (by rfl) ?_
            refine gf_X0_15 dX0_changeTop_26 rfl (by assumption) (by rfl) ?_
            refine E_iload_n dX0_changeTop_29 (by rfl) ?_
            refine E_zald dX0_changeTop_30 (by assumption) (i_in (by omega) (by omega)) ?_
            refine E_if_ne (tgt := 50) dX0_changeTop_31 (by decide) (fun q31 => ?_) (fun q31 => ?_)
            · rw [eci] at q31; exact absurd (Or.inl q31) (hb i hinv (by omega))
            · refine E_aload_n dX0_changeTop_34 (by rfl) ?_
              refine E_iload_n dX0_changeTop_35 (by rfl) ?_
              refine cs_X0_changeTop_36 (by assumption) (Nat.le_of_ble_eq_true rfl) (c_isUpperEnd (gAt_put h T) (by omega) _) ?_
              refine E_if_ne (tgt := 50) dX0_changeTop_39 (by decide) (fun q39 => ?_) (fun q39 => ?_)
              · rw [b2i_T0] at q39; exact absurd (Or.inr (Or.inl (Classical.not_not.mp q39))) (hb i hinv (by omega))
              · refine E_aload_n dX0_changeTop_42 (by rfl) ?_
                refine E_iload_n dX0_changeTop_43 (by rfl) ?_
                refine cs_X0_changeTop_44 (by assumption) (Nat.le_of_ble_eq_true rfl) (c_climbersOn (gAt_put h T) hc hn _) ?_
                refine E_if_eq (tgt := 53) dX0_changeTop_47 (by decide) (fun q47 => ?_) (fun q47 => ?_)
                · refine E_iinc (d := 1) dX0_changeTop_53 (by rfl) (by decide) (Nat.le_of_ble_eq_true rfl) (by rfl) ?_
                  refine E_goto (tgt := 17) dX0_changeTop_56 (by decide) ?_
                  exact E_loc [(0, .ref g), (1, .int (nI x)), (2, .int (nI (i + 1)))] ⟨rfl, rfl, x_i (by first | exact nI_1 _ | decide), trivial⟩ (ihi (i + 1) (by omega) (by omega) (by omega))
                · exact absurd (Or.inr (Or.inr q47)) (hb i hinv (by omega))
      refine E_iload_n dX0_changeTop_0 (by rfl) ?_
      refine E_bipush (v := 10) dX0_changeTop_1 (by decide) ?_
      refine E_icmp_lt (n := 10) (by decide) (tgt := 12) dX0_changeTop_3 (by decide) (fun q3 => ?_) (fun q3 => ?_)
      · exact absurd hx (by omega)
      · refine E_iload_n dX0_changeTop_6 (by rfl) ?_
        refine E_bipush (v := 60) dX0_changeTop_7 (by decide) ?_
        refine E_icmp_le (n := 60) (by decide) (tgt := 15) dX0_changeTop_9 (by decide) (fun q9 => ?_) (fun q9 => ?_)
        · refine E_iload_n dX0_changeTop_15 (by rfl) ?_
          refine E_istore_n dX0_changeTop_16 (Nat.le_of_ble_eq_true rfl) (by rfl) ?_
          exact E_loc [(0, .ref g), (1, .int (nI x)), (2, .int (nI x))] ⟨rfl, rfl, x_i (by first | rfl | decide), trivial⟩ (loop (t + 1) x (by omega) (by omega) (Nat.le_refl _))
        · exact absurd hx (by omega)
  · refine E_aload_n dX0_changeTop_59 (by rfl) ?_
    refine gf_X0_37 dX0_changeTop_60 rfl (by assumption) (by rfl) ?_
    refine E_istore_n dX0_changeTop_63 (Nat.le_of_ble_eq_true rfl) (by rfl) ?_
    refine E_aload_n dX0_changeTop_64 (by rfl) ?_
    refine E_iload_n dX0_changeTop_65 (by rfl) ?_
    refine pf_X0_37 dX0_changeTop_66 rfl (by assumption) (Nat.le_of_ble_eq_true rfl) ?_
    refine E_mem (gSetP0 h (g_wO T (nI x) (g_cl T) (g_mv T) (g_ro T) (g_lo T)) (by rfl)) ?_
    obtain ⟨a0, a1, a2, a3, a4, a5, a6, a7, a8⟩ := gAt_put h (g_wO T (nI x) (g_cl T) (g_mv T) (g_ro T) (g_lo T))
    refine E_iload_n dX0_changeTop_69 (by rfl) ?_
    refine E_iret dX0_changeTop_70 rfl rfl (Nat.zero_le _) (Nat.zero_le _) ?_
    exact x_leaf (by rw [← ht])
end G3
