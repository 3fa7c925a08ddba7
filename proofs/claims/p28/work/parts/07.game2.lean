/-! loops of Game that read alone -/
/-- the climbers on a step, of the first n -/
def sOn (pl : Nat → Int32) (x : Int32) : Nat → Int32
  | 0 => 0
  | c + 1 => if (pl c).toInt = x.toInt then sOn pl x c ||| (1 <<< (nI c &&& 31)) else sOn pl x c
/-- how many of the first n are so -/
def sCn (p : Nat → Prop) [DecidablePred p] : Nat → Int32
  | 0 => 0
  | c + 1 => if p c then sCn p c + 1 else sCn p c
def sSm (f : Nat → Int32) : Nat → Int32
  | 0 => 0
  | c + 1 => sSm f c + f c
section G2
variable {G : xG} {mem : xM} {g : Nat} {S : gS} {t n : Nat}
theorem c_climbersOn (h : gAt mem g S) (hc : g_cl S = nI n) (hn : n ≤ 6) (x : Int32) : Dt G kX0_climbersOn [.ref g, .int x] mem (some (.int (sOn (g_pl S) x n))) mem := by
  obtain ⟨a0, a1, a2, a3, a4, a5, a6, a7, a8⟩ := id h
  have hc' : (g_cl S).toInt = (n : Int) := by rw [hc]; exact nI_toInt (by omega)
  refine Ct_of (by decide) (Nat.le_of_ble_eq_true rfl) ?_
  have loop : ∀ di i : Nat, n < i + di → i ≤ n → E G kX0_climbersOn (x_R (some (.int (sOn (g_pl S) x n))) mem) 0 0 (mem) 4 (x_L [(0, .ref g), (1, .int x), (2, .int (sOn (g_pl S) x i)), (3, .int (nI i))]) [] := by
    intro di
    induction di with
    | zero => intro i hi1 hi2; exact absurd hi1 (by omega)
    | succ di ihi =>
      intro i hi1 hi2
      have ei : (nI i).toInt = (i : Int) := nI_toInt (by omega)
      have eci : (nI i).toNatClampNeg = i := nI_clamp (by omega)
      refine E_iload_n dX0_climbersOn_4 (by rfl) ?_
      refine E_aload_n dX0_climbersOn_5 (by rfl) ?_
      refine gf_X0_41 dX0_climbersOn_6 rfl (by assumption) (by rfl) ?_
      refine E_icmp_ge (n := _) rfl (tgt := 34) dX0_climbersOn_9 (by decide) (fun q9 => ?_) (fun q9 => ?_)
      · refine E_iload_n dX0_climbersOn_34 (by rfl) ?_
        refine E_iret dX0_climbersOn_35 rfl rfl (Nat.zero_le _) (Nat.zero_le _) ?_
        exact x_leaf (by rw [show i = n by omega])
      · refine E_aload_n dX0_climbersOn_12 (by rfl) ?_
        refine gf_X0_19 dX0_climbersOn_13 rfl (by assumption) (by rfl) ?_
        refine E_iload_n dX0_climbersOn_16 (by rfl) ?_
        refine E_iald dX0_climbersOn_17 (by assumption) (i_in (by omega) (by omega)) ?_
        refine E_iload_n dX0_climbersOn_18 (by rfl) ?_
        refine E_icmp_ne (n := _) rfl (tgt := 28) dX0_climbersOn_19 (by decide) (fun q19 => ?_) (fun q19 => ?_)
        · rw [eci] at q19
          refine E_iinc (d := 1) dX0_climbersOn_28 (by rfl) (by decide) (Nat.le_of_ble_eq_true rfl) (by rfl) ?_
          refine E_goto (tgt := 4) dX0_climbersOn_31 (by decide) ?_
          exact E_loc [(0, .ref g), (1, .int x), (2, .int (sOn (g_pl S) x (i + 1))), (3, .int (nI (i + 1)))] ⟨rfl, rfl, x_i (by simp only [sOn]; first | rw [if_pos q19] | rw [if_neg q19]), x_i (by first | exact nI_1 _ | decide), trivial⟩ (ihi (i + 1) (by omega) (by omega))
        · refine E_iload_n dX0_climbersOn_22 (by rfl) ?_
          refine E_iconst (v := 1) dX0_climbersOn_23 (by decide) ?_
          refine E_iload_n dX0_climbersOn_24 (by rfl) ?_
          refine E_ishl dX0_climbersOn_25 ?_
          refine E_ior dX0_climbersOn_26 ?_
          refine E_istore_n dX0_climbersOn_27 (Nat.le_of_ble_eq_true rfl) (by rfl) ?_
          rw [eci] at q19
          refine E_iinc (d := 1) dX0_climbersOn_28 (by rfl) (by decide) (Nat.le_of_ble_eq_true rfl) (by rfl) ?_
          refine E_goto (tgt := 4) dX0_climbersOn_31 (by decide) ?_
          exact E_loc [(0, .ref g), (1, .int x), (2, .int (sOn (g_pl S) x (i + 1))), (3, .int (nI (i + 1)))] ⟨rfl, rfl, x_i (by simp only [sOn]; first | rw [if_pos q19] | rw [if_neg q19]), x_i (by first | exact nI_1 _ | decide), trivial⟩ (ihi (i + 1) (by omega) (by omega))
  refine E_iconst (v := 0) dX0_climbersOn_0 (by decide) ?_
  refine E_istore_n dX0_climbersOn_1 (Nat.le_of_ble_eq_true rfl) (by rfl) ?_
  refine E_iconst (v := 0) dX0_climbersOn_2 (by decide) ?_
  refine E_istore_n dX0_climbersOn_3 (Nat.le_of_ble_eq_true rfl) (by rfl) ?_
  exact E_loc [(0, .ref g), (1, .int x), (2, .int (sOn (g_pl S) x 0)), (3, .int (nI 0))] ⟨rfl, rfl, x_i (by rfl), x_i (by first | rfl | decide), trivial⟩ (loop (n + 1) 0 (by omega) (by omega))
abbrev g_up (le : Nat → Int32) (s : Nat) : Prop := (le s).toInt ≠ -6
theorem c_countCarpets (h : gAt mem g S) (ht : g_top S = nI t) (ht60 : t ≤ 60) : Dt G kX0_countCarpets [.ref g] mem (some (.int (sCn (g_up (g_le S)) t))) mem := by
  obtain ⟨a0, a1, a2, a3, a4, a5, a6, a7, a8⟩ := id h
  have ht' : (g_top S).toInt = (t : Int) := by rw [ht]; exact nI_toInt (by omega)
  refine Ct_of (by decide) (Nat.le_of_ble_eq_true rfl) ?_
  have loop : ∀ di i : Nat, t < i + di → i ≤ t → E G kX0_countCarpets (x_R (some (.int (sCn (g_up (g_le S)) t))) mem) 0 0 (mem) 4 (x_L [(0, .ref g), (1, .int (sCn (g_up (g_le S)) i)), (2, .int (nI i))]) [] := by
    intro di
    induction di with
    | zero => intro i hi1 hi2; exact absurd hi1 (by omega)
    | succ di ihi =>
      intro i hi1 hi2
      have ei : (nI i).toInt = (i : Int) := nI_toInt (by omega)
      have eci : (nI i).toNatClampNeg = i := nI_clamp (by omega)
      refine E_iload_n dX0_countCarpets_4 (by rfl) ?_
      refine E_aload_n dX0_countCarpets_5 (by rfl) ?_
      refine gf_X0_37 dX0_countCarpets_6 rfl (by assumption) (by rfl) ?_
      refine E_icmp_ge (n := _) rfl (tgt := 29) dX0_countCarpets_9 (by decide) (fun q9 => ?_) (fun q9 => ?_)
      · refine E_iload_n dX0_countCarpets_29 (by rfl) ?_
        refine E_iret dX0_countCarpets_30 rfl rfl (Nat.zero_le _) (Nat.zero_le _) ?_
        exact x_leaf (by rw [show i = t by omega])
      · refine E_aload_n dX0_countCarpets_12 (by rfl) ?_
        refine E_iload_n dX0_countCarpets_13 (by rfl) ?_
        refine cs_X0_countCarpets_14 (by assumption) (Nat.le_of_ble_eq_true rfl) (c_isUpperEnd h (by omega) _) ?_
        refine E_if_eq (tgt := 23) dX0_countCarpets_17 (by decide) (fun q17 => ?_) (fun q17 => ?_)
        · rw [b2i_T0] at q17; simp only [g_isUp, eci] at q17
          refine E_iinc (d := 1) dX0_countCarpets_23 (by rfl) (by decide) (Nat.le_of_ble_eq_true rfl) (by rfl) ?_
          refine E_goto (tgt := 4) dX0_countCarpets_26 (by decide) ?_
          exact E_loc [(0, .ref g), (1, .int (sCn (g_up (g_le S)) (i + 1))), (2, .int (nI (i + 1)))] ⟨rfl, x_i (by simp only [sCn]; first | rw [if_pos (fun hh => q17 (fun h2 => h2.2 hh))] | rw [if_neg (fun hh => q17 ⟨⟨by omega, by omega⟩, hh⟩)]), x_i (by first | exact nI_1 _ | decide), trivial⟩ (ihi (i + 1) (by omega) (by omega))
        · refine E_iinc (d := 1) dX0_countCarpets_20 (by rfl) (by decide) (Nat.le_of_ble_eq_true rfl) (by rfl) ?_
          rw [b2i_T0] at q17; simp only [g_isUp, eci] at q17
          refine E_iinc (d := 1) dX0_countCarpets_23 (by rfl) (by decide) (Nat.le_of_ble_eq_true rfl) (by rfl) ?_
          refine E_goto (tgt := 4) dX0_countCarpets_26 (by decide) ?_
          exact E_loc [(0, .ref g), (1, .int (sCn (g_up (g_le S)) (i + 1))), (2, .int (nI (i + 1)))] ⟨rfl, x_i (by simp only [sCn]; first | rw [if_pos (fun hh => q17 (fun h2 => h2.2 hh))] | rw [if_neg (fun hh => q17 ⟨⟨by omega, by omega⟩, hh⟩)]), x_i (by first | exact nI_1 _ | decide), trivial⟩ (ihi (i + 1) (by omega) (by omega))
  refine E_iconst (v := 0) dX0_countCarpets_0 (by decide) ?_
  refine E_istore_n dX0_countCarpets_1 (Nat.le_of_ble_eq_true rfl) (by rfl) ?_
  refine E_iconst (v := 0) dX0_countCarpets_2 (by decide) ?_
  refine E_istore_n dX0_countCarpets_3 (Nat.le_of_ble_eq_true rfl) (by rfl) ?_
  exact E_loc [(0, .ref g), (1, .int (sCn (g_up (g_le S)) 0)), (2, .int (nI 0))] ⟨rfl, x_i (by rfl), x_i (by first | rfl | decide), trivial⟩ (loop (t + 1) 0 (by omega) (by omega))
abbrev g_lan (la : Nat → Int32) (s : Nat) : Prop := (la s).toInt ≠ 0
theorem c_countLandings (h : gAt mem g S) (ht : g_top S = nI t) (ht60 : t ≤ 60) : Dt G kX0_countLandings [.ref g] mem (some (.int (sCn (g_lan (g_la S)) t))) mem := by
  obtain ⟨a0, a1, a2, a3, a4, a5, a6, a7, a8⟩ := id h
  have ht' : (g_top S).toInt = (t : Int) := by rw [ht]; exact nI_toInt (by omega)
  refine Ct_of (by decide) (Nat.le_of_ble_eq_true rfl) ?_
  have loop : ∀ di i : Nat, t < i + di → i ≤ t → E G kX0_countLandings (x_R (some (.int (sCn (g_lan (g_la S)) t))) mem) 0 0 (mem) 4 (x_L [(0, .ref g), (1, .int (sCn (g_lan (g_la S)) i)), (2, .int (nI i))]) [] := by
    intro di
    induction di with
    | zero => intro i hi1 hi2; exact absurd hi1 (by omega)
    | succ di ihi =>
      intro i hi1 hi2
      have ei : (nI i).toInt = (i : Int) := nI_toInt (by omega)
      have eci : (nI i).toNatClampNeg = i := nI_clamp (by omega)
      refine E_iload_n dX0_countLandings_4 (by rfl) ?_
      refine E_aload_n dX0_countLandings_5 (by rfl) ?_
      refine gf_X0_37 dX0_countLandings_6 rfl (by assumption) (by rfl) ?_
      refine E_icmp_ge (n := _) rfl (tgt := 29) dX0_countLandings_9 (by decide) (fun q9 => ?_) (fun q9 => ?_)
      · refine E_iload_n dX0_countLandings_29 (by rfl) ?_
        refine E_iret dX0_countLandings_30 rfl rfl (Nat.zero_le _) (Nat.zero_le _) ?_
        exact x_leaf (by rw [show i = t by omega])
      · refine E_aload_n dX0_countLandings_12 (by rfl) ?_
        refine E_iload_n dX0_countLandings_13 (by rfl) ?_
        refine cs_X0_countLandings_14 (by assumption) (Nat.le_of_ble_eq_true rfl) (c_isLanding h (by omega) _) ?_
        refine E_if_eq (tgt := 23) dX0_countLandings_17 (by decide) (fun q17 => ?_) (fun q17 => ?_)
        · rw [b2i_T0] at q17; simp only [g_isLa, eci] at q17
          refine E_iinc (d := 1) dX0_countLandings_23 (by rfl) (by decide) (Nat.le_of_ble_eq_true rfl) (by rfl) ?_
          refine E_goto (tgt := 4) dX0_countLandings_26 (by decide) ?_
          exact E_loc [(0, .ref g), (1, .int (sCn (g_lan (g_la S)) (i + 1))), (2, .int (nI (i + 1)))] ⟨rfl, x_i (by simp only [sCn]; first | rw [if_pos (fun hh => q17 (fun h2 => h2.2 hh))] | rw [if_neg (fun hh => q17 ⟨⟨by omega, by omega⟩, hh⟩)]), x_i (by first | exact nI_1 _ | decide), trivial⟩ (ihi (i + 1) (by omega) (by omega))
        · refine E_iinc (d := 1) dX0_countLandings_20 (by rfl) (by decide) (Nat.le_of_ble_eq_true rfl) (by rfl) ?_
          rw [b2i_T0] at q17; simp only [g_isLa, eci] at q17
          refine E_iinc (d := 1) dX0_countLandings_23 (by rfl) (by decide) (Nat.le_of_ble_eq_true rfl) (by rfl) ?_
          refine E_goto (tgt := 4) dX0_countLandings_26 (by decide) ?_
          exact E_loc [(0, .ref g), (1, .int (sCn (g_lan (g_la S)) (i + 1))), (2, .int (nI (i + 1)))] ⟨rfl, x_i (by simp only [sCn]; first | rw [if_pos (fun hh => q17 (fun h2 => h2.2 hh))] | rw [if_neg (fun hh => q17 ⟨⟨by omega, by omega⟩, hh⟩)]), x_i (by first | exact nI_1 _ | decide), trivial⟩ (ihi (i + 1) (by omega) (by omega))
  refine E_iconst (v := 0) dX0_countLandings_0 (by decide) ?_
  refine E_istore_n dX0_countLandings_1 (Nat.le_of_ble_eq_true rfl) (by rfl) ?_
  refine E_iconst (v := 0) dX0_countLandings_2 (by decide) ?_
  refine E_istore_n dX0_countLandings_3 (Nat.le_of_ble_eq_true rfl) (by rfl) ?_
  exact E_loc [(0, .ref g), (1, .int (sCn (g_lan (g_la S)) 0)), (2, .int (nI 0))] ⟨rfl, x_i (by rfl), x_i (by first | rfl | decide), trivial⟩ (loop (t + 1) 0 (by omega) (by omega))
theorem c_lowerEndsAt (h : gAt mem g S) (ht : g_top S = nI t) (ht60 : t ≤ 60) (x : Int32) : Dt G kX0_lowerEndsAt [.ref g, .int x] mem (some (.int (sCn (fun s => (g_le S s).toInt = x.toInt) t))) mem := by
  obtain ⟨a0, a1, a2, a3, a4, a5, a6, a7, a8⟩ := id h
  have ht' : (g_top S).toInt = (t : Int) := by rw [ht]; exact nI_toInt (by omega)
  refine Ct_of (by decide) (Nat.le_of_ble_eq_true rfl) ?_
  have loop : ∀ di i : Nat, t < i + di → i ≤ t → E G kX0_lowerEndsAt (x_R (some (.int (sCn (fun s => (g_le S s).toInt = x.toInt) t))) mem) 0 0 (mem) 4 (x_L [(0, .ref g), (1, .int x), (2, .int (sCn (fun s => (g_le S s).toInt = x.toInt) i)), (3, .int (nI i))]) [] := by
    intro di
    induction di with
    | zero => intro i hi1 hi2; exact absurd hi1 (by omega)
    | succ di ihi =>
      intro i hi1 hi2
      have ei : (nI i).toInt = (i : Int) := nI_toInt (by omega)
      have eci : (nI i).toNatClampNeg = i := nI_clamp (by omega)
      refine E_iload_n dX0_lowerEndsAt_4 (by rfl) ?_
      refine E_aload_n dX0_lowerEndsAt_5 (by rfl) ?_
      refine gf_X0_37 dX0_lowerEndsAt_6 rfl (by assumption) (by rfl) ?_
      refine E_icmp_ge (n := _) rfl (tgt := 31) dX0_lowerEndsAt_9 (by decide) (fun q9 => ?_) (fun q9 => ?_)
      · refine E_iload_n dX0_lowerEndsAt_31 (by rfl) ?_
        refine E_iret dX0_lowerEndsAt_32 rfl rfl (Nat.zero_le _) (Nat.zero_le _) ?_
        exact x_leaf (by rw [show i = t by omega])
      · refine E_aload_n dX0_lowerEndsAt_12 (by rfl) ?_
        refine gf_X0_9 dX0_lowerEndsAt_13 rfl (by assumption) (by rfl) ?_
        refine E_iload_n dX0_lowerEndsAt_16 (by rfl) ?_
        refine E_iald dX0_lowerEndsAt_17 (by assumption) (i_in (by omega) (by omega)) ?_
        refine E_iload_n dX0_lowerEndsAt_18 (by rfl) ?_
        refine E_icmp_ne (n := _) rfl (tgt := 25) dX0_lowerEndsAt_19 (by decide) (fun q19 => ?_) (fun q19 => ?_)
        · rw [eci] at q19
          refine E_iinc (d := 1) dX0_lowerEndsAt_25 (by rfl) (by decide) (Nat.le_of_ble_eq_true rfl) (by rfl) ?_
          refine E_goto (tgt := 4) dX0_lowerEndsAt_28 (by decide) ?_
          exact E_loc [(0, .ref g), (1, .int x), (2, .int (sCn (fun s => (g_le S s).toInt = x.toInt) (i + 1))), (3, .int (nI (i + 1)))] ⟨rfl, rfl, x_i (by simp only [sCn]; first | rw [if_pos q19] | rw [if_neg q19]), x_i (by first | exact nI_1 _ | decide), trivial⟩ (ihi (i + 1) (by omega) (by omega))
        · refine E_iinc (d := 1) dX0_lowerEndsAt_22 (by rfl) (by decide) (Nat.le_of_ble_eq_true rfl) (by rfl) ?_
          rw [eci] at q19
          refine E_iinc (d := 1) dX0_lowerEndsAt_25 (by rfl) (by decide) (Nat.le_of_ble_eq_true rfl) (by rfl) ?_
          refine E_goto (tgt := 4) dX0_lowerEndsAt_28 (by decide) ?_
          exact E_loc [(0, .ref g), (1, .int x), (2, .int (sCn (fun s => (g_le S s).toInt = x.toInt) (i + 1))), (3, .int (nI (i + 1)))] ⟨rfl, rfl, x_i (by simp only [sCn]; first | rw [if_pos q19] | rw [if_neg q19]), x_i (by first | exact nI_1 _ | decide), trivial⟩ (ihi (i + 1) (by omega) (by omega))
  refine E_iconst (v := 0) dX0_lowerEndsAt_0 (by decide) ?_
  refine E_istore_n dX0_lowerEndsAt_1 (Nat.le_of_ble_eq_true rfl) (by rfl) ?_
  refine E_iconst (v := 0) dX0_lowerEndsAt_2 (by decide) ?_
  refine E_istore_n dX0_lowerEndsAt_3 (Nat.le_of_ble_eq_true rfl) (by rfl) ?_
  exact E_loc [(0, .ref g), (1, .int x), (2, .int (sCn (fun s => (g_le S s).toInt = x.toInt) 0)), (3, .int (nI 0))] ⟨rfl, rfl, x_i (by rfl), x_i (by first | rfl | decide), trivial⟩ (loop (t + 1) 0 (by omega) (by omega))
theorem c_sumOf {a : Nat} {f : Nat → Int32} (h : mem[a]? = some (g_a 0 6 f)) : Dt G kX0_sumOf [.ref a] mem (some (.int (sSm f 6))) mem := by
  refine Ct_of (by decide) (Nat.le_of_ble_eq_true rfl) ?_
  have loop : ∀ di i : Nat, 6 < i + di → i ≤ 6 → E G kX0_sumOf (x_R (some (.int (sSm f 6))) mem) 0 0 (mem) 10 (x_L [(0, .ref a), (1, .int (sSm f i)), (2, .ref a), (3, .int 6), (4, .int (nI i))]) [] := by
    intro di
    induction di with
    | zero => intro i hi1 hi2; exact absurd hi1 (by omega)
    | succ di ihi =>
      intro i hi1 hi2
      have ei : (nI i).toInt = (i : Int) := nI_toInt (by omega)
      have eci : (nI i).toNatClampNeg = i := nI_clamp (by omega)
      have e6 : (6 : Int32).toInt = 6 := by decide
      refine E_iload dX0_sumOf_10 (by rfl) ?_
      refine E_iload_n dX0_sumOf_12 (by rfl) ?_
      refine E_icmp_ge (n := _) rfl (tgt := 33) dX0_sumOf_13 (by decide) (fun q13 => ?_) (fun q13 => ?_)
      · refine E_iload_n dX0_sumOf_33 (by rfl) ?_
        refine E_iret dX0_sumOf_34 rfl rfl (Nat.zero_le _) (Nat.zero_le _) ?_
        exact x_leaf (by rw [show i = 6 by omega])
      · refine E_aload_n dX0_sumOf_16 (by rfl) ?_
        refine E_iload dX0_sumOf_17 (by rfl) ?_
        refine E_iald dX0_sumOf_19 (by assumption) (i_in (by omega) (by omega)) ?_
        refine E_istore dX0_sumOf_20 (Nat.le_of_ble_eq_true rfl) (by rfl) ?_
        refine E_iload_n dX0_sumOf_22 (by rfl) ?_
        refine E_iload dX0_sumOf_23 (by rfl) ?_
        refine E_iadd dX0_sumOf_25 ?_
        refine E_istore_n dX0_sumOf_26 (Nat.le_of_ble_eq_true rfl) (by rfl) ?_
        refine E_iinc (d := 1) dX0_sumOf_27 (by rfl) (by decide) (Nat.le_of_ble_eq_true rfl) (by rfl) ?_
        refine E_goto (tgt := 10) dX0_sumOf_30 (by decide) ?_
        exact E_loc [(0, .ref a), (1, .int (sSm f (i + 1))), (2, .ref a), (3, .int 6), (4, .int (nI (i + 1)))] ⟨rfl, x_i (by simp only [sSm, eci]), rfl, rfl, x_i (by first | exact nI_1 _ | decide), trivial⟩ (ihi (i + 1) (by omega) (by omega))
  refine E_iconst (v := 0) dX0_sumOf_0 (by decide) ?_
  refine E_istore_n dX0_sumOf_1 (Nat.le_of_ble_eq_true rfl) (by rfl) ?_
  refine E_aload_n dX0_sumOf_2 (by rfl) ?_
  refine E_astore_n dX0_sumOf_3 (Nat.le_of_ble_eq_true rfl) (by rfl) ?_
  refine E_aload_n dX0_sumOf_4 (by rfl) ?_
  refine E_alen dX0_sumOf_5 (by assumption) rfl rfl ?_
  refine E_istore_n dX0_sumOf_6 (Nat.le_of_ble_eq_true rfl) (by rfl) ?_
  refine E_iconst (v := 0) dX0_sumOf_7 (by decide) ?_
  refine E_istore dX0_sumOf_8 (Nat.le_of_ble_eq_true rfl) (by rfl) ?_
  exact E_loc [(0, .ref a), (1, .int (sSm f 0)), (2, .ref a), (3, .int 6), (4, .int (nI 0))] ⟨rfl, x_i (by rfl), rfl, rfl, x_i (by first | rfl | decide), trivial⟩ (loop (6 + 1) 0 (by omega) (by omega))
theorem c_liftsOfAll (h : gAt mem g S) : Dt G kX0_liftsOfAll [.ref g] mem (some (.int (sSm (g_tl S) 6))) mem := by
  obtain ⟨a0, a1, a2, a3, a4, a5, a6, a7, a8⟩ := id h
  refine Ct_of (by decide) (Nat.le_of_ble_eq_true rfl) ?_
  refine E_aload_n dX0_liftsOfAll_0 (by rfl) ?_
  refine gf_X0_28 dX0_liftsOfAll_1 rfl (by assumption) (by rfl) ?_
  refine cs_X0_liftsOfAll_4 (Nat.le_of_ble_eq_true rfl) (c_sumOf a6) ?_
  refine E_iret dX0_liftsOfAll_7 rfl rfl (Nat.zero_le _) (Nat.zero_le _) ?_
  exact x_leaf rfl
theorem c_slipsOfAll (h : gAt mem g S) : Dt G kX0_slipsOfAll [.ref g] mem (some (.int (sSm (g_sl S) 6))) mem := by
  obtain ⟨a0, a1, a2, a3, a4, a5, a6, a7, a8⟩ := id h
  refine Ct_of (by decide) (Nat.le_of_ble_eq_true rfl) ?_
  refine E_aload_n dX0_slipsOfAll_0 (by rfl) ?_
  refine gf_X0_34 dX0_slipsOfAll_1 rfl (by assumption) (by rfl) ?_
  refine cs_X0_slipsOfAll_4 (Nat.le_of_ble_eq_true rfl) (c_sumOf a8) ?_
  refine E_iret dX0_slipsOfAll_7 rfl rfl (Nat.zero_le _) (Nat.zero_le _) ?_
  exact x_leaf rfl
theorem c_topsOfAll (h : gAt mem g S) : Dt G kX0_topsOfAll [.ref g] mem (some (.int (sSm (g_tp S) 6))) mem := by
  obtain ⟨a0, a1, a2, a3, a4, a5, a6, a7, a8⟩ := id h
  refine Ct_of (by decide) (Nat.le_of_ble_eq_true rfl) ?_
  refine E_aload_n dX0_topsOfAll_0 (by rfl) ?_
  refine gf_X0_22 dX0_topsOfAll_1 rfl (by assumption) (by rfl) ?_
  refine cs_X0_topsOfAll_4 (Nat.le_of_ble_eq_true rfl) (c_sumOf a4) ?_
  refine E_iret dX0_topsOfAll_7 rfl rfl (Nat.zero_le _) (Nat.zero_le _) ?_
  exact x_leaf rfl
def gPr (S : gS) (c : Int32) : Int32 := if g_isCl S c then g_tp S c.toNatClampNeg * g_top S + g_pl S c.toNatClampNeg else 0
theorem c_progressOf (h : gAt mem g S) (hc : (g_cl S).toInt ≤ 6) (x : Int32) : Dt G kX0_progressOf [.ref g, .int x] mem (some (.int (gPr S x))) mem := by
  obtain ⟨a0, a1, a2, a3, a4, a5, a6, a7, a8⟩ := id h
  refine Ct_of (by decide) (Nat.le_of_ble_eq_true rfl) ?_
  refine E_aload_n dX0_progressOf_0 (by rfl) ?_
  refine E_iload_n dX0_progressOf_1 (by rfl) ?_
  refine cs_X0_progressOf_2 (by assumption) (Nat.le_of_ble_eq_true rfl) (c_isClimber h _) ?_
  refine E_if_eq (tgt := 29) dX0_progressOf_5 (by decide) (fun q5 => ?_) (fun q5 => ?_)
  · rw [b2i_T0] at q5
    refine E_iconst (v := 0) dX0_progressOf_29 (by decide) ?_
    refine E_iret dX0_progressOf_30 rfl rfl (Nat.zero_le _) (Nat.zero_le _) ?_
    first | exact x_leaf (by rw [gPr, if_neg q5]) | exact x_leaf (by rw [gPr, if_pos q5])
  · rw [b2i_T0] at q5; have q5 := Classical.not_not.mp q5
    refine E_aload_n dX0_progressOf_8 (by rfl) ?_
    refine gf_X0_22 dX0_progressOf_9 rfl (by assumption) (by rfl) ?_
    refine E_iload_n dX0_progressOf_12 (by rfl) ?_
    refine E_iald dX0_progressOf_13 (by assumption) (i_in (by omega) (by omega)) ?_
    refine E_aload_n dX0_progressOf_14 (by rfl) ?_
    refine gf_X0_37 dX0_progressOf_15 rfl (by assumption) (by rfl) ?_
    refine E_imul dX0_progressOf_18 ?_
    refine E_aload_n dX0_progressOf_19 (by rfl) ?_
    refine gf_X0_19 dX0_progressOf_20 rfl (by assumption) (by rfl) ?_
    refine E_iload_n dX0_progressOf_23 (by rfl) ?_
    refine E_iald dX0_progressOf_24 (by assumption) (i_in (by omega) (by omega)) ?_
    refine E_iadd dX0_progressOf_25 ?_
    refine E_goto (tgt := 30) dX0_progressOf_26 (by decide) ?_
    refine E_iret dX0_progressOf_30 rfl rfl (Nat.zero_le _) (Nat.zero_le _) ?_
    first | exact x_leaf (by rw [gPr, if_neg q5]) | exact x_leaf (by rw [gPr, if_pos q5])
end G2
