/-! Game: rolls -/
section G5
variable {G : xG} {mem : xM} {g : Nat} {S T : gS} {t n : Nat}
def gCome (T : gS) (c : Nat) (x : Int32) : gS :=
  (T.1, T.2.1,
   (if g_below T x then (if (g_le T x.toNatClampNeg).toInt = -6 then upd (g_pl T) c x else upd (g_pl T) c (g_le T x.toNatClampNeg)) else upd (g_pl T) c 0),
   (if g_below T x then g_tp T else upd (g_tp T) c (g_tp T c + 1)), g_rs T, g_tl T, g_lm T,
   (if g_below T x then (if (g_le T x.toNatClampNeg).toInt = -6 then g_sl T else upd (g_sl T) c (g_sl T c + 1)) else g_sl T),
   T.2.2.2.2.2.2.2.2)
theorem c_comeTo (h : gAt mem g S) (ht : (g_top T).toInt ≤ 60) {y : Int32} (hy : 0 ≤ y.toInt ∧ y.toInt < 6) (x : Int32) : Dt G kX0_comeTo [.ref g, .int y, .int x] (gPut mem g T) none (gPut mem g (gCome T y.toNatClampNeg x)) := by
  obtain ⟨a0, a1, a2, a3, a4, a5, a6, a7, a8⟩ := gAt_put h T
  refine Ct_of (by decide) (Nat.le_of_ble_eq_true rfl) ?_
  refine E_aload_n dX0_comeTo_0 (by rfl) ?_
  refine E_iload_n dX0_comeTo_1 (by rfl) ?_
  refine cs_X0_comeTo_2 (by assumption) (Nat.le_of_ble_eq_true rfl) (c_isBelowTop (gAt_put h T) _) ?_
  refine E_if_ne (tgt := 28) dX0_comeTo_5 (by decide) (fun q5 => ?_) (fun q5 => ?_)
  · rw [b2i_T0] at q5; have q5 := Classical.not_not.mp q5
    refine E_aload_n dX0_comeTo_28 (by rfl) ?_
    refine gf_X0_9 dX0_comeTo_29 rfl (by assumption) (by rfl) ?_
    refine E_iload_n dX0_comeTo_32 (by rfl) ?_
    refine E_iald dX0_comeTo_33 (by assumption) (i_in (by omega) (by omega)) ?_
    refine E_bipush (v := (-6)) dX0_comeTo_34 (by decide) ?_
    refine E_icmp_eq (n := (-6)) (by decide) (tgt := 64) dX0_comeTo_36 (by decide) (fun q36 => ?_) (fun q36 => ?_)
    · refine E_aload_n dX0_comeTo_64 (by rfl) ?_
      refine gf_X0_19 dX0_comeTo_65 rfl (by assumption) (by rfl) ?_
      refine E_iload_n dX0_comeTo_68 (by rfl) ?_
      refine E_iload_n dX0_comeTo_69 (by rfl) ?_
      refine E_iast dX0_comeTo_70 (by assumption) (i_in (by omega) (by omega)) ?_
      refine E_mem (gSetP h (g_wPl T (upd (g_pl T) y.toNatClampNeg x)) 3 (by decide) (by rfl)) ?_
      obtain ⟨a0, a1, a2, a3, a4, a5, a6, a7, a8⟩ := gAt_put h (g_wPl T (upd (g_pl T) y.toNatClampNeg x))
      refine E_vret dX0_comeTo_71 rfl (Nat.zero_le _) (Nat.zero_le _) ?_
      refine ⟨rfl, ?_⟩
      unfold gCome
      rw [if_pos q5, if_pos q5, if_pos q5, if_pos q36, if_pos q36]
    · refine E_aload_n dX0_comeTo_39 (by rfl) ?_
      refine gf_X0_34 dX0_comeTo_40 rfl (by assumption) (by rfl) ?_
      refine E_iload_n dX0_comeTo_43 (by rfl) ?_
      refine E_dup2 dX0_comeTo_44 rfl rfl ?_
      refine E_iald dX0_comeTo_45 (by assumption) (i_in (by omega) (by omega)) ?_
      refine E_iconst (v := 1) dX0_comeTo_46 (by decide) ?_
      refine E_iadd dX0_comeTo_47 ?_
      refine E_iast dX0_comeTo_48 (by assumption) (i_in (by omega) (by omega)) ?_
      refine E_mem (gSetP h (g_wSl T (upd (g_sl T) y.toNatClampNeg (g_sl T y.toNatClampNeg + 1))) 8 (by decide) (by rfl)) ?_
      obtain ⟨a0, a1, a2, a3, a4, a5, a6, a7, a8⟩ := gAt_put h (g_wSl T (upd (g_sl T) y.toNatClampNeg (g_sl T y.toNatClampNeg + 1)))
      refine E_aload_n dX0_comeTo_49 (by rfl) ?_
      refine gf_X0_19 dX0_comeTo_50 rfl (by assumption) (by rfl) ?_
      refine E_iload_n dX0_comeTo_53 (by rfl) ?_
      refine E_aload_n dX0_comeTo_54 (by rfl) ?_
      refine gf_X0_9 dX0_comeTo_55 rfl (by assumption) (by rfl) ?_
      refine E_iload_n dX0_comeTo_58 (by rfl) ?_
      refine E_iald dX0_comeTo_59 (by assumption) (i_in (by omega) (by omega)) ?_
      refine E_iast dX0_comeTo_60 (by assumption) (i_in (by omega) (by omega)) ?_
      refine E_mem (gSetP h (g_wPl (g_wSl T (upd (g_sl T) y.toNatClampNeg (g_sl T y.toNatClampNeg + 1))) (upd (g_pl T) y.toNatClampNeg (g_le T x.toNatClampNeg))) 3 (by decide) (by rfl)) ?_
      obtain ⟨a0, a1, a2, a3, a4, a5, a6, a7, a8⟩ := gAt_put h (g_wPl (g_wSl T (upd (g_sl T) y.toNatClampNeg (g_sl T y.toNatClampNeg + 1))) (upd (g_pl T) y.toNatClampNeg (g_le T x.toNatClampNeg)))
      refine E_goto (tgt := 71) dX0_comeTo_61 (by decide) ?_
      refine E_vret dX0_comeTo_71 rfl (Nat.zero_le _) (Nat.zero_le _) ?_
      refine ⟨rfl, ?_⟩
      unfold gCome
      rw [if_pos q5, if_pos q5, if_pos q5, if_neg q36, if_neg q36]
  · rw [b2i_T0] at q5
    refine E_aload_n dX0_comeTo_8 (by rfl) ?_
    refine gf_X0_22 dX0_comeTo_9 rfl (by assumption) (by rfl) ?_
    refine E_iload_n dX0_comeTo_12 (by rfl) ?_
    refine E_dup2 dX0_comeTo_13 rfl rfl ?_
    refine E_iald dX0_comeTo_14 (by assumption) (i_in (by omega) (by omega)) ?_
    refine E_iconst (v := 1) dX0_comeTo_15 (by decide) ?_
    refine E_iadd dX0_comeTo_16 ?_
    refine E_iast dX0_comeTo_17 (by assumption) (i_in (by omega) (by omega)) ?_
    refine E_mem (gSetP h (g_wTp T (upd (g_tp T) y.toNatClampNeg (g_tp T y.toNatClampNeg + 1))) 4 (by decide) (by rfl)) ?_
    obtain ⟨a0, a1, a2, a3, a4, a5, a6, a7, a8⟩ := gAt_put h (g_wTp T (upd (g_tp T) y.toNatClampNeg (g_tp T y.toNatClampNeg + 1)))
    refine E_aload_n dX0_comeTo_18 (by rfl) ?_
    refine gf_X0_19 dX0_comeTo_19 rfl (by assumption) (by rfl) ?_
    refine E_iload_n dX0_comeTo_22 (by rfl) ?_
    refine E_iconst (v := 0) dX0_comeTo_23 (by decide) ?_
    refine E_iast dX0_comeTo_24 (by assumption) (i_in (by omega) (by omega)) ?_
    refine E_mem (gSetP h (g_wPl (g_wTp T (upd (g_tp T) y.toNatClampNeg (g_tp T y.toNatClampNeg + 1))) (upd (g_pl T) y.toNatClampNeg 0)) 3 (by decide) (by rfl)) ?_
    obtain ⟨a0, a1, a2, a3, a4, a5, a6, a7, a8⟩ := gAt_put h (g_wPl (g_wTp T (upd (g_tp T) y.toNatClampNeg (g_tp T y.toNatClampNeg + 1))) (upd (g_pl T) y.toNatClampNeg 0))
    refine E_goto (tgt := 71) dX0_comeTo_25 (by decide) ?_
    refine E_vret dX0_comeTo_71 rfl (Nat.zero_le _) (Nat.zero_le _) ?_
    refine ⟨rfl, ?_⟩
    unfold gCome
    rw [if_neg q5, if_neg q5, if_neg q5]
def gLiftTo (T : gS) (u : Int32) : Nat → gS
  | 0 => T
  | i + 1 =>
    if g_psd (gLiftTo T u i) i u then
      gCome (g_wLm (g_wTl (gLiftTo T u i) (upd (g_tl (gLiftTo T u i)) i (g_tl (gLiftTo T u i) i + 1))) (upd (g_lm (gLiftTo T u i)) (g_mv (gLiftTo T u i)).toNatClampNeg (g_lm (gLiftTo T u i) (g_mv (gLiftTo T u i)).toNatClampNeg + 1))) i (g_pl (gLiftTo T u i) i + 1)
    else gLiftTo T u i
theorem gLiftTo_fix (T : gS) (u : Int32) (i : Nat) : g_le (gLiftTo T u i) = g_le T ∧ g_la (gLiftTo T u i) = g_la T ∧ g_rs (gLiftTo T u i) = g_rs T ∧ (gLiftTo T u i).2.2.2.2.2.2.2.2 = T.2.2.2.2.2.2.2.2 := by
  induction i with
  | zero => exact ⟨rfl, rfl, rfl, rfl⟩
  | succ i ih =>
    rw [gLiftTo]
    by_cases hp : g_psd (gLiftTo T u i) i u
    · rw [if_pos hp]; exact ih
    · rw [if_neg hp]; exact ih
theorem c_liftThosePassed (h : gAt mem g S) (ht : (g_top T).toInt ≤ 60) (hc : g_cl T = nI n) (hn : n ≤ 6) (hm : 0 ≤ (g_mv T).toInt ∧ (g_mv T).toInt < 6) (u : Int32) : Dt G kX0_liftThosePassed [.ref g, .int u] (gPut mem g T) none (gPut mem g (gLiftTo T u n)) := by
  have hfix : ∀ i, g_top (gLiftTo T u i) = g_top T ∧ g_cl (gLiftTo T u i) = g_cl T ∧ g_mv (gLiftTo T u i) = g_mv T := fun i => by
    have e := (gLiftTo_fix T u i).2.2.2
    exact ⟨congrArg (fun z => z.1) e, congrArg (fun z => z.2.1) e, congrArg (fun z => z.2.2.1) e⟩
  have hc' : (g_cl T).toInt = (n : Int) := by rw [hc]; exact nI_toInt (by omega)
  refine Ct_of (by decide) (Nat.le_of_ble_eq_true rfl) ?_
  have loop : ∀ di i : Nat, n < i + di → i ≤ n → E G kX0_liftThosePassed (x_R (none) (gPut mem g (gLiftTo T u n))) 0 0 ((gPut mem g (gLiftTo T u i))) 2 (x_L [(0, .ref g), (1, .int u), (2, .int (nI i))]) [] := by
    intro di
    induction di with
    | zero => intro i hi1 hi2; exact absurd hi1 (by omega)
    | succ di ihi =>
      intro i hi1 hi2
      have ei : (nI i).toInt = (i : Int) := nI_toInt (by omega)
      have eci : (nI i).toNatClampNeg = i := nI_clamp (by omega)
      obtain ⟨f1, f2, f3⟩ := hfix i
      obtain ⟨a0, a1, a2, a3, a4, a5, a6, a7, a8⟩ := gAt_put h (gLiftTo T u i)
      have hm' : 0 ≤ (g_mv (gLiftTo T u i)).toInt ∧ (g_mv (gLiftTo T u i)).toInt < 6 := by rw [f3]; exact hm
      have hc2 : (g_cl (gLiftTo T u i)).toInt = (n : Int) := by rw [f2]; exact hc'
      have ht2 : (g_top (gLiftTo T u i)).toInt ≤ 60 := by rw [f1]; exact ht
      refine E_iload_n dX0_liftThosePassed_2 (by rfl) ?_
      refine E_aload_n dX0_liftThosePassed_3 (by rfl) ?_
      refine gf_X0_41 dX0_liftThosePassed_4 rfl (by assumption) (by rfl) ?_
      refine E_icmp_ge (n := _) rfl (tgt := 61) dX0_liftThosePassed_7 (by decide) (fun q7 => ?_) (fun q7 => ?_)
      · refine E_vret dX0_liftThosePassed_61 rfl (Nat.zero_le _) (Nat.zero_le _) ?_
        exact ⟨rfl, by rw [show i = n by omega]⟩
      · refine E_aload_n dX0_liftThosePassed_10 (by rfl) ?_
        refine E_iload_n dX0_liftThosePassed_11 (by rfl) ?_
        refine E_iload_n dX0_liftThosePassed_12 (by rfl) ?_
        refine cs_X0_liftThosePassed_13 (by assumption) (Nat.le_of_ble_eq_true rfl) (c_isPassed (gAt_put h _) ht2 hm' (by omega) u) ?_
        refine E_if_eq (tgt := 55) dX0_liftThosePassed_16 (by decide) (fun q16 => ?_) (fun q16 => ?_)
        · rw [b2i_T0, eci] at q16
          refine E_iinc (d := 1) dX0_liftThosePassed_55 (by rfl) (by decide) (Nat.le_of_ble_eq_true rfl) (by rfl) ?_
          refine E_goto (tgt := 2) dX0_liftThosePassed_58 (by decide) ?_
          refine E_mem (mem' := gPut mem g (gLiftTo T u (i + 1))) (congrArg (gPut mem g) ?_) ?_
          · rw [gLiftTo]; first | rw [if_neg q16] | (rw [if_pos q16]; simp only [eci])
          exact E_loc [(0, .ref g), (1, .int u), (2, .int (nI (i + 1)))] ⟨rfl, rfl, x_i (by first | exact nI_1 _ | decide), trivial⟩ (ihi (i + 1) (by omega) (by omega))
        · rw [b2i_T0, eci] at q16; have q16 := Classical.not_not.mp q16
          refine E_aload_n dX0_liftThosePassed_19 (by rfl) ?_
          refine gf_X0_28 dX0_liftThosePassed_20 rfl (by assumption) (by rfl) ?_
          refine E_iload_n dX0_liftThosePassed_23 (by rfl) ?_
          refine E_dup2 dX0_liftThosePassed_24 rfl rfl ?_
          refine E_iald dX0_liftThosePassed_25 (by assumption) (i_in (by omega) (by omega)) ?_
          refine E_iconst (v := 1) dX0_liftThosePassed_26 (by decide) ?_
          refine E_iadd dX0_liftThosePassed_27 ?_
          refine E_iast dX0_liftThosePassed_28 (by assumption) (i_in (by omega) (by omega)) ?_
          refine E_mem (gSetP h (g_wTl (gLiftTo T u i) (upd (g_tl (gLiftTo T u i)) (nI i).toNatClampNeg (g_tl (gLiftTo T u i) (nI i).toNatClampNeg + 1))) 6 (by decide) (by rfl)) ?_
          obtain ⟨a0, a1, a2, a3, a4, a5, a6, a7, a8⟩ := gAt_put h (g_wTl (gLiftTo T u i) (upd (g_tl (gLiftTo T u i)) (nI i).toNatClampNeg (g_tl (gLiftTo T u i) (nI i).toNatClampNeg + 1)))
          refine E_aload_n dX0_liftThosePassed_29 (by rfl) ?_
          refine gf_X0_31 dX0_liftThosePassed_30 rfl (by assumption) (by rfl) ?_
          refine E_aload_n dX0_liftThosePassed_33 (by rfl) ?_
          refine gf_X0_44 dX0_liftThosePassed_34 rfl (by assumption) (by rfl) ?_
          refine E_dup2 dX0_liftThosePassed_37 rfl rfl ?_
          refine E_iald dX0_liftThosePassed_38 (by assumption) (i_in hm'.1 hm'.2) ?_
          refine E_iconst (v := 1) dX0_liftThosePassed_39 (by decide) ?_
          refine E_iadd dX0_liftThosePassed_40 ?_
          refine E_iast dX0_liftThosePassed_41 (by assumption) (i_in hm'.1 hm'.2) ?_
          refine E_mem (gSetP h (g_wLm (g_wTl (gLiftTo T u i) (upd (g_tl (gLiftTo T u i)) (nI i).toNatClampNeg (g_tl (gLiftTo T u i) (nI i).toNatClampNeg + 1))) (upd (g_lm (gLiftTo T u i)) (g_mv (gLiftTo T u i)).toNatClampNeg (g_lm (gLiftTo T u i) (g_mv (gLiftTo T u i)).toNatClampNeg + 1))) 7 (by decide) (by rfl)) ?_
          obtain ⟨a0, a1, a2, a3, a4, a5, a6, a7, a8⟩ := gAt_put h (g_wLm (g_wTl (gLiftTo T u i) (upd (g_tl (gLiftTo T u i)) (nI i).toNatClampNeg (g_tl (gLiftTo T u i) (nI i).toNatClampNeg + 1))) (upd (g_lm (gLiftTo T u i)) (g_mv (gLiftTo T u i)).toNatClampNeg (g_lm (gLiftTo T u i) (g_mv (gLiftTo T u i)).toNatClampNeg + 1)))
          refine E_aload_n dX0_liftThosePassed_42 (by rfl) ?_
          refine E_iload_n dX0_liftThosePassed_43 (by rfl) ?_
          refine E_aload_n dX0_liftThosePassed_44 (by rfl) ?_
          refine gf_X0_19 dX0_liftThosePassed_45 rfl (by assumption) (by rfl) ?_
          refine E_iload_n dX0_liftThosePassed_48 (by rfl) ?_
          refine E_iald dX0_liftThosePassed_49 (by assumption) (i_in (by omega) (by omega)) ?_
          refine E_iconst (v := 1) dX0_liftThosePassed_50 (by decide) ?_
          refine E_iadd dX0_liftThosePassed_51 ?_
          refine cs_X0_liftThosePassed_52 (by assumption) (Nat.le_of_ble_eq_true rfl) (c_comeTo (T := g_wLm (g_wTl (gLiftTo T u i) (upd (g_tl (gLiftTo T u i)) (nI i).toNatClampNeg (g_tl (gLiftTo T u i) (nI i).toNatClampNeg + 1))) (upd (g_lm (gLiftTo T u i)) (g_mv (gLiftTo T u i)).toNatClampNeg (g_lm (gLiftTo T u i) (g_mv (gLiftTo T u i)).toNatClampNeg + 1))) (y := nI i) h ht2 (by omega) _) ?_
          refine E_iinc (d := 1) dX0_liftThosePassed_55 (by rfl) (by decide) (Nat.le_of_ble_eq_true rfl) (by rfl) ?_
          refine E_goto (tgt := 2) dX0_liftThosePassed_58 (by decide) ?_
          refine E_mem (mem' := gPut mem g (gLiftTo T u (i + 1))) (congrArg (gPut mem g) ?_) ?_
          · rw [gLiftTo]; first | rw [if_neg q16] | (rw [if_pos q16]; simp only [eci])
          exact E_loc [(0, .ref g), (1, .int u), (2, .int (nI (i + 1)))] ⟨rfl, rfl, x_i (by first | exact nI_1 _ | decide), trivial⟩ (ihi (i + 1) (by omega) (by omega))
  refine E_iconst (v := 0) dX0_liftThosePassed_0 (by decide) ?_
  refine E_istore_n dX0_liftThosePassed_1 (Nat.le_of_ble_eq_true rfl) (by rfl) ?_
  exact E_loc [(0, .ref g), (1, .int u), (2, .int (nI 0))] ⟨rfl, rfl, x_i (by first | rfl | decide), trivial⟩ (loop (n + 1) 0 (by omega) (by omega))
def gBeh (T : gS) (x : Int32) : Int32 := if g_isCl T (x + 1) then x + 1 else 0
theorem gBeh_rng (T : gS) (x : Int32) (hc : (g_cl T).toInt ≤ 6) : 0 ≤ (gBeh T x).toInt ∧ (gBeh T x).toInt < 6 := by
  unfold gBeh
  by_cases h : g_isCl T (x + 1)
  · rw [if_pos h]; omega
  · rw [if_neg h]; decide
def gSkF : Nat → gS → Int32 → gS
  | 0, T, x => g_wO T (g_top T) (g_cl T) x (g_ro T) (g_lo T)
  | f + 1, T, x => if 0 < (g_rs T x.toNatClampNeg).toInt then gSkF f (g_wO (g_wRs T (upd (g_rs T) x.toNatClampNeg (g_rs T x.toNatClampNeg - 1))) (g_top T) (g_cl T) (g_mv T) (g_ro T) (g_lo T + 1)) (gBeh T x) else g_wO T (g_top T) (g_cl T) x (g_ro T) (g_lo T)
def gNext (T : gS) : gS := gSkF 12 T (gBeh T (g_mv T))
theorem c_goToNextMover (h : gAt mem g S) (hc : (g_cl T).toInt ≤ 6) : Dt G kX0_goToNextMover [.ref g] (gPut mem g T) none (gPut mem g (gNext T)) := by
  refine Ct_of (by decide) (Nat.le_of_ble_eq_true rfl) ?_
  have loop : ∀ (f : Nat) (T : gS) (x : Int32) (R : Option Value → xM → Prop), R none (gPut mem g (gSkF f T x)) → f ≤ 12 → (g_cl T).toInt ≤ 6 → (0 ≤ x.toInt ∧ x.toInt < 6) → E G kX0_goToNextMover R 0 0 (gPut mem g T) 11 (x_L [(0, .ref g), (1, .int x), (2, .int (nI (12 - f)))]) [] := by
    intro f
    induction f with
    | zero =>
      intro T x R hR hf hc hx
      obtain ⟨a0, a1, a2, a3, a4, a5, a6, a7, a8⟩ := gAt_put h T
      have e12 : (nI (12 - 0)).toInt = 12 := by decide
      refine E_iload_n dX0_goToNextMover_11 (by rfl) ?_
      refine E_bipush (v := 12) dX0_goToNextMover_12 (by decide) ?_
      refine E_icmp_ge (n := 12) (by decide) (tgt := 58) dX0_goToNextMover_14 (by decide) (fun q14 => ?_) (fun q14 => ?_)
      · refine E_aload_n dX0_goToNextMover_58 (by rfl) ?_
        refine E_iload_n dX0_goToNextMover_59 (by rfl) ?_
        refine pf_X0_44 dX0_goToNextMover_60 rfl (by assumption) (Nat.le_of_ble_eq_true rfl) ?_
        refine E_mem (gSetP0 h (g_wO T (g_top T) (g_cl T) x (g_ro T) (g_lo T)) (by rfl)) ?_
        obtain ⟨a0, a1, a2, a3, a4, a5, a6, a7, a8⟩ := gAt_put h (g_wO T (g_top T) (g_cl T) x (g_ro T) (g_lo T))
        refine E_vret dX0_goToNextMover_63 rfl (Nat.zero_le _) (Nat.zero_le _) ?_
        exact hR
      · exact absurd e12 (by omega)
    | succ f ih =>
      intro T x R hR hf hc hx
      obtain ⟨a0, a1, a2, a3, a4, a5, a6, a7, a8⟩ := gAt_put h T
      have e12 : (nI (12 - (f + 1))).toInt = ((12 - (f + 1) : Nat) : Int) := nI_toInt (by omega)
      refine E_iload_n dX0_goToNextMover_11 (by rfl) ?_
      refine E_bipush (v := 12) dX0_goToNextMover_12 (by decide) ?_
      refine E_icmp_ge (n := 12) (by decide) (tgt := 58) dX0_goToNextMover_14 (by decide) (fun q14 => ?_) (fun q14 => ?_)
      · exact absurd q14 (by omega)
      · refine E_aload_n dX0_goToNextMover_17 (by rfl) ?_
        refine gf_X0_25 dX0_goToNextMover_18 rfl (by assumption) (by rfl) ?_
        refine E_iload_n dX0_goToNextMover_21 (by rfl) ?_
        refine E_iald dX0_goToNextMover_22 (by assumption) (i_in (by omega) (by omega)) ?_
        refine E_if_le (tgt := 58) dX0_goToNextMover_23 (by decide) (fun q23 => ?_) (fun q23 => ?_)
        · refine E_aload_n dX0_goToNextMover_58 (by rfl) ?_
          refine E_iload_n dX0_goToNextMover_59 (by rfl) ?_
          refine pf_X0_44 dX0_goToNextMover_60 rfl (by assumption) (Nat.le_of_ble_eq_true rfl) ?_
          refine E_mem (gSetP0 h (g_wO T (g_top T) (g_cl T) x (g_ro T) (g_lo T)) (by rfl)) ?_
          obtain ⟨a0, a1, a2, a3, a4, a5, a6, a7, a8⟩ := gAt_put h (g_wO T (g_top T) (g_cl T) x (g_ro T) (g_lo T))
          refine E_vret dX0_goToNextMover_63 rfl (Nat.zero_le _) (Nat.zero_le _) ?_
          rw [gSkF, if_neg (by omega)] at hR; exact hR
        · refine E_aload_n dX0_goToNextMover_26 (by rfl) ?_
          refine gf_X0_25 dX0_goToNextMover_27 rfl (by assumption) (by rfl) ?_
          refine E_iload_n dX0_goToNextMover_30 (by rfl) ?_
          refine E_dup2 dX0_goToNextMover_31 rfl rfl ?_
          refine E_iald dX0_goToNextMover_32 (by assumption) (i_in (by omega) (by omega)) ?_
          refine E_iconst (v := 1) dX0_goToNextMover_33 (by decide) ?_
          refine E_isub dX0_goToNextMover_34 ?_
          refine E_iast dX0_goToNextMover_35 (by assumption) (i_in (by omega) (by omega)) ?_
          refine E_mem (gSetP h (g_wRs T (upd (g_rs T) x.toNatClampNeg (g_rs T x.toNatClampNeg - 1))) 5 (by decide) (by rfl)) ?_
          obtain ⟨a0, a1, a2, a3, a4, a5, a6, a7, a8⟩ := gAt_put h (g_wRs T (upd (g_rs T) x.toNatClampNeg (g_rs T x.toNatClampNeg - 1)))
          refine E_aload_n dX0_goToNextMover_36 (by rfl) ?_
          refine E_dup dX0_goToNextMover_37 rfl ?_
          refine gf_X0_50 dX0_goToNextMover_38 rfl (by assumption) (by rfl) ?_
          refine E_iconst (v := 1) dX0_goToNextMover_41 (by decide) ?_
          refine E_iadd dX0_goToNextMover_42 ?_
          refine pf_X0_50 dX0_goToNextMover_43 rfl (by assumption) (Nat.le_of_ble_eq_true rfl) ?_
          refine E_mem (gSetP0 h (g_wO (g_wRs T (upd (g_rs T) x.toNatClampNeg (g_rs T x.toNatClampNeg - 1))) (g_top T) (g_cl T) (g_mv T) (g_ro T) (g_lo T + 1)) (by rfl)) ?_
          obtain ⟨a0, a1, a2, a3, a4, a5, a6, a7, a8⟩ := gAt_put h (g_wO (g_wRs T (upd (g_rs T) x.toNatClampNeg (g_rs T x.toNatClampNeg - 1))) (g_top T) (g_cl T) (g_mv T) (g_ro T) (g_lo T + 1))
          refine E_aload_n dX0_goToNextMover_46 (by rfl) ?_
          refine E_iload_n dX0_goToNextMover_47 (by rfl) ?_
          refine cs_X0_goToNextMover_48 (by assumption) (Nat.le_of_ble_eq_true rfl) (c_behind (gAt_put h (g_wO (g_wRs T (upd (g_rs T) x.toNatClampNeg (g_rs T x.toNatClampNeg - 1))) (g_top T) (g_cl T) (g_mv T) (g_ro T) (g_lo T + 1))) x) ?_
          refine E_istore_n dX0_goToNextMover_51 (Nat.le_of_ble_eq_true rfl) (by rfl) ?_
          refine E_iinc (d := 1) dX0_goToNextMover_52 (by rfl) (by decide) (Nat.le_of_ble_eq_true rfl) (by rfl) ?_
          refine E_goto (tgt := 11) dX0_goToNextMover_55 (by decide) ?_
          exact E_loc [(0, .ref g), (1, .int (gBeh T x)), (2, .int (nI (12 - f)))] ⟨rfl, rfl, x_i ((nI_1 _).trans (congrArg nI (by omega))), trivial⟩ (ih _ _ R (by rw [gSkF, if_pos (by omega)] at hR; exact hR) (by omega) hc (gBeh_rng T x hc))
  obtain ⟨a0, a1, a2, a3, a4, a5, a6, a7, a8⟩ := gAt_put h T
  refine E_aload_n dX0_goToNextMover_0 (by rfl) ?_
  refine E_aload_n dX0_goToNextMover_1 (by rfl) ?_
  refine gf_X0_44 dX0_goToNextMover_2 rfl (by assumption) (by rfl) ?_
  refine cs_X0_goToNextMover_5 (by assumption) (Nat.le_of_ble_eq_true rfl) (c_behind (gAt_put h T) (g_mv T)) ?_
  refine E_istore_n dX0_goToNextMover_8 (Nat.le_of_ble_eq_true rfl) (by rfl) ?_
  refine E_iconst (v := 0) dX0_goToNextMover_9 (by decide) ?_
  refine E_istore_n dX0_goToNextMover_10 (Nat.le_of_ble_eq_true rfl) (by rfl) ?_
  exact E_loc [(0, .ref g), (1, .int (gBeh T (g_mv T))), (2, .int (nI (12 - 12)))] ⟨rfl, rfl, rfl, trivial⟩ (loop 12 T _ _ (x_leaf rfl) (Nat.le_refl _) hc (gBeh_rng T _ hc))
/-- a roll -/
def gRoll1 (T : gS) (u : Int32) (n : Nat) : gS := gCome (gLiftTo (g_wO T (g_top T) (g_cl T) (g_mv T) (g_ro T + 1) (g_lo T)) u n) (g_mv T).toNatClampNeg (g_pl T (g_mv T).toNatClampNeg + u)
def gRoll2 (T : gS) (u : Int32) (n : Nat) : gS := g_wRs (gRoll1 T u n) (if g_isLa (gRoll1 T u n) (g_pl T (g_mv T).toNatClampNeg + u) then upd (g_rs (gRoll1 T u n)) (g_mv T).toNatClampNeg (g_rs (gRoll1 T u n) (g_mv T).toNatClampNeg + 1) else g_rs (gRoll1 T u n))
def gRoll (T : gS) (u : Int32) (n : Nat) : gS := gNext (gRoll2 T u n)
theorem gRoll1_fix (T : gS) (u : Int32) (n : Nat) : g_le (gRoll1 T u n) = g_le T ∧ g_la (gRoll1 T u n) = g_la T ∧ g_rs (gRoll1 T u n) = g_rs T ∧ (gRoll1 T u n).2.2.2.2.2.2.2.2 = (g_top T, g_cl T, g_mv T, g_ro T + 1, g_lo T) := gLiftTo_fix (g_wO T (g_top T) (g_cl T) (g_mv T) (g_ro T + 1) (g_lo T)) u n
theorem c_makeRoll_no1 (h : gAt mem g S) (u : Int32) (hu : ¬ (1 ≤ u.toInt ∧ u.toInt ≤ 6)) : Dt G kX0_makeRoll [.ref g, .int u] mem (some (.int (-2))) mem := by
  refine Ct_of (by decide) (Nat.le_of_ble_eq_true rfl) ?_
  refine E_iload_n dX0_makeRoll_0 (by rfl) ?_
  refine cs_X0_makeRoll_1 (Nat.le_of_ble_eq_true rfl) (c_isRoll u) ?_
  refine E_if_ne (tgt := 10) dX0_makeRoll_4 (by decide) (fun q4 => ?_) (fun q4 => ?_)
  · rw [b2i_T0] at q4; exact absurd hu q4
  · refine E_bipush (v := (-2)) dX0_makeRoll_7 (by decide) ?_
    refine E_iret dX0_makeRoll_9 rfl rfl (Nat.zero_le _) (Nat.zero_le _) ?_
    exact x_leaf rfl
theorem c_makeRoll_no2 (h : gAt mem g S) (u : Int32) (hu : 1 ≤ u.toInt ∧ u.toInt ≤ 6) (hm : ¬ g_isCl S (g_mv S)) : Dt G kX0_makeRoll [.ref g, .int u] mem (some (.int (-3))) mem := by
  refine Ct_of (by decide) (Nat.le_of_ble_eq_true rfl) ?_
  refine E_iload_n dX0_makeRoll_0 (by rfl) ?_
  refine cs_X0_makeRoll_1 (Nat.le_of_ble_eq_true rfl) (c_isRoll u) ?_
  refine E_if_ne (tgt := 10) dX0_makeRoll_4 (by decide) (fun q4 => ?_) (fun q4 => ?_)
  · refine E_aload_n dX0_makeRoll_10 (by rfl) ?_
    refine cs_X0_makeRoll_11 h.1 (Nat.le_of_ble_eq_true rfl) (c_hasMover h) ?_
    refine E_if_ne (tgt := 20) dX0_makeRoll_14 (by decide) (fun q14 => ?_) (fun q14 => ?_)
    · rw [b2i_T0] at q14; exact absurd hm q14
    · refine E_bipush (v := (-3)) dX0_makeRoll_17 (by decide) ?_
      refine E_iret dX0_makeRoll_19 rfl rfl (Nat.zero_le _) (Nat.zero_le _) ?_
      exact x_leaf rfl
  · rw [b2i_T0] at q4; exact absurd hu q4
theorem c_makeRoll_ok (h : gAt mem g S) (ht : (g_top T).toInt ≤ 60) (hc : g_cl T = nI n) (hn : n ≤ 6) (hm : g_isCl T (g_mv T)) (u : Int32) (hu : 1 ≤ u.toInt ∧ u.toInt ≤ 6) : Dt G kX0_makeRoll [.ref g, .int u] (gPut mem g T) (some (.int (g_pl (gRoll T u n) (g_mv T).toNatClampNeg))) (gPut mem g (gRoll T u n)) := by
  have hc' : (g_cl T).toInt = (n : Int) := by rw [hc]; exact nI_toInt (by omega)
  have hm6 : 0 ≤ (g_mv T).toInt ∧ (g_mv T).toInt < 6 := by omega
  obtain ⟨r1, r2, r3, r4⟩ := gRoll1_fix T u n
  have r5 : g_top (gRoll1 T u n) = g_top T := congrArg (fun z => z.1) r4
  have r6 : g_cl (gRoll1 T u n) = g_cl T := congrArg (fun z => z.2.1) r4
  have ht1 : (g_top (gRoll1 T u n)).toInt ≤ 60 := by rw [r5]; exact ht
  have hc1 : (g_cl (gRoll1 T u n)).toInt ≤ 6 := by rw [r6]; omega
  obtain ⟨a0, a1, a2, a3, a4, a5, a6, a7, a8⟩ := gAt_put h T
  refine Ct_of (by decide) (Nat.le_of_ble_eq_true rfl) ?_
  refine E_iload_n dX0_makeRoll_0 (by rfl) ?_
  refine cs_X0_makeRoll_1 (Nat.le_of_ble_eq_true rfl) (c_isRoll u) ?_
  refine E_if_ne (tgt := 10) dX0_makeRoll_4 (by decide) (fun q4 => ?_) (fun q4 => ?_)
  · refine E_aload_n dX0_makeRoll_10 (by rfl) ?_
    refine cs_X0_makeRoll_11 (by assumption) (Nat.le_of_ble_eq_true rfl) (c_hasMover (gAt_put h T)) ?_
    refine E_if_ne (tgt := 20) dX0_makeRoll_14 (by decide) (fun q14 => ?_) (fun q14 => ?_)
    · refine E_aload_n dX0_makeRoll_20 (by rfl) ?_
      refine gf_X0_44 dX0_makeRoll_21 rfl (by assumption) (by rfl) ?_
      refine E_istore_n dX0_makeRoll_24 (Nat.le_of_ble_eq_true rfl) (by rfl) ?_
      refine E_aload_n dX0_makeRoll_25 (by rfl) ?_
      refine gf_X0_19 dX0_makeRoll_26 rfl (by assumption) (by rfl) ?_
      refine E_iload_n dX0_makeRoll_29 (by rfl) ?_
      refine E_iald dX0_makeRoll_30 (by assumption) (i_in (by omega) (by omega)) ?_
      refine E_iload_n dX0_makeRoll_31 (by rfl) ?_
      refine E_iadd dX0_makeRoll_32 ?_
      refine E_istore_n dX0_makeRoll_33 (Nat.le_of_ble_eq_true rfl) (by rfl) ?_
      refine E_aload_n dX0_makeRoll_34 (by rfl) ?_
      refine E_dup dX0_makeRoll_35 rfl ?_
      refine gf_X0_47 dX0_makeRoll_36 rfl (by assumption) (by rfl) ?_
      refine E_iconst (v := 1) dX0_makeRoll_39 (by decide) ?_
      refine E_iadd dX0_makeRoll_40 ?_
      refine pf_X0_47 dX0_makeRoll_41 rfl (by assumption) (Nat.le_of_ble_eq_true rfl) ?_
      refine E_mem (gSetP0 h (g_wO T (g_top T) (g_cl T) (g_mv T) (g_ro T + 1) (g_lo T)) (by rfl)) ?_
      obtain ⟨a0, a1, a2, a3, a4, a5, a6, a7, a8⟩ := gAt_put h (g_wO T (g_top T) (g_cl T) (g_mv T) (g_ro T + 1) (g_lo T))
      refine E_aload_n dX0_makeRoll_44 (by rfl) ?_
      refine E_iload_n dX0_makeRoll_45 (by rfl) ?_
      refine cs_X0_makeRoll_46 (by assumption) (Nat.le_of_ble_eq_true rfl) (c_liftThosePassed (T := g_wO T (g_top T) (g_cl T) (g_mv T) (g_ro T + 1) (g_lo T)) h ht hc hn hm6 u) ?_
      obtain ⟨a0, a1, a2, a3, a4, a5, a6, a7, a8⟩ := gAt_put h (gLiftTo (g_wO T (g_top T) (g_cl T) (g_mv T) (g_ro T + 1) (g_lo T)) u n)
      refine E_aload_n dX0_makeRoll_49 (by rfl) ?_
      refine E_iload_n dX0_makeRoll_50 (by rfl) ?_
      refine E_iload_n dX0_makeRoll_51 (by rfl) ?_
      refine cs_X0_makeRoll_52 (by assumption) (Nat.le_of_ble_eq_true rfl) (c_comeTo h (by rw [show g_top (gLiftTo (g_wO T (g_top T) (g_cl T) (g_mv T) (g_ro T + 1) (g_lo T)) u n) = g_top T from r5]; exact ht) hm6 _) ?_
      obtain ⟨a0, a1, a2, a3, a4, a5, a6, a7, a8⟩ := gAt_put h (gRoll1 T u n)
      refine E_aload_n dX0_makeRoll_55 (by rfl) ?_
      refine E_iload_n dX0_makeRoll_56 (by rfl) ?_
      refine cs_X0_makeRoll_57 a0 (Nat.le_of_ble_eq_true rfl) (c_isLanding (gAt_put h (gRoll1 T u n)) ht1 _) ?_
      refine E_if_eq (tgt := 73) dX0_makeRoll_60 (by decide) (fun q60 => ?_) (fun q60 => ?_)
      · rw [b2i_T0] at q60; have e2 : gRoll2 T u n = gRoll1 T u n := by unfold gRoll2; rw [if_neg q60]
        refine E_mem (mem' := gPut mem g (gRoll2 T u n)) (by rw [e2]; try rfl) ?_
        obtain ⟨a0, a1, a2, a3, a4, a5, a6, a7, a8⟩ := gAt_put h (gRoll2 T u n)
        refine E_aload_n dX0_makeRoll_73 (by rfl) ?_
        refine cs_X0_makeRoll_74 (by assumption) (Nat.le_of_ble_eq_true rfl) (c_goToNextMover h (by rw [show g_cl (gRoll2 T u n) = g_cl T from r6]; omega)) ?_
        obtain ⟨a0, a1, a2, a3, a4, a5, a6, a7, a8⟩ := gAt_put h (gNext (gRoll2 T u n))
        refine E_aload_n dX0_makeRoll_77 (by rfl) ?_
        refine gf_X0_19 dX0_makeRoll_78 rfl (by assumption) (by rfl) ?_
        refine E_iload_n dX0_makeRoll_81 (by rfl) ?_
        refine E_iald dX0_makeRoll_82 (by assumption) (i_in (by omega) (by omega)) ?_
        refine E_iret dX0_makeRoll_83 rfl rfl (Nat.zero_le _) (Nat.zero_le _) ?_
        exact x_leaf rfl
      · rw [b2i_T0] at q60; have q60 := Classical.not_not.mp q60; have e2 : gRoll2 T u n = g_wRs (gRoll1 T u n) (upd (g_rs (gRoll1 T u n)) (g_mv T).toNatClampNeg (g_rs (gRoll1 T u n) (g_mv T).toNatClampNeg + 1)) := by unfold gRoll2; rw [if_pos q60]
        refine E_aload_n dX0_makeRoll_63 (by rfl) ?_
        refine gf_X0_25 dX0_makeRoll_64 rfl (by assumption) (by rfl) ?_
        refine E_iload_n dX0_makeRoll_67 (by rfl) ?_
        refine E_dup2 dX0_makeRoll_68 rfl rfl ?_
        refine E_iald dX0_makeRoll_69 (by assumption) (i_in (by omega) (by omega)) ?_
        refine E_iconst (v := 1) dX0_makeRoll_70 (by decide) ?_
        refine E_iadd dX0_makeRoll_71 ?_
        refine E_iast dX0_makeRoll_72 (by assumption) (i_in (by omega) (by omega)) ?_
        refine E_mem (gSetP h (g_wRs (gRoll1 T u n) (upd (g_rs (gRoll1 T u n)) (g_mv T).toNatClampNeg (g_rs (gRoll1 T u n) (g_mv T).toNatClampNeg + 1))) 5 (by decide) (by rfl)) ?_
        obtain ⟨a0, a1, a2, a3, a4, a5, a6, a7, a8⟩ := gAt_put h (g_wRs (gRoll1 T u n) (upd (g_rs (gRoll1 T u n)) (g_mv T).toNatClampNeg (g_rs (gRoll1 T u n) (g_mv T).toNatClampNeg + 1)))
        refine E_mem (mem' := gPut mem g (gRoll2 T u n)) (by rw [e2]; try rfl) ?_
        obtain ⟨a0, a1, a2, a3, a4, a5, a6, a7, a8⟩ := gAt_put h (gRoll2 T u n)
        refine E_aload_n dX0_makeRoll_73 (by rfl) ?_
        refine cs_X0_makeRoll_74 (by assumption) (Nat.le_of_ble_eq_true rfl) (c_goToNextMover h (by rw [show g_cl (gRoll2 T u n) = g_cl T from r6]; omega)) ?_
        obtain ⟨a0, a1, a2, a3, a4, a5, a6, a7, a8⟩ := gAt_put h (gNext (gRoll2 T u n))
        refine E_aload_n dX0_makeRoll_77 (by rfl) ?_
        refine gf_X0_19 dX0_makeRoll_78 rfl (by assumption) (by rfl) ?_
        refine E_iload_n dX0_makeRoll_81 (by rfl) ?_
        refine E_iald dX0_makeRoll_82 (by assumption) (i_in (by omega) (by omega)) ?_
        refine E_iret dX0_makeRoll_83 rfl rfl (Nat.zero_le _) (Nat.zero_le _) ?_
        exact x_leaf rfl
    · rw [b2i_T0] at q14; exact absurd hm q14
  · rw [b2i_T0] at q4; exact absurd hu q4
theorem c_makePass_no (h : gAt mem g S) (hm : ¬ g_isCl S (g_mv S)) : Dt G kX0_makePass [.ref g] mem (some (.int (-3))) mem := by
  refine Ct_of (by decide) (Nat.le_of_ble_eq_true rfl) ?_
  refine E_aload_n dX0_makePass_0 (by rfl) ?_
  refine cs_X0_makePass_1 h.1 (Nat.le_of_ble_eq_true rfl) (c_hasMover h) ?_
  refine E_if_ne (tgt := 10) dX0_makePass_4 (by decide) (fun q4 => ?_) (fun q4 => ?_)
  · rw [b2i_T0] at q4; exact absurd hm q4
  · refine E_bipush (v := (-3)) dX0_makePass_7 (by decide) ?_
    refine E_iret dX0_makePass_9 rfl rfl (Nat.zero_le _) (Nat.zero_le _) ?_
    exact x_leaf rfl
theorem c_makePass_ok (h : gAt mem g S) (hc : (g_cl T).toInt ≤ 6) (hm : g_isCl T (g_mv T)) : Dt G kX0_makePass [.ref g] (gPut mem g T) (some (.int (g_mv (gNext T)))) (gPut mem g (gNext T)) := by
  obtain ⟨a0, a1, a2, a3, a4, a5, a6, a7, a8⟩ := gAt_put h T
  refine Ct_of (by decide) (Nat.le_of_ble_eq_true rfl) ?_
  refine E_aload_n dX0_makePass_0 (by rfl) ?_
  refine cs_X0_makePass_1 (by assumption) (Nat.le_of_ble_eq_true rfl) (c_hasMover (gAt_put h T)) ?_
  refine E_if_ne (tgt := 10) dX0_makePass_4 (by decide) (fun q4 => ?_) (fun q4 => ?_)
  · refine E_aload_n dX0_makePass_10 (by rfl) ?_
    refine cs_X0_makePass_11 (by assumption) (Nat.le_of_ble_eq_true rfl) (c_goToNextMover h hc) ?_
    obtain ⟨a0, a1, a2, a3, a4, a5, a6, a7, a8⟩ := gAt_put h (gNext T)
    refine E_aload_n dX0_makePass_14 (by rfl) ?_
    refine gf_X0_44 dX0_makePass_15 rfl (by assumption) (by rfl) ?_
    refine E_iret dX0_makePass_18 rfl rfl (Nat.zero_le _) (Nat.zero_le _) ?_
    exact x_leaf rfl
  · rw [b2i_T0] at q4; exact absurd hm q4
end G5
