/-! Game: the methods that change it -/
section G4
variable {G : xG} {mem : xM} {g : Nat} {S T : gS} {t n : Nat}
abbrev g_why1 (T : gS) (u : Int32) : Prop := u.toInt = 0 ∨ ¬ g_below T u
abbrev g_why3 (T : gS) (t : Nat) (u l : Int32) : Prop := g_isUp T u ∨ g_isUp T l ∨ 0 < (sCn (fun s => (g_le T s).toInt = u.toInt) t).toInt
abbrev g_why4 (T : gS) (n : Nat) (u : Int32) : Prop := (g_la T u.toNatClampNeg).toInt ≠ 0 ∨ (sOn (g_pl T) u n).toInt ≠ 0
/-- why no carpet can be laid; 0 where it can -/
def gWhyL (T : gS) (t n : Nat) (u l : Int32) : Int32 :=
  if g_why1 T u then -1 else if l.toInt < 0 ∨ u.toInt ≤ l.toInt then -2 else if g_why3 T t u l then -3 else if g_why4 T n u then -3 else if 6 ≤ (sCn (g_up (g_le T)) t).toInt then -4 else 0
theorem c_layCarpet_no (h : gAt mem g S) (ht : g_top S = nI t) (ht60 : t ≤ 60) (hc : g_cl S = nI n) (hn : n ≤ 6) (u l : Int32) (hw : gWhyL S t n u l ≠ 0) : Dt G kX0_layCarpet [.ref g, .int u, .int l] mem (some (.int (gWhyL S t n u l))) mem := by
  obtain ⟨a0, a1, a2, a3, a4, a5, a6, a7, a8⟩ := id h
  have ht' : (g_top S).toInt = (t : Int) := by rw [ht]; exact nI_toInt (by omega)
  refine Ct_of (by decide) (Nat.le_of_ble_eq_true rfl) ?_
  refine E_iload_n dX0_layCarpet_0 (by rfl) ?_
  refine E_if_eq (tgt := 12) dX0_layCarpet_1 (by decide) (fun q1 => ?_) (fun q1 => ?_)
  · refine E_iconst (v := (-1)) dX0_layCarpet_12 (by decide) ?_
    refine E_iret dX0_layCarpet_13 rfl rfl (Nat.zero_le _) (Nat.zero_le _) ?_
    exact x_leaf (by unfold gWhyL; rw [if_pos (show g_why1 S u from Or.inl q1)])
  · refine E_aload_n dX0_layCarpet_4 (by rfl) ?_
    refine E_iload_n dX0_layCarpet_5 (by rfl) ?_
    refine cs_X0_layCarpet_6 (by assumption) (Nat.le_of_ble_eq_true rfl) (c_isBelowTop h _) ?_
    refine E_if_ne (tgt := 14) dX0_layCarpet_9 (by decide) (fun q9 => ?_) (fun q9 => ?_)
    · rw [b2i_T0] at q9; have q9 := Classical.not_not.mp q9; have w1 : ¬ g_why1 S u := fun z => z.elim q1 (fun z => z q9)
      refine E_iload_n dX0_layCarpet_14 (by rfl) ?_
      refine E_if_lt (tgt := 23) dX0_layCarpet_15 (by decide) (fun q15 => ?_) (fun q15 => ?_)
      · refine E_bipush (v := (-2)) dX0_layCarpet_23 (by decide) ?_
        refine E_iret dX0_layCarpet_25 rfl rfl (Nat.zero_le _) (Nat.zero_le _) ?_
        exact x_leaf (by unfold gWhyL; rw [if_neg w1, if_pos (by omega)])
      · refine E_iload_n dX0_layCarpet_18 (by rfl) ?_
        refine E_iload_n dX0_layCarpet_19 (by rfl) ?_
        refine E_icmp_lt (n := _) rfl (tgt := 26) dX0_layCarpet_20 (by decide) (fun q20 => ?_) (fun q20 => ?_)
        · refine E_aload_n dX0_layCarpet_26 (by rfl) ?_
          refine E_iload_n dX0_layCarpet_27 (by rfl) ?_
          refine cs_X0_layCarpet_28 (by assumption) (Nat.le_of_ble_eq_true rfl) (c_isUpperEnd h (by omega) _) ?_
          refine E_if_ne (tgt := 50) dX0_layCarpet_31 (by decide) (fun q31 => ?_) (fun q31 => ?_)
          · rw [b2i_T0] at q31; have q31 := Classical.not_not.mp q31; have w3 : g_why3 S t u l := Or.inl q31
            refine E_bipush (v := (-3)) dX0_layCarpet_50 (by decide) ?_
            refine E_iret dX0_layCarpet_52 rfl rfl (Nat.zero_le _) (Nat.zero_le _) ?_
            exact x_leaf (by unfold gWhyL; rw [if_neg w1, if_neg (by omega), if_pos w3])
          · rw [b2i_T0] at q31
            refine E_aload_n dX0_layCarpet_34 (by rfl) ?_
            refine E_iload_n dX0_layCarpet_35 (by rfl) ?_
            refine cs_X0_layCarpet_36 (by assumption) (Nat.le_of_ble_eq_true rfl) (c_isUpperEnd h (by omega) _) ?_
            refine E_if_ne (tgt := 50) dX0_layCarpet_39 (by decide) (fun q39 => ?_) (fun q39 => ?_)
            · rw [b2i_T0] at q39; have q39 := Classical.not_not.mp q39; have w3 : g_why3 S t u l := Or.inr (Or.inl q39)
              refine E_bipush (v := (-3)) dX0_layCarpet_50 (by decide) ?_
              refine E_iret dX0_layCarpet_52 rfl rfl (Nat.zero_le _) (Nat.zero_le _) ?_
              exact x_leaf (by unfold gWhyL; rw [if_neg w1, if_neg (by omega), if_pos w3])
            · rw [b2i_T0] at q39
              refine E_aload_n dX0_layCarpet_42 (by rfl) ?_
              refine E_iload_n dX0_layCarpet_43 (by rfl) ?_
              refine cs_X0_layCarpet_44 (by assumption) (Nat.le_of_ble_eq_true rfl) (c_lowerEndsAt h ht ht60 _) ?_
              refine E_if_le (tgt := 53) dX0_layCarpet_47 (by decide) (fun q47 => ?_) (fun q47 => ?_)
              · have w3 : ¬ g_why3 S t u l := fun z => z.elim q31 (fun z => z.elim q39 (fun z => by omega))
                refine E_aload_n dX0_layCarpet_53 (by rfl) ?_
                refine gf_X0_15 dX0_layCarpet_54 rfl (by assumption) (by rfl) ?_
                refine E_iload_n dX0_layCarpet_57 (by rfl) ?_
                refine E_zald dX0_layCarpet_58 (by assumption) (i_in (by omega) (by omega)) ?_
                refine E_if_ne (tgt := 70) dX0_layCarpet_59 (by decide) (fun q59 => ?_) (fun q59 => ?_)
                · have w4 : g_why4 S n u := Or.inl q59
                  refine E_bipush (v := (-3)) dX0_layCarpet_70 (by decide) ?_
                  refine E_iret dX0_layCarpet_72 rfl rfl (Nat.zero_le _) (Nat.zero_le _) ?_
                  exact x_leaf (by unfold gWhyL; rw [if_neg w1, if_neg (by omega), if_neg w3, if_pos w4])
                · refine E_aload_n dX0_layCarpet_62 (by rfl) ?_
                  refine E_iload_n dX0_layCarpet_63 (by rfl) ?_
                  refine cs_X0_layCarpet_64 (by assumption) (Nat.le_of_ble_eq_true rfl) (c_climbersOn h hc hn _) ?_
                  refine E_if_eq (tgt := 73) dX0_layCarpet_67 (by decide) (fun q67 => ?_) (fun q67 => ?_)
                  · have w4 : ¬ g_why4 S n u := fun z => z.elim (fun z => z q59) (fun z => z q67)
                    refine E_aload_n dX0_layCarpet_73 (by rfl) ?_
                    refine cs_X0_layCarpet_74 (by assumption) (Nat.le_of_ble_eq_true rfl) (c_countCarpets h ht ht60) ?_
                    refine E_bipush (v := 6) dX0_layCarpet_77 (by decide) ?_
                    refine E_icmp_lt (n := 6) (by decide) (tgt := 85) dX0_layCarpet_79 (by decide) (fun q79 => ?_) (fun q79 => ?_)
                    · exact absurd (by unfold gWhyL; rw [if_neg w1, if_neg (by omega), if_neg w3, if_neg w4, if_neg (by omega)]) hw
                    · refine E_bipush (v := (-4)) dX0_layCarpet_82 (by decide) ?_
                      refine E_iret dX0_layCarpet_84 rfl rfl (Nat.zero_le _) (Nat.zero_le _) ?_
                      exact x_leaf (by unfold gWhyL; rw [if_neg w1, if_neg (by omega), if_neg w3, if_neg w4, if_pos (by omega)])
                  · have w4 : g_why4 S n u := Or.inr q67
                    refine E_bipush (v := (-3)) dX0_layCarpet_70 (by decide) ?_
                    refine E_iret dX0_layCarpet_72 rfl rfl (Nat.zero_le _) (Nat.zero_le _) ?_
                    exact x_leaf (by unfold gWhyL; rw [if_neg w1, if_neg (by omega), if_neg w3, if_pos w4])
              · have w3 : g_why3 S t u l := Or.inr (Or.inr (by omega))
                refine E_bipush (v := (-3)) dX0_layCarpet_50 (by decide) ?_
                refine E_iret dX0_layCarpet_52 rfl rfl (Nat.zero_le _) (Nat.zero_le _) ?_
                exact x_leaf (by unfold gWhyL; rw [if_neg w1, if_neg (by omega), if_pos w3])
        · refine E_bipush (v := (-2)) dX0_layCarpet_23 (by decide) ?_
          refine E_iret dX0_layCarpet_25 rfl rfl (Nat.zero_le _) (Nat.zero_le _) ?_
          exact x_leaf (by unfold gWhyL; rw [if_neg w1, if_pos (by omega)])
    · rw [b2i_T0] at q9
      refine E_iconst (v := (-1)) dX0_layCarpet_12 (by decide) ?_
      refine E_iret dX0_layCarpet_13 rfl rfl (Nat.zero_le _) (Nat.zero_le _) ?_
      exact x_leaf (by unfold gWhyL; rw [if_pos (show g_why1 S u from Or.inr q9)])
theorem gWhyL_ok {u l : Int32} (hw : gWhyL T t n u l = 0) : ¬ g_why1 T u ∧ ¬ (l.toInt < 0 ∨ u.toInt ≤ l.toInt) ∧ ¬ g_why3 T t u l ∧ ¬ g_why4 T n u ∧ ¬ 6 ≤ (sCn (g_up (g_le T)) t).toInt := by
  unfold gWhyL at hw
  by_cases h1 : g_why1 T u
  · rw [if_pos h1] at hw; exact absurd hw (by decide)
  rw [if_neg h1] at hw
  by_cases h2 : l.toInt < 0 ∨ u.toInt ≤ l.toInt
  · rw [if_pos h2] at hw; exact absurd hw (by decide)
  rw [if_neg h2] at hw
  by_cases h3 : g_why3 T t u l
  · rw [if_pos h3] at hw; exact absurd hw (by decide)
  rw [if_neg h3] at hw
  by_cases h4 : g_why4 T n u
  · rw [if_pos h4] at hw; exact absurd hw (by decide)
  rw [if_neg h4] at hw
  by_cases h5 : 6 ≤ (sCn (g_up (g_le T)) t).toInt
  · rw [if_pos h5] at hw; exact absurd hw (by decide)
  exact ⟨h1, h2, h3, h4, h5⟩
abbrev gLay (T : gS) (u l : Int32) : gS := g_wLe T (upd (g_le T) u.toNatClampNeg l)
theorem c_layCarpet_ok (h : gAt mem g S) (ht : g_top T = nI t) (ht60 : t ≤ 60) (hc : g_cl T = nI n) (hn : n ≤ 6) (u l : Int32) (hw : gWhyL T t n u l = 0) : Dt G kX0_layCarpet [.ref g, .int u, .int l] (gPut mem g T) (some (.int (sCn (g_up (g_le (gLay T u l))) t))) (gPut mem g (gLay T u l)) := by
  obtain ⟨a0, a1, a2, a3, a4, a5, a6, a7, a8⟩ := gAt_put h T
  have ht' : (g_top T).toInt = (t : Int) := by rw [ht]; exact nI_toInt (by omega)
  obtain ⟨w1, w2, w3, w4, w5⟩ := gWhyL_ok hw
  have hb : g_below T u := Classical.not_not.mp (fun z => w1 (Or.inr z))
  refine Ct_of (by decide) (Nat.le_of_ble_eq_true rfl) ?_
  refine E_iload_n dX0_layCarpet_0 (by rfl) ?_
  refine E_if_eq (tgt := 12) dX0_layCarpet_1 (by decide) (fun q1 => ?_) (fun q1 => ?_)
  · exact absurd (Or.inl q1) w1
  · refine E_aload_n dX0_layCarpet_4 (by rfl) ?_
    refine E_iload_n dX0_layCarpet_5 (by rfl) ?_
    refine cs_X0_layCarpet_6 (by assumption) (Nat.le_of_ble_eq_true rfl) (c_isBelowTop (gAt_put h T) _) ?_
    refine E_if_ne (tgt := 14) dX0_layCarpet_9 (by decide) (fun q9 => ?_) (fun q9 => ?_)
    · refine E_iload_n dX0_layCarpet_14 (by rfl) ?_
      refine E_if_lt (tgt := 23) dX0_layCarpet_15 (by decide) (fun q15 => ?_) (fun q15 => ?_)
      · exact absurd (Or.inl q15) w2
      · refine E_iload_n dX0_layCarpet_18 (by rfl) ?_
        refine E_iload_n dX0_layCarpet_19 (by rfl) ?_
        refine E_icmp_lt (n := _) rfl (tgt := 26) dX0_layCarpet_20 (by decide) (fun q20 => ?_) (fun q20 => ?_)
        · refine E_aload_n dX0_layCarpet_26 (by rfl) ?_
          refine E_iload_n dX0_layCarpet_27 (by rfl) ?_
          refine cs_X0_layCarpet_28 (by assumption) (Nat.le_of_ble_eq_true rfl) (c_isUpperEnd (gAt_put h T) (by omega) _) ?_
          refine E_if_ne (tgt := 50) dX0_layCarpet_31 (by decide) (fun q31 => ?_) (fun q31 => ?_)
          · rw [b2i_T0] at q31; exact absurd (Or.inl (Classical.not_not.mp q31)) w3
          · refine E_aload_n dX0_layCarpet_34 (by rfl) ?_
            refine E_iload_n dX0_layCarpet_35 (by rfl) ?_
            refine cs_X0_layCarpet_36 (by assumption) (Nat.le_of_ble_eq_true rfl) (c_isUpperEnd (gAt_put h T) (by omega) _) ?_
            refine E_if_ne (tgt := 50) dX0_layCarpet_39 (by decide) (fun q39 => ?_) (fun q39 => ?_)
            · rw [b2i_T0] at q39; exact absurd (Or.inr (Or.inl (Classical.not_not.mp q39))) w3
            · refine E_aload_n dX0_layCarpet_42 (by rfl) ?_
              refine E_iload_n dX0_layCarpet_43 (by rfl) ?_
              refine cs_X0_layCarpet_44 (by assumption) (Nat.le_of_ble_eq_true rfl) (c_lowerEndsAt (gAt_put h T) ht ht60 _) ?_
              refine E_if_le (tgt := 53) dX0_layCarpet_47 (by decide) (fun q47 => ?_) (fun q47 => ?_)
              · refine E_aload_n dX0_layCarpet_53 (by rfl) ?_
                refine gf_X0_15 dX0_layCarpet_54 rfl (by assumption) (by rfl) ?_
                refine E_iload_n dX0_layCarpet_57 (by rfl) ?_
                refine E_zald dX0_layCarpet_58 (by assumption) (i_in (by omega) (by omega)) ?_
                refine E_if_ne (tgt := 70) dX0_layCarpet_59 (by decide) (fun q59 => ?_) (fun q59 => ?_)
                · exact absurd (Or.inl q59) w4
                · refine E_aload_n dX0_layCarpet_62 (by rfl) ?_
                  refine E_iload_n dX0_layCarpet_63 (by rfl) ?_
                  refine cs_X0_layCarpet_64 (by assumption) (Nat.le_of_ble_eq_true rfl) (c_climbersOn (gAt_put h T) hc hn _) ?_
                  refine E_if_eq (tgt := 73) dX0_layCarpet_67 (by decide) (fun q67 => ?_) (fun q67 => ?_)
                  · refine E_aload_n dX0_layCarpet_73 (by rfl) ?_
                    refine cs_X0_layCarpet_74 (by assumption) (Nat.le_of_ble_eq_true rfl) (c_countCarpets (gAt_put h T) ht ht60) ?_
                    refine E_bipush (v := 6) dX0_layCarpet_77 (by decide) ?_
                    refine E_icmp_lt (n := 6) (by decide) (tgt := 85) dX0_layCarpet_79 (by decide) (fun q79 => ?_) (fun q79 => ?_)
                    · refine E_aload_n dX0_layCarpet_85 (by rfl) ?_
                      refine gf_X0_9 dX0_layCarpet_86 rfl (by assumption) (by rfl) ?_
                      refine E_iload_n dX0_layCarpet_89 (by rfl) ?_
                      refine E_iload_n dX0_layCarpet_90 (by rfl) ?_
                      refine E_iast dX0_layCarpet_91 (by assumption) (i_in (by omega) (by omega)) ?_
                      refine E_mem (gSetP h (gLay T u l) 1 (by decide) (by rfl)) ?_
                      obtain ⟨a0, a1, a2, a3, a4, a5, a6, a7, a8⟩ := gAt_put h (gLay T u l)
                      refine E_aload_n dX0_layCarpet_92 (by rfl) ?_
                      refine cs_X0_layCarpet_93 (by assumption) (Nat.le_of_ble_eq_true rfl) (c_countCarpets (gAt_put h (gLay T u l)) ht ht60) ?_
                      refine E_iret dX0_layCarpet_96 rfl rfl (Nat.zero_le _) (Nat.zero_le _) ?_
                      exact x_leaf rfl
                    · exact absurd (by omega) w5
                  · exact absurd (Or.inr q67) w4
              · exact absurd (Or.inr (Or.inr (by omega))) w3
        · exact absurd (Or.inr (by omega)) w2
    · rw [b2i_T0] at q9; exact absurd hb q9
theorem c_takeCarpet_no (h : gAt mem g S) (ht : (g_top S).toInt ≤ 60) (u : Int32) (hu : ¬ g_isUp S u) : Dt G kX0_takeCarpet [.ref g, .int u] mem (some (.int (-1))) mem := by
  refine Ct_of (by decide) (Nat.le_of_ble_eq_true rfl) ?_
  refine E_aload_n dX0_takeCarpet_0 (by rfl) ?_
  refine E_iload_n dX0_takeCarpet_1 (by rfl) ?_
  refine cs_X0_takeCarpet_2 h.1 (Nat.le_of_ble_eq_true rfl) (c_isUpperEnd h ht _) ?_
  refine E_if_ne (tgt := 10) dX0_takeCarpet_5 (by decide) (fun q5 => ?_) (fun q5 => ?_)
  · rw [b2i_T0] at q5; exact absurd hu q5
  · refine E_iconst (v := (-1)) dX0_takeCarpet_8 (by decide) ?_
    refine E_iret dX0_takeCarpet_9 rfl rfl (Nat.zero_le _) (Nat.zero_le _) ?_
    exact x_leaf rfl
abbrev gTake (T : gS) (u : Int32) : gS := g_wLe T (upd (g_le T) u.toNatClampNeg (-6))
theorem c_takeCarpet_ok (h : gAt mem g S) (ht : (g_top T).toInt ≤ 60) (u : Int32) (hu : g_isUp T u) : Dt G kX0_takeCarpet [.ref g, .int u] (gPut mem g T) (some (.int (g_le T u.toNatClampNeg))) (gPut mem g (gTake T u)) := by
  obtain ⟨a0, a1, a2, a3, a4, a5, a6, a7, a8⟩ := gAt_put h T
  have hb := hu.1
  refine Ct_of (by decide) (Nat.le_of_ble_eq_true rfl) ?_
  refine E_aload_n dX0_takeCarpet_0 (by rfl) ?_
  refine E_iload_n dX0_takeCarpet_1 (by rfl) ?_
  refine cs_X0_takeCarpet_2 (by assumption) (Nat.le_of_ble_eq_true rfl) (c_isUpperEnd (gAt_put h T) ht _) ?_
  refine E_if_ne (tgt := 10) dX0_takeCarpet_5 (by decide) (fun q5 => ?_) (fun q5 => ?_)
  · refine E_aload_n dX0_takeCarpet_10 (by rfl) ?_
    refine gf_X0_9 dX0_takeCarpet_11 rfl (by assumption) (by rfl) ?_
    refine E_iload_n dX0_takeCarpet_14 (by rfl) ?_
    refine E_iald dX0_takeCarpet_15 (by assumption) (i_in (by omega) (by omega)) ?_
    refine E_istore_n dX0_takeCarpet_16 (Nat.le_of_ble_eq_true rfl) (by rfl) ?_
    refine E_aload_n dX0_takeCarpet_17 (by rfl) ?_
    refine gf_X0_9 dX0_takeCarpet_18 rfl (by assumption) (by rfl) ?_
    refine E_iload_n dX0_takeCarpet_21 (by rfl) ?_
    refine E_bipush (v := (-6)) dX0_takeCarpet_22 (by decide) ?_
    refine E_iast dX0_takeCarpet_24 (by assumption) (i_in (by omega) (by omega)) ?_
    refine E_mem (gSetP h (gTake T u) 1 (by decide) (by rfl)) ?_
    obtain ⟨a0, a1, a2, a3, a4, a5, a6, a7, a8⟩ := gAt_put h (gTake T u)
    refine E_iload_n dX0_takeCarpet_25 (by rfl) ?_
    refine E_iret dX0_takeCarpet_26 rfl rfl (Nat.zero_le _) (Nat.zero_le _) ?_
    exact x_leaf rfl
  · rw [b2i_T0] at q5; exact absurd hu q5
def gWhyP (T : gS) (u : Int32) : Int32 := if g_why1 T u then -1 else if (g_la T u.toNatClampNeg).toInt ≠ 0 ∨ g_isUp T u then -3 else 0
theorem c_putLanding_no (h : gAt mem g S) (ht : (g_top S).toInt ≤ 60) (u : Int32) (hw : gWhyP S u ≠ 0) : Dt G kX0_putLanding [.ref g, .int u] mem (some (.int (gWhyP S u))) mem := by
  obtain ⟨a0, a1, a2, a3, a4, a5, a6, a7, a8⟩ := id h
  refine Ct_of (by decide) (Nat.le_of_ble_eq_true rfl) ?_
  refine E_iload_n dX0_putLanding_0 (by rfl) ?_
  refine E_if_eq (tgt := 12) dX0_putLanding_1 (by decide) (fun q1 => ?_) (fun q1 => ?_)
  · refine E_iconst (v := (-1)) dX0_putLanding_12 (by decide) ?_
    refine E_iret dX0_putLanding_13 rfl rfl (Nat.zero_le _) (Nat.zero_le _) ?_
    exact x_leaf (by unfold gWhyP; rw [if_pos (show g_why1 S u from Or.inl q1)])
  · refine E_aload_n dX0_putLanding_4 (by rfl) ?_
    refine E_iload_n dX0_putLanding_5 (by rfl) ?_
    refine cs_X0_putLanding_6 (by assumption) (Nat.le_of_ble_eq_true rfl) (c_isBelowTop h _) ?_
    refine E_if_ne (tgt := 14) dX0_putLanding_9 (by decide) (fun q9 => ?_) (fun q9 => ?_)
    · rw [b2i_T0] at q9; have q9 := Classical.not_not.mp q9; have w1 : ¬ g_why1 S u := fun z => z.elim q1 (fun z => z q9)
      refine E_aload_n dX0_putLanding_14 (by rfl) ?_
      refine gf_X0_15 dX0_putLanding_15 rfl (by assumption) (by rfl) ?_
      refine E_iload_n dX0_putLanding_18 (by rfl) ?_
      refine E_zald dX0_putLanding_19 (by assumption) (i_in (by omega) (by omega)) ?_
      refine E_if_ne (tgt := 31) dX0_putLanding_20 (by decide) (fun q20 => ?_) (fun q20 => ?_)
      · have w2 : (g_la S u.toNatClampNeg).toInt ≠ 0 ∨ g_isUp S u := Or.inl q20
        refine E_bipush (v := (-3)) dX0_putLanding_31 (by decide) ?_
        refine E_iret dX0_putLanding_33 rfl rfl (Nat.zero_le _) (Nat.zero_le _) ?_
        exact x_leaf (by unfold gWhyP; rw [if_neg w1, if_pos w2])
      · refine E_aload_n dX0_putLanding_23 (by rfl) ?_
        refine E_iload_n dX0_putLanding_24 (by rfl) ?_
        refine cs_X0_putLanding_25 (by assumption) (Nat.le_of_ble_eq_true rfl) (c_isUpperEnd h ht _) ?_
        refine E_if_eq (tgt := 34) dX0_putLanding_28 (by decide) (fun q28 => ?_) (fun q28 => ?_)
        · rw [b2i_T0] at q28; exact absurd (by unfold gWhyP; rw [if_neg w1, if_neg (fun z => z.elim (fun z => z q20) q28)]) hw
        · rw [b2i_T0] at q28; have w2 : (g_la S u.toNatClampNeg).toInt ≠ 0 ∨ g_isUp S u := Or.inr (Classical.not_not.mp q28)
          refine E_bipush (v := (-3)) dX0_putLanding_31 (by decide) ?_
          refine E_iret dX0_putLanding_33 rfl rfl (Nat.zero_le _) (Nat.zero_le _) ?_
          exact x_leaf (by unfold gWhyP; rw [if_neg w1, if_pos w2])
    · rw [b2i_T0] at q9
      refine E_iconst (v := (-1)) dX0_putLanding_12 (by decide) ?_
      refine E_iret dX0_putLanding_13 rfl rfl (Nat.zero_le _) (Nat.zero_le _) ?_
      exact x_leaf (by unfold gWhyP; rw [if_pos (show g_why1 S u from Or.inr q9)])
theorem gWhyP_ok {u : Int32} (hw : gWhyP T u = 0) : ¬ g_why1 T u ∧ ¬ ((g_la T u.toNatClampNeg).toInt ≠ 0 ∨ g_isUp T u) := by
  unfold gWhyP at hw
  by_cases h1 : g_why1 T u
  · rw [if_pos h1] at hw; exact absurd hw (by decide)
  rw [if_neg h1] at hw
  by_cases h2 : (g_la T u.toNatClampNeg).toInt ≠ 0 ∨ g_isUp T u
  · rw [if_pos h2] at hw; exact absurd hw (by decide)
  exact ⟨h1, h2⟩
abbrev gPutL (T : gS) (u v : Int32) : gS := g_wLa T (upd (g_la T) u.toNatClampNeg v)
theorem c_putLanding_ok (h : gAt mem g S) (ht : g_top T = nI t) (ht60 : t ≤ 60) (u : Int32) (hw : gWhyP T u = 0) : Dt G kX0_putLanding [.ref g, .int u] (gPut mem g T) (some (.int (sCn (g_lan (g_la (gPutL T u 1))) t))) (gPut mem g (gPutL T u 1)) := by
  obtain ⟨a0, a1, a2, a3, a4, a5, a6, a7, a8⟩ := gAt_put h T
  have ht' : (g_top T).toInt = (t : Int) := by rw [ht]; exact nI_toInt (by omega)
  obtain ⟨w1, w2⟩ := gWhyP_ok hw
  have hb : g_below T u := Classical.not_not.mp (fun z => w1 (Or.inr z))
  refine Ct_of (by decide) (Nat.le_of_ble_eq_true rfl) ?_
  refine E_iload_n dX0_putLanding_0 (by rfl) ?_
  refine E_if_eq (tgt := 12) dX0_putLanding_1 (by decide) (fun q1 => ?_) (fun q1 => ?_)
  · exact absurd (Or.inl q1) w1
  · refine E_aload_n dX0_putLanding_4 (by rfl) ?_
    refine E_iload_n dX0_putLanding_5 (by rfl) ?_
    refine cs_X0_putLanding_6 (by assumption) (Nat.le_of_ble_eq_true rfl) (c_isBelowTop (gAt_put h T) _) ?_
    refine E_if_ne (tgt := 14) dX0_putLanding_9 (by decide) (fun q9 => ?_) (fun q9 => ?_)
    · refine E_aload_n dX0_putLanding_14 (by rfl) ?_
      refine gf_X0_15 dX0_putLanding_15 rfl (by assumption) (by rfl) ?_
      refine E_iload_n dX0_putLanding_18 (by rfl) ?_
      refine E_zald dX0_putLanding_19 (by assumption) (i_in (by omega) (by omega)) ?_
      refine E_if_ne (tgt := 31) dX0_putLanding_20 (by decide) (fun q20 => ?_) (fun q20 => ?_)
      · exact absurd (Or.inl q20) w2
      · refine E_aload_n dX0_putLanding_23 (by rfl) ?_
        refine E_iload_n dX0_putLanding_24 (by rfl) ?_
        refine cs_X0_putLanding_25 (by assumption) (Nat.le_of_ble_eq_true rfl) (c_isUpperEnd (gAt_put h T) (by omega) _) ?_
        refine E_if_eq (tgt := 34) dX0_putLanding_28 (by decide) (fun q28 => ?_) (fun q28 => ?_)
        · refine E_aload_n dX0_putLanding_34 (by rfl) ?_
          refine gf_X0_15 dX0_putLanding_35 rfl (by assumption) (by rfl) ?_
          refine E_iload_n dX0_putLanding_38 (by rfl) ?_
          refine E_iconst (v := 1) dX0_putLanding_39 (by decide) ?_
          refine E_zast dX0_putLanding_40 (by assumption) (i_in (by omega) (by omega)) (by rfl) ?_
          refine E_mem (gSetP h (gPutL T u 1) 2 (by decide) (by rfl)) ?_
          obtain ⟨a0, a1, a2, a3, a4, a5, a6, a7, a8⟩ := gAt_put h (gPutL T u 1)
          refine E_aload_n dX0_putLanding_41 (by rfl) ?_
          refine cs_X0_putLanding_42 (by assumption) (Nat.le_of_ble_eq_true rfl) (c_countLandings (gAt_put h (gPutL T u 1)) ht ht60) ?_
          refine E_iret dX0_putLanding_45 rfl rfl (Nat.zero_le _) (Nat.zero_le _) ?_
          exact x_leaf rfl
        · rw [b2i_T0] at q28; exact absurd (Or.inr (Classical.not_not.mp q28)) w2
    · rw [b2i_T0] at q9; exact absurd hb q9
/-! bitCount -/
def sBc (x : Int32) : Int32 :=
  let a := x - ((x.toUInt32 >>> ((1 : Int32).toUInt32 &&& Int32.toUInt32 31)).toInt32 &&& 1431655765)
  let b := (a &&& 858993459) + ((a.toUInt32 >>> ((2 : Int32).toUInt32 &&& Int32.toUInt32 31)).toInt32 &&& 858993459)
  let c := (b + (b.toUInt32 >>> ((4 : Int32).toUInt32 &&& Int32.toUInt32 31)).toInt32) &&& 252645135
  let d := c + (c.toUInt32 >>> ((8 : Int32).toUInt32 &&& Int32.toUInt32 31)).toInt32
  let e := d + (d.toUInt32 >>> ((16 : Int32).toUInt32 &&& Int32.toUInt32 31)).toInt32
  e &&& 63
theorem c_bitCount (x : Int32) : Dt G kJ6_bitCount_0f7a4 [.int x] mem (some (.int (sBc x))) mem := by
  refine Ct_of (by decide) (Nat.le_of_ble_eq_true rfl) ?_
  refine E_iload_n dJ6_bitCount_0f7a4_0 (by rfl) ?_
  refine E_iload_n dJ6_bitCount_0f7a4_1 (by rfl) ?_
  refine E_iconst (v := 1) dJ6_bitCount_0f7a4_2 (by decide) ?_
  refine E_iushr dJ6_bitCount_0f7a4_3 rfl ?_
  refine E_ldcw dJ6_bitCount_0f7a4_4 rfl wq_J6_265 ?_
  refine E_iand dJ6_bitCount_0f7a4_7 ?_
  refine E_isub dJ6_bitCount_0f7a4_8 ?_
  refine E_istore_n dJ6_bitCount_0f7a4_9 (Nat.le_of_ble_eq_true rfl) (by rfl) ?_
  refine E_iload_n dJ6_bitCount_0f7a4_10 (by rfl) ?_
  refine E_ldcw dJ6_bitCount_0f7a4_11 rfl wq_J6_266 ?_
  refine E_iand dJ6_bitCount_0f7a4_14 ?_
  refine E_iload_n dJ6_bitCount_0f7a4_15 (by rfl) ?_
  refine E_iconst (v := 2) dJ6_bitCount_0f7a4_16 (by decide) ?_
  refine E_iushr dJ6_bitCount_0f7a4_17 rfl ?_
  refine E_ldcw dJ6_bitCount_0f7a4_18 rfl wq_J6_266 ?_
  refine E_iand dJ6_bitCount_0f7a4_21 ?_
  refine E_iadd dJ6_bitCount_0f7a4_22 ?_
  refine E_istore_n dJ6_bitCount_0f7a4_23 (Nat.le_of_ble_eq_true rfl) (by rfl) ?_
  refine E_iload_n dJ6_bitCount_0f7a4_24 (by rfl) ?_
  refine E_iload_n dJ6_bitCount_0f7a4_25 (by rfl) ?_
  refine E_iconst (v := 4) dJ6_bitCount_0f7a4_26 (by decide) ?_
  refine E_iushr dJ6_bitCount_0f7a4_27 rfl ?_
  refine E_iadd dJ6_bitCount_0f7a4_28 ?_
  refine E_ldcw dJ6_bitCount_0f7a4_29 rfl wq_J6_267 ?_
  refine E_iand dJ6_bitCount_0f7a4_32 ?_
  refine E_istore_n dJ6_bitCount_0f7a4_33 (Nat.le_of_ble_eq_true rfl) (by rfl) ?_
  refine E_iload_n dJ6_bitCount_0f7a4_34 (by rfl) ?_
  refine E_iload_n dJ6_bitCount_0f7a4_35 (by rfl) ?_
  refine E_bipush (v := 8) dJ6_bitCount_0f7a4_36 (by decide) ?_
  refine E_iushr dJ6_bitCount_0f7a4_38 rfl ?_
  refine E_iadd dJ6_bitCount_0f7a4_39 ?_
  refine E_istore_n dJ6_bitCount_0f7a4_40 (Nat.le_of_ble_eq_true rfl) (by rfl) ?_
  refine E_iload_n dJ6_bitCount_0f7a4_41 (by rfl) ?_
  refine E_iload_n dJ6_bitCount_0f7a4_42 (by rfl) ?_
  refine E_bipush (v := 16) dJ6_bitCount_0f7a4_43 (by decide) ?_
  refine E_iushr dJ6_bitCount_0f7a4_45 rfl ?_
  refine E_iadd dJ6_bitCount_0f7a4_46 ?_
  refine E_istore_n dJ6_bitCount_0f7a4_47 (Nat.le_of_ble_eq_true rfl) (by rfl) ?_
  refine E_iload_n dJ6_bitCount_0f7a4_48 (by rfl) ?_
  refine E_bipush (v := 63) dJ6_bitCount_0f7a4_49 (by decide) ?_
  refine E_iand dJ6_bitCount_0f7a4_51 ?_
  refine E_iret dJ6_bitCount_0f7a4_52 rfl rfl (Nat.zero_le _) (Nat.zero_le _) ?_
  exact x_leaf rfl
theorem c_removeLanding_no (h : gAt mem g S) (ht : (g_top S).toInt ≤ 60) (u : Int32) (hu : ¬ g_isLa S u) : Dt G kX0_removeLanding [.ref g, .int u] mem (some (.int (-1))) mem := by
  refine Ct_of (by decide) (Nat.le_of_ble_eq_true rfl) ?_
  refine E_aload_n dX0_removeLanding_0 (by rfl) ?_
  refine E_iload_n dX0_removeLanding_1 (by rfl) ?_
  refine cs_X0_removeLanding_2 h.1 (Nat.le_of_ble_eq_true rfl) (c_isLanding h ht _) ?_
  refine E_if_ne (tgt := 10) dX0_removeLanding_5 (by decide) (fun q5 => ?_) (fun q5 => ?_)
  · rw [b2i_T0] at q5; exact absurd hu q5
  · refine E_iconst (v := (-1)) dX0_removeLanding_8 (by decide) ?_
    refine E_iret dX0_removeLanding_9 rfl rfl (Nat.zero_le _) (Nat.zero_le _) ?_
    exact x_leaf rfl
theorem c_removeLanding_ok (h : gAt mem g S) (ht : (g_top T).toInt ≤ 60) (hc : g_cl T = nI n) (hn : n ≤ 6) (u : Int32) (hu : g_isLa T u) : Dt G kX0_removeLanding [.ref g, .int u] (gPut mem g T) (some (.int (sBc (sOn (g_pl T) u n)))) (gPut mem g (gPutL T u 0)) := by
  obtain ⟨a0, a1, a2, a3, a4, a5, a6, a7, a8⟩ := gAt_put h T
  have hb := hu.1
  refine Ct_of (by decide) (Nat.le_of_ble_eq_true rfl) ?_
  refine E_aload_n dX0_removeLanding_0 (by rfl) ?_
  refine E_iload_n dX0_removeLanding_1 (by rfl) ?_
  refine cs_X0_removeLanding_2 (by assumption) (Nat.le_of_ble_eq_true rfl) (c_isLanding (gAt_put h T) ht _) ?_
  refine E_if_ne (tgt := 10) dX0_removeLanding_5 (by decide) (fun q5 => ?_) (fun q5 => ?_)
  · refine E_aload_n dX0_removeLanding_10 (by rfl) ?_
    refine gf_X0_15 dX0_removeLanding_11 rfl (by assumption) (by rfl) ?_
    refine E_iload_n dX0_removeLanding_14 (by rfl) ?_
    refine E_iconst (v := 0) dX0_removeLanding_15 (by decide) ?_
    refine E_zast dX0_removeLanding_16 (by assumption) (i_in (by omega) (by omega)) (by rfl) ?_
    refine E_mem (gSetP h (gPutL T u 0) 2 (by decide) (by rfl)) ?_
    obtain ⟨a0, a1, a2, a3, a4, a5, a6, a7, a8⟩ := gAt_put h (gPutL T u 0)
    refine E_aload_n dX0_removeLanding_17 (by rfl) ?_
    refine E_iload_n dX0_removeLanding_18 (by rfl) ?_
    refine cs_X0_removeLanding_19 (by assumption) (Nat.le_of_ble_eq_true rfl) (c_climbersOn (gAt_put h (gPutL T u 0)) hc hn _) ?_
    refine cs_X0_removeLanding_22 (Nat.le_of_ble_eq_true rfl) (c_bitCount _) ?_
    refine E_iret dX0_removeLanding_25 rfl rfl (Nat.zero_le _) (Nat.zero_le _) ?_
    exact x_leaf rfl
  · rw [b2i_T0] at q5; exact absurd hu q5
theorem c_addClimber_no (h : gAt mem g S) (hc : 6 ≤ (g_cl S).toInt) : Dt G kX0_addClimber [.ref g] mem (some (.int (-4))) mem := by
  obtain ⟨a0, a1, a2, a3, a4, a5, a6, a7, a8⟩ := id h
  refine Ct_of (by decide) (Nat.le_of_ble_eq_true rfl) ?_
  refine E_aload_n dX0_addClimber_0 (by rfl) ?_
  refine gf_X0_41 dX0_addClimber_1 rfl (by assumption) (by rfl) ?_
  refine E_bipush (v := 6) dX0_addClimber_4 (by decide) ?_
  refine E_icmp_lt (n := 6) (by decide) (tgt := 12) dX0_addClimber_6 (by decide) (fun q6 => ?_) (fun q6 => ?_)
  · exact absurd q6 (by omega)
  · refine E_bipush (v := (-4)) dX0_addClimber_9 (by decide) ?_
    refine E_iret dX0_addClimber_11 rfl rfl (Nat.zero_le _) (Nat.zero_le _) ?_
    exact x_leaf rfl
abbrev gAdd (T : gS) : gS := g_wO T (g_top T) (g_cl T + 1) (g_mv T) (g_ro T) (g_lo T)
theorem c_addClimber_ok (h : gAt mem g S) (hc : ¬ 6 ≤ (g_cl T).toInt) : Dt G kX0_addClimber [.ref g] (gPut mem g T) (some (.int (g_cl T + 1 - 1))) (gPut mem g (gAdd T)) := by
  obtain ⟨a0, a1, a2, a3, a4, a5, a6, a7, a8⟩ := gAt_put h T
  refine Ct_of (by decide) (Nat.le_of_ble_eq_true rfl) ?_
  refine E_aload_n dX0_addClimber_0 (by rfl) ?_
  refine gf_X0_41 dX0_addClimber_1 rfl (by assumption) (by rfl) ?_
  refine E_bipush (v := 6) dX0_addClimber_4 (by decide) ?_
  refine E_icmp_lt (n := 6) (by decide) (tgt := 12) dX0_addClimber_6 (by decide) (fun q6 => ?_) (fun q6 => ?_)
  · refine E_aload_n dX0_addClimber_12 (by rfl) ?_
    refine E_dup dX0_addClimber_13 rfl ?_
    refine gf_X0_41 dX0_addClimber_14 rfl (by assumption) (by rfl) ?_
    refine E_iconst (v := 1) dX0_addClimber_17 (by decide) ?_
    refine E_iadd dX0_addClimber_18 ?_
    refine pf_X0_41 dX0_addClimber_19 rfl (by assumption) (Nat.le_of_ble_eq_true rfl) ?_
    refine E_mem (gSetP0 h (gAdd T) (by rfl)) ?_
    obtain ⟨a0, a1, a2, a3, a4, a5, a6, a7, a8⟩ := gAt_put h (gAdd T)
    refine E_aload_n dX0_addClimber_22 (by rfl) ?_
    refine gf_X0_41 dX0_addClimber_23 rfl (by assumption) (by rfl) ?_
    refine E_iconst (v := 1) dX0_addClimber_26 (by decide) ?_
    refine E_isub dX0_addClimber_27 ?_
    refine E_iret dX0_addClimber_28 rfl rfl (Nat.zero_le _) (Nat.zero_le _) ?_
    exact x_leaf rfl
  · exact absurd q6 (by omega)
end G4
