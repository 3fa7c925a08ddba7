/-! the reference: top, carpets, landings, climbers -/
section N3
variable {G : xG} {mem : xM} {M N : mS} {t n k c : Nat}
abbrev m_fr (z : Nat → Int32) (n k s : Nat) : Prop := (sOn (m_pl z) (nI s) n).toInt = 0 ∧ ¬ m_la z s ∧ (mCF z (nI s) k).toInt = -6
theorem n_setTop_no1 (h : mAt mem M) (x : Int32) (hx : ¬ (10 ≤ x.toInt ∧ x.toInt ≤ 60)) : Dt G kX4_setTop [.ref 86, .int x] mem (some (.int (-2))) mem := by
  obtain ⟨z0, z1, z2, z3, z4, z5, z6, z7⟩ := id h
  refine Ct_of (by decide) (Nat.le_of_ble_eq_true rfl) ?_
  refine E_iload_n dX4_setTop_0 (by rfl) ?_
  refine E_bipush (v := 10) dX4_setTop_1 (by decide) ?_
  refine E_bipush (v := 60) dX4_setTop_3 (by decide) ?_
  refine cs_X4_setTop_5 (Nat.le_of_ble_eq_true rfl) (n_in _ _ _) ?_
  refine E_if_ne (tgt := 14) dX4_setTop_8 (by decide) (fun q8 => ?_) (fun q8 => ?_)
  · exact absurd hx (fun hh => q8 (by rw [b2i_T0]; exact hh))
  · refine E_bipush (v := (-2)) dX4_setTop_11 (by decide) ?_
    refine E_iret dX4_setTop_13 rfl rfl (Nat.zero_le _) (Nat.zero_le _) ?_
    exact ⟨rfl, rfl⟩
theorem n_setTop_no2 (h : mAt mem M) (hn : m_z M 1 = nI n) (hn6 : n ≤ 6) (hk : m_z M 3 = nI k) (hk6 : k ≤ 6) (t : Nat) (ht : 10 ≤ t ∧ t ≤ 60) (hb : ¬ ∀ s, t ≤ s → s ≤ 60 → m_fr (m_z M) n k s) : Dt G kX4_setTop [.ref 86, .int (nI t)] mem (some (.int (-3))) mem := by
  obtain ⟨z0, z1, z2, z3, z4, z5, z6, z7⟩ := id h
  have et : (nI t).toInt = (t : Int) := nI_toInt (by omega)
  have e10 : (10 : Int32).toInt = 10 := by decide
  have e60 : (60 : Int32).toInt = 60 := by decide
  refine Ct_of (by decide) (Nat.le_of_ble_eq_true rfl) ?_
  have loop : ∀ di i : Nat, 61 < i + di → i ≤ 61 → (∀ s, t ≤ s → s < i → m_fr (m_z M) n k s) → E G kX4_setTop (x_R (some (.int (-3))) mem) 0 0 (mem) 16 (x_L [(0, .ref 86), (1, .int (nI t)), (2, .int (nI i))]) [] := by
    intro di
    induction di with
    | zero => intro i hi1 hi2 _; exact absurd hi1 (by omega)
    | succ di ihi =>
      intro i hi1 hi2 hinv
      have ei : (nI i).toInt = (i : Int) := nI_toInt (by omega)
      have eci : (nI i).toNatClampNeg = i := nI_clamp (by omega)
      refine E_iload_n dX4_setTop_16 (by rfl) ?_
      refine E_bipush (v := 61) dX4_setTop_17 (by decide) ?_
      refine E_icmp_ge (n := 61) (by decide) (tgt := 57) dX4_setTop_19 (by decide) (fun q19 => ?_) (fun q19 => ?_)
      · exact absurd (fun s h1 h2 => hinv s h1 (by omega)) hb
      · refine E_aload_n dX4_setTop_22 (by rfl) ?_
        refine E_iload_n dX4_setTop_23 (by rfl) ?_
        refine cs_X4_setTop_24 (by assumption) (Nat.le_of_ble_eq_true rfl) (n_climbersOn h hn hn6 _) ?_
        refine E_if_ne (tgt := 48) dX4_setTop_27 (by decide) (fun q27 => ?_) (fun q27 => ?_)
        · refine E_bipush (v := (-3)) dX4_setTop_48 (by decide) ?_
          refine E_iret dX4_setTop_50 rfl rfl (Nat.zero_le _) (Nat.zero_le _) ?_
          exact ⟨rfl, rfl⟩
        · refine E_aload_n dX4_setTop_30 (by rfl) ?_
          refine E_iload_n dX4_setTop_31 (by rfl) ?_
          refine cs_X4_setTop_32 (by assumption) (Nat.le_of_ble_eq_true rfl) (n_isLanding h i (by omega)) ?_
          refine E_if_ne (tgt := 48) dX4_setTop_35 (by decide) (fun q35 => ?_) (fun q35 => ?_)
          · refine E_bipush (v := (-3)) dX4_setTop_48 (by decide) ?_
            refine E_iret dX4_setTop_50 rfl rfl (Nat.zero_le _) (Nat.zero_le _) ?_
            exact ⟨rfl, rfl⟩
          · rw [b2i_T0] at q35
            refine E_aload_n dX4_setTop_38 (by rfl) ?_
            refine E_iload_n dX4_setTop_39 (by rfl) ?_
            refine cs_X4_setTop_40 (by assumption) (Nat.le_of_ble_eq_true rfl) (n_carpetFrom h hk hk6 _) ?_
            refine E_bipush (v := (-6)) dX4_setTop_43 (by decide) ?_
            refine E_icmp_eq (n := (-6)) (by decide) (tgt := 51) dX4_setTop_45 (by decide) (fun q45 => ?_) (fun q45 => ?_)
            · refine E_iinc (d := 1) dX4_setTop_51 (by rfl) (by decide) (Nat.le_of_ble_eq_true rfl) (by rfl) ?_
              refine E_goto (tgt := 16) dX4_setTop_54 (by decide) ?_
              exact E_loc [(0, .ref 86), (1, .int (nI t)), (2, .int (nI (i + 1)))] ⟨rfl, rfl, x_i (by first | exact nI_1 _ | decide), trivial⟩ (ihi (i + 1) (by omega) (by omega) (fun s h1 h2 => if e : s = i then e ▸ ⟨q27, q35, q45⟩ else hinv s h1 (by omega)))
            · refine E_bipush (v := (-3)) dX4_setTop_48 (by decide) ?_
              refine E_iret dX4_setTop_50 rfl rfl (Nat.zero_le _) (Nat.zero_le _) ?_
              exact ⟨rfl, rfl⟩
  refine E_iload_n dX4_setTop_0 (by rfl) ?_
  refine E_bipush (v := 10) dX4_setTop_1 (by decide) ?_
  refine E_bipush (v := 60) dX4_setTop_3 (by decide) ?_
  refine cs_X4_setTop_5 (Nat.le_of_ble_eq_true rfl) (n_in _ _ _) ?_
  refine E_if_ne (tgt := 14) dX4_setTop_8 (by decide) (fun q8 => ?_) (fun q8 => ?_)
  · refine E_iload_n dX4_setTop_14 (by rfl) ?_
    refine E_istore_n dX4_setTop_15 (Nat.le_of_ble_eq_true rfl) (by rfl) ?_
    exact E_loc [(0, .ref 86), (1, .int (nI t)), (2, .int (nI t))] ⟨rfl, rfl, x_i (by first | rfl | decide), trivial⟩ (loop (61 + 1) t (by omega) (by omega) (fun s h1 h2 => absurd h1 (by omega)))
  · rw [b2i_T0] at q8; exact absurd ⟨by omega, by omega⟩ q8
theorem n_setTop (h : mAt mem M) (hn : m_z M 1 = nI n) (hn6 : n ≤ 6) (hk : m_z M 3 = nI k) (hk6 : k ≤ 6) (hp : m_pm M = nI c) (hc5 : c ≤ 5) (t : Nat) (ht : 10 ≤ t ∧ t ≤ 60) (hb : ∀ s, t ≤ s → s ≤ 60 → m_fr (m_z M) n k s) : Dt G kX4_setTop [.ref 86, .int (nI t)] mem (some (.int (m_z M 0))) (mPut mem (m_wz (mRec M c) (upd (m_z M) 0 (nI t)))) := by
  obtain ⟨z0, z1, z2, z3, z4, z5, z6, z7⟩ := id h
  have et : (nI t).toInt = (t : Int) := nI_toInt (by omega)
  have e10 : (10 : Int32).toInt = 10 := by decide
  have e60 : (60 : Int32).toInt = 60 := by decide
  have hrec := n_record (G := G) h M hp hc5
  rw [mPut_self h] at hrec
  obtain ⟨a0, a1, a2, a3, a4, a5, a6, a7⟩ := mAt_put h (mRec M c)
  refine Ct_of (by decide) (Nat.le_of_ble_eq_true rfl) ?_
  have loop : ∀ di i : Nat, 61 < i + di → i ≤ 61 → (t ≤ i) → E G kX4_setTop (x_R (some (.int (m_z M 0))) (mPut mem (m_wz (mRec M c) (upd (m_z M) 0 (nI t))))) 0 0 (mem) 16 (x_L [(0, .ref 86), (1, .int (nI t)), (2, .int (nI i))]) [] := by
    intro di
    induction di with
    | zero => intro i hi1 hi2 _; exact absurd hi1 (by omega)
    | succ di ihi =>
      intro i hi1 hi2 hinv
      have ei : (nI i).toInt = (i : Int) := nI_toInt (by omega)
      have eci : (nI i).toNatClampNeg = i := nI_clamp (by omega)
      refine E_iload_n dX4_setTop_16 (by rfl) ?_
      refine E_bipush (v := 61) dX4_setTop_17 (by decide) ?_
      refine E_icmp_ge (n := 61) (by decide) (tgt := 57) dX4_setTop_19 (by decide) (fun q19 => ?_) (fun q19 => ?_)
      · refine E_aload_n dX4_setTop_57 (by rfl) ?_
        refine cs_X4_setTop_58 (by assumption) (Nat.le_of_ble_eq_true rfl) hrec ?_
        refine E_aload_n dX4_setTop_61 (by rfl) ?_
        refine gf_X4_7 dX4_setTop_62 rfl (by assumption) (by rfl) ?_
        refine E_iconst (v := 0) dX4_setTop_65 (by decide) ?_
        refine E_iald dX4_setTop_66 (by assumption) (i_in (by decide) (by decide)) ?_
        refine E_istore_n dX4_setTop_67 (Nat.le_of_ble_eq_true rfl) (by rfl) ?_
        refine E_aload_n dX4_setTop_68 (by rfl) ?_
        refine gf_X4_7 dX4_setTop_69 rfl (by assumption) (by rfl) ?_
        refine E_iconst (v := 0) dX4_setTop_72 (by decide) ?_
        refine E_iload_n dX4_setTop_73 (by rfl) ?_
        refine E_iast dX4_setTop_74 (by assumption) (i_in (by decide) (by decide)) ?_
        refine E_mem (mS_z h _ _) ?_
        refine E_iload_n dX4_setTop_75 (by rfl) ?_
        refine E_iret dX4_setTop_76 rfl rfl (Nat.zero_le _) (Nat.zero_le _) ?_
        exact ⟨rfl, rfl⟩
      · refine E_aload_n dX4_setTop_22 (by rfl) ?_
        refine E_iload_n dX4_setTop_23 (by rfl) ?_
        refine cs_X4_setTop_24 (by assumption) (Nat.le_of_ble_eq_true rfl) (n_climbersOn h hn hn6 _) ?_
        refine E_if_ne (tgt := 48) dX4_setTop_27 (by decide) (fun q27 => ?_) (fun q27 => ?_)
        · exact absurd (hb i hinv (by omega)).1 q27
        · refine E_aload_n dX4_setTop_30 (by rfl) ?_
          refine E_iload_n dX4_setTop_31 (by rfl) ?_
          refine cs_X4_setTop_32 (by assumption) (Nat.le_of_ble_eq_true rfl) (n_isLanding h i (by omega)) ?_
          refine E_if_ne (tgt := 48) dX4_setTop_35 (by decide) (fun q35 => ?_) (fun q35 => ?_)
          · rw [b2i_T0] at q35; exact absurd (hb i hinv (by omega)).2.1 q35
          · refine E_aload_n dX4_setTop_38 (by rfl) ?_
            refine E_iload_n dX4_setTop_39 (by rfl) ?_
            refine cs_X4_setTop_40 (by assumption) (Nat.le_of_ble_eq_true rfl) (n_carpetFrom h hk hk6 _) ?_
            refine E_bipush (v := (-6)) dX4_setTop_43 (by decide) ?_
            refine E_icmp_eq (n := (-6)) (by decide) (tgt := 51) dX4_setTop_45 (by decide) (fun q45 => ?_) (fun q45 => ?_)
            · refine E_iinc (d := 1) dX4_setTop_51 (by rfl) (by decide) (Nat.le_of_ble_eq_true rfl) (by rfl) ?_
              refine E_goto (tgt := 16) dX4_setTop_54 (by decide) ?_
              exact E_loc [(0, .ref 86), (1, .int (nI t)), (2, .int (nI (i + 1)))] ⟨rfl, rfl, x_i (by first | exact nI_1 _ | decide), trivial⟩ (ihi (i + 1) (by omega) (by omega) (by omega))
            · exact absurd (hb i hinv (by omega)).2.2 q45
  refine E_iload_n dX4_setTop_0 (by rfl) ?_
  refine E_bipush (v := 10) dX4_setTop_1 (by decide) ?_
  refine E_bipush (v := 60) dX4_setTop_3 (by decide) ?_
  refine cs_X4_setTop_5 (Nat.le_of_ble_eq_true rfl) (n_in _ _ _) ?_
  refine E_if_ne (tgt := 14) dX4_setTop_8 (by decide) (fun q8 => ?_) (fun q8 => ?_)
  · refine E_iload_n dX4_setTop_14 (by rfl) ?_
    refine E_istore_n dX4_setTop_15 (Nat.le_of_ble_eq_true rfl) (by rfl) ?_
    exact E_loc [(0, .ref 86), (1, .int (nI t)), (2, .int (nI t))] ⟨rfl, rfl, x_i (by first | rfl | decide), trivial⟩ (loop (61 + 1) t (by omega) (by omega) (Nat.le_refl _))
  · rw [b2i_T0] at q8; exact absurd ⟨by omega, by omega⟩ q8
def mWL (z : Nat → Int32) (n k : Nat) (x y : Int32) : Int32 :=
  if ¬ m_st z x then -1 else if ¬ (0 ≤ y.toInt ∧ y.toInt ≤ (x - 1).toInt) then -2 else if (mCF z x k).toInt ≠ -6 ∨ 0 < (sCn (m_lo z x) k).toInt ∨ (mCF z y k).toInt ≠ -6 ∨ m_la z x.toNatClampNeg ∨ (sOn (m_pl z) x n).toInt ≠ 0 then -3 else if (z 3).toInt = 6 then -4 else 0
theorem n_whyNotLay (h : mAt mem M) (hn : m_z M 1 = nI n) (hn6 : n ≤ 6) (hk : m_z M 3 = nI k) (hk6 : k ≤ 6) (ht : m_z M 0 = nI t) (ht60 : t ≤ 60) (ht1 : 1 ≤ t) (x y : Int32) : Dt G kX4_whyNotLay [.ref 86, .int x, .int y] mem (some (.int (mWL (m_z M) n k x y))) mem := by
  obtain ⟨a0, a1, a2, a3, a4, a5, a6, a7⟩ := id h
  have ez : (m_z M 0 - 1).toInt = (t : Int) - 1 := by
    rw [ht, show nI t - 1 = nI (t - 1) from pk_sub ht1, nI_toInt (by omega)]; omega
  refine Ct_of (by decide) (Nat.le_of_ble_eq_true rfl) ?_
  unfold mWL
  refine E_aload_n dX4_whyNotLay_0 (by rfl) ?_
  refine E_iload_n dX4_whyNotLay_1 (by rfl) ?_
  refine cs_X4_whyNotLay_2 (by assumption) (Nat.le_of_ble_eq_true rfl) (n_isStep h x) ?_
  refine E_if_ne (tgt := 10) dX4_whyNotLay_5 (by decide) (fun q5 => ?_) (fun q5 => ?_)
  · rw [b2i_T0] at q5; have q5 := Classical.not_not.mp q5; have q5b := q5.1; have q5c := q5.2
    refine E_iload_n dX4_whyNotLay_10 (by rfl) ?_
    refine E_iconst (v := 0) dX4_whyNotLay_11 (by decide) ?_
    refine E_iload_n dX4_whyNotLay_12 (by rfl) ?_
    refine E_iconst (v := 1) dX4_whyNotLay_13 (by decide) ?_
    refine E_isub dX4_whyNotLay_14 ?_
    refine cs_X4_whyNotLay_15 (Nat.le_of_ble_eq_true rfl) (n_in _ _ _) ?_
    refine E_if_ne (tgt := 24) dX4_whyNotLay_18 (by decide) (fun q18 => ?_) (fun q18 => ?_)
    · rw [b2i_T0] at q18; have q18 : 0 ≤ y.toInt ∧ y.toInt ≤ (x - 1).toInt := Classical.not_not.mp q18
      refine E_aload_n dX4_whyNotLay_24 (by rfl) ?_
      refine E_iload_n dX4_whyNotLay_25 (by rfl) ?_
      refine cs_X4_whyNotLay_26 (by assumption) (Nat.le_of_ble_eq_true rfl) (n_carpetFrom h hk hk6 _) ?_
      refine E_bipush (v := (-6)) dX4_whyNotLay_29 (by decide) ?_
      refine E_icmp_ne (n := (-6)) (by decide) (tgt := 68) dX4_whyNotLay_31 (by decide) (fun q31 => ?_) (fun q31 => ?_)
      · refine E_bipush (v := (-3)) dX4_whyNotLay_68 (by decide) ?_
        refine E_iret dX4_whyNotLay_70 rfl rfl (Nat.zero_le _) (Nat.zero_le _) ?_
        exact x_leaf (by rw [if_neg (not_not_intro q5), if_neg (not_not_intro q18), if_pos (Or.inl q31)])
      · refine E_aload_n dX4_whyNotLay_34 (by rfl) ?_
        refine E_iload_n dX4_whyNotLay_35 (by rfl) ?_
        refine cs_X4_whyNotLay_36 (by assumption) (Nat.le_of_ble_eq_true rfl) (n_carpetsTo h hk hk6 _) ?_
        refine E_if_gt (tgt := 68) dX4_whyNotLay_39 (by decide) (fun q39 => ?_) (fun q39 => ?_)
        · refine E_bipush (v := (-3)) dX4_whyNotLay_68 (by decide) ?_
          refine E_iret dX4_whyNotLay_70 rfl rfl (Nat.zero_le _) (Nat.zero_le _) ?_
          exact x_leaf (by rw [if_neg (not_not_intro q5), if_neg (not_not_intro q18), if_pos (Or.inr (Or.inl (by omega)))])
        · refine E_aload_n dX4_whyNotLay_42 (by rfl) ?_
          refine E_iload_n dX4_whyNotLay_43 (by rfl) ?_
          refine cs_X4_whyNotLay_44 (by assumption) (Nat.le_of_ble_eq_true rfl) (n_carpetFrom h hk hk6 _) ?_
          refine E_bipush (v := (-6)) dX4_whyNotLay_47 (by decide) ?_
          refine E_icmp_ne (n := (-6)) (by decide) (tgt := 68) dX4_whyNotLay_49 (by decide) (fun q49 => ?_) (fun q49 => ?_)
          · refine E_bipush (v := (-3)) dX4_whyNotLay_68 (by decide) ?_
            refine E_iret dX4_whyNotLay_70 rfl rfl (Nat.zero_le _) (Nat.zero_le _) ?_
            exact x_leaf (by rw [if_neg (not_not_intro q5), if_neg (not_not_intro q18), if_pos (Or.inr (Or.inr (Or.inl q49)))])
          · refine E_aload_n dX4_whyNotLay_52 (by rfl) ?_
            refine E_iload_n dX4_whyNotLay_53 (by rfl) ?_
            have ex : x = nI x.toNatClampNeg := i_nI (by omega)
            have hla : Dt G kX4_isLanding [.ref 86, .int x] mem (some (.int (b2i (m_la (m_z M) x.toNatClampNeg)))) mem := by have := n_isLanding (G := G) h x.toNatClampNeg (by have := i_cl (x := x) (by omega); omega); rw [← ex] at this; exact this
            refine cs_X4_whyNotLay_54 (by assumption) (Nat.le_of_ble_eq_true rfl) hla ?_
            refine E_if_ne (tgt := 68) dX4_whyNotLay_57 (by decide) (fun q57 => ?_) (fun q57 => ?_)
            · rw [b2i_T0] at q57; have q57 := Classical.not_not.mp q57
              refine E_bipush (v := (-3)) dX4_whyNotLay_68 (by decide) ?_
              refine E_iret dX4_whyNotLay_70 rfl rfl (Nat.zero_le _) (Nat.zero_le _) ?_
              exact x_leaf (by rw [if_neg (not_not_intro q5), if_neg (not_not_intro q18), if_pos (Or.inr (Or.inr (Or.inr (Or.inl q57))))])
            · rw [b2i_T0] at q57
              refine E_aload_n dX4_whyNotLay_60 (by rfl) ?_
              refine E_iload_n dX4_whyNotLay_61 (by rfl) ?_
              refine cs_X4_whyNotLay_62 (by assumption) (Nat.le_of_ble_eq_true rfl) (n_climbersOn h hn hn6 _) ?_
              refine E_if_eq (tgt := 71) dX4_whyNotLay_65 (by decide) (fun q65 => ?_) (fun q65 => ?_)
              · refine E_aload_n dX4_whyNotLay_71 (by rfl) ?_
                refine gf_X4_7 dX4_whyNotLay_72 rfl (by assumption) (by rfl) ?_
                refine E_iconst (v := 3) dX4_whyNotLay_75 (by decide) ?_
                refine E_iald dX4_whyNotLay_76 (by assumption) (i_in (by decide) (by decide)) ?_
                refine E_bipush (v := 6) dX4_whyNotLay_77 (by decide) ?_
                refine E_icmp_ne (n := 6) (by decide) (tgt := 87) dX4_whyNotLay_79 (by decide) (fun q79 => ?_) (fun q79 => ?_)
                · rw [show (3 : Int32).toNatClampNeg = 3 by decide] at q79
                  refine E_iconst (v := 0) dX4_whyNotLay_87 (by decide) ?_
                  refine E_iret dX4_whyNotLay_88 rfl rfl (Nat.zero_le _) (Nat.zero_le _) ?_
                  exact x_leaf (by rw [if_neg (not_not_intro q5), if_neg (not_not_intro q18), if_neg (fun z => z.elim (fun z => z q31) (fun z => z.elim (fun z => absurd z (by omega)) (fun z => z.elim (fun z => z q49) (fun z => z.elim q57 (fun z => z q65))))), if_neg q79])
                · rw [show (3 : Int32).toNatClampNeg = 3 by decide] at q79
                  refine E_bipush (v := (-4)) dX4_whyNotLay_82 (by decide) ?_
                  refine E_goto (tgt := 88) dX4_whyNotLay_84 (by decide) ?_
                  refine E_iret dX4_whyNotLay_88 rfl rfl (Nat.zero_le _) (Nat.zero_le _) ?_
                  exact x_leaf (by rw [if_neg (not_not_intro q5), if_neg (not_not_intro q18), if_neg (fun z => z.elim (fun z => z q31) (fun z => z.elim (fun z => absurd z (by omega)) (fun z => z.elim (fun z => z q49) (fun z => z.elim q57 (fun z => z q65))))), if_pos q79])
              · refine E_bipush (v := (-3)) dX4_whyNotLay_68 (by decide) ?_
                refine E_iret dX4_whyNotLay_70 rfl rfl (Nat.zero_le _) (Nat.zero_le _) ?_
                exact x_leaf (by rw [if_neg (not_not_intro q5), if_neg (not_not_intro q18), if_pos (Or.inr (Or.inr (Or.inr (Or.inr q65))))])
    · rw [b2i_T0] at q18; have q18 : ¬ (0 ≤ y.toInt ∧ y.toInt ≤ (x - 1).toInt) := q18
      refine E_bipush (v := (-2)) dX4_whyNotLay_21 (by decide) ?_
      refine E_iret dX4_whyNotLay_23 rfl rfl (Nat.zero_le _) (Nat.zero_le _) ?_
      exact x_leaf (by rw [if_neg (not_not_intro q5), if_pos q18])
  · rw [b2i_T0] at q5
    refine E_iconst (v := (-1)) dX4_whyNotLay_8 (by decide) ?_
    refine E_iret dX4_whyNotLay_9 rfl rfl (Nat.zero_le _) (Nat.zero_le _) ?_
    exact x_leaf (by rw [if_pos q5])
def mLay (z : Nat → Int32) (k : Nat) (x y : Int32) : Nat → Int32 := upd (upd (upd z (44 + 2 * k) x) (45 + 2 * k) y) 3 (nI (k + 1))
theorem upd_same {f : Nat → Int32} {i : Nat} {v : Int32} : upd f i v i = v := if_pos rfl
theorem upd_ne {f : Nat → Int32} {i j : Nat} {v : Int32} (h : j ≠ i) : upd f i v j = f j := if_neg h
theorem n_laysCarpet (h : mAt mem M) (N : mS) (hk : m_z N 3 = nI k) (hk6 : k < 6) (x y : Int32) : Dt G kX4_laysCarpet [.ref 86, .int x, .int y] (mPut mem N) (some (.int (nI (k + 1)))) (mPut mem (m_wz N (mLay (m_z N) k x y))) := by
  obtain ⟨a0, a1, a2, a3, a4, a5, a6, a7⟩ := mAt_put h N
  obtain ⟨b0, b1, b2, b3, b4, b5, b6, b7⟩ := mAt_put h (m_wz N (upd (m_z N) (44 + 2 * k) x))
  obtain ⟨c0, c1, c2, c3, c4, c5, c6, c7⟩ := mAt_put h (m_wz N (upd (upd (m_z N) (44 + 2 * k) x) (45 + 2 * k) y))
  obtain ⟨d0, d1, d2, d3, d4, d5, d6, d7⟩ := mAt_put h (m_wz N (mLay (m_z N) k x y))
  have e3 : (3 : Int32).toNatClampNeg = 3 := by decide
  have ee : (nI (44 + 2 * k)).toInt = ((44 + 2 * k : Nat) : Int) := nI_toInt (by omega)
  have ee2 : (nI (44 + 2 * k)).toNatClampNeg = 44 + 2 * k := nI_clamp (by omega)
  have ef : (nI (45 + 2 * k)).toInt = ((45 + 2 * k : Nat) : Int) := nI_toInt (by omega)
  have ef2 : (nI (45 + 2 * k)).toNatClampNeg = 45 + 2 * k := nI_clamp (by omega)
  have g3 : upd (m_z N) (44 + 2 * k) x 3 = nI k := (upd_ne (by omega)).trans hk
  have g4 : upd (upd (m_z N) (44 + 2 * k) x) (45 + 2 * k) y 3 = nI k := (upd_ne (by omega)).trans g3
  refine Ct_of (by decide) (Nat.le_of_ble_eq_true rfl) ?_
  refine E_aload_n dX4_laysCarpet_0 (by rfl) ?_
  refine gf_X4_7 dX4_laysCarpet_1 rfl (by assumption) (by rfl) ?_
  refine E_bipush (v := 44) dX4_laysCarpet_4 (by decide) ?_
  refine E_iconst (v := 2) dX4_laysCarpet_6 (by decide) ?_
  refine E_aload_n dX4_laysCarpet_7 (by rfl) ?_
  refine gf_X4_7 dX4_laysCarpet_8 rfl (by assumption) (by rfl) ?_
  refine E_iconst (v := 3) dX4_laysCarpet_11 (by decide) ?_
  refine E_iald dX4_laysCarpet_12 (by assumption) (i_in (by decide) (by decide)) ?_
  rw [e3, hk]
  refine E_imul dX4_laysCarpet_13 ?_
  refine E_iadd dX4_laysCarpet_14 ?_
  rw [n_ix2]
  refine E_iload_n dX4_laysCarpet_15 (by rfl) ?_
  refine E_iast dX4_laysCarpet_16 (by assumption) (i_in (by omega) (by omega)) ?_
  refine E_mem ((mS_z h _ _).trans (congrArg (fun f => mPut mem (m_wz N f)) (show _ = upd (m_z N) (44 + 2 * k) x by rw [ee2]))) ?_
  refine E_aload_n dX4_laysCarpet_17 (by rfl) ?_
  refine gf_X4_7 dX4_laysCarpet_18 rfl (by assumption) (by rfl) ?_
  refine E_bipush (v := 44) dX4_laysCarpet_21 (by decide) ?_
  refine E_iconst (v := 2) dX4_laysCarpet_23 (by decide) ?_
  refine E_aload_n dX4_laysCarpet_24 (by rfl) ?_
  refine gf_X4_7 dX4_laysCarpet_25 rfl (by assumption) (by rfl) ?_
  refine E_iconst (v := 3) dX4_laysCarpet_28 (by decide) ?_
  refine E_iald dX4_laysCarpet_29 (by assumption) (i_in (by decide) (by decide)) ?_
  rw [e3, show m_z (m_wz N (upd (m_z N) (44 + 2 * k) x)) 3 = nI k from g3]
  refine E_imul dX4_laysCarpet_30 ?_
  refine E_iadd dX4_laysCarpet_31 ?_
  refine E_iconst (v := 1) dX4_laysCarpet_32 (by decide) ?_
  refine E_iadd dX4_laysCarpet_33 ?_
  rw [n_ix3]
  refine E_iload_n dX4_laysCarpet_34 (by rfl) ?_
  refine E_iast dX4_laysCarpet_35 (by assumption) (i_in (by omega) (by omega)) ?_
  refine E_mem ((mS_z h _ _).trans (congrArg (fun f => mPut mem (m_wz N f)) (show _ = upd (upd (m_z N) (44 + 2 * k) x) (45 + 2 * k) y by rw [ef2]))) ?_
  refine E_aload_n dX4_laysCarpet_36 (by rfl) ?_
  refine gf_X4_7 dX4_laysCarpet_37 rfl (by assumption) (by rfl) ?_
  refine E_iconst (v := 3) dX4_laysCarpet_40 (by decide) ?_
  refine E_dup2 dX4_laysCarpet_41 rfl rfl ?_
  refine E_iald dX4_laysCarpet_42 (by assumption) (i_in (by decide) (by decide)) ?_
  rw [e3, show m_z (m_wz N (upd (upd (m_z N) (44 + 2 * k) x) (45 + 2 * k) y)) 3 = nI k from g4]
  refine E_iconst (v := 1) dX4_laysCarpet_43 (by decide) ?_
  refine E_iadd dX4_laysCarpet_44 ?_
  rw [nI_1]
  refine E_iast dX4_laysCarpet_45 (by assumption) (i_in (by decide) (by decide)) ?_
  refine E_mem ((mS_z h _ _).trans (congrArg (fun f => mPut mem (m_wz N f)) (show _ = mLay (m_z N) k x y by rw [e3]; rfl))) ?_
  refine E_aload_n dX4_laysCarpet_46 (by rfl) ?_
  refine gf_X4_7 dX4_laysCarpet_47 rfl (by assumption) (by rfl) ?_
  refine E_iconst (v := 3) dX4_laysCarpet_50 (by decide) ?_
  refine E_iald dX4_laysCarpet_51 (by assumption) (i_in (by decide) (by decide)) ?_
  refine E_iret dX4_laysCarpet_52 rfl rfl (Nat.zero_le _) (Nat.zero_le _) ?_
  refine x_leaf ?_
  rw [e3]
  exact congrArg (fun v => some (Value.int v)) (show upd (upd (upd (m_z N) (44 + 2 * k) x) (45 + 2 * k) y) 3 (nI (k + 1)) 3 = _ from upd_same)
theorem n_lay_no (h : mAt mem M) (hn : m_z M 1 = nI n) (hn6 : n ≤ 6) (hk : m_z M 3 = nI k) (hk6 : k ≤ 6) (ht : m_z M 0 = nI t) (ht60 : t ≤ 60) (ht1 : 1 ≤ t) (x y : Int32) (hw : (mWL (m_z M) n k x y).toInt < 0) : Dt G kX4_lay [.ref 86, .int x, .int y] mem (some (.int (mWL (m_z M) n k x y))) mem := by
  obtain ⟨z0, z1, z2, z3, z4, z5, z6, z7⟩ := id h
  refine Ct_of (by decide) (Nat.le_of_ble_eq_true rfl) ?_
  refine E_aload_n dX4_lay_0 (by rfl) ?_
  refine E_iload_n dX4_lay_1 (by rfl) ?_
  refine E_iload_n dX4_lay_2 (by rfl) ?_
  refine cs_X4_lay_3 (by assumption) (Nat.le_of_ble_eq_true rfl) (n_whyNotLay h hn hn6 hk hk6 ht ht60 ht1 x y) ?_
  refine E_istore_n dX4_lay_6 (Nat.le_of_ble_eq_true rfl) (by rfl) ?_
  refine E_iload_n dX4_lay_7 (by rfl) ?_
  refine E_if_ge (tgt := 13) dX4_lay_8 (by decide) (fun q8 => ?_) (fun q8 => ?_)
  · exact absurd q8 (by omega)
  · refine E_iload_n dX4_lay_11 (by rfl) ?_
    refine E_iret dX4_lay_12 rfl rfl (Nat.zero_le _) (Nat.zero_le _) ?_
    exact ⟨rfl, rfl⟩
theorem n_lay (h : mAt mem M) (hn : m_z M 1 = nI n) (hn6 : n ≤ 6) (hk : m_z M 3 = nI k) (hk6 : k < 6) (ht : m_z M 0 = nI t) (ht60 : t ≤ 60) (ht1 : 1 ≤ t) (hp : m_pm M = nI c) (hc5 : c ≤ 5) (x y : Int32) (hw : ¬ (mWL (m_z M) n k x y).toInt < 0) : Dt G kX4_lay [.ref 86, .int x, .int y] mem (some (.int (nI (k + 1)))) (mPut mem (m_wz (mRec M c) (mLay (m_z M) k x y))) := by
  have hrec := n_record (G := G) h M hp hc5
  rw [mPut_self h] at hrec
  obtain ⟨a0, a1, a2, a3, a4, a5, a6, a7⟩ := id h
  obtain ⟨b0, b1, b2, b3, b4, b5, b6, b7⟩ := mAt_put h (mRec M c)
  refine Ct_of (by decide) (Nat.le_of_ble_eq_true rfl) ?_
  refine E_aload_n dX4_lay_0 (by rfl) ?_
  refine E_iload_n dX4_lay_1 (by rfl) ?_
  refine E_iload_n dX4_lay_2 (by rfl) ?_
  refine cs_X4_lay_3 (by assumption) (Nat.le_of_ble_eq_true rfl) (n_whyNotLay h hn hn6 hk (by omega) ht ht60 ht1 x y) ?_
  refine E_istore_n dX4_lay_6 (Nat.le_of_ble_eq_true rfl) (by rfl) ?_
  refine E_iload_n dX4_lay_7 (by rfl) ?_
  refine E_if_ge (tgt := 13) dX4_lay_8 (by decide) (fun q8 => ?_) (fun q8 => ?_)
  · refine E_aload_n dX4_lay_13 (by rfl) ?_
    refine cs_X4_lay_14 (by assumption) (Nat.le_of_ble_eq_true rfl) hrec ?_
    refine E_aload_n dX4_lay_17 (by rfl) ?_
    refine E_iload_n dX4_lay_18 (by rfl) ?_
    refine E_iload_n dX4_lay_19 (by rfl) ?_
    refine cs_X4_lay_20 (by assumption) (Nat.le_of_ble_eq_true rfl) (n_laysCarpet h (mRec M c) hk hk6 x y) ?_
    refine E_iret dX4_lay_23 rfl rfl (Nat.zero_le _) (Nat.zero_le _) ?_
    exact ⟨rfl, rfl⟩
  · exact absurd q8 (by omega)
def mTake (z : Nat → Int32) (j k : Nat) : Nat → Int32 := upd (upd (upd z 3 (nI (k - 1))) (44 + 2 * j) (z (44 + 2 * (k - 1)))) (45 + 2 * j) (z (45 + 2 * (k - 1)))
theorem n_take_no (h : mAt mem M) (hk : m_z M 3 = nI k) (hk6 : k ≤ 6) (x : Int32) (hw : (mCF (m_z M) x k).toInt = -6) : Dt G kX4_take [.ref 86, .int x] mem (some (.int (-1))) mem := by
  obtain ⟨z0, z1, z2, z3, z4, z5, z6, z7⟩ := id h
  refine Ct_of (by decide) (Nat.le_of_ble_eq_true rfl) ?_
  refine E_aload_n dX4_take_0 (by rfl) ?_
  refine E_iload_n dX4_take_1 (by rfl) ?_
  refine cs_X4_take_2 (by assumption) (Nat.le_of_ble_eq_true rfl) (n_carpetFrom h hk hk6 x) ?_
  refine E_istore_n dX4_take_5 (Nat.le_of_ble_eq_true rfl) (by rfl) ?_
  refine E_iload_n dX4_take_6 (by rfl) ?_
  refine E_bipush (v := (-6)) dX4_take_7 (by decide) ?_
  refine E_icmp_ne (n := (-6)) (by decide) (tgt := 14) dX4_take_9 (by decide) (fun q9 => ?_) (fun q9 => ?_)
  · exact absurd hw q9
  · refine E_iconst (v := (-1)) dX4_take_12 (by decide) ?_
    refine E_iret dX4_take_13 rfl rfl (Nat.zero_le _) (Nat.zero_le _) ?_
    exact ⟨rfl, rfl⟩
theorem n_take {j : Nat} (h : mAt mem M) (hk : m_z M 3 = nI k) (hk6 : k ≤ 6) (hp : m_pm M = nI c) (hc5 : c ≤ 5) (x : Int32) (hj : j < k) (hw : mCF (m_z M) x k = nI j) : Dt G kX4_take [.ref 86, .int x] mem (some (.int (m_z M (45 + 2 * j)))) (mPut mem (m_wz (mRec M c) (mTake (m_z M) j k))) := by
  have hrec := n_record (G := G) h M hp hc5
  rw [mPut_self h] at hrec
  have h1 := mAt_put h (mRec M c)
  have h2 := mAt_put h (m_wz (mRec M c) (upd (m_z M) 3 (nI (k - 1))))
  have h3 := mAt_put h (m_wz (mRec M c) (upd (upd (m_z M) 3 (nI (k - 1))) (44 + 2 * j) (m_z M (44 + 2 * (k - 1)))))
  obtain ⟨a0, a1, a2, a3, a4, a5, a6, a7⟩ := id h
  obtain ⟨b0, b1, b2, b3, b4, b5, b6, b7⟩ := id h1
  obtain ⟨c0, c1, c2, c3, c4, c5, c6, c7⟩ := id h2
  obtain ⟨d0, d1, d2, d3, d4, d5, d6, d7⟩ := id h3
  have e3 : (3 : Int32).toNatClampNeg = 3 := by decide
  have ej : (nI j).toInt = (j : Int) := nI_toInt (by omega)
  have ee : (nI (44 + 2 * j)).toInt = ((44 + 2 * j : Nat) : Int) := nI_toInt (by omega)
  have ee2 : (nI (44 + 2 * j)).toNatClampNeg = 44 + 2 * j := nI_clamp (by omega)
  have ef : (nI (45 + 2 * j)).toInt = ((45 + 2 * j : Nat) : Int) := nI_toInt (by omega)
  have ef2 : (nI (45 + 2 * j)).toNatClampNeg = 45 + 2 * j := nI_clamp (by omega)
  have ek : nI k - 1 = nI (k - 1) := pk_sub (show 1 ≤ k by omega)
  have hup : Dt G kX4_upper [.ref 86, .int (nI (k - 1))] (mPut mem (m_wz (mRec M c) (upd (m_z M) 3 (nI (k - 1))))) (some (.int (m_z M (44 + 2 * (k - 1))))) (mPut mem (m_wz (mRec M c) (upd (m_z M) 3 (nI (k - 1))))) := by
    have := n_upper (G := G) h2 (k - 1) (by omega)
    rw [show m_z (m_wz (mRec M c) (upd (m_z M) 3 (nI (k - 1)))) (44 + 2 * (k - 1)) = m_z M (44 + 2 * (k - 1)) from upd_ne (by omega)] at this
    exact this
  have ev : (if j = k - 1 then m_z M (45 + 2 * (k - 1)) else m_z M (45 + 2 * (k - 1))) = m_z M (45 + 2 * (k - 1)) := by split <;> rfl
  have hlo : Dt G kX4_lower [.ref 86, .int (nI (k - 1))] (mPut mem (m_wz (mRec M c) (upd (upd (m_z M) 3 (nI (k - 1))) (44 + 2 * j) (m_z M (44 + 2 * (k - 1)))))) (some (.int (m_z M (45 + 2 * (k - 1))))) (mPut mem (m_wz (mRec M c) (upd (upd (m_z M) 3 (nI (k - 1))) (44 + 2 * j) (m_z M (44 + 2 * (k - 1)))))) := by
    have := n_lower (G := G) h3 (k - 1) (by omega)
    rw [show m_z (m_wz (mRec M c) (upd (upd (m_z M) 3 (nI (k - 1))) (44 + 2 * j) (m_z M (44 + 2 * (k - 1))))) (45 + 2 * (k - 1)) = m_z M (45 + 2 * (k - 1)) from (upd_ne (by omega)).trans (upd_ne (by omega))] at this
    exact this
  refine Ct_of (by decide) (Nat.le_of_ble_eq_true rfl) ?_
  refine E_aload_n dX4_take_0 (by rfl) ?_
  refine E_iload_n dX4_take_1 (by rfl) ?_
  refine cs_X4_take_2 (by assumption) (Nat.le_of_ble_eq_true rfl) (n_carpetFrom h hk hk6 x) ?_
  rw [hw]
  refine E_istore_n dX4_take_5 (Nat.le_of_ble_eq_true rfl) (by rfl) ?_
  refine E_iload_n dX4_take_6 (by rfl) ?_
  refine E_bipush (v := (-6)) dX4_take_7 (by decide) ?_
  refine E_icmp_ne (n := (-6)) (by decide) (tgt := 14) dX4_take_9 (by decide) (fun q9 => ?_) (fun q9 => ?_)
  · refine E_aload_n dX4_take_14 (by rfl) ?_
    refine cs_X4_take_15 (by assumption) (Nat.le_of_ble_eq_true rfl) hrec ?_
    refine E_aload_n dX4_take_18 (by rfl) ?_
    refine E_iload_n dX4_take_19 (by rfl) ?_
    refine cs_X4_take_20 (by assumption) (Nat.le_of_ble_eq_true rfl) (n_lower h1 j (by omega)) ?_
    refine E_istore_n dX4_take_23 (Nat.le_of_ble_eq_true rfl) (by rfl) ?_
    refine E_aload_n dX4_take_24 (by rfl) ?_
    refine gf_X4_7 dX4_take_25 rfl (by assumption) (by rfl) ?_
    refine E_iconst (v := 3) dX4_take_28 (by decide) ?_
    refine E_dup2 dX4_take_29 rfl rfl ?_
    refine E_iald dX4_take_30 (by assumption) (i_in (by decide) (by decide)) ?_
    rw [e3, show m_z (mRec M c) 3 = nI k from hk]
    refine E_iconst (v := 1) dX4_take_31 (by decide) ?_
    refine E_isub dX4_take_32 ?_
    rw [ek]
    refine E_iast dX4_take_33 (by assumption) (i_in (by decide) (by decide)) ?_
    refine E_mem ((mS_z h _ _).trans (congrArg (fun f => mPut mem (m_wz (mRec M c) f)) (show _ = upd (m_z M) 3 (nI (k - 1)) by rw [e3]))) ?_
    refine E_aload_n dX4_take_34 (by rfl) ?_
    refine gf_X4_7 dX4_take_35 rfl (by assumption) (by rfl) ?_
    refine E_bipush (v := 44) dX4_take_38 (by decide) ?_
    refine E_iconst (v := 2) dX4_take_40 (by decide) ?_
    refine E_iload_n dX4_take_41 (by rfl) ?_
    refine E_imul dX4_take_42 ?_
    refine E_iadd dX4_take_43 ?_
    rw [n_ix2]
    refine E_aload_n dX4_take_44 (by rfl) ?_
    refine E_aload_n dX4_take_45 (by rfl) ?_
    refine gf_X4_7 dX4_take_46 rfl (by assumption) (by rfl) ?_
    refine E_iconst (v := 3) dX4_take_49 (by decide) ?_
    refine E_iald dX4_take_50 (by assumption) (i_in (by decide) (by decide)) ?_
    rw [e3, show m_z (m_wz (mRec M c) (upd (m_z M) 3 (nI (k - 1)))) 3 = nI (k - 1) from upd_same (f := m_z M) (i := 3)]
    refine cs_X4_take_51 (by assumption) (Nat.le_of_ble_eq_true rfl) hup ?_
    refine E_iast dX4_take_54 (by assumption) (i_in (by omega) (by omega)) ?_
    refine E_mem ((mS_z h _ _).trans (congrArg (fun f => mPut mem (m_wz (mRec M c) f)) (show _ = upd (upd (m_z M) 3 (nI (k - 1))) (44 + 2 * j) (m_z M (44 + 2 * (k - 1))) by rw [ee2]))) ?_
    refine E_aload_n dX4_take_55 (by rfl) ?_
    refine gf_X4_7 dX4_take_56 rfl (by assumption) (by rfl) ?_
    refine E_bipush (v := 44) dX4_take_59 (by decide) ?_
    refine E_iconst (v := 2) dX4_take_61 (by decide) ?_
    refine E_iload_n dX4_take_62 (by rfl) ?_
    refine E_imul dX4_take_63 ?_
    refine E_iadd dX4_take_64 ?_
    refine E_iconst (v := 1) dX4_take_65 (by decide) ?_
    refine E_iadd dX4_take_66 ?_
    rw [n_ix3]
    refine E_aload_n dX4_take_67 (by rfl) ?_
    refine E_aload_n dX4_take_68 (by rfl) ?_
    refine gf_X4_7 dX4_take_69 rfl (by assumption) (by rfl) ?_
    refine E_iconst (v := 3) dX4_take_72 (by decide) ?_
    refine E_iald dX4_take_73 (by assumption) (i_in (by decide) (by decide)) ?_
    rw [e3, show m_z (m_wz (mRec M c) (upd (upd (m_z M) 3 (nI (k - 1))) (44 + 2 * j) (m_z M (44 + 2 * (k - 1))))) 3 = nI (k - 1) from (upd_ne (by omega)).trans upd_same]
    refine cs_X4_take_74 (by assumption) (Nat.le_of_ble_eq_true rfl) hlo ?_
    refine E_iast dX4_take_77 (by assumption) (i_in (by omega) (by omega)) ?_
    refine E_mem ((mS_z h _ _).trans (congrArg (fun f => mPut mem (m_wz (mRec M c) f)) (show _ = mTake (m_z M) j k by rw [ef2]; rfl))) ?_
    refine E_iload_n dX4_take_78 (by rfl) ?_
    refine E_iret dX4_take_79 rfl rfl (Nat.zero_le _) (Nat.zero_le _) ?_
    exact ⟨rfl, rfl⟩
  · exact absurd q9 (by omega)
def mWP (z : Nat → Int32) (k : Nat) (x : Int32) : Int32 := if ¬ m_st z x then -1 else if m_la z x.toNatClampNeg ∨ (mCF z x k).toInt ≠ -6 then -3 else 0
theorem m_st_rng {z : Nat → Int32} {x : Int32} (hx : m_st z x) (ht : z 0 = nI t) (ht60 : t ≤ 60) (ht1 : 1 ≤ t) : 1 ≤ x.toInt ∧ x.toInt < t := by
  obtain ⟨h1, h2⟩ := hx
  rw [ht, show nI t - 1 = nI (t - 1) from pk_sub ht1, nI_toInt (by omega)] at h2
  omega
theorem n_isLandingI (h : mAt mem M) (x : Int32) (h1 : 0 ≤ x.toInt) (h2 : x.toInt ≤ 60) : Dt G kX4_isLanding [.ref 86, .int x] mem (some (.int (b2i (m_la (m_z M) x.toNatClampNeg)))) mem := by
  have ex : x = nI x.toNatClampNeg := i_nI h1
  have := n_isLanding (G := G) h x.toNatClampNeg (by have := i_cl (x := x) h1; omega)
  rw [← ex] at this
  exact this
theorem n_whyNotPut (h : mAt mem M) (hk : m_z M 3 = nI k) (hk6 : k ≤ 6) (ht : m_z M 0 = nI t) (ht60 : t ≤ 60) (ht1 : 1 ≤ t) (x : Int32) : Dt G kX4_whyNotPut [.ref 86, .int x] mem (some (.int (mWP (m_z M) k x))) mem := by
  obtain ⟨a0, a1, a2, a3, a4, a5, a6, a7⟩ := id h
  refine Ct_of (by decide) (Nat.le_of_ble_eq_true rfl) ?_
  unfold mWP
  refine E_aload_n dX4_whyNotPut_0 (by rfl) ?_
  refine E_iload_n dX4_whyNotPut_1 (by rfl) ?_
  refine cs_X4_whyNotPut_2 (by assumption) (Nat.le_of_ble_eq_true rfl) (n_isStep h x) ?_
  refine E_if_ne (tgt := 12) dX4_whyNotPut_5 (by decide) (fun q5 => ?_) (fun q5 => ?_)
  · rw [b2i_T0] at q5; have q5 := Classical.not_not.mp q5
    refine E_aload_n dX4_whyNotPut_12 (by rfl) ?_
    refine E_iload_n dX4_whyNotPut_13 (by rfl) ?_
    refine cs_X4_whyNotPut_14 (by assumption) (Nat.le_of_ble_eq_true rfl) (n_isLandingI h x (by have := m_st_rng q5 ht ht60 ht1; omega) (by have := m_st_rng q5 ht ht60 ht1; omega)) ?_
    refine E_if_ne (tgt := 30) dX4_whyNotPut_17 (by decide) (fun q17 => ?_) (fun q17 => ?_)
    · rw [b2i_T0] at q17; have q17 := Classical.not_not.mp q17
      refine E_bipush (v := (-3)) dX4_whyNotPut_30 (by decide) ?_
      refine E_goto (tgt := 36) dX4_whyNotPut_32 (by decide) ?_
      refine E_iret dX4_whyNotPut_36 rfl rfl (Nat.zero_le _) (Nat.zero_le _) ?_
      exact x_leaf (by rw [if_neg (not_not_intro q5), if_pos (Or.inl q17)])
    · rw [b2i_T0] at q17
      refine E_aload_n dX4_whyNotPut_20 (by rfl) ?_
      refine E_iload_n dX4_whyNotPut_21 (by rfl) ?_
      refine cs_X4_whyNotPut_22 (by assumption) (Nat.le_of_ble_eq_true rfl) (n_carpetFrom h hk hk6 _) ?_
      refine E_bipush (v := (-6)) dX4_whyNotPut_25 (by decide) ?_
      refine E_icmp_eq (n := (-6)) (by decide) (tgt := 35) dX4_whyNotPut_27 (by decide) (fun q27 => ?_) (fun q27 => ?_)
      · refine E_iconst (v := 0) dX4_whyNotPut_35 (by decide) ?_
        refine E_iret dX4_whyNotPut_36 rfl rfl (Nat.zero_le _) (Nat.zero_le _) ?_
        exact x_leaf (by rw [if_neg (not_not_intro q5), if_neg (fun z => z.elim q17 (fun z => z q27))])
      · refine E_bipush (v := (-3)) dX4_whyNotPut_30 (by decide) ?_
        refine E_goto (tgt := 36) dX4_whyNotPut_32 (by decide) ?_
        refine E_iret dX4_whyNotPut_36 rfl rfl (Nat.zero_le _) (Nat.zero_le _) ?_
        exact x_leaf (by rw [if_neg (not_not_intro q5), if_pos (Or.inr q27)])
  · rw [b2i_T0] at q5
    refine E_iconst (v := (-1)) dX4_whyNotPut_8 (by decide) ?_
    refine E_goto (tgt := 36) dX4_whyNotPut_9 (by decide) ?_
    refine E_iret dX4_whyNotPut_36 rfl rfl (Nat.zero_le _) (Nat.zero_le _) ?_
    exact x_leaf (by rw [if_pos q5])
theorem n_puts (h : mAt mem M) (N : mS) (s : Nat) (hs : s ≤ 60) : Dt G kX4_puts [.ref 86, .int (nI s)] (mPut mem N) (some (.int (sSm (fun j => upd (m_z N) (57 + s) 1 (57 + j)) 61))) (mPut mem (m_wz N (upd (m_z N) (57 + s) 1))) := by
  obtain ⟨a0, a1, a2, a3, a4, a5, a6, a7⟩ := mAt_put h N
  obtain ⟨d0, d1, d2, d3, d4, d5, d6, d7⟩ := mAt_put h (m_wz N (upd (m_z N) (57 + s) 1))
  have e1 : (nI (57 + s)).toInt = ((57 + s : Nat) : Int) := nI_toInt (by omega)
  have e2 : (nI (57 + s)).toNatClampNeg = 57 + s := nI_clamp (by omega)
  have e3 : (57 : Int32) + nI s = nI (57 + s) := nI_add 57 s
  refine Ct_of (by decide) (Nat.le_of_ble_eq_true rfl) ?_
  refine E_aload_n dX4_puts_0 (by rfl) ?_
  refine gf_X4_7 dX4_puts_1 rfl (by assumption) (by rfl) ?_
  refine E_bipush (v := 57) dX4_puts_4 (by decide) ?_
  refine E_iload_n dX4_puts_6 (by rfl) ?_
  refine E_iadd dX4_puts_7 ?_
  rw [e3]
  refine E_iconst (v := 1) dX4_puts_8 (by decide) ?_
  refine E_iast dX4_puts_9 (by assumption) (i_in (by omega) (by omega)) ?_
  refine E_mem ((mS_z h _ _).trans (congrArg (fun f => mPut mem (m_wz N f)) (show _ = upd (m_z N) (57 + s) 1 by rw [e2]))) ?_
  refine E_aload_n dX4_puts_10 (by rfl) ?_
  refine cs_X4_puts_11 (by assumption) (Nat.le_of_ble_eq_true rfl) (n_landings (mAt_put h (m_wz N (upd (m_z N) (57 + s) 1)))) ?_
  refine E_iret dX4_puts_14 rfl rfl (Nat.zero_le _) (Nat.zero_le _) ?_
  exact ⟨rfl, rfl⟩
theorem n_put_no (h : mAt mem M) (hk : m_z M 3 = nI k) (hk6 : k ≤ 6) (ht : m_z M 0 = nI t) (ht60 : t ≤ 60) (ht1 : 1 ≤ t) (x : Int32) (hw : (mWP (m_z M) k x).toInt < 0) : Dt G kX4_put [.ref 86, .int x] mem (some (.int (mWP (m_z M) k x))) mem := by
  obtain ⟨z0, z1, z2, z3, z4, z5, z6, z7⟩ := id h
  refine Ct_of (by decide) (Nat.le_of_ble_eq_true rfl) ?_
  refine E_aload_n dX4_put_0 (by rfl) ?_
  refine E_iload_n dX4_put_1 (by rfl) ?_
  refine cs_X4_put_2 (by assumption) (Nat.le_of_ble_eq_true rfl) (n_whyNotPut h hk hk6 ht ht60 ht1 x) ?_
  refine E_istore_n dX4_put_5 (Nat.le_of_ble_eq_true rfl) (by rfl) ?_
  refine E_iload_n dX4_put_6 (by rfl) ?_
  refine E_if_ge (tgt := 12) dX4_put_7 (by decide) (fun q7 => ?_) (fun q7 => ?_)
  · exact absurd q7 (by omega)
  · refine E_iload_n dX4_put_10 (by rfl) ?_
    refine E_iret dX4_put_11 rfl rfl (Nat.zero_le _) (Nat.zero_le _) ?_
    exact ⟨rfl, rfl⟩
theorem n_put (h : mAt mem M) (hk : m_z M 3 = nI k) (hk6 : k ≤ 6) (ht : m_z M 0 = nI t) (ht60 : t ≤ 60) (ht1 : 1 ≤ t) (hp : m_pm M = nI c) (hc5 : c ≤ 5) (s : Nat) (hs : s ≤ 60) (hw : ¬ (mWP (m_z M) k (nI s)).toInt < 0) : Dt G kX4_put [.ref 86, .int (nI s)] mem (some (.int (sSm (fun j => upd (m_z M) (57 + s) 1 (57 + j)) 61))) (mPut mem (m_wz (mRec M c) (upd (m_z M) (57 + s) 1))) := by
  have hrec := n_record (G := G) h M hp hc5
  rw [mPut_self h] at hrec
  obtain ⟨a0, a1, a2, a3, a4, a5, a6, a7⟩ := id h
  obtain ⟨b0, b1, b2, b3, b4, b5, b6, b7⟩ := mAt_put h (mRec M c)
  refine Ct_of (by decide) (Nat.le_of_ble_eq_true rfl) ?_
  refine E_aload_n dX4_put_0 (by rfl) ?_
  refine E_iload_n dX4_put_1 (by rfl) ?_
  refine cs_X4_put_2 (by assumption) (Nat.le_of_ble_eq_true rfl) (n_whyNotPut h hk hk6 ht ht60 ht1 _) ?_
  refine E_istore_n dX4_put_5 (Nat.le_of_ble_eq_true rfl) (by rfl) ?_
  refine E_iload_n dX4_put_6 (by rfl) ?_
  refine E_if_ge (tgt := 12) dX4_put_7 (by decide) (fun q7 => ?_) (fun q7 => ?_)
  · refine E_aload_n dX4_put_12 (by rfl) ?_
    refine cs_X4_put_13 (by assumption) (Nat.le_of_ble_eq_true rfl) hrec ?_
    refine E_aload_n dX4_put_16 (by rfl) ?_
    refine E_iload_n dX4_put_17 (by rfl) ?_
    refine cs_X4_put_18 (by assumption) (Nat.le_of_ble_eq_true rfl) (n_puts h (mRec M c) s hs) ?_
    refine E_iret dX4_put_21 rfl rfl (Nat.zero_le _) (Nat.zero_le _) ?_
    exact ⟨rfl, rfl⟩
  · exact absurd q7 (by omega)
theorem n_remove_no (h : mAt mem M) (ht : m_z M 0 = nI t) (ht60 : t ≤ 60) (ht1 : 1 ≤ t) (x : Int32) (hw : ¬ (m_st (m_z M) x ∧ m_la (m_z M) x.toNatClampNeg)) : Dt G kX4_remove [.ref 86, .int x] mem (some (.int (-1))) mem := by
  obtain ⟨z0, z1, z2, z3, z4, z5, z6, z7⟩ := id h
  refine Ct_of (by decide) (Nat.le_of_ble_eq_true rfl) ?_
  refine E_aload_n dX4_remove_0 (by rfl) ?_
  refine E_iload_n dX4_remove_1 (by rfl) ?_
  refine cs_X4_remove_2 (by assumption) (Nat.le_of_ble_eq_true rfl) (n_isStep h x) ?_
  refine E_if_eq (tgt := 16) dX4_remove_5 (by decide) (fun q5 => ?_) (fun q5 => ?_)
  · refine E_iconst (v := (-1)) dX4_remove_16 (by decide) ?_
    refine E_iret dX4_remove_17 rfl rfl (Nat.zero_le _) (Nat.zero_le _) ?_
    exact ⟨rfl, rfl⟩
  · rw [b2i_T0] at q5; have q5 := Classical.not_not.mp q5
    refine E_aload_n dX4_remove_8 (by rfl) ?_
    refine E_iload_n dX4_remove_9 (by rfl) ?_
    refine cs_X4_remove_10 (by assumption) (Nat.le_of_ble_eq_true rfl) (n_isLandingI h x (by have := m_st_rng q5 ht ht60 ht1; omega) (by have := m_st_rng q5 ht ht60 ht1; omega)) ?_
    refine E_if_ne (tgt := 18) dX4_remove_13 (by decide) (fun q13 => ?_) (fun q13 => ?_)
    · rw [b2i_T0] at q13; exact absurd ⟨q5, Classical.not_not.mp q13⟩ hw
    · refine E_iconst (v := (-1)) dX4_remove_16 (by decide) ?_
      refine E_iret dX4_remove_17 rfl rfl (Nat.zero_le _) (Nat.zero_le _) ?_
      exact ⟨rfl, rfl⟩
theorem n_remove (h : mAt mem M) (ht : m_z M 0 = nI t) (ht60 : t ≤ 60) (ht1 : 1 ≤ t) (hn : m_z M 1 = nI n) (hn6 : n ≤ 6) (hp : m_pm M = nI c) (hc5 : c ≤ 5) (s : Nat) (hs : s ≤ 60) (hw : m_st (m_z M) (nI s) ∧ m_la (m_z M) s) : Dt G kX4_remove [.ref 86, .int (nI s)] mem (some (.int (sBits (sOn (m_pl (upd (m_z M) (57 + s) 0)) (nI s) n) 6))) (mPut mem (m_wz (mRec M c) (upd (m_z M) (57 + s) 0))) := by
  have hrec := n_record (G := G) h M hp hc5
  rw [mPut_self h] at hrec
  have e1 : (nI (57 + s)).toInt = ((57 + s : Nat) : Int) := nI_toInt (by omega)
  have e2 : (nI (57 + s)).toNatClampNeg = 57 + s := nI_clamp (by omega)
  have e3 : (57 : Int32) + nI s = nI (57 + s) := nI_add 57 s
  obtain ⟨a0, a1, a2, a3, a4, a5, a6, a7⟩ := id h
  obtain ⟨b0, b1, b2, b3, b4, b5, b6, b7⟩ := mAt_put h (mRec M c)
  obtain ⟨d0, d1, d2, d3, d4, d5, d6, d7⟩ := mAt_put h (m_wz (mRec M c) (upd (m_z M) (57 + s) 0))
  refine Ct_of (by decide) (Nat.le_of_ble_eq_true rfl) ?_
  refine E_aload_n dX4_remove_0 (by rfl) ?_
  refine E_iload_n dX4_remove_1 (by rfl) ?_
  refine cs_X4_remove_2 (by assumption) (Nat.le_of_ble_eq_true rfl) (n_isStep h _) ?_
  refine E_if_eq (tgt := 16) dX4_remove_5 (by decide) (fun q5 => ?_) (fun q5 => ?_)
  · rw [b2i_T0] at q5; exact absurd hw.1 q5
  · refine E_aload_n dX4_remove_8 (by rfl) ?_
    refine E_iload_n dX4_remove_9 (by rfl) ?_
    refine cs_X4_remove_10 (by assumption) (Nat.le_of_ble_eq_true rfl) (n_isLanding h s hs) ?_
    refine E_if_ne (tgt := 18) dX4_remove_13 (by decide) (fun q13 => ?_) (fun q13 => ?_)
    · refine E_aload_n dX4_remove_18 (by rfl) ?_
      refine cs_X4_remove_19 (by assumption) (Nat.le_of_ble_eq_true rfl) hrec ?_
      refine E_aload_n dX4_remove_22 (by rfl) ?_
      refine gf_X4_7 dX4_remove_23 rfl (by assumption) (by rfl) ?_
      refine E_bipush (v := 57) dX4_remove_26 (by decide) ?_
      refine E_iload_n dX4_remove_28 (by rfl) ?_
      refine E_iadd dX4_remove_29 ?_
      rw [e3]
      refine E_iconst (v := 0) dX4_remove_30 (by decide) ?_
      refine E_iast dX4_remove_31 (by assumption) (i_in (by omega) (by omega)) ?_
      refine E_mem ((mS_z h _ _).trans (congrArg (fun f => mPut mem (m_wz (mRec M c) f)) (show _ = upd (m_z M) (57 + s) 0 by rw [e2]))) ?_
      refine E_aload_n dX4_remove_32 (by rfl) ?_
      refine E_iload_n dX4_remove_33 (by rfl) ?_
      refine cs_X4_remove_34 (by assumption) (Nat.le_of_ble_eq_true rfl) (n_climbersOn (mAt_put h (m_wz (mRec M c) (upd (m_z M) (57 + s) 0))) ((upd_ne (by omega)).trans hn) hn6 _) ?_
      refine cs_X4_remove_37 (Nat.le_of_ble_eq_true rfl) (n_bits _) ?_
      refine E_iret dX4_remove_40 rfl rfl (Nat.zero_le _) (Nat.zero_le _) ?_
      exact ⟨rfl, rfl⟩
    · rw [b2i_T0] at q13; exact absurd hw.2 q13
/-- climber c's first w words are 0 -/
def mZr (z : Nat → Int32) (c w : Nat) : Nat → Int32 := fun j => if 8 + 6 * c ≤ j ∧ j < 8 + 6 * c + w then 0 else z j
theorem mZr_s (z : Nat → Int32) (c w : Nat) : upd (mZr z c w) (8 + 6 * c + w) 0 = mZr z c (w + 1) := by
  funext j
  unfold upd mZr
  by_cases e : j = 8 + 6 * c + w
  · rw [if_pos e, if_pos (by omega)]
  · rw [if_neg e]
    by_cases e2 : 8 + 6 * c ≤ j ∧ j < 8 + 6 * c + w
    · rw [if_pos e2, if_pos (by omega)]
    · rw [if_neg e2, if_neg (by omega)]
theorem mZr_0 (z : Nat → Int32) (c : Nat) : mZr z c 0 = z := by funext j; unfold mZr; rw [if_neg (by omega)]
def mJoin (z : Nat → Int32) (n : Nat) : Nat → Int32 := upd (mZr z n 6) 1 (nI (n + 1))
theorem n_joins (h : mAt mem M) (N : mS) (hn : m_z N 1 = nI n) (hn6 : n < 6) : Dt G kX4_joins [.ref 86] (mPut mem N) (some (.int (nI n))) (mPut mem (m_wz N (mJoin (m_z N) n))) := by
  have e1 : (1 : Int32).toNatClampNeg = 1 := by decide
  have gz : ∀ w, mZr (m_z N) n w 1 = nI n := fun w => by unfold mZr; rw [if_neg (by omega)]; exact hn
  refine Ct_of (by decide) (Nat.le_of_ble_eq_true rfl) ?_
  have loop : ∀ di i : Nat, 6 < i + di → i ≤ 6 → E G kX4_joins (x_R (some (.int (nI n))) (mPut mem (m_wz N (mJoin (m_z N) n)))) 0 0 ((mPut mem (m_wz N (mZr (m_z N) n i)))) 2 (x_L [(0, .ref 86), (1, .int (nI i))]) [] := by
    intro di
    induction di with
    | zero => intro i hi1 hi2; exact absurd hi1 (by omega)
    | succ di ihi =>
      intro i hi1 hi2
      have ei : (nI i).toInt = (i : Int) := nI_toInt (by omega)
      have eci : (nI i).toNatClampNeg = i := nI_clamp (by omega)
      obtain ⟨a0, a1, a2, a3, a4, a5, a6, a7⟩ := mAt_put h (m_wz N (mZr (m_z N) n i))
      obtain ⟨d0, d1, d2, d3, d4, d5, d6, d7⟩ := mAt_put h (m_wz N (mJoin (m_z N) n))
      refine E_iload_n dX4_joins_2 (by rfl) ?_
      refine E_bipush (v := 6) dX4_joins_3 (by decide) ?_
      refine E_icmp_ge (n := 6) (by decide) (tgt := 26) dX4_joins_5 (by decide) (fun q5 => ?_) (fun q5 => ?_)
      · obtain rfl : i = 6 := by omega
        refine E_aload_n dX4_joins_26 (by rfl) ?_
        refine gf_X4_7 dX4_joins_27 rfl (by assumption) (by rfl) ?_
        refine E_iconst (v := 1) dX4_joins_30 (by decide) ?_
        refine E_dup2 dX4_joins_31 rfl rfl ?_
        refine E_iald dX4_joins_32 (by assumption) (i_in (by decide) (by decide)) ?_
        rw [e1, show m_z (m_wz N (mZr (m_z N) n 6)) 1 = nI n from gz 6]
        refine E_iconst (v := 1) dX4_joins_33 (by decide) ?_
        refine E_iadd dX4_joins_34 ?_
        rw [nI_1]
        refine E_iast dX4_joins_35 (by assumption) (i_in (by decide) (by decide)) ?_
        refine E_mem ((mS_z h _ _).trans (congrArg (fun f => mPut mem (m_wz N f)) (show _ = mJoin (m_z N) n by rw [e1]; rfl))) ?_
        refine E_aload_n dX4_joins_36 (by rfl) ?_
        refine gf_X4_7 dX4_joins_37 rfl (by assumption) (by rfl) ?_
        refine E_iconst (v := 1) dX4_joins_40 (by decide) ?_
        refine E_iald dX4_joins_41 (by assumption) (i_in (by decide) (by decide)) ?_
        rw [e1, show m_z (m_wz N (mJoin (m_z N) n)) 1 = nI (n + 1) from upd_same (f := mZr (m_z N) n 6) (i := 1)]
        refine E_iconst (v := 1) dX4_joins_42 (by decide) ?_
        refine E_isub dX4_joins_43 ?_
        refine E_iret dX4_joins_44 rfl rfl (Nat.zero_le _) (Nat.zero_le _) ?_
        exact x_leaf (by rw [show nI (n + 1) - 1 = nI (n + 1 - 1) from pk_sub (show 1 ≤ n + 1 by omega)]; rfl)
      · refine E_aload_n dX4_joins_8 (by rfl) ?_
        refine E_aload_n dX4_joins_9 (by rfl) ?_
        refine gf_X4_7 dX4_joins_10 rfl (by assumption) (by rfl) ?_
        refine E_iconst (v := 1) dX4_joins_13 (by decide) ?_
        refine E_iald dX4_joins_14 (by assumption) (i_in (by decide) (by decide)) ?_
        rw [e1, show m_z (m_wz N (mZr (m_z N) n i)) 1 = nI n from gz i]
        refine E_iload_n dX4_joins_15 (by rfl) ?_
        refine E_iconst (v := 0) dX4_joins_16 (by decide) ?_
        refine cs_X4_joins_17 (by assumption) (Nat.le_of_ble_eq_true rfl) (n_lays h n i hn6 (by omega) 0) ?_
        refine E_iinc (d := 1) dX4_joins_20 (by rfl) (by decide) (Nat.le_of_ble_eq_true rfl) (by rfl) ?_
        refine E_goto (tgt := 2) dX4_joins_23 (by decide) ?_
        refine E_mem (congrArg (fun f => mPut mem (m_wz N f)) (mZr_s (m_z N) n i)) ?_
        exact E_loc [(0, .ref 86), (1, .int (nI (i + 1)))] ⟨rfl, x_i (by first | exact nI_1 _ | decide), trivial⟩ (ihi (i + 1) (by omega) (by omega))
  refine E_iconst (v := 0) dX4_joins_0 (by decide) ?_
  refine E_istore_n dX4_joins_1 (Nat.le_of_ble_eq_true rfl) (by rfl) ?_
  refine E_mem (show mPut mem N = mPut mem (m_wz N (mZr (m_z N) n 0)) by rw [mZr_0]) ?_
  exact E_loc [(0, .ref 86), (1, .int (nI 0))] ⟨rfl, x_i rfl, trivial⟩ (loop (6 + 1) 0 (by omega) (by omega))
theorem n_join_no (h : mAt mem M) (hn : m_z M 1 = nI 6) : Dt G kX4_join [.ref 86] mem (some (.int (-4))) mem := by
  obtain ⟨a0, a1, a2, a3, a4, a5, a6, a7⟩ := id h
  have e1 : (1 : Int32).toNatClampNeg = 1 := by decide
  have e6 : (m_z M (1 : Int32).toNatClampNeg).toInt = 6 := by rw [e1, hn]; decide
  refine Ct_of (by decide) (Nat.le_of_ble_eq_true rfl) ?_
  refine E_aload_n dX4_join_0 (by rfl) ?_
  refine gf_X4_7 dX4_join_1 rfl (by assumption) (by rfl) ?_
  refine E_iconst (v := 1) dX4_join_4 (by decide) ?_
  refine E_iald dX4_join_5 (by assumption) (i_in (by decide) (by decide)) ?_
  refine E_bipush (v := 6) dX4_join_6 (by decide) ?_
  refine E_icmp_ne (n := 6) (by decide) (tgt := 14) dX4_join_8 (by decide) (fun q8 => ?_) (fun q8 => ?_)
  · exact absurd e6 q8
  · refine E_bipush (v := (-4)) dX4_join_11 (by decide) ?_
    refine E_iret dX4_join_13 rfl rfl (Nat.zero_le _) (Nat.zero_le _) ?_
    exact ⟨rfl, rfl⟩
theorem n_join (h : mAt mem M) (hn : m_z M 1 = nI n) (hn6 : n < 6) (hp : m_pm M = nI c) (hc5 : c ≤ 5) : Dt G kX4_join [.ref 86] mem (some (.int (nI n))) (mPut mem (m_wz (mRec M c) (mJoin (m_z M) n))) := by
  have hrec := n_record (G := G) h M hp hc5
  rw [mPut_self h] at hrec
  obtain ⟨a0, a1, a2, a3, a4, a5, a6, a7⟩ := id h
  obtain ⟨b0, b1, b2, b3, b4, b5, b6, b7⟩ := mAt_put h (mRec M c)
  have e1 : (1 : Int32).toNatClampNeg = 1 := by decide
  have e6 : (m_z M (1 : Int32).toNatClampNeg).toInt = (n : Int) := by rw [e1, hn]; exact nI_toInt (by omega)
  refine Ct_of (by decide) (Nat.le_of_ble_eq_true rfl) ?_
  refine E_aload_n dX4_join_0 (by rfl) ?_
  refine gf_X4_7 dX4_join_1 rfl (by assumption) (by rfl) ?_
  refine E_iconst (v := 1) dX4_join_4 (by decide) ?_
  refine E_iald dX4_join_5 (by assumption) (i_in (by decide) (by decide)) ?_
  refine E_bipush (v := 6) dX4_join_6 (by decide) ?_
  refine E_icmp_ne (n := 6) (by decide) (tgt := 14) dX4_join_8 (by decide) (fun q8 => ?_) (fun q8 => ?_)
  · refine E_aload_n dX4_join_14 (by rfl) ?_
    refine cs_X4_join_15 (by assumption) (Nat.le_of_ble_eq_true rfl) hrec ?_
    refine E_aload_n dX4_join_18 (by rfl) ?_
    refine cs_X4_join_19 (by assumption) (Nat.le_of_ble_eq_true rfl) (n_joins h (mRec M c) hn hn6) ?_
    refine E_iret dX4_join_22 rfl rfl (Nat.zero_le _) (Nat.zero_le _) ?_
    exact ⟨rfl, rfl⟩
  · exact absurd q8 (by omega)
end N3
