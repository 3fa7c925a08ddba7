/-! the reference: what is asked for -/
section N5
variable {G : xG} {mem : xM} {M N : mS} {z : Nat → Int32} {t n k c m : Nat}
def mWR (z : Nat → Int32) (u : Int32) : Int32 := if ¬ (1 ≤ u.toInt ∧ u.toInt ≤ 6) then -2 else if (z 1).toInt = 0 then -3 else 0
theorem n_whyNotRoll (h : mAt mem M) (u : Int32) : Dt G kX4_whyNotRoll [.ref 86, .int u] mem (some (.int (mWR (m_z M) u))) mem := by
  obtain ⟨a0, a1, a2, a3, a4, a5, a6, a7⟩ := id h
  refine Ct_of (by decide) (Nat.le_of_ble_eq_true rfl) ?_
  unfold mWR
  refine E_iload_n dX4_whyNotRoll_0 (by rfl) ?_
  refine E_iconst (v := 1) dX4_whyNotRoll_1 (by decide) ?_
  refine E_bipush (v := 6) dX4_whyNotRoll_2 (by decide) ?_
  refine cs_X4_whyNotRoll_4 (Nat.le_of_ble_eq_true rfl) (n_in _ _ _) ?_
  refine E_if_ne (tgt := 15) dX4_whyNotRoll_7 (by decide) (fun q7 => ?_) (fun q7 => ?_)
  · rw [b2i_T0] at q7; have q7 : 1 ≤ u.toInt ∧ u.toInt ≤ 6 := Classical.not_not.mp q7
    refine E_aload_n dX4_whyNotRoll_15 (by rfl) ?_
    refine gf_X4_7 dX4_whyNotRoll_16 rfl (by assumption) (by rfl) ?_
    refine E_iconst (v := 1) dX4_whyNotRoll_19 (by decide) ?_
    refine E_iald dX4_whyNotRoll_20 (by assumption) (i_in (by decide) (by decide)) ?_
    rw [n_1]
    refine E_if_ne (tgt := 29) dX4_whyNotRoll_21 (by decide) (fun q21 => ?_) (fun q21 => ?_)
    · refine E_iconst (v := 0) dX4_whyNotRoll_29 (by decide) ?_
      refine E_iret dX4_whyNotRoll_30 rfl rfl (Nat.zero_le _) (Nat.zero_le _) ?_
      exact x_leaf (by rw [if_neg (not_not_intro q7), if_neg q21])
    · refine E_bipush (v := (-3)) dX4_whyNotRoll_24 (by decide) ?_
      refine E_goto (tgt := 30) dX4_whyNotRoll_26 (by decide) ?_
      refine E_iret dX4_whyNotRoll_30 rfl rfl (Nat.zero_le _) (Nat.zero_le _) ?_
      exact x_leaf (by rw [if_neg (not_not_intro q7), if_pos q21])
  · rw [b2i_T0] at q7; have q7 : ¬ (1 ≤ u.toInt ∧ u.toInt ≤ 6) := q7
    refine E_bipush (v := (-2)) dX4_whyNotRoll_10 (by decide) ?_
    refine E_goto (tgt := 30) dX4_whyNotRoll_12 (by decide) ?_
    refine E_iret dX4_whyNotRoll_30 rfl rfl (Nat.zero_le _) (Nat.zero_le _) ?_
    exact x_leaf (by rw [if_pos q7])
theorem n_roll_no (h : mAt mem M) (u : Int32) (hw : (mWR (m_z M) u).toInt < 0) : Dt G kX4_roll [.ref 86, .int u] mem (some (.int (mWR (m_z M) u))) mem := by
  obtain ⟨a0, a1, a2, a3, a4, a5, a6, a7⟩ := id h
  refine Ct_of (by decide) (Nat.le_of_ble_eq_true rfl) ?_
  refine E_aload_n dX4_roll_0 (by rfl) ?_
  refine E_iload_n dX4_roll_1 (by rfl) ?_
  refine cs_X4_roll_2 (by assumption) (Nat.le_of_ble_eq_true rfl) (n_whyNotRoll h u) ?_
  refine E_istore_n dX4_roll_5 (Nat.le_of_ble_eq_true rfl) (by rfl) ?_
  refine E_iload_n dX4_roll_6 (by rfl) ?_
  refine E_if_ge (tgt := 12) dX4_roll_7 (by decide) (fun q7 => ?_) (fun q7 => ?_)
  · exact absurd q7 (by omega)
  · refine E_iload_n dX4_roll_10 (by rfl) ?_
    refine E_iret dX4_roll_11 rfl rfl (Nat.zero_le _) (Nat.zero_le _) ?_
    exact ⟨rfl, rfl⟩
theorem n_roll (h : mAt mem M) (hp : m_pm M = nI c) (hc5 : c ≤ 5) (hn : m_z M 1 = nI n) (hn6 : n ≤ 6) (hm : m_z M 2 = nI m) (hmn : m < n) (hk : m_z M 3 = nI k) (hk6 : k ≤ 6) (ht60 : (m_z M 0).toInt ≤ 60) (hpl : mPlo (m_z M) n) (u : Int32) (hu : 1 ≤ u.toInt ∧ u.toInt ≤ 6) (hto : 0 ≤ (m_z M (8 + 6 * m) + u).toInt) (hok : mRok (m_z M) n k m u) : Dt G kX4_roll [.ref 86, .int u] mem (some (.int (mRoll (m_z M) n k m u (8 + 6 * m)))) (mPut mem (m_wz (mRec M c) (mRoll (m_z M) n k m u))) := by
  have hrec := n_record (G := G) h M hp hc5
  rw [mPut_self h] at hrec
  obtain ⟨a0, a1, a2, a3, a4, a5, a6, a7⟩ := id h
  obtain ⟨b0, b1⟩ := mz_at h (mRec M c) (m_z M)
  have hw : mWR (m_z M) u = 0 := by
    unfold mWR
    rw [if_neg (not_not_intro hu), if_neg (by rw [hn, nI_toInt (by omega)]; omega)]
  have e0 : (0 : Int32).toInt = 0 := by decide
  refine Ct_of (by decide) (Nat.le_of_ble_eq_true rfl) ?_
  refine E_aload_n dX4_roll_0 (by rfl) ?_
  refine E_iload_n dX4_roll_1 (by rfl) ?_
  refine cs_X4_roll_2 (by assumption) (Nat.le_of_ble_eq_true rfl) (n_whyNotRoll h u) ?_
  rw [hw]
  refine E_istore_n dX4_roll_5 (Nat.le_of_ble_eq_true rfl) (by rfl) ?_
  refine E_iload_n dX4_roll_6 (by rfl) ?_
  refine E_if_ge (tgt := 12) dX4_roll_7 (by decide) (fun q7 => ?_) (fun q7 => ?_)
  · refine E_aload_n dX4_roll_12 (by rfl) ?_
    refine cs_X4_roll_13 (by assumption) (Nat.le_of_ble_eq_true rfl) hrec ?_
    refine E_mem (mem' := mPut mem (m_wz (mRec M c) (m_z M))) rfl ?_
    refine E_aload_n dX4_roll_16 (by rfl) ?_
    refine E_iload_n dX4_roll_17 (by rfl) ?_
    refine cs_X4_roll_18 (by assumption) (Nat.le_of_ble_eq_true rfl) (n_rolls h (mRec M c) (m_z M) hn hn6 hm hmn hk hk6 ht60 hpl u hto hok) ?_
    refine E_iret dX4_roll_21 rfl rfl (Nat.zero_le _) (Nat.zero_le _) ?_
    exact ⟨rfl, rfl⟩
  · exact absurd q7 (by decide)
theorem n_pass_no (h : mAt mem M) (hn : m_z M 1 = 0) : Dt G kX4_pass [.ref 86] mem (some (.int (-3))) mem := by
  obtain ⟨a0, a1, a2, a3, a4, a5, a6, a7⟩ := id h
  refine Ct_of (by decide) (Nat.le_of_ble_eq_true rfl) ?_
  refine E_aload_n dX4_pass_0 (by rfl) ?_
  refine gf_X4_7 dX4_pass_1 rfl (by assumption) (by rfl) ?_
  refine E_iconst (v := 1) dX4_pass_4 (by decide) ?_
  refine E_iald dX4_pass_5 (by assumption) (i_in (by decide) (by decide)) ?_
  rw [n_1, hn]
  refine E_if_ne (tgt := 12) dX4_pass_6 (by decide) (fun q6 => ?_) (fun q6 => ?_)
  · exact absurd q6 (by decide)
  · refine E_bipush (v := (-3)) dX4_pass_9 (by decide) ?_
    refine E_iret dX4_pass_11 rfl rfl (Nat.zero_le _) (Nat.zero_le _) ?_
    exact ⟨rfl, rfl⟩
theorem n_pass (h : mAt mem M) (hp : m_pm M = nI c) (hc5 : c ≤ 5) (hn : m_z M 1 = nI n) (hn6 : n ≤ 6) (hm : m_z M 2 = nI m) (hmn : m < n) (hok : mNok (m_z M) n m) : Dt G kX4_pass [.ref 86] mem (some (.int (nI (mNx (m_z M) n m).2))) (mPut mem (m_wz (mRec M c) (mNext (m_z M) n m))) := by
  have hrec := n_record (G := G) h M hp hc5
  rw [mPut_self h] at hrec
  obtain ⟨a0, a1, a2, a3, a4, a5, a6, a7⟩ := id h
  obtain ⟨b0, b1⟩ := mz_at h (mRec M c) (m_z M)
  obtain ⟨d0, d1⟩ := mz_at h (mRec M c) (mNext (m_z M) n m)
  have e2 : (2 : Int32).toNatClampNeg = 2 := by decide
  have en : (nI n).toInt = (n : Int) := nI_toInt (by omega)
  refine Ct_of (by decide) (Nat.le_of_ble_eq_true rfl) ?_
  refine E_aload_n dX4_pass_0 (by rfl) ?_
  refine gf_X4_7 dX4_pass_1 rfl (by assumption) (by rfl) ?_
  refine E_iconst (v := 1) dX4_pass_4 (by decide) ?_
  refine E_iald dX4_pass_5 (by assumption) (i_in (by decide) (by decide)) ?_
  rw [n_1, hn]
  refine E_if_ne (tgt := 12) dX4_pass_6 (by decide) (fun q6 => ?_) (fun q6 => ?_)
  · refine E_aload_n dX4_pass_12 (by rfl) ?_
    refine cs_X4_pass_13 (by assumption) (Nat.le_of_ble_eq_true rfl) hrec ?_
    refine E_mem (mem' := mPut mem (m_wz (mRec M c) (m_z M))) rfl ?_
    refine E_aload_n dX4_pass_16 (by rfl) ?_
    refine cs_X4_pass_17 (by assumption) (Nat.le_of_ble_eq_true rfl) (n_nextMover h (mRec M c) (m_z M) hn hn6 hm hmn hok) ?_
    refine E_aload_n dX4_pass_20 (by rfl) ?_
    refine gf_X4_7 dX4_pass_21 rfl (by assumption) (by rfl) ?_
    refine E_iconst (v := 2) dX4_pass_24 (by decide) ?_
    refine E_iald dX4_pass_25 (by assumption) (i_in (by decide) (by decide)) ?_
    refine E_iret dX4_pass_26 rfl rfl (Nat.zero_le _) (Nat.zero_le _) ?_
    refine ⟨?_, rfl⟩
    rw [e2]
    exact congrArg (fun v => some (Value.int v)) (upd_same (f := (mNx (m_z M) n m).1) (i := 2))
  · exact absurd q6 (by omega)
def mPC (z : Nat → Int32) (x p : Int32) : Int32 := if m_cl z x then (if p.toInt = 6 then mPr z x.toNatClampNeg else if 0 ≤ p.toInt ∧ p.toInt ≤ 5 then z (8 + 6 * x.toNatClampNeg + p.toNatClampNeg) else -2) else -1
theorem m_cl_lt {x : Int32} (hn : z 1 = nI n) (hn6 : n ≤ 6) (hx : m_cl z x) : 0 ≤ x.toInt ∧ x.toInt < n := by
  obtain ⟨h1, h2⟩ := hx
  rw [hn] at h2
  by_cases e : n = 0
  · subst e
    rw [show (nI 0 - 1).toInt = -1 by decide] at h2
    omega
  · rw [show nI n - 1 = nI (n - 1) from pk_sub (show 1 ≤ n by omega), nI_toInt (by omega)] at h2
    omega
theorem n_climber (h : mAt mem M) (hn : m_z M 1 = nI n) (hn6 : n ≤ 6) (x p : Int32) : Dt G kX4_climber [.ref 86, .int x, .int p] mem (some (.int (mPC (m_z M) x p))) mem := by
  obtain ⟨a0, a1, a2, a3, a4, a5, a6, a7⟩ := id h
  refine Ct_of (by decide) (Nat.le_of_ble_eq_true rfl) ?_
  unfold mPC
  have hpr : m_cl (m_z M) x → Dt G kX4_progress [.ref 86, .int x] mem (some (.int (mPr (m_z M) x.toNatClampNeg))) mem := fun hx => by
    have b := m_cl_lt hn hn6 hx
    have := n_progress (G := G) h x.toNatClampNeg (by have := i_cl b.1; omega)
    rw [← i_nI b.1] at this
    exact this
  have hof : m_cl (m_z M) x → 0 ≤ p.toInt ∧ p.toInt ≤ 5 → Dt G kX4_of [.ref 86, .int x, .int p] mem (some (.int (m_z M (8 + 6 * x.toNatClampNeg + p.toNatClampNeg)))) mem := fun hx hp => by
    have b := m_cl_lt hn hn6 hx
    have := n_of (G := G) h x.toNatClampNeg p.toNatClampNeg (by have := i_cl b.1; omega) (by have := i_cl hp.1; omega)
    rw [← i_nI b.1, ← i_nI hp.1] at this
    exact this
  refine E_aload_n dX4_climber_0 (by rfl) ?_
  refine E_iload_n dX4_climber_1 (by rfl) ?_
  refine cs_X4_climber_2 (by assumption) (Nat.le_of_ble_eq_true rfl) (n_isClimber h x) ?_
  refine E_if_ne (tgt := 10) dX4_climber_5 (by decide) (fun q5 => ?_) (fun q5 => ?_)
  · rw [b2i_T0] at q5; have q5 := Classical.not_not.mp q5
    refine E_iload_n dX4_climber_10 (by rfl) ?_
    refine E_bipush (v := 6) dX4_climber_11 (by decide) ?_
    refine E_icmp_ne (n := 6) (by decide) (tgt := 24) dX4_climber_13 (by decide) (fun q13 => ?_) (fun q13 => ?_)
    · refine E_iload_n dX4_climber_24 (by rfl) ?_
      refine E_iconst (v := 0) dX4_climber_25 (by decide) ?_
      refine E_iconst (v := 5) dX4_climber_26 (by decide) ?_
      refine cs_X4_climber_27 (Nat.le_of_ble_eq_true rfl) (n_in _ _ _) ?_
      refine E_if_eq (tgt := 42) dX4_climber_30 (by decide) (fun q30 => ?_) (fun q30 => ?_)
      · rw [b2i_T0] at q30; have q30 : ¬ (0 ≤ p.toInt ∧ p.toInt ≤ 5) := q30
        refine E_bipush (v := (-2)) dX4_climber_42 (by decide) ?_
        refine E_iret dX4_climber_44 rfl rfl (Nat.zero_le _) (Nat.zero_le _) ?_
        exact x_leaf (by rw [if_pos q5, if_neg q13, if_neg q30])
      · rw [b2i_T0] at q30; have q30 : 0 ≤ p.toInt ∧ p.toInt ≤ 5 := Classical.not_not.mp q30
        refine E_aload_n dX4_climber_33 (by rfl) ?_
        refine E_iload_n dX4_climber_34 (by rfl) ?_
        refine E_iload_n dX4_climber_35 (by rfl) ?_
        refine cs_X4_climber_36 (by assumption) (Nat.le_of_ble_eq_true rfl) (hof q5 q30) ?_
        refine E_goto (tgt := 44) dX4_climber_39 (by decide) ?_
        refine E_iret dX4_climber_44 rfl rfl (Nat.zero_le _) (Nat.zero_le _) ?_
        exact x_leaf (by rw [if_pos q5, if_neg q13, if_pos q30])
    · refine E_aload_n dX4_climber_16 (by rfl) ?_
      refine E_iload_n dX4_climber_17 (by rfl) ?_
      refine cs_X4_climber_18 (by assumption) (Nat.le_of_ble_eq_true rfl) (hpr q5) ?_
      refine E_goto (tgt := 44) dX4_climber_21 (by decide) ?_
      refine E_iret dX4_climber_44 rfl rfl (Nat.zero_le _) (Nat.zero_le _) ?_
      exact x_leaf (by rw [if_pos q5, if_pos q13])
  · rw [b2i_T0] at q5
    refine E_iconst (v := (-1)) dX4_climber_8 (by decide) ?_
    refine E_iret dX4_climber_9 rfl rfl (Nat.zero_le _) (Nat.zero_le _) ?_
    exact x_leaf (by rw [if_neg q5])
theorem n_turn (h : mAt mem M) : Dt G kX4_turn [.ref 86] mem (some (.int (if (m_z M 1).toInt = 0 then -6 else m_z M 2))) mem := by
  obtain ⟨a0, a1, a2, a3, a4, a5, a6, a7⟩ := id h
  have e2 : (2 : Int32).toNatClampNeg = 2 := by decide
  refine Ct_of (by decide) (Nat.le_of_ble_eq_true rfl) ?_
  refine E_aload_n dX4_turn_0 (by rfl) ?_
  refine gf_X4_7 dX4_turn_1 rfl (by assumption) (by rfl) ?_
  refine E_iconst (v := 1) dX4_turn_4 (by decide) ?_
  refine E_iald dX4_turn_5 (by assumption) (i_in (by decide) (by decide)) ?_
  rw [n_1]
  refine E_if_ne (tgt := 14) dX4_turn_6 (by decide) (fun q6 => ?_) (fun q6 => ?_)
  · refine E_aload_n dX4_turn_14 (by rfl) ?_
    refine gf_X4_7 dX4_turn_15 rfl (by assumption) (by rfl) ?_
    refine E_iconst (v := 2) dX4_turn_18 (by decide) ?_
    refine E_iald dX4_turn_19 (by assumption) (i_in (by decide) (by decide)) ?_
    refine E_iret dX4_turn_20 rfl rfl (Nat.zero_le _) (Nat.zero_le _) ?_
    exact x_leaf (by rw [if_neg q6, e2])
  · refine E_bipush (v := (-6)) dX4_turn_9 (by decide) ?_
    refine E_goto (tgt := 20) dX4_turn_11 (by decide) ?_
    refine E_iret dX4_turn_20 rfl rfl (Nat.zero_le _) (Nat.zero_le _) ?_
    exact x_leaf (by rw [if_pos q6])
abbrev m_bl (z : Nat → Int32) (x : Int32) : Prop := 0 ≤ x.toInt ∧ x.toInt ≤ (z 0 - 1).toInt
theorem n_on (h : mAt mem M) (hn : m_z M 1 = nI n) (hn6 : n ≤ 6) (x : Int32) : Dt G kX4_on [.ref 86, .int x] mem (some (.int (if m_bl (m_z M) x then sOn (m_pl (m_z M)) x n else -1))) mem := by
  obtain ⟨a0, a1, a2, a3, a4, a5, a6, a7⟩ := id h
  refine Ct_of (by decide) (Nat.le_of_ble_eq_true rfl) ?_
  refine E_iload_n dX4_on_0 (by rfl) ?_
  refine E_iconst (v := 0) dX4_on_1 (by decide) ?_
  refine E_aload_n dX4_on_2 (by rfl) ?_
  refine gf_X4_7 dX4_on_3 rfl (by assumption) (by rfl) ?_
  refine E_iconst (v := 0) dX4_on_6 (by decide) ?_
  refine E_iald dX4_on_7 (by assumption) (i_in (by decide) (by decide)) ?_
  refine E_iconst (v := 1) dX4_on_8 (by decide) ?_
  refine E_isub dX4_on_9 ?_
  refine cs_X4_on_10 (Nat.le_of_ble_eq_true rfl) (n_in _ _ _) ?_
  refine E_if_eq (tgt := 24) dX4_on_13 (by decide) (fun q13 => ?_) (fun q13 => ?_)
  · rw [b2i_T0] at q13; have q13 : ¬ m_bl (m_z M) x := q13
    refine E_iconst (v := (-1)) dX4_on_24 (by decide) ?_
    refine E_iret dX4_on_25 rfl rfl (Nat.zero_le _) (Nat.zero_le _) ?_
    exact x_leaf (by rw [if_neg q13])
  · rw [b2i_T0] at q13; have q13 : m_bl (m_z M) x := Classical.not_not.mp q13
    refine E_aload_n dX4_on_16 (by rfl) ?_
    refine E_iload_n dX4_on_17 (by rfl) ?_
    refine cs_X4_on_18 (by assumption) (Nat.le_of_ble_eq_true rfl) (n_climbersOn h hn hn6 x) ?_
    refine E_goto (tgt := 25) dX4_on_21 (by decide) ?_
    refine E_iret dX4_on_25 rfl rfl (Nat.zero_le _) (Nat.zero_le _) ?_
    exact x_leaf (by rw [if_pos q13])
abbrev m_be (z : Nat → Int32) (x : Int32) : Prop := 0 ≤ x.toInt ∧ x.toInt ≤ (z 0).toInt
def mPS (z : Nat → Int32) (k : Nat) (x p : Int32) : Int32 :=
  if m_be z x then (if p = 0 then z (57 + x.toNatClampNeg) else if p = 1 then (if (mCF z x k).toInt = -6 then -6 else z (45 + 2 * (mCF z x k).toNatClampNeg)) else if p = 2 then sCn (m_lo z x) k else -2) else -1
theorem n_step (h : mAt mem M) (hk : m_z M 3 = nI k) (hk6 : k ≤ 6) (ht60 : (m_z M 0).toInt ≤ 60) (x p : Int32) : Dt G kX4_step [.ref 86, .int x, .int p] mem (some (.int (mPS (m_z M) k x p))) mem := by
  obtain ⟨a0, a1, a2, a3, a4, a5, a6, a7⟩ := id h
  have e57 : m_be (m_z M) x → (57 : Int32) + x = nI (57 + x.toNatClampNeg) ∧ (nI (57 + x.toNatClampNeg)).toInt = 57 + x.toInt ∧ (nI (57 + x.toNatClampNeg)).toNatClampNeg = 57 + x.toNatClampNeg := fun hx => by
    have b := i_cl hx.1
    have hb2 := hx.2
    refine ⟨?_, ?_, nI_clamp (by omega)⟩
    · conv => lhs; rw [i_nI hx.1]
      exact nI_add 57 _
    · rw [nI_toInt (by omega)]; omega
  have hlo : ¬ (mCF (m_z M) x k).toInt = -6 → Dt G kX4_lower [.ref 86, .int (mCF (m_z M) x k)] mem (some (.int (m_z M (45 + 2 * (mCF (m_z M) x k).toNatClampNeg)))) mem := fun hne => by
    rcases mCF_cases (m_z M) x k with ⟨e, _⟩ | ⟨j, hj, e, _⟩
    · exact absurd (by rw [e]; decide) hne
    · rw [e, nI_clamp (by omega)]
      exact n_lower h j (by omega)
  refine Ct_of (by decide) (Nat.le_of_ble_eq_true rfl) ?_
  unfold mPS
  refine E_iload_n dX4_step_0 (by rfl) ?_
  refine E_iconst (v := 0) dX4_step_1 (by decide) ?_
  refine E_aload_n dX4_step_2 (by rfl) ?_
  refine gf_X4_7 dX4_step_3 rfl (by assumption) (by rfl) ?_
  refine E_iconst (v := 0) dX4_step_6 (by decide) ?_
  refine E_iald dX4_step_7 (by assumption) (i_in (by decide) (by decide)) ?_
  refine cs_X4_step_8 (Nat.le_of_ble_eq_true rfl) (n_in _ _ _) ?_
  refine E_if_ne (tgt := 16) dX4_step_11 (by decide) (fun q11 => ?_) (fun q11 => ?_)
  · rw [b2i_T0] at q11; have q11 : m_be (m_z M) x := Classical.not_not.mp q11; have f57 := e57 q11; have q11b := q11.1; have q11c := q11.2
    refine E_aload_n dX4_step_16 (by rfl) ?_
    refine E_iload_n dX4_step_17 (by rfl) ?_
    refine cs_X4_step_18 (by assumption) (Nat.le_of_ble_eq_true rfl) (n_carpetFrom h hk hk6 x) ?_
    refine E_istore_n dX4_step_21 (Nat.le_of_ble_eq_true rfl) (by rfl) ?_
    refine E_iload_n dX4_step_22 (by rfl) ?_
    by_cases c23_0 : p = 0
    · rw [c23_0]
      refine E_tableIn (off := 25) (tgt := 48) dX4_step_23 (by decide) (by decide) (by decide) (by decide) ?_
      refine E_aload_n dX4_step_48 (by rfl) ?_
      refine gf_X4_7 dX4_step_49 rfl (by assumption) (by rfl) ?_
      refine E_bipush (v := 57) dX4_step_52 (by decide) ?_
      refine E_iload_n dX4_step_54 (by rfl) ?_
      refine E_iadd dX4_step_55 ?_
      rw [f57.1]
      refine E_iald dX4_step_56 (by assumption) (i_in (by omega) (by omega)) ?_
      refine E_iret dX4_step_57 rfl rfl (Nat.zero_le _) (Nat.zero_le _) ?_
      exact x_leaf (by rw [if_pos q11, if_pos rfl, f57.2.2])
    by_cases c23_1 : p = 1
    · rw [c23_1]
      refine E_tableIn (off := 35) (tgt := 58) dX4_step_23 (by decide) (by decide) (by decide) (by decide) ?_
      refine E_iload_n dX4_step_58 (by rfl) ?_
      refine E_bipush (v := (-6)) dX4_step_59 (by decide) ?_
      refine E_icmp_ne (n := (-6)) (by decide) (tgt := 69) dX4_step_61 (by decide) (fun q61 => ?_) (fun q61 => ?_)
      · refine E_aload_n dX4_step_69 (by rfl) ?_
        refine E_iload_n dX4_step_70 (by rfl) ?_
        refine cs_X4_step_71 (by assumption) (Nat.le_of_ble_eq_true rfl) (hlo q61) ?_
        refine E_iret dX4_step_74 rfl rfl (Nat.zero_le _) (Nat.zero_le _) ?_
        exact x_leaf (by rw [if_pos q11, if_neg (by decide), if_pos rfl, if_neg q61])
      · refine E_bipush (v := (-6)) dX4_step_64 (by decide) ?_
        refine E_goto (tgt := 74) dX4_step_66 (by decide) ?_
        refine E_iret dX4_step_74 rfl rfl (Nat.zero_le _) (Nat.zero_le _) ?_
        exact x_leaf (by rw [if_pos q11, if_neg (by decide), if_pos rfl, if_pos q61])
    by_cases c23_2 : p = 2
    · rw [c23_2]
      refine E_tableIn (off := 52) (tgt := 75) dX4_step_23 (by decide) (by decide) (by decide) (by decide) ?_
      refine E_aload_n dX4_step_75 (by rfl) ?_
      refine E_iload_n dX4_step_76 (by rfl) ?_
      refine cs_X4_step_77 (by assumption) (Nat.le_of_ble_eq_true rfl) (n_carpetsTo h hk hk6 x) ?_
      refine E_iret dX4_step_80 rfl rfl (Nat.zero_le _) (Nat.zero_le _) ?_
      exact x_leaf (by rw [if_pos q11, if_neg (by decide), if_neg (by decide), if_pos rfl])
    have n23_0 : (p).toInt ≠ 0 := fun e => c23_0 (Int32.toInt_inj.mp (e.trans (by decide)))
    have n23_1 : (p).toInt ≠ 1 := fun e => c23_1 (Int32.toInt_inj.mp (e.trans (by decide)))
    have n23_2 : (p).toInt ≠ 2 := fun e => c23_2 (Int32.toInt_inj.mp (e.trans (by decide)))
    refine E_tableOut (tgt := 81) dX4_step_23 (by omega) (by decide) ?_
    refine E_bipush (v := (-2)) dX4_step_81 (by decide) ?_
    refine E_iret dX4_step_83 rfl rfl (Nat.zero_le _) (Nat.zero_le _) ?_
    exact x_leaf (by rw [if_pos q11, if_neg c23_0, if_neg c23_1, if_neg c23_2])
  · rw [b2i_T0] at q11; have q11 : ¬ m_be (m_z M) x := q11
    refine E_iconst (v := (-1)) dX4_step_14 (by decide) ?_
    refine E_iret dX4_step_15 rfl rfl (Nat.zero_le _) (Nat.zero_le _) ?_
    exact x_leaf (by rw [if_neg q11])
def mTo (z : Nat → Int32) (n : Nat) (p : Int32) : Int32 :=
  if p = 0 then z 0 else if p = 1 then z 1 else if p = 2 then z 3 else if p = 3 then sSm (fun s => z (57 + s)) 61 else if p = 4 then z 4 else if p = 5 then z 5 else if p = 6 then z 6 else if p = 7 then sSm (fun c => z (8 + 6 * c + 1)) n else if p = 8 then z 7 else -2
theorem n_total (h : mAt mem M) (hn : m_z M 1 = nI n) (hn6 : n ≤ 6) (p : Int32) : Dt G kX4_total [.ref 86, .int p] mem (some (.int (mTo (m_z M) n p))) mem := by
  obtain ⟨a0, a1, a2, a3, a4, a5, a6, a7⟩ := id h
  have w0 : (0 : Int32).toNatClampNeg = 0 := by decide
  have w3 : (3 : Int32).toNatClampNeg = 3 := by decide
  have w4 : (4 : Int32).toNatClampNeg = 4 := by decide
  have w5 : (5 : Int32).toNatClampNeg = 5 := by decide
  have w6 : (6 : Int32).toNatClampNeg = 6 := by decide
  have w7 : (7 : Int32).toNatClampNeg = 7 := by decide
  refine Ct_of (by decide) (Nat.le_of_ble_eq_true rfl) ?_
  unfold mTo
  refine E_iload_n dX4_total_0 (by rfl) ?_
  by_cases c1_0 : p = 0
  · rw [c1_0]
    refine E_tableIn (off := 51) (tgt := 52) dX4_total_1 (by decide) (by decide) (by decide) (by decide) ?_
    refine E_aload_n dX4_total_52 (by rfl) ?_
    refine gf_X4_7 dX4_total_53 rfl (by assumption) (by rfl) ?_
    refine E_iconst (v := 0) dX4_total_56 (by decide) ?_
    refine E_iald dX4_total_57 (by assumption) (i_in (by decide) (by decide)) ?_
    refine E_iret dX4_total_58 rfl rfl (Nat.zero_le _) (Nat.zero_le _) ?_
    exact x_leaf (by rw [if_pos rfl, w0])
  by_cases c1_1 : p = 1
  · rw [c1_1]
    refine E_tableIn (off := 58) (tgt := 59) dX4_total_1 (by decide) (by decide) (by decide) (by decide) ?_
    refine E_aload_n dX4_total_59 (by rfl) ?_
    refine gf_X4_7 dX4_total_60 rfl (by assumption) (by rfl) ?_
    refine E_iconst (v := 1) dX4_total_63 (by decide) ?_
    refine E_iald dX4_total_64 (by assumption) (i_in (by decide) (by decide)) ?_
    refine E_iret dX4_total_65 rfl rfl (Nat.zero_le _) (Nat.zero_le _) ?_
    exact x_leaf (by rw [if_neg (by decide), if_pos rfl, n_1])
  by_cases c1_2 : p = 2
  · rw [c1_2]
    refine E_tableIn (off := 65) (tgt := 66) dX4_total_1 (by decide) (by decide) (by decide) (by decide) ?_
    refine E_aload_n dX4_total_66 (by rfl) ?_
    refine gf_X4_7 dX4_total_67 rfl (by assumption) (by rfl) ?_
    refine E_iconst (v := 3) dX4_total_70 (by decide) ?_
    refine E_iald dX4_total_71 (by assumption) (i_in (by decide) (by decide)) ?_
    refine E_iret dX4_total_72 rfl rfl (Nat.zero_le _) (Nat.zero_le _) ?_
    exact x_leaf (by rw [if_neg (by decide), if_neg (by decide), if_pos rfl, w3])
  by_cases c1_3 : p = 3
  · rw [c1_3]
    refine E_tableIn (off := 72) (tgt := 73) dX4_total_1 (by decide) (by decide) (by decide) (by decide) ?_
    refine E_aload_n dX4_total_73 (by rfl) ?_
    refine cs_X4_total_74 (by assumption) (Nat.le_of_ble_eq_true rfl) (n_landings h) ?_
    refine E_iret dX4_total_77 rfl rfl (Nat.zero_le _) (Nat.zero_le _) ?_
    exact x_leaf (by rw [if_neg (by decide), if_neg (by decide), if_neg (by decide), if_pos rfl])
  by_cases c1_4 : p = 4
  · rw [c1_4]
    refine E_tableIn (off := 77) (tgt := 78) dX4_total_1 (by decide) (by decide) (by decide) (by decide) ?_
    refine E_aload_n dX4_total_78 (by rfl) ?_
    refine gf_X4_7 dX4_total_79 rfl (by assumption) (by rfl) ?_
    refine E_iconst (v := 4) dX4_total_82 (by decide) ?_
    refine E_iald dX4_total_83 (by assumption) (i_in (by decide) (by decide)) ?_
    refine E_iret dX4_total_84 rfl rfl (Nat.zero_le _) (Nat.zero_le _) ?_
    exact x_leaf (by rw [if_neg (by decide), if_neg (by decide), if_neg (by decide), if_neg (by decide), if_pos rfl, w4])
  by_cases c1_5 : p = 5
  · rw [c1_5]
    refine E_tableIn (off := 84) (tgt := 85) dX4_total_1 (by decide) (by decide) (by decide) (by decide) ?_
    refine E_aload_n dX4_total_85 (by rfl) ?_
    refine gf_X4_7 dX4_total_86 rfl (by assumption) (by rfl) ?_
    refine E_iconst (v := 5) dX4_total_89 (by decide) ?_
    refine E_iald dX4_total_90 (by assumption) (i_in (by decide) (by decide)) ?_
    refine E_iret dX4_total_91 rfl rfl (Nat.zero_le _) (Nat.zero_le _) ?_
    exact x_leaf (by rw [if_neg (by decide), if_neg (by decide), if_neg (by decide), if_neg (by decide), if_neg (by decide), if_pos rfl, w5])
  by_cases c1_6 : p = 6
  · rw [c1_6]
    refine E_tableIn (off := 91) (tgt := 92) dX4_total_1 (by decide) (by decide) (by decide) (by decide) ?_
    refine E_aload_n dX4_total_92 (by rfl) ?_
    refine gf_X4_7 dX4_total_93 rfl (by assumption) (by rfl) ?_
    refine E_bipush (v := 6) dX4_total_96 (by decide) ?_
    refine E_iald dX4_total_98 (by assumption) (i_in (by decide) (by decide)) ?_
    refine E_iret dX4_total_99 rfl rfl (Nat.zero_le _) (Nat.zero_le _) ?_
    exact x_leaf (by rw [if_neg (by decide), if_neg (by decide), if_neg (by decide), if_neg (by decide), if_neg (by decide), if_neg (by decide), if_pos rfl, w6])
  by_cases c1_7 : p = 7
  · rw [c1_7]
    refine E_tableIn (off := 99) (tgt := 100) dX4_total_1 (by decide) (by decide) (by decide) (by decide) ?_
    refine E_aload_n dX4_total_100 (by rfl) ?_
    refine cs_X4_total_101 (by assumption) (Nat.le_of_ble_eq_true rfl) (n_allTops h hn hn6) ?_
    refine E_iret dX4_total_104 rfl rfl (Nat.zero_le _) (Nat.zero_le _) ?_
    exact x_leaf (by rw [if_neg (by decide), if_neg (by decide), if_neg (by decide), if_neg (by decide), if_neg (by decide), if_neg (by decide), if_neg (by decide), if_pos rfl])
  by_cases c1_8 : p = 8
  · rw [c1_8]
    refine E_tableIn (off := 104) (tgt := 105) dX4_total_1 (by decide) (by decide) (by decide) (by decide) ?_
    refine E_aload_n dX4_total_105 (by rfl) ?_
    refine gf_X4_7 dX4_total_106 rfl (by assumption) (by rfl) ?_
    refine E_bipush (v := 7) dX4_total_109 (by decide) ?_
    refine E_iald dX4_total_111 (by assumption) (i_in (by decide) (by decide)) ?_
    refine E_iret dX4_total_112 rfl rfl (Nat.zero_le _) (Nat.zero_le _) ?_
    exact x_leaf (by rw [if_neg (by decide), if_neg (by decide), if_neg (by decide), if_neg (by decide), if_neg (by decide), if_neg (by decide), if_neg (by decide), if_neg (by decide), if_pos rfl, w7])
  have n1_0 : (p).toInt ≠ 0 := fun e => c1_0 (Int32.toInt_inj.mp (e.trans (by decide)))
  have n1_1 : (p).toInt ≠ 1 := fun e => c1_1 (Int32.toInt_inj.mp (e.trans (by decide)))
  have n1_2 : (p).toInt ≠ 2 := fun e => c1_2 (Int32.toInt_inj.mp (e.trans (by decide)))
  have n1_3 : (p).toInt ≠ 3 := fun e => c1_3 (Int32.toInt_inj.mp (e.trans (by decide)))
  have n1_4 : (p).toInt ≠ 4 := fun e => c1_4 (Int32.toInt_inj.mp (e.trans (by decide)))
  have n1_5 : (p).toInt ≠ 5 := fun e => c1_5 (Int32.toInt_inj.mp (e.trans (by decide)))
  have n1_6 : (p).toInt ≠ 6 := fun e => c1_6 (Int32.toInt_inj.mp (e.trans (by decide)))
  have n1_7 : (p).toInt ≠ 7 := fun e => c1_7 (Int32.toInt_inj.mp (e.trans (by decide)))
  have n1_8 : (p).toInt ≠ 8 := fun e => c1_8 (Int32.toInt_inj.mp (e.trans (by decide)))
  refine E_tableOut (tgt := 113) dX4_total_1 (by omega) (by decide) ?_
  refine E_bipush (v := (-2)) dX4_total_113 (by decide) ?_
  refine E_iret dX4_total_115 rfl rfl (Nat.zero_le _) (Nat.zero_le _) ?_
  exact x_leaf (by rw [if_neg c1_0, if_neg c1_1, if_neg c1_2, if_neg c1_3, if_neg c1_4, if_neg c1_5, if_neg c1_6, if_neg c1_7, if_neg c1_8])
/-! if rolled -/
abbrev mTps (z : Nat → Int32) (n : Nat) : Int32 := sSm (fun c => z (8 + 6 * c + 1)) n
def mIf (z : Nat → Int32) (n k m : Nat) (u p : Int32) : Int32 :=
  if p.toInt = 0 then mRoll z n k m u (8 + 6 * m) else if p.toInt = 1 then mRoll z n k m u 5 - z 5 else if p.toInt = 2 then mTps (mRoll z n k m u) n - mTps z n else if p.toInt = 3 then mRoll z n k m u 6 - z 6 else mRoll z n k m u 2
theorem n_ifRolled_no1 (u p : Int32) (hu : ¬ ((1 ≤ u.toInt ∧ u.toInt ≤ 6) ∧ 0 ≤ p.toInt ∧ p.toInt ≤ 4)) (h : mAt mem M) : Dt G kX4_ifRolled [.ref 86, .int u, .int p] mem (some (.int (-2))) mem := by
  refine Ct_of (by decide) (Nat.le_of_ble_eq_true rfl) ?_
  refine E_iload_n dX4_ifRolled_0 (by rfl) ?_
  refine E_iconst (v := 1) dX4_ifRolled_1 (by decide) ?_
  refine E_bipush (v := 6) dX4_ifRolled_2 (by decide) ?_
  refine cs_X4_ifRolled_4 (Nat.le_of_ble_eq_true rfl) (n_in _ _ _) ?_
  refine E_if_eq (tgt := 19) dX4_ifRolled_7 (by decide) (fun q7 => ?_) (fun q7 => ?_)
  · refine E_bipush (v := (-2)) dX4_ifRolled_19 (by decide) ?_
    refine E_iret dX4_ifRolled_21 rfl rfl (Nat.zero_le _) (Nat.zero_le _) ?_
    exact ⟨rfl, rfl⟩
  · rw [b2i_T0] at q7; have q7 : 1 ≤ u.toInt ∧ u.toInt ≤ 6 := Classical.not_not.mp q7
    refine E_iload_n dX4_ifRolled_10 (by rfl) ?_
    refine E_iconst (v := 0) dX4_ifRolled_11 (by decide) ?_
    refine E_iconst (v := 4) dX4_ifRolled_12 (by decide) ?_
    refine cs_X4_ifRolled_13 (Nat.le_of_ble_eq_true rfl) (n_in _ _ _) ?_
    refine E_if_ne (tgt := 22) dX4_ifRolled_16 (by decide) (fun q16 => ?_) (fun q16 => ?_)
    · rw [b2i_T0] at q16; exact absurd ⟨q7, Classical.not_not.mp q16⟩ hu
    · refine E_bipush (v := (-2)) dX4_ifRolled_19 (by decide) ?_
      refine E_iret dX4_ifRolled_21 rfl rfl (Nat.zero_le _) (Nat.zero_le _) ?_
      exact ⟨rfl, rfl⟩
theorem n_ifRolled_no2 (h : mAt mem M) (u p : Int32) (hu : (1 ≤ u.toInt ∧ u.toInt ≤ 6) ∧ 0 ≤ p.toInt ∧ p.toInt ≤ 4) (hn : m_z M 1 = 0) : Dt G kX4_ifRolled [.ref 86, .int u, .int p] mem (some (.int (-3))) mem := by
  obtain ⟨a0, a1, a2, a3, a4, a5, a6, a7⟩ := id h
  refine Ct_of (by decide) (Nat.le_of_ble_eq_true rfl) ?_
  refine E_iload_n dX4_ifRolled_0 (by rfl) ?_
  refine E_iconst (v := 1) dX4_ifRolled_1 (by decide) ?_
  refine E_bipush (v := 6) dX4_ifRolled_2 (by decide) ?_
  refine cs_X4_ifRolled_4 (Nat.le_of_ble_eq_true rfl) (n_in _ _ _) ?_
  refine E_if_eq (tgt := 19) dX4_ifRolled_7 (by decide) (fun q7 => ?_) (fun q7 => ?_)
  · rw [b2i_T0] at q7; exact absurd hu.1 q7
  · refine E_iload_n dX4_ifRolled_10 (by rfl) ?_
    refine E_iconst (v := 0) dX4_ifRolled_11 (by decide) ?_
    refine E_iconst (v := 4) dX4_ifRolled_12 (by decide) ?_
    refine cs_X4_ifRolled_13 (Nat.le_of_ble_eq_true rfl) (n_in _ _ _) ?_
    refine E_if_ne (tgt := 22) dX4_ifRolled_16 (by decide) (fun q16 => ?_) (fun q16 => ?_)
    · refine E_aload_n dX4_ifRolled_22 (by rfl) ?_
      refine gf_X4_7 dX4_ifRolled_23 rfl (by assumption) (by rfl) ?_
      refine E_iconst (v := 1) dX4_ifRolled_26 (by decide) ?_
      refine E_iald dX4_ifRolled_27 (by assumption) (i_in (by decide) (by decide)) ?_
      rw [n_1, hn]
      refine E_if_ne (tgt := 34) dX4_ifRolled_28 (by decide) (fun q28 => ?_) (fun q28 => ?_)
      · exact absurd q28 (by decide)
      · refine E_bipush (v := (-3)) dX4_ifRolled_31 (by decide) ?_
        refine E_iret dX4_ifRolled_33 rfl rfl (Nat.zero_le _) (Nat.zero_le _) ?_
        exact ⟨rfl, rfl⟩
    · rw [b2i_T0] at q16; exact absurd hu.2 q16
theorem mRoll_lo (hn6 : n ≤ 6) (hm6 : m < 6) {u : Int32} (hok : mRok z n k m u) {i : Nat} (hi : i = 0 ∨ i = 1 ∨ i = 3 ∨ 44 ≤ i) (hl : (mNx (mR4 z n k m u) n m).1 i = mR4 z n k m u i) : mRoll z n k m u i = z i := by
  refine (upd_ne (by omega)).trans (hl.trans ?_)
  have l1 : mR1 z m (sBits (mPB z n m u) 6) i = z i := (upd_ne (by omega)).trans ((upd_ne (by omega)).trans (upd_ne (by omega)))
  have l3 : mR3 z n k m u i = z i := (mCome_lo _ _ _ _ (by omega) hm6).trans ((mLf_lo n k hn6 (by omega) 6 _ _ hok.1).trans l1)
  unfold mR4
  split
  · exact (upd_ne (by omega)).trans l3
  · exact l3
theorem mSk_lo (hn6 : n ≤ 6) (hn0 : 0 < n) {i : Nat} (hi : i < 7 ∨ 44 ≤ i) : ∀ f (z : Nat → Int32) (m : Nat), m < n → (mSk n f z m).1 i = z i := by
  intro f
  induction f with
  | zero => exact fun z m _ => rfl
  | succ f ih =>
    intro z m hm
    rw [mSk]
    split
    · exact (ih _ _ (Nat.mod_lt _ hn0)).trans ((upd_ne (by omega)).trans (upd_ne (by omega)))
    · rfl
theorem mRoll_fix (hn6 : n ≤ 6) (hmn : m < n) {u : Int32} (hok : mRok z n k m u) {i : Nat} (hi : i = 0 ∨ i = 1 ∨ i = 3 ∨ 44 ≤ i) : mRoll z n k m u i = z i := mRoll_lo hn6 (by omega) hok hi (mSk_lo hn6 (by omega) (by omega) _ _ _ (Nat.mod_lt _ (by omega)))
theorem n_ifRolled (h : mAt mem M) (hn : m_z M 1 = nI n) (hn6 : n ≤ 6) (hm : m_z M 2 = nI m) (hmn : m < n) (hk : m_z M 3 = nI k) (hk6 : k ≤ 6) (ht60 : (m_z M 0).toInt ≤ 60) (hpl : mPlo (m_z M) n) (u p : Int32) (hu : (1 ≤ u.toInt ∧ u.toInt ≤ 6) ∧ 0 ≤ p.toInt ∧ p.toInt ≤ 4) (hto : 0 ≤ (m_z M (8 + 6 * m) + u).toInt) (hok : mRok (m_z M) n k m u) : Dt G kX4_ifRolled [.ref 86, .int u, .int p] mem (some (.int (mIf (m_z M) n k m u p))) (mPut mem (m_was M (m_z M))) := by
  have hput := n_putAside (G := G) h M
  rw [mPut_self h] at hput
  obtain ⟨a0, a1, a2, a3, a4, a5, a6, a7⟩ := id h
  have hr := mAt_put h (m_wz (m_was M (m_z M)) (mRoll (m_z M) n k m u))
  obtain ⟨b0, b1, b2, b3, b4, b5, b6, b7⟩ := id hr
  have b0' := (mAt_put h (m_was M (m_z M))).1
  have w2 : (2 : Int32).toNatClampNeg = 2 := by decide
  have w5 : (5 : Int32).toNatClampNeg = 5 := by decide
  have w6 : (6 : Int32).toNatClampNeg = 6 := by decide
  have en : (nI n).toInt = (n : Int) := nI_toInt (by omega)
  have hfix1 : mRoll (m_z M) n k m u 1 = nI n := (mRoll_fix hn6 hmn hok (Or.inr (Or.inl rfl))).trans hn
  refine Ct_of (by decide) (Nat.le_of_ble_eq_true rfl) ?_
  unfold mIf
  refine E_iload_n dX4_ifRolled_0 (by rfl) ?_
  refine E_iconst (v := 1) dX4_ifRolled_1 (by decide) ?_
  refine E_bipush (v := 6) dX4_ifRolled_2 (by decide) ?_
  refine cs_X4_ifRolled_4 (Nat.le_of_ble_eq_true rfl) (n_in _ _ _) ?_
  refine E_if_eq (tgt := 19) dX4_ifRolled_7 (by decide) (fun q7 => ?_) (fun q7 => ?_)
  · rw [b2i_T0] at q7; exact absurd hu.1 q7
  · refine E_iload_n dX4_ifRolled_10 (by rfl) ?_
    refine E_iconst (v := 0) dX4_ifRolled_11 (by decide) ?_
    refine E_iconst (v := 4) dX4_ifRolled_12 (by decide) ?_
    refine cs_X4_ifRolled_13 (Nat.le_of_ble_eq_true rfl) (n_in _ _ _) ?_
    refine E_if_ne (tgt := 22) dX4_ifRolled_16 (by decide) (fun q16 => ?_) (fun q16 => ?_)
    · refine E_aload_n dX4_ifRolled_22 (by rfl) ?_
      refine gf_X4_7 dX4_ifRolled_23 rfl (by assumption) (by rfl) ?_
      refine E_iconst (v := 1) dX4_ifRolled_26 (by decide) ?_
      refine E_iald dX4_ifRolled_27 (by assumption) (i_in (by decide) (by decide)) ?_
      rw [n_1, hn]
      refine E_if_ne (tgt := 34) dX4_ifRolled_28 (by decide) (fun q28 => ?_) (fun q28 => ?_)
      · refine E_aload_n dX4_ifRolled_34 (by rfl) ?_
        refine cs_X4_ifRolled_35 (by assumption) (Nat.le_of_ble_eq_true rfl) (n_allTops h hn hn6) ?_
        refine E_istore_n dX4_ifRolled_38 (Nat.le_of_ble_eq_true rfl) (by rfl) ?_
        refine E_aload_n dX4_ifRolled_39 (by rfl) ?_
        refine cs_X4_ifRolled_40 (by assumption) (Nat.le_of_ble_eq_true rfl) hput ?_
        refine E_mem (mem' := mPut mem (m_wz (m_was M (m_z M)) (m_z M))) rfl ?_
        refine E_aload_n dX4_ifRolled_43 (by rfl) ?_
        refine E_iload_n dX4_ifRolled_44 (by rfl) ?_
        refine cs_X4_ifRolled_45 (by assumption) (Nat.le_of_ble_eq_true rfl) (n_rolls h (m_was M (m_z M)) (m_z M) hn hn6 hm hmn hk hk6 ht60 hpl u hto hok) ?_
        refine E_istore dX4_ifRolled_48 (Nat.le_of_ble_eq_true rfl) (by rfl) ?_
        refine E_iload_n dX4_ifRolled_50 (by rfl) ?_
        refine E_if_ne (tgt := 59) dX4_ifRolled_51 (by decide) (fun q51 => ?_) (fun q51 => ?_)
        · refine E_iload_n dX4_ifRolled_59 (by rfl) ?_
          refine E_iconst (v := 1) dX4_ifRolled_60 (by decide) ?_
          refine E_icmp_ne (n := 1) (by decide) (tgt := 80) dX4_ifRolled_61 (by decide) (fun q61 => ?_) (fun q61 => ?_)
          · refine E_iload_n dX4_ifRolled_80 (by rfl) ?_
            refine E_iconst (v := 2) dX4_ifRolled_81 (by decide) ?_
            refine E_icmp_ne (n := 2) (by decide) (tgt := 94) dX4_ifRolled_82 (by decide) (fun q82 => ?_) (fun q82 => ?_)
            · refine E_iload_n dX4_ifRolled_94 (by rfl) ?_
              refine E_iconst (v := 3) dX4_ifRolled_95 (by decide) ?_
              refine E_icmp_ne (n := 3) (by decide) (tgt := 117) dX4_ifRolled_96 (by decide) (fun q96 => ?_) (fun q96 => ?_)
              · refine E_aload_n dX4_ifRolled_117 (by rfl) ?_
                refine gf_X4_7 dX4_ifRolled_118 rfl (by assumption) (by rfl) ?_
                refine E_iconst (v := 2) dX4_ifRolled_121 (by decide) ?_
                refine E_iald dX4_ifRolled_122 (by assumption) (i_in (by decide) (by decide)) ?_
                refine E_istore dX4_ifRolled_123 (Nat.le_of_ble_eq_true rfl) (by rfl) ?_
                refine E_aload_n dX4_ifRolled_125 (by rfl) ?_
                refine cs_X4_ifRolled_126 (by assumption) (Nat.le_of_ble_eq_true rfl) (n_takeBack h (m_wz (m_was M (m_z M)) (mRoll (m_z M) n k m u))) ?_
                refine E_iload dX4_ifRolled_129 (by rfl) ?_
                refine E_iret dX4_ifRolled_131 rfl rfl (Nat.zero_le _) (Nat.zero_le _) ?_
                refine ⟨?_, rfl⟩
                rw [if_neg q51, if_neg q61, if_neg q82, if_neg q96, w2]
              · refine E_aload_n dX4_ifRolled_99 (by rfl) ?_
                refine gf_X4_7 dX4_ifRolled_100 rfl (by assumption) (by rfl) ?_
                refine E_bipush (v := 6) dX4_ifRolled_103 (by decide) ?_
                refine E_iald dX4_ifRolled_105 (by assumption) (i_in (by decide) (by decide)) ?_
                refine E_aload_n dX4_ifRolled_106 (by rfl) ?_
                refine gf_X4_19 dX4_ifRolled_107 rfl (by assumption) (by rfl) ?_
                refine E_bipush (v := 6) dX4_ifRolled_110 (by decide) ?_
                refine E_iald dX4_ifRolled_112 (by assumption) (i_in (by decide) (by decide)) ?_
                refine E_isub dX4_ifRolled_113 ?_
                refine E_goto (tgt := 123) dX4_ifRolled_114 (by decide) ?_
                refine E_istore dX4_ifRolled_123 (Nat.le_of_ble_eq_true rfl) (by rfl) ?_
                refine E_aload_n dX4_ifRolled_125 (by rfl) ?_
                refine cs_X4_ifRolled_126 (by assumption) (Nat.le_of_ble_eq_true rfl) (n_takeBack h (m_wz (m_was M (m_z M)) (mRoll (m_z M) n k m u))) ?_
                refine E_iload dX4_ifRolled_129 (by rfl) ?_
                refine E_iret dX4_ifRolled_131 rfl rfl (Nat.zero_le _) (Nat.zero_le _) ?_
                refine ⟨?_, rfl⟩
                rw [if_neg q51, if_neg q61, if_neg q82, if_pos q96, w6]
            · refine E_aload_n dX4_ifRolled_85 (by rfl) ?_
              refine cs_X4_ifRolled_86 (by assumption) (Nat.le_of_ble_eq_true rfl) (n_allTops hr hfix1 hn6) ?_
              refine E_iload_n dX4_ifRolled_89 (by rfl) ?_
              refine E_isub dX4_ifRolled_90 ?_
              refine E_goto (tgt := 123) dX4_ifRolled_91 (by decide) ?_
              refine E_istore dX4_ifRolled_123 (Nat.le_of_ble_eq_true rfl) (by rfl) ?_
              refine E_aload_n dX4_ifRolled_125 (by rfl) ?_
              refine cs_X4_ifRolled_126 (by assumption) (Nat.le_of_ble_eq_true rfl) (n_takeBack h (m_wz (m_was M (m_z M)) (mRoll (m_z M) n k m u))) ?_
              refine E_iload dX4_ifRolled_129 (by rfl) ?_
              refine E_iret dX4_ifRolled_131 rfl rfl (Nat.zero_le _) (Nat.zero_le _) ?_
              refine ⟨?_, rfl⟩
              rw [if_neg q51, if_neg q61, if_pos q82]
          · refine E_aload_n dX4_ifRolled_64 (by rfl) ?_
            refine gf_X4_7 dX4_ifRolled_65 rfl (by assumption) (by rfl) ?_
            refine E_iconst (v := 5) dX4_ifRolled_68 (by decide) ?_
            refine E_iald dX4_ifRolled_69 (by assumption) (i_in (by decide) (by decide)) ?_
            refine E_aload_n dX4_ifRolled_70 (by rfl) ?_
            refine gf_X4_19 dX4_ifRolled_71 rfl (by assumption) (by rfl) ?_
            refine E_iconst (v := 5) dX4_ifRolled_74 (by decide) ?_
            refine E_iald dX4_ifRolled_75 (by assumption) (i_in (by decide) (by decide)) ?_
            refine E_isub dX4_ifRolled_76 ?_
            refine E_goto (tgt := 123) dX4_ifRolled_77 (by decide) ?_
            refine E_istore dX4_ifRolled_123 (Nat.le_of_ble_eq_true rfl) (by rfl) ?_
            refine E_aload_n dX4_ifRolled_125 (by rfl) ?_
            refine cs_X4_ifRolled_126 (by assumption) (Nat.le_of_ble_eq_true rfl) (n_takeBack h (m_wz (m_was M (m_z M)) (mRoll (m_z M) n k m u))) ?_
            refine E_iload dX4_ifRolled_129 (by rfl) ?_
            refine E_iret dX4_ifRolled_131 rfl rfl (Nat.zero_le _) (Nat.zero_le _) ?_
            refine ⟨?_, rfl⟩
            rw [if_neg q51, if_pos q61, w5]
        · refine E_iload dX4_ifRolled_54 (by rfl) ?_
          refine E_goto (tgt := 123) dX4_ifRolled_56 (by decide) ?_
          refine E_istore dX4_ifRolled_123 (Nat.le_of_ble_eq_true rfl) (by rfl) ?_
          refine E_aload_n dX4_ifRolled_125 (by rfl) ?_
          refine cs_X4_ifRolled_126 (by assumption) (Nat.le_of_ble_eq_true rfl) (n_takeBack h (m_wz (m_was M (m_z M)) (mRoll (m_z M) n k m u))) ?_
          refine E_iload dX4_ifRolled_129 (by rfl) ?_
          refine E_iret dX4_ifRolled_131 rfl rfl (Nat.zero_le _) (Nat.zero_le _) ?_
          refine ⟨?_, rfl⟩
          rw [if_pos q51]
      · exact absurd q28 (by omega)
    · rw [b2i_T0] at q16; exact absurd hu.2 q16
/-! the best roll -/
def mWs (f : Nat → Int32) (a : Int32) : Nat → Int32
  | 0 => a
  | i + 1 => mWs f a i - f i
abbrev mWo (z : Nat → Int32) (n c : Nat) : Int32 := mWs (mPr z) (2 * mPr z c) n
theorem n_worth (h : mAt mem M) (hn : m_z M 1 = nI n) (hn6 : n ≤ 6) (c : Nat) (hc : c < 6) : Dt G kX4_worth [.ref 86, .int (nI c)] mem (some (.int (mWo (m_z M) n c))) mem := by
  obtain ⟨a0, a1, a2, a3, a4, a5, a6, a7⟩ := id h
  have hc' : (m_z M (1 : Int32).toNatClampNeg).toInt = (n : Int) := by rw [n_1, hn]; exact nI_toInt (by omega)
  refine Ct_of (by decide) (Nat.le_of_ble_eq_true rfl) ?_
  have loop : ∀ di i : Nat, n < i + di → i ≤ n → E G kX4_worth (x_R (some (.int (mWo (m_z M) n c))) mem) 0 0 (mem) 10 (x_L [(0, .ref 86), (1, .int (nI c)), (2, .int (mWs (mPr (m_z M)) (2 * mPr (m_z M) c) i)), (3, .int (nI i))]) [] := by
    intro di
    induction di with
    | zero => intro i hi1 hi2; exact absurd hi1 (by omega)
    | succ di ihi =>
      intro i hi1 hi2
      have ei : (nI i).toInt = (i : Int) := nI_toInt (by omega)
      have eci : (nI i).toNatClampNeg = i := nI_clamp (by omega)
      refine E_iload_n dX4_worth_10 (by rfl) ?_
      refine E_aload_n dX4_worth_11 (by rfl) ?_
      refine gf_X4_7 dX4_worth_12 rfl (by assumption) (by rfl) ?_
      refine E_iconst (v := 1) dX4_worth_15 (by decide) ?_
      refine E_iald dX4_worth_16 (by assumption) (i_in (by decide) (by decide)) ?_
      refine E_icmp_ge (n := _) rfl (tgt := 34) dX4_worth_17 (by decide) (fun q17 => ?_) (fun q17 => ?_)
      · refine E_iload_n dX4_worth_34 (by rfl) ?_
        refine E_iret dX4_worth_35 rfl rfl (Nat.zero_le _) (Nat.zero_le _) ?_
        exact x_leaf (by rw [show i = n by omega])
      · refine E_iload_n dX4_worth_20 (by rfl) ?_
        refine E_aload_n dX4_worth_21 (by rfl) ?_
        refine E_iload_n dX4_worth_22 (by rfl) ?_
        refine cs_X4_worth_23 (by assumption) (Nat.le_of_ble_eq_true rfl) (n_progress h i (by omega)) ?_
        refine E_isub dX4_worth_26 ?_
        refine E_istore_n dX4_worth_27 (Nat.le_of_ble_eq_true rfl) (by rfl) ?_
        refine E_iinc (d := 1) dX4_worth_28 (by rfl) (by decide) (Nat.le_of_ble_eq_true rfl) (by rfl) ?_
        refine E_goto (tgt := 10) dX4_worth_31 (by decide) ?_
        exact E_loc [(0, .ref 86), (1, .int (nI c)), (2, .int (mWs (mPr (m_z M)) (2 * mPr (m_z M) c) (i + 1))), (3, .int (nI (i + 1)))] ⟨rfl, rfl, x_i (by rfl), x_i (by first | exact nI_1 _ | decide), trivial⟩ (ihi (i + 1) (by omega) (by omega))
  refine E_iconst (v := 2) dX4_worth_0 (by decide) ?_
  refine E_aload_n dX4_worth_1 (by rfl) ?_
  refine E_iload_n dX4_worth_2 (by rfl) ?_
  refine cs_X4_worth_3 (by assumption) (Nat.le_of_ble_eq_true rfl) (n_progress h c hc) ?_
  refine E_imul dX4_worth_6 ?_
  refine E_istore_n dX4_worth_7 (Nat.le_of_ble_eq_true rfl) (by rfl) ?_
  refine E_iconst (v := 0) dX4_worth_8 (by decide) ?_
  refine E_istore_n dX4_worth_9 (Nat.le_of_ble_eq_true rfl) (by rfl) ?_
  exact E_loc [(0, .ref 86), (1, .int (nI c)), (2, .int (mWs (mPr (m_z M)) (2 * mPr (m_z M) c) 0)), (3, .int (nI 0))] ⟨rfl, rfl, x_i (by rfl), x_i (by first | rfl | decide), trivial⟩ (loop (n + 1) 0 (by omega) (by omega))
def mBe (w : Nat → Int32) : Nat → Int32 × Int32
  | 0 => (-6, 0)
  | i + 1 => if (mBe w i).1.toInt = -6 ∨ (mBe w i).2.toInt < (w (i + 1)).toInt then (nI (i + 1), w (i + 1)) else mBe w i
theorem n_bestRoll_no (h : mAt mem M) (hn : m_z M 1 = 0) : Dt G kX4_bestRoll [.ref 86] mem (some (.int (-6))) mem := by
  obtain ⟨a0, a1, a2, a3, a4, a5, a6, a7⟩ := id h
  refine Ct_of (by decide) (Nat.le_of_ble_eq_true rfl) ?_
  refine E_aload_n dX4_bestRoll_0 (by rfl) ?_
  refine gf_X4_7 dX4_bestRoll_1 rfl (by assumption) (by rfl) ?_
  refine E_iconst (v := 1) dX4_bestRoll_4 (by decide) ?_
  refine E_iald dX4_bestRoll_5 (by assumption) (i_in (by decide) (by decide)) ?_
  rw [n_1, hn]
  refine E_if_ne (tgt := 12) dX4_bestRoll_6 (by decide) (fun q6 => ?_) (fun q6 => ?_)
  · exact absurd q6 (by decide)
  · refine E_bipush (v := (-6)) dX4_bestRoll_9 (by decide) ?_
    refine E_iret dX4_bestRoll_11 rfl rfl (Nat.zero_le _) (Nat.zero_le _) ?_
    exact ⟨rfl, rfl⟩
def mAsd (M : mS) (i : Nat) : mS := if i = 1 then M else m_was M (m_z M)
theorem n_bestRoll (h : mAt mem M) (hn : m_z M 1 = nI n) (hn6 : n ≤ 6) (hm : m_z M 2 = nI m) (hmn : m < n) (hk : m_z M 3 = nI k) (hk6 : k ≤ 6) (ht60 : (m_z M 0).toInt ≤ 60) (hpl : mPlo (m_z M) n) (hto : ∀ i, 1 ≤ i → i ≤ 6 → 0 ≤ (m_z M (8 + 6 * m) + nI i).toInt) (hok : ∀ i, 1 ≤ i → i ≤ 6 → mRok (m_z M) n k m (nI i)) : Dt G kX4_bestRoll [.ref 86] mem (some (.int (mBe (fun i => mWo (mRoll (m_z M) n k m (nI i)) n m) 6).1)) (mPut mem (m_was M (m_z M))) := by
  obtain ⟨a0, a1, a2, a3, a4, a5, a6, a7⟩ := id h
  have w2 : (2 : Int32).toNatClampNeg = 2 := by decide
  have en : (nI n).toInt = (n : Int) := nI_toInt (by omega)
  have hput : ∀ i, Dt G kX4_putAside [.ref 86] (mPut mem (mAsd M i)) none (mPut mem (m_was M (m_z M))) := fun i => by
    have := n_putAside (G := G) h (mAsd M i)
    rw [show m_was (mAsd M i) (m_z (mAsd M i)) = m_was M (m_z M) by unfold mAsd; split <;> rfl] at this
    exact this
  refine Ct_of (by decide) (Nat.le_of_ble_eq_true rfl) ?_
  have loop : ∀ di i : Nat, 7 < i + di → i ≤ 7 → (1 ≤ i) → E G kX4_bestRoll (x_R (some (.int (mBe (fun i => mWo (mRoll (m_z M) n k m (nI i)) n m) 6).1)) (mPut mem (m_was M (m_z M)))) 0 0 ((mPut mem (mAsd M i))) 27 (x_L [(0, .ref 86), (1, .int (nI m)), (2, .int (mBe (fun i => mWo (mRoll (m_z M) n k m (nI i)) n m) (i - 1)).1), (3, .int (mBe (fun i => mWo (mRoll (m_z M) n k m (nI i)) n m) (i - 1)).2), (4, .int (nI i))]) [] := by
    intro di
    induction di with
    | zero => intro i hi1 hi2 _; exact absurd hi1 (by omega)
    | succ di ihi =>
      intro i hi1 hi2 hinv
      have ei : (nI i).toInt = (i : Int) := nI_toInt (by omega)
      have eci : (nI i).toNatClampNeg = i := nI_clamp (by omega)
      have b0 : (mPut mem (mAsd M i))[86]? = some (m_O M) := by have := (mAt_put h (mAsd M i)).1; rw [show m_O (mAsd M i) = m_O M by unfold mAsd; split <;> rfl] at this; exact this
      have c0 := (mAt_put h (m_was M (m_z M))).1
      have hr := mAt_put h (m_wz (m_was M (m_z M)) (mRoll (m_z M) n k m (nI i)))
      have d0 := hr.1
      refine E_iload dX4_bestRoll_27 (by rfl) ?_
      refine E_bipush (v := 6) dX4_bestRoll_29 (by decide) ?_
      refine E_icmp_gt (n := 6) (by decide) (tgt := 105) dX4_bestRoll_31 (by decide) (fun q31 => ?_) (fun q31 => ?_)
      · refine E_iload_n dX4_bestRoll_105 (by rfl) ?_
        refine E_iret dX4_bestRoll_106 rfl rfl (Nat.zero_le _) (Nat.zero_le _) ?_
        exact ⟨by rw [show i - 1 = 6 by omega], by rw [mAsd, if_neg (by omega)]⟩
      · refine E_aload_n dX4_bestRoll_34 (by rfl) ?_
        refine cs_X4_bestRoll_35 (by assumption) (Nat.le_of_ble_eq_true rfl) (hput i) ?_
        refine E_mem (mem' := mPut mem (m_wz (m_was M (m_z M)) (m_z M))) rfl ?_
        refine E_aload_n dX4_bestRoll_38 (by rfl) ?_
        refine E_iload dX4_bestRoll_39 (by rfl) ?_
        refine cs_X4_bestRoll_41 (by assumption) (Nat.le_of_ble_eq_true rfl) (n_rolls h (m_was M (m_z M)) (m_z M) hn hn6 hm hmn hk hk6 ht60 hpl (nI i) (hto i hinv (by omega)) (hok i hinv (by omega))) ?_
        refine E_pop dX4_bestRoll_44 rfl ?_
        refine E_aload_n dX4_bestRoll_45 (by rfl) ?_
        refine E_iload_n dX4_bestRoll_46 (by rfl) ?_
        refine cs_X4_bestRoll_47 (by assumption) (Nat.le_of_ble_eq_true rfl) (show Dt G kX4_worth [.ref 86, .int (nI m)] (mPut mem (m_wz (m_was M (m_z M)) (mRoll (m_z M) n k m (nI i)))) (some (.int (mWo (mRoll (m_z M) n k m (nI i)) n m))) (mPut mem (m_wz (m_was M (m_z M)) (mRoll (m_z M) n k m (nI i)))) from n_worth hr ((mRoll_fix hn6 hmn (hok i hinv (by omega)) (Or.inr (Or.inl rfl))).trans hn) hn6 m (by omega)) ?_
        refine E_istore dX4_bestRoll_50 (Nat.le_of_ble_eq_true rfl) (by rfl) ?_
        refine E_aload_n dX4_bestRoll_52 (by rfl) ?_
        refine cs_X4_bestRoll_53 (by assumption) (Nat.le_of_ble_eq_true rfl) (n_takeBack h (m_wz (m_was M (m_z M)) (mRoll (m_z M) n k m (nI i)))) ?_
        refine E_mem (mem' := mPut mem (m_was M (m_z M))) rfl ?_
        have hBe : mBe (fun i => mWo (mRoll (m_z M) n k m (nI i)) n m) (i + 1 - 1) = if (mBe (fun i => mWo (mRoll (m_z M) n k m (nI i)) n m) (i - 1)).1.toInt = -6 ∨ (mBe (fun i => mWo (mRoll (m_z M) n k m (nI i)) n m) (i - 1)).2.toInt < (mWo (mRoll (m_z M) n k m (nI i)) n m).toInt then (nI i, mWo (mRoll (m_z M) n k m (nI i)) n m) else mBe (fun i => mWo (mRoll (m_z M) n k m (nI i)) n m) (i - 1) := by conv => lhs; rw [show i + 1 - 1 = (i - 1) + 1 by omega, mBe, show i - 1 + 1 = i by omega]
        refine E_iload_n dX4_bestRoll_56 (by rfl) ?_
        refine E_bipush (v := (-6)) dX4_bestRoll_57 (by decide) ?_
        refine E_icmp_eq (n := (-6)) (by decide) (tgt := 68) dX4_bestRoll_59 (by decide) (fun q59 => ?_) (fun q59 => ?_)
        · rw [if_pos (Or.inl q59)] at hBe
          refine E_iconst (v := 1) dX4_bestRoll_68 (by decide) ?_
          refine E_goto (tgt := 73) dX4_bestRoll_69 (by decide) ?_
          refine E_istore dX4_bestRoll_73 (Nat.le_of_ble_eq_true rfl) (by rfl) ?_
          refine E_iload dX4_bestRoll_75 (by rfl) ?_
          refine E_if_eq (tgt := 85) dX4_bestRoll_77 (by decide) (fun q77 => ?_) (fun q77 => ?_)
          · refine E_iload_n dX4_bestRoll_85 (by rfl) ?_
            refine E_istore_n dX4_bestRoll_86 (Nat.le_of_ble_eq_true rfl) (by rfl) ?_
            refine E_iload dX4_bestRoll_87 (by rfl) ?_
            refine E_if_eq (tgt := 97) dX4_bestRoll_89 (by decide) (fun q89 => ?_) (fun q89 => ?_)
            · refine E_iload_n dX4_bestRoll_97 (by rfl) ?_
              refine E_istore_n dX4_bestRoll_98 (Nat.le_of_ble_eq_true rfl) (by rfl) ?_
              refine E_iinc (d := 1) dX4_bestRoll_99 (by rfl) (by decide) (Nat.le_of_ble_eq_true rfl) (by rfl) ?_
              refine E_goto (tgt := 27) dX4_bestRoll_102 (by decide) ?_
              refine E_mem (mem' := mPut mem (mAsd M (i + 1))) (by rw [mAsd, if_neg (by omega)]) ?_
              exact E_loc [(0, .ref 86), (1, .int (nI m)), (2, .int (mBe (fun i => mWo (mRoll (m_z M) n k m (nI i)) n m) ((i + 1) - 1)).1), (3, .int (mBe (fun i => mWo (mRoll (m_z M) n k m (nI i)) n m) ((i + 1) - 1)).2), (4, .int (nI (i + 1)))] ⟨rfl, rfl, x_i (by first | exact absurd q77 (by decide) | exact absurd q89 (by decide) | rw [hBe]), x_i (by first | exact absurd q77 (by decide) | exact absurd q89 (by decide) | rw [hBe]), x_i (by first | exact nI_1 _ | decide), trivial⟩ (ihi (i + 1) (by omega) (by omega) (by omega))
            · refine E_iload dX4_bestRoll_92 (by rfl) ?_
              refine E_goto (tgt := 98) dX4_bestRoll_94 (by decide) ?_
              refine E_istore_n dX4_bestRoll_98 (Nat.le_of_ble_eq_true rfl) (by rfl) ?_
              refine E_iinc (d := 1) dX4_bestRoll_99 (by rfl) (by decide) (Nat.le_of_ble_eq_true rfl) (by rfl) ?_
              refine E_goto (tgt := 27) dX4_bestRoll_102 (by decide) ?_
              refine E_mem (mem' := mPut mem (mAsd M (i + 1))) (by rw [mAsd, if_neg (by omega)]) ?_
              exact E_loc [(0, .ref 86), (1, .int (nI m)), (2, .int (mBe (fun i => mWo (mRoll (m_z M) n k m (nI i)) n m) ((i + 1) - 1)).1), (3, .int (mBe (fun i => mWo (mRoll (m_z M) n k m (nI i)) n m) ((i + 1) - 1)).2), (4, .int (nI (i + 1)))] ⟨rfl, rfl, x_i (by first | exact absurd q77 (by decide) | exact absurd q89 (by decide) | rw [hBe]), x_i (by first | exact absurd q77 (by decide) | exact absurd q89 (by decide) | rw [hBe]), x_i (by first | exact nI_1 _ | decide), trivial⟩ (ihi (i + 1) (by omega) (by omega) (by omega))
          · refine E_iload dX4_bestRoll_80 (by rfl) ?_
            refine E_goto (tgt := 86) dX4_bestRoll_82 (by decide) ?_
            refine E_istore_n dX4_bestRoll_86 (Nat.le_of_ble_eq_true rfl) (by rfl) ?_
            refine E_iload dX4_bestRoll_87 (by rfl) ?_
            refine E_if_eq (tgt := 97) dX4_bestRoll_89 (by decide) (fun q89 => ?_) (fun q89 => ?_)
            · refine E_iload_n dX4_bestRoll_97 (by rfl) ?_
              refine E_istore_n dX4_bestRoll_98 (Nat.le_of_ble_eq_true rfl) (by rfl) ?_
              refine E_iinc (d := 1) dX4_bestRoll_99 (by rfl) (by decide) (Nat.le_of_ble_eq_true rfl) (by rfl) ?_
              refine E_goto (tgt := 27) dX4_bestRoll_102 (by decide) ?_
              refine E_mem (mem' := mPut mem (mAsd M (i + 1))) (by rw [mAsd, if_neg (by omega)]) ?_
              exact E_loc [(0, .ref 86), (1, .int (nI m)), (2, .int (mBe (fun i => mWo (mRoll (m_z M) n k m (nI i)) n m) ((i + 1) - 1)).1), (3, .int (mBe (fun i => mWo (mRoll (m_z M) n k m (nI i)) n m) ((i + 1) - 1)).2), (4, .int (nI (i + 1)))] ⟨rfl, rfl, x_i (by first | exact absurd q77 (by decide) | exact absurd q89 (by decide) | rw [hBe]), x_i (by first | exact absurd q77 (by decide) | exact absurd q89 (by decide) | rw [hBe]), x_i (by first | exact nI_1 _ | decide), trivial⟩ (ihi (i + 1) (by omega) (by omega) (by omega))
            · refine E_iload dX4_bestRoll_92 (by rfl) ?_
              refine E_goto (tgt := 98) dX4_bestRoll_94 (by decide) ?_
              refine E_istore_n dX4_bestRoll_98 (Nat.le_of_ble_eq_true rfl) (by rfl) ?_
              refine E_iinc (d := 1) dX4_bestRoll_99 (by rfl) (by decide) (Nat.le_of_ble_eq_true rfl) (by rfl) ?_
              refine E_goto (tgt := 27) dX4_bestRoll_102 (by decide) ?_
              refine E_mem (mem' := mPut mem (mAsd M (i + 1))) (by rw [mAsd, if_neg (by omega)]) ?_
              exact E_loc [(0, .ref 86), (1, .int (nI m)), (2, .int (mBe (fun i => mWo (mRoll (m_z M) n k m (nI i)) n m) ((i + 1) - 1)).1), (3, .int (mBe (fun i => mWo (mRoll (m_z M) n k m (nI i)) n m) ((i + 1) - 1)).2), (4, .int (nI (i + 1)))] ⟨rfl, rfl, x_i (by first | exact absurd q77 (by decide) | exact absurd q89 (by decide) | rw [hBe]), x_i (by first | exact absurd q77 (by decide) | exact absurd q89 (by decide) | rw [hBe]), x_i (by first | exact nI_1 _ | decide), trivial⟩ (ihi (i + 1) (by omega) (by omega) (by omega))
        · refine E_iload dX4_bestRoll_62 (by rfl) ?_
          refine E_iload_n dX4_bestRoll_64 (by rfl) ?_
          refine E_icmp_le (n := _) rfl (tgt := 72) dX4_bestRoll_65 (by decide) (fun q65 => ?_) (fun q65 => ?_)
          · rw [if_neg (fun v => v.elim q59 (fun v => absurd v (by omega)))] at hBe
            refine E_iconst (v := 0) dX4_bestRoll_72 (by decide) ?_
            refine E_istore dX4_bestRoll_73 (Nat.le_of_ble_eq_true rfl) (by rfl) ?_
            refine E_iload dX4_bestRoll_75 (by rfl) ?_
            refine E_if_eq (tgt := 85) dX4_bestRoll_77 (by decide) (fun q77 => ?_) (fun q77 => ?_)
            · refine E_iload_n dX4_bestRoll_85 (by rfl) ?_
              refine E_istore_n dX4_bestRoll_86 (Nat.le_of_ble_eq_true rfl) (by rfl) ?_
              refine E_iload dX4_bestRoll_87 (by rfl) ?_
              refine E_if_eq (tgt := 97) dX4_bestRoll_89 (by decide) (fun q89 => ?_) (fun q89 => ?_)
              · refine E_iload_n dX4_bestRoll_97 (by rfl) ?_
                refine E_istore_n dX4_bestRoll_98 (Nat.le_of_ble_eq_true rfl) (by rfl) ?_
                refine E_iinc (d := 1) dX4_bestRoll_99 (by rfl) (by decide) (Nat.le_of_ble_eq_true rfl) (by rfl) ?_
                refine E_goto (tgt := 27) dX4_bestRoll_102 (by decide) ?_
                refine E_mem (mem' := mPut mem (mAsd M (i + 1))) (by rw [mAsd, if_neg (by omega)]) ?_
                exact E_loc [(0, .ref 86), (1, .int (nI m)), (2, .int (mBe (fun i => mWo (mRoll (m_z M) n k m (nI i)) n m) ((i + 1) - 1)).1), (3, .int (mBe (fun i => mWo (mRoll (m_z M) n k m (nI i)) n m) ((i + 1) - 1)).2), (4, .int (nI (i + 1)))] ⟨rfl, rfl, x_i (by first | exact absurd q77 (by decide) | exact absurd q89 (by decide) | rw [hBe]), x_i (by first | exact absurd q77 (by decide) | exact absurd q89 (by decide) | rw [hBe]), x_i (by first | exact nI_1 _ | decide), trivial⟩ (ihi (i + 1) (by omega) (by omega) (by omega))
              · refine E_iload dX4_bestRoll_92 (by rfl) ?_
                refine E_goto (tgt := 98) dX4_bestRoll_94 (by decide) ?_
                refine E_istore_n dX4_bestRoll_98 (Nat.le_of_ble_eq_true rfl) (by rfl) ?_
                refine E_iinc (d := 1) dX4_bestRoll_99 (by rfl) (by decide) (Nat.le_of_ble_eq_true rfl) (by rfl) ?_
                refine E_goto (tgt := 27) dX4_bestRoll_102 (by decide) ?_
                refine E_mem (mem' := mPut mem (mAsd M (i + 1))) (by rw [mAsd, if_neg (by omega)]) ?_
                exact E_loc [(0, .ref 86), (1, .int (nI m)), (2, .int (mBe (fun i => mWo (mRoll (m_z M) n k m (nI i)) n m) ((i + 1) - 1)).1), (3, .int (mBe (fun i => mWo (mRoll (m_z M) n k m (nI i)) n m) ((i + 1) - 1)).2), (4, .int (nI (i + 1)))] ⟨rfl, rfl, x_i (by first | exact absurd q77 (by decide) | exact absurd q89 (by decide) | rw [hBe]), x_i (by first | exact absurd q77 (by decide) | exact absurd q89 (by decide) | rw [hBe]), x_i (by first | exact nI_1 _ | decide), trivial⟩ (ihi (i + 1) (by omega) (by omega) (by omega))
            · refine E_iload dX4_bestRoll_80 (by rfl) ?_
              refine E_goto (tgt := 86) dX4_bestRoll_82 (by decide) ?_
              refine E_istore_n dX4_bestRoll_86 (Nat.le_of_ble_eq_true rfl) (by rfl) ?_
              refine E_iload dX4_bestRoll_87 (by rfl) ?_
              refine E_if_eq (tgt := 97) dX4_bestRoll_89 (by decide) (fun q89 => ?_) (fun q89 => ?_)
              · refine E_iload_n dX4_bestRoll_97 (by rfl) ?_
                refine E_istore_n dX4_bestRoll_98 (Nat.le_of_ble_eq_true rfl) (by rfl) ?_
                refine E_iinc (d := 1) dX4_bestRoll_99 (by rfl) (by decide) (Nat.le_of_ble_eq_true rfl) (by rfl) ?_
                refine E_goto (tgt := 27) dX4_bestRoll_102 (by decide) ?_
                refine E_mem (mem' := mPut mem (mAsd M (i + 1))) (by rw [mAsd, if_neg (by omega)]) ?_
                exact E_loc [(0, .ref 86), (1, .int (nI m)), (2, .int (mBe (fun i => mWo (mRoll (m_z M) n k m (nI i)) n m) ((i + 1) - 1)).1), (3, .int (mBe (fun i => mWo (mRoll (m_z M) n k m (nI i)) n m) ((i + 1) - 1)).2), (4, .int (nI (i + 1)))] ⟨rfl, rfl, x_i (by first | exact absurd q77 (by decide) | exact absurd q89 (by decide) | rw [hBe]), x_i (by first | exact absurd q77 (by decide) | exact absurd q89 (by decide) | rw [hBe]), x_i (by first | exact nI_1 _ | decide), trivial⟩ (ihi (i + 1) (by omega) (by omega) (by omega))
              · refine E_iload dX4_bestRoll_92 (by rfl) ?_
                refine E_goto (tgt := 98) dX4_bestRoll_94 (by decide) ?_
                refine E_istore_n dX4_bestRoll_98 (Nat.le_of_ble_eq_true rfl) (by rfl) ?_
                refine E_iinc (d := 1) dX4_bestRoll_99 (by rfl) (by decide) (Nat.le_of_ble_eq_true rfl) (by rfl) ?_
                refine E_goto (tgt := 27) dX4_bestRoll_102 (by decide) ?_
                refine E_mem (mem' := mPut mem (mAsd M (i + 1))) (by rw [mAsd, if_neg (by omega)]) ?_
                exact E_loc [(0, .ref 86), (1, .int (nI m)), (2, .int (mBe (fun i => mWo (mRoll (m_z M) n k m (nI i)) n m) ((i + 1) - 1)).1), (3, .int (mBe (fun i => mWo (mRoll (m_z M) n k m (nI i)) n m) ((i + 1) - 1)).2), (4, .int (nI (i + 1)))] ⟨rfl, rfl, x_i (by first | exact absurd q77 (by decide) | exact absurd q89 (by decide) | rw [hBe]), x_i (by first | exact absurd q77 (by decide) | exact absurd q89 (by decide) | rw [hBe]), x_i (by first | exact nI_1 _ | decide), trivial⟩ (ihi (i + 1) (by omega) (by omega) (by omega))
          · rw [if_pos (Or.inr (by omega))] at hBe
            refine E_iconst (v := 1) dX4_bestRoll_68 (by decide) ?_
            refine E_goto (tgt := 73) dX4_bestRoll_69 (by decide) ?_
            refine E_istore dX4_bestRoll_73 (Nat.le_of_ble_eq_true rfl) (by rfl) ?_
            refine E_iload dX4_bestRoll_75 (by rfl) ?_
            refine E_if_eq (tgt := 85) dX4_bestRoll_77 (by decide) (fun q77 => ?_) (fun q77 => ?_)
            · refine E_iload_n dX4_bestRoll_85 (by rfl) ?_
              refine E_istore_n dX4_bestRoll_86 (Nat.le_of_ble_eq_true rfl) (by rfl) ?_
              refine E_iload dX4_bestRoll_87 (by rfl) ?_
              refine E_if_eq (tgt := 97) dX4_bestRoll_89 (by decide) (fun q89 => ?_) (fun q89 => ?_)
              · refine E_iload_n dX4_bestRoll_97 (by rfl) ?_
                refine E_istore_n dX4_bestRoll_98 (Nat.le_of_ble_eq_true rfl) (by rfl) ?_
                refine E_iinc (d := 1) dX4_bestRoll_99 (by rfl) (by decide) (Nat.le_of_ble_eq_true rfl) (by rfl) ?_
                refine E_goto (tgt := 27) dX4_bestRoll_102 (by decide) ?_
                refine E_mem (mem' := mPut mem (mAsd M (i + 1))) (by rw [mAsd, if_neg (by omega)]) ?_
                exact E_loc [(0, .ref 86), (1, .int (nI m)), (2, .int (mBe (fun i => mWo (mRoll (m_z M) n k m (nI i)) n m) ((i + 1) - 1)).1), (3, .int (mBe (fun i => mWo (mRoll (m_z M) n k m (nI i)) n m) ((i + 1) - 1)).2), (4, .int (nI (i + 1)))] ⟨rfl, rfl, x_i (by first | exact absurd q77 (by decide) | exact absurd q89 (by decide) | rw [hBe]), x_i (by first | exact absurd q77 (by decide) | exact absurd q89 (by decide) | rw [hBe]), x_i (by first | exact nI_1 _ | decide), trivial⟩ (ihi (i + 1) (by omega) (by omega) (by omega))
              · refine E_iload dX4_bestRoll_92 (by rfl) ?_
                refine E_goto (tgt := 98) dX4_bestRoll_94 (by decide) ?_
                refine E_istore_n dX4_bestRoll_98 (Nat.le_of_ble_eq_true rfl) (by rfl) ?_
                refine E_iinc (d := 1) dX4_bestRoll_99 (by rfl) (by decide) (Nat.le_of_ble_eq_true rfl) (by rfl) ?_
                refine E_goto (tgt := 27) dX4_bestRoll_102 (by decide) ?_
                refine E_mem (mem' := mPut mem (mAsd M (i + 1))) (by rw [mAsd, if_neg (by omega)]) ?_
                exact E_loc [(0, .ref 86), (1, .int (nI m)), (2, .int (mBe (fun i => mWo (mRoll (m_z M) n k m (nI i)) n m) ((i + 1) - 1)).1), (3, .int (mBe (fun i => mWo (mRoll (m_z M) n k m (nI i)) n m) ((i + 1) - 1)).2), (4, .int (nI (i + 1)))] ⟨rfl, rfl, x_i (by first | exact absurd q77 (by decide) | exact absurd q89 (by decide) | rw [hBe]), x_i (by first | exact absurd q77 (by decide) | exact absurd q89 (by decide) | rw [hBe]), x_i (by first | exact nI_1 _ | decide), trivial⟩ (ihi (i + 1) (by omega) (by omega) (by omega))
            · refine E_iload dX4_bestRoll_80 (by rfl) ?_
              refine E_goto (tgt := 86) dX4_bestRoll_82 (by decide) ?_
              refine E_istore_n dX4_bestRoll_86 (Nat.le_of_ble_eq_true rfl) (by rfl) ?_
              refine E_iload dX4_bestRoll_87 (by rfl) ?_
              refine E_if_eq (tgt := 97) dX4_bestRoll_89 (by decide) (fun q89 => ?_) (fun q89 => ?_)
              · refine E_iload_n dX4_bestRoll_97 (by rfl) ?_
                refine E_istore_n dX4_bestRoll_98 (Nat.le_of_ble_eq_true rfl) (by rfl) ?_
                refine E_iinc (d := 1) dX4_bestRoll_99 (by rfl) (by decide) (Nat.le_of_ble_eq_true rfl) (by rfl) ?_
                refine E_goto (tgt := 27) dX4_bestRoll_102 (by decide) ?_
                refine E_mem (mem' := mPut mem (mAsd M (i + 1))) (by rw [mAsd, if_neg (by omega)]) ?_
                exact E_loc [(0, .ref 86), (1, .int (nI m)), (2, .int (mBe (fun i => mWo (mRoll (m_z M) n k m (nI i)) n m) ((i + 1) - 1)).1), (3, .int (mBe (fun i => mWo (mRoll (m_z M) n k m (nI i)) n m) ((i + 1) - 1)).2), (4, .int (nI (i + 1)))] ⟨rfl, rfl, x_i (by first | exact absurd q77 (by decide) | exact absurd q89 (by decide) | rw [hBe]), x_i (by first | exact absurd q77 (by decide) | exact absurd q89 (by decide) | rw [hBe]), x_i (by first | exact nI_1 _ | decide), trivial⟩ (ihi (i + 1) (by omega) (by omega) (by omega))
              · refine E_iload dX4_bestRoll_92 (by rfl) ?_
                refine E_goto (tgt := 98) dX4_bestRoll_94 (by decide) ?_
                refine E_istore_n dX4_bestRoll_98 (Nat.le_of_ble_eq_true rfl) (by rfl) ?_
                refine E_iinc (d := 1) dX4_bestRoll_99 (by rfl) (by decide) (Nat.le_of_ble_eq_true rfl) (by rfl) ?_
                refine E_goto (tgt := 27) dX4_bestRoll_102 (by decide) ?_
                refine E_mem (mem' := mPut mem (mAsd M (i + 1))) (by rw [mAsd, if_neg (by omega)]) ?_
                exact E_loc [(0, .ref 86), (1, .int (nI m)), (2, .int (mBe (fun i => mWo (mRoll (m_z M) n k m (nI i)) n m) ((i + 1) - 1)).1), (3, .int (mBe (fun i => mWo (mRoll (m_z M) n k m (nI i)) n m) ((i + 1) - 1)).2), (4, .int (nI (i + 1)))] ⟨rfl, rfl, x_i (by first | exact absurd q77 (by decide) | exact absurd q89 (by decide) | rw [hBe]), x_i (by first | exact absurd q77 (by decide) | exact absurd q89 (by decide) | rw [hBe]), x_i (by first | exact nI_1 _ | decide), trivial⟩ (ihi (i + 1) (by omega) (by omega) (by omega))
  refine E_aload_n dX4_bestRoll_0 (by rfl) ?_
  refine gf_X4_7 dX4_bestRoll_1 rfl (by assumption) (by rfl) ?_
  refine E_iconst (v := 1) dX4_bestRoll_4 (by decide) ?_
  refine E_iald dX4_bestRoll_5 (by assumption) (i_in (by decide) (by decide)) ?_
  rw [n_1, hn]
  refine E_if_ne (tgt := 12) dX4_bestRoll_6 (by decide) (fun q6 => ?_) (fun q6 => ?_)
  · refine E_aload_n dX4_bestRoll_12 (by rfl) ?_
    refine gf_X4_7 dX4_bestRoll_13 rfl (by assumption) (by rfl) ?_
    refine E_iconst (v := 2) dX4_bestRoll_16 (by decide) ?_
    refine E_iald dX4_bestRoll_17 (by assumption) (i_in (by decide) (by decide)) ?_
    rw [w2, hm]
    refine E_istore_n dX4_bestRoll_18 (Nat.le_of_ble_eq_true rfl) (by rfl) ?_
    refine E_bipush (v := (-6)) dX4_bestRoll_19 (by decide) ?_
    refine E_istore_n dX4_bestRoll_21 (Nat.le_of_ble_eq_true rfl) (by rfl) ?_
    refine E_iconst (v := 0) dX4_bestRoll_22 (by decide) ?_
    refine E_istore_n dX4_bestRoll_23 (Nat.le_of_ble_eq_true rfl) (by rfl) ?_
    refine E_iconst (v := 1) dX4_bestRoll_24 (by decide) ?_
    refine E_istore dX4_bestRoll_25 (Nat.le_of_ble_eq_true rfl) (by rfl) ?_
    refine E_mem (mem' := mPut mem (mAsd M 1)) (by rw [mAsd, if_pos rfl, mPut_self h]) ?_
    exact E_loc [(0, .ref 86), (1, .int (nI m)), (2, .int (-6)), (3, .int 0), (4, .int (nI 1))] ⟨rfl, rfl, rfl, rfl, x_i (by decide), trivial⟩ (loop (7 + 1) 1 (by omega) (by omega) (Nat.le_refl _))
  · exact absurd q6 (by omega)
theorem n_quietRolls_no (h : mAt mem M) (hn : m_z M 1 = 0) : Dt G kX4_quietRolls [.ref 86] mem (some (.int (-6))) mem := by
  obtain ⟨a0, a1, a2, a3, a4, a5, a6, a7⟩ := id h
  refine Ct_of (by decide) (Nat.le_of_ble_eq_true rfl) ?_
  refine E_aload_n dX4_quietRolls_0 (by rfl) ?_
  refine gf_X4_7 dX4_quietRolls_1 rfl (by assumption) (by rfl) ?_
  refine E_iconst (v := 1) dX4_quietRolls_4 (by decide) ?_
  refine E_iald dX4_quietRolls_5 (by assumption) (i_in (by decide) (by decide)) ?_
  rw [n_1, hn]
  refine E_if_ne (tgt := 12) dX4_quietRolls_6 (by decide) (fun q6 => ?_) (fun q6 => ?_)
  · exact absurd q6 (by decide)
  · refine E_bipush (v := (-6)) dX4_quietRolls_9 (by decide) ?_
    refine E_iret dX4_quietRolls_11 rfl rfl (Nat.zero_le _) (Nat.zero_le _) ?_
    exact ⟨rfl, rfl⟩
theorem n_quietRolls (h : mAt mem M) (hn : m_z M 1 = nI n) (hn6 : n ≤ 6) (hm : m_z M 2 = nI m) (hmn : m < n) (hpl : mPlo (m_z M) n) : Dt G kX4_quietRolls [.ref 86] mem (some (.int (sQu (fun i => (mPB (m_z M) n m (nI i)).toInt = 0) 6))) mem := by
  obtain ⟨a0, a1, a2, a3, a4, a5, a6, a7⟩ := id h
  have en : (nI n).toInt = (n : Int) := nI_toInt (by omega)
  have hpb : ∀ u, Dt G kX4_passedBy [.ref 86, .int u] mem (some (.int (mPB (m_z M) n m u))) mem := fun u => by
    have := n_passedBy (G := G) h M (m_z M) hn hn6 hm (by omega) hpl u
    rw [show mPut mem (m_wz M (m_z M)) = mem from mPut_self h] at this
    exact this
  refine Ct_of (by decide) (Nat.le_of_ble_eq_true rfl) ?_
  have loop : ∀ di i : Nat, 7 < i + di → i ≤ 7 → (1 ≤ i) → E G kX4_quietRolls (x_R (some (.int (sQu (fun i => (mPB (m_z M) n m (nI i)).toInt = 0) 6))) mem) 0 0 (mem) 16 (x_L [(0, .ref 86), (1, .int (sQu (fun i => (mPB (m_z M) n m (nI i)).toInt = 0) (i - 1))), (2, .int (nI i))]) [] := by
    intro di
    induction di with
    | zero => intro i hi1 hi2 _; exact absurd hi1 (by omega)
    | succ di ihi =>
      intro i hi1 hi2 hinv
      have ei : (nI i).toInt = (i : Int) := nI_toInt (by omega)
      have eci : (nI i).toNatClampNeg = i := nI_clamp (by omega)
      refine E_iload_n dX4_quietRolls_16 (by rfl) ?_
      refine E_bipush (v := 6) dX4_quietRolls_17 (by decide) ?_
      refine E_icmp_gt (n := 6) (by decide) (tgt := 46) dX4_quietRolls_19 (by decide) (fun q19 => ?_) (fun q19 => ?_)
      · refine E_iload_n dX4_quietRolls_46 (by rfl) ?_
        refine E_iret dX4_quietRolls_47 rfl rfl (Nat.zero_le _) (Nat.zero_le _) ?_
        exact ⟨by rw [show i - 1 = 6 by omega], rfl⟩
      · refine E_iload_n dX4_quietRolls_22 (by rfl) ?_
        refine E_aload_n dX4_quietRolls_23 (by rfl) ?_
        refine E_iload_n dX4_quietRolls_24 (by rfl) ?_
        refine cs_X4_quietRolls_25 (by assumption) (Nat.le_of_ble_eq_true rfl) (hpb (nI i)) ?_
        refine E_if_ne (tgt := 37) dX4_quietRolls_28 (by decide) (fun q28 => ?_) (fun q28 => ?_)
        · refine E_iconst (v := 0) dX4_quietRolls_37 (by decide) ?_
          refine E_ior dX4_quietRolls_38 ?_
          refine E_istore_n dX4_quietRolls_39 (Nat.le_of_ble_eq_true rfl) (by rfl) ?_
          refine E_iinc (d := 1) dX4_quietRolls_40 (by rfl) (by decide) (Nat.le_of_ble_eq_true rfl) (by rfl) ?_
          refine E_goto (tgt := 16) dX4_quietRolls_43 (by decide) ?_
          exact E_loc [(0, .ref 86), (1, .int (sQu (fun i => (mPB (m_z M) n m (nI i)).toInt = 0) ((i + 1) - 1))), (2, .int (nI (i + 1)))] ⟨rfl, x_i (by rw [show i + 1 - 1 = (i - 1) + 1 by omega, sQu, show i - 1 + 1 = i by omega]; first | rw [if_pos q28] | rw [if_neg q28, Int32.or_zero]), x_i (by first | exact nI_1 _ | decide), trivial⟩ (ihi (i + 1) (by omega) (by omega) (by omega))
        · refine E_iconst (v := 1) dX4_quietRolls_31 (by decide) ?_
          refine E_iload_n dX4_quietRolls_32 (by rfl) ?_
          refine E_ishl dX4_quietRolls_33 ?_
          refine E_goto (tgt := 38) dX4_quietRolls_34 (by decide) ?_
          refine E_ior dX4_quietRolls_38 ?_
          refine E_istore_n dX4_quietRolls_39 (Nat.le_of_ble_eq_true rfl) (by rfl) ?_
          refine E_iinc (d := 1) dX4_quietRolls_40 (by rfl) (by decide) (Nat.le_of_ble_eq_true rfl) (by rfl) ?_
          refine E_goto (tgt := 16) dX4_quietRolls_43 (by decide) ?_
          exact E_loc [(0, .ref 86), (1, .int (sQu (fun i => (mPB (m_z M) n m (nI i)).toInt = 0) ((i + 1) - 1))), (2, .int (nI (i + 1)))] ⟨rfl, x_i (by rw [show i + 1 - 1 = (i - 1) + 1 by omega, sQu, show i - 1 + 1 = i by omega]; first | rw [if_pos q28] | rw [if_neg q28, Int32.or_zero]), x_i (by first | exact nI_1 _ | decide), trivial⟩ (ihi (i + 1) (by omega) (by omega) (by omega))
  refine E_aload_n dX4_quietRolls_0 (by rfl) ?_
  refine gf_X4_7 dX4_quietRolls_1 rfl (by assumption) (by rfl) ?_
  refine E_iconst (v := 1) dX4_quietRolls_4 (by decide) ?_
  refine E_iald dX4_quietRolls_5 (by assumption) (i_in (by decide) (by decide)) ?_
  rw [n_1, hn]
  refine E_if_ne (tgt := 12) dX4_quietRolls_6 (by decide) (fun q6 => ?_) (fun q6 => ?_)
  · refine E_iconst (v := 0) dX4_quietRolls_12 (by decide) ?_
    refine E_istore_n dX4_quietRolls_13 (Nat.le_of_ble_eq_true rfl) (by rfl) ?_
    refine E_iconst (v := 1) dX4_quietRolls_14 (by decide) ?_
    refine E_istore_n dX4_quietRolls_15 (Nat.le_of_ble_eq_true rfl) (by rfl) ?_
    exact E_loc [(0, .ref 86), (1, .int (sQu (fun i => (mPB (m_z M) n m (nI i)).toInt = 0) (1 - 1))), (2, .int (nI 1))] ⟨rfl, x_i (by rfl), x_i (by decide), trivial⟩ (loop (7 + 1) 1 (by omega) (by omega) (Nat.le_refl _))
  · exact absurd q6 (by omega)
end N5
