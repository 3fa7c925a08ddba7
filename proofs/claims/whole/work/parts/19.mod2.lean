/-! the reference: recorded states, and what writes -/
section N2
variable {G : xG} {mem : xM} {M N : mS} {t n k c : Nat}
theorem mS_z (h : mAt mem M) (N : mS) (f : Nat → Int32) : (mPut mem N).set 87 (g_a 0 118 f) = mPut mem (m_wz N f) := mSetP h _ 1 (by decide) rfl
theorem mS_pa (h : mAt mem M) (N : mS) (f : Nat → Int32) : (mPut mem N).set 88 (g_a 0 590 f) = mPut mem (m_wpa N f) := mSetP h _ 2 (by decide) rfl
theorem mS_ke (h : mAt mem M) (N : mS) (f : Nat → Int32) : (mPut mem N).set 89 (g_a 0 118 f) = mPut mem (m_wke N f) := mSetP h _ 3 (by decide) rfl
theorem mS_as (h : mAt mem M) (N : mS) (f : Nat → Int32) : (mPut mem N).set 90 (g_a 0 118 f) = mPut mem (m_was N f) := mSetP h _ 4 (by decide) rfl
theorem mS_bu (h : mAt mem M) (N : mS) (f : Nat → Int32) : (mPut mem N).set 91 (.inl (2, 60, .inl f)) = mPut mem (m_wbu N f) := mSetP h _ 5 (by decide) rfl
theorem mS_re (h : mAt mem M) (N : mS) (f : Nat → Int32) : (mPut mem N).set 92 (g_a 0 61 f) = mPut mem (m_wre N f) := mSetP h _ 6 (by decide) rfl
theorem mS_to (h : mAt mem M) (N : mS) (f : Nat → Int32) : (mPut mem N).set 93 (g_a 0 93 f) = mPut mem (m_wto N f) := mSetP h _ 7 (by decide) rfl
theorem mS_O (h : mAt mem M) (N : mS) (N' : mS) (e : N.1 = N'.1 ∧ m_pa N = m_pa N' ∧ m_ke N = m_ke N' ∧ m_as N = m_as N' ∧ m_bu N = m_bu N' ∧ m_re N = m_re N' ∧ m_to N = m_to N') : (mPut mem N).set 86 (m_O N') = mPut mem N' := by
  obtain ⟨e1, e2, e3, e4, e5, e6, e7⟩ := e
  refine mSetP h _ 0 (by decide) ?_
  show [m_O N', g_a 0 118 (m_z N), g_a 0 590 (m_pa N), g_a 0 118 (m_ke N), g_a 0 118 (m_as N), .inl (2, 60, .inl (m_bu N)), g_a 0 61 (m_re N), g_a 0 93 (m_to N)] = _
  rw [show m_z N = m_z N' from e1, e2, e3, e4, e5, e6, e7]
  rfl
/-- the first i as in s, the others as in d -/
def fCp (d s : Nat → Int32) (i : Nat) : Nat → Int32 := fun j => if j < i then s j else d j
theorem fCp_0 (d s : Nat → Int32) : fCp d s 0 = d := by funext j; unfold fCp; rw [if_neg (by omega)]
theorem fCp_s (d s : Nat → Int32) (i : Nat) : upd (fCp d s i) i (s i) = fCp d s (i + 1) := by
  funext j
  unfold upd fCp
  by_cases e : j = i
  · rw [if_pos e, if_pos (by omega), e]
  · rw [if_neg e]
    by_cases e2 : j < i
    · rw [if_pos e2, if_pos (by omega)]
    · rw [if_neg e2, if_neg (by omega)]
theorem fCp_lt {d s : Nat → Int32} {i j : Nat} (h : j < i) : fCp d s i j = s j := if_pos h
theorem fCp_ge {d s : Nat → Int32} {i j : Nat} (h : ¬ j < i) : fCp d s i j = d j := if_neg h
theorem n_putAside (h : mAt mem M) (N : mS) : Dt G kX4_putAside [.ref 86] (mPut mem N) none (mPut mem (m_was N (m_z N))) := by
  refine Ct_of (by decide) (Nat.le_of_ble_eq_true rfl) ?_
  have loop : ∀ di i : Nat, 118 < i + di → i ≤ 118 → E G kX4_putAside (x_R (none) (mPut mem (m_was N (m_z N)))) 0 0 ((mPut mem (m_was N (fCp (m_as N) (m_z N) i)))) 2 (x_L [(0, .ref 86), (1, .int (nI i))]) [] := by
    intro di
    induction di with
    | zero => intro i hi1 hi2; exact absurd hi1 (by omega)
    | succ di ihi =>
      intro i hi1 hi2
      have ei : (nI i).toInt = (i : Int) := nI_toInt (by omega)
      have eci : (nI i).toNatClampNeg = i := nI_clamp (by omega)
      obtain ⟨a0, a1, a2, a3, a4, a5, a6, a7⟩ := mAt_put h (m_was N (fCp (m_as N) (m_z N) i))
      refine E_iload_n dX4_putAside_2 (by rfl) ?_
      refine E_bipush (v := 118) dX4_putAside_3 (by decide) ?_
      refine E_icmp_ge (n := 118) (by decide) (tgt := 26) dX4_putAside_5 (by decide) (fun q5 => ?_) (fun q5 => ?_)
      · refine E_ext a4 (f' := m_z N) (fun j hj => fCp_lt (by omega)) ?_
        refine E_mem (mS_as h _ _) ?_
        refine E_vret dX4_putAside_26 rfl (Nat.zero_le _) (Nat.zero_le _) ?_
        exact ⟨rfl, rfl⟩
      · refine E_aload_n dX4_putAside_8 (by rfl) ?_
        refine gf_X4_19 dX4_putAside_9 rfl (by assumption) (by rfl) ?_
        refine E_iload_n dX4_putAside_12 (by rfl) ?_
        refine E_aload_n dX4_putAside_13 (by rfl) ?_
        refine gf_X4_7 dX4_putAside_14 rfl (by assumption) (by rfl) ?_
        refine E_iload_n dX4_putAside_17 (by rfl) ?_
        refine E_iald dX4_putAside_18 (by assumption) (i_in (by omega) (by omega)) ?_
        refine E_iast dX4_putAside_19 (by assumption) (i_in (by omega) (by omega)) ?_
        refine E_iinc (d := 1) dX4_putAside_20 (by rfl) (by decide) (Nat.le_of_ble_eq_true rfl) (by rfl) ?_
        refine E_goto (tgt := 2) dX4_putAside_23 (by decide) ?_
        refine E_mem ((mS_as h _ _).trans (congrArg (fun f => mPut mem (m_was N f)) (Eq.trans (by rw [eci]) (fCp_s (m_as N) (m_z N) i)))) ?_
        exact E_loc [(0, .ref 86), (1, .int (nI (i + 1)))] ⟨rfl, x_i (by first | exact nI_1 _ | decide), trivial⟩ (ihi (i + 1) (by omega) (by omega))
  refine E_iconst (v := 0) dX4_putAside_0 (by decide) ?_
  refine E_istore_n dX4_putAside_1 (Nat.le_of_ble_eq_true rfl) (by rfl) ?_
  refine E_mem (show mPut mem N = mPut mem (m_was N (fCp (m_as N) (m_z N) 0)) by rw [fCp_0]) ?_
  exact E_loc [(0, .ref 86), (1, .int (nI 0))] ⟨rfl, x_i rfl, trivial⟩ (loop (118 + 1) 0 (by omega) (by omega))
theorem n_takeBack (h : mAt mem M) (N : mS) : Dt G kX4_takeBack [.ref 86] (mPut mem N) none (mPut mem (m_wz N (m_as N))) := by
  refine Ct_of (by decide) (Nat.le_of_ble_eq_true rfl) ?_
  have loop : ∀ di i : Nat, 118 < i + di → i ≤ 118 → E G kX4_takeBack (x_R (none) (mPut mem (m_wz N (m_as N)))) 0 0 ((mPut mem (m_wz N (fCp (m_z N) (m_as N) i)))) 2 (x_L [(0, .ref 86), (1, .int (nI i))]) [] := by
    intro di
    induction di with
    | zero => intro i hi1 hi2; exact absurd hi1 (by omega)
    | succ di ihi =>
      intro i hi1 hi2
      have ei : (nI i).toInt = (i : Int) := nI_toInt (by omega)
      have eci : (nI i).toNatClampNeg = i := nI_clamp (by omega)
      obtain ⟨a0, a1, a2, a3, a4, a5, a6, a7⟩ := mAt_put h (m_wz N (fCp (m_z N) (m_as N) i))
      refine E_iload_n dX4_takeBack_2 (by rfl) ?_
      refine E_bipush (v := 118) dX4_takeBack_3 (by decide) ?_
      refine E_icmp_ge (n := 118) (by decide) (tgt := 26) dX4_takeBack_5 (by decide) (fun q5 => ?_) (fun q5 => ?_)
      · refine E_ext a1 (f' := m_as N) (fun j hj => fCp_lt (by omega)) ?_
        refine E_mem (mS_z h _ _) ?_
        refine E_vret dX4_takeBack_26 rfl (Nat.zero_le _) (Nat.zero_le _) ?_
        exact ⟨rfl, rfl⟩
      · refine E_aload_n dX4_takeBack_8 (by rfl) ?_
        refine gf_X4_7 dX4_takeBack_9 rfl (by assumption) (by rfl) ?_
        refine E_iload_n dX4_takeBack_12 (by rfl) ?_
        refine E_aload_n dX4_takeBack_13 (by rfl) ?_
        refine gf_X4_19 dX4_takeBack_14 rfl (by assumption) (by rfl) ?_
        refine E_iload_n dX4_takeBack_17 (by rfl) ?_
        refine E_iald dX4_takeBack_18 (by assumption) (i_in (by omega) (by omega)) ?_
        refine E_iast dX4_takeBack_19 (by assumption) (i_in (by omega) (by omega)) ?_
        refine E_iinc (d := 1) dX4_takeBack_20 (by rfl) (by decide) (Nat.le_of_ble_eq_true rfl) (by rfl) ?_
        refine E_goto (tgt := 2) dX4_takeBack_23 (by decide) ?_
        refine E_mem ((mS_z h _ _).trans (congrArg (fun f => mPut mem (m_wz N f)) (Eq.trans (by rw [eci]) (fCp_s (m_z N) (m_as N) i)))) ?_
        exact E_loc [(0, .ref 86), (1, .int (nI (i + 1)))] ⟨rfl, x_i (by first | exact nI_1 _ | decide), trivial⟩ (ihi (i + 1) (by omega) (by omega))
  refine E_iconst (v := 0) dX4_takeBack_0 (by decide) ?_
  refine E_istore_n dX4_takeBack_1 (Nat.le_of_ble_eq_true rfl) (by rfl) ?_
  refine E_mem (show mPut mem N = mPut mem (m_wz N (fCp (m_z N) (m_as N) 0)) by rw [fCp_0]) ?_
  exact E_loc [(0, .ref 86), (1, .int (nI 0))] ⟨rfl, x_i rfl, trivial⟩ (loop (118 + 1) 0 (by omega) (by omega))
theorem n_save (h : mAt mem M) (N : mS) : Dt G kX4_save [.ref 86] (mPut mem N) (some (.int (m_z N 1))) (mPut mem (m_wik (m_wke N (m_z N)) 1)) := by
  obtain ⟨l0, l1, l2, l3, l4, l5, l6, l7⟩ := mAt_put h N
  refine Ct_of (by decide) (Nat.le_of_ble_eq_true rfl) ?_
  have loop : ∀ di i : Nat, 118 < i + di → i ≤ 118 → E G kX4_save (x_R (some (.int (m_z N 1))) (mPut mem (m_wik (m_wke N (m_z N)) 1))) 0 0 ((mPut mem (m_wke (m_wik N 1) (fCp (m_ke N) (m_z N) i)))) 7 (x_L [(0, .ref 86), (1, .int (nI i))]) [] := by
    intro di
    induction di with
    | zero => intro i hi1 hi2; exact absurd hi1 (by omega)
    | succ di ihi =>
      intro i hi1 hi2
      have ei : (nI i).toInt = (i : Int) := nI_toInt (by omega)
      have eci : (nI i).toNatClampNeg = i := nI_clamp (by omega)
      obtain ⟨a0, a1, a2, a3, a4, a5, a6, a7⟩ := mAt_put h (m_wke (m_wik N 1) (fCp (m_ke N) (m_z N) i))
      refine E_iload_n dX4_save_7 (by rfl) ?_
      refine E_bipush (v := 118) dX4_save_8 (by decide) ?_
      refine E_icmp_ge (n := 118) (by decide) (tgt := 31) dX4_save_10 (by decide) (fun q10 => ?_) (fun q10 => ?_)
      · refine E_ext a3 (f' := m_z N) (fun j hj => fCp_lt (by omega)) ?_
        refine E_mem (mS_ke h _ _) ?_
        obtain ⟨a0, a1, a2, a3, a4, a5, a6, a7⟩ := mAt_put h (m_wke (m_wik N 1) (m_z N))
        refine E_aload_n dX4_save_31 (by rfl) ?_
        refine gf_X4_7 dX4_save_32 rfl (by assumption) (by rfl) ?_
        refine E_iconst (v := 1) dX4_save_35 (by decide) ?_
        refine E_iald dX4_save_36 (by assumption) (i_in (by decide) (by decide)) ?_
        refine E_iret dX4_save_37 rfl rfl (Nat.zero_le _) (Nat.zero_le _) ?_
        exact ⟨rfl, rfl⟩
      · refine E_aload_n dX4_save_13 (by rfl) ?_
        refine gf_X4_16 dX4_save_14 rfl (by assumption) (by rfl) ?_
        refine E_iload_n dX4_save_17 (by rfl) ?_
        refine E_aload_n dX4_save_18 (by rfl) ?_
        refine gf_X4_7 dX4_save_19 rfl (by assumption) (by rfl) ?_
        refine E_iload_n dX4_save_22 (by rfl) ?_
        refine E_iald dX4_save_23 (by assumption) (i_in (by omega) (by omega)) ?_
        refine E_iast dX4_save_24 (by assumption) (i_in (by omega) (by omega)) ?_
        refine E_iinc (d := 1) dX4_save_25 (by rfl) (by decide) (Nat.le_of_ble_eq_true rfl) (by rfl) ?_
        refine E_goto (tgt := 7) dX4_save_28 (by decide) ?_
        refine E_mem ((mS_ke h _ _).trans (congrArg (fun f => mPut mem (m_wke (m_wik N 1) f)) (Eq.trans (by rw [eci]) (fCp_s (m_ke N) (m_z N) i)))) ?_
        exact E_loc [(0, .ref 86), (1, .int (nI (i + 1)))] ⟨rfl, x_i (by first | exact nI_1 _ | decide), trivial⟩ (ihi (i + 1) (by omega) (by omega))
  refine E_aload_n dX4_save_0 (by rfl) ?_
  refine E_iconst (v := 1) dX4_save_1 (by decide) ?_
  refine pf_X4_36 dX4_save_2 rfl (by decide) (by assumption) (Nat.le_of_ble_eq_true rfl) ?_
  refine E_mem (mS_O h N (m_wik N 1) ⟨rfl, rfl, rfl, rfl, rfl, rfl, rfl⟩) ?_
  refine E_iconst (v := 0) dX4_save_5 (by decide) ?_
  refine E_istore_n dX4_save_6 (Nat.le_of_ble_eq_true rfl) (by rfl) ?_
  refine E_mem (show mPut mem (m_wik N 1) = mPut mem (m_wke (m_wik N 1) (fCp (m_ke N) (m_z N) 0)) by rw [fCp_0]) ?_
  exact E_loc [(0, .ref 86), (1, .int (nI 0))] ⟨rfl, x_i rfl, trivial⟩ (loop (118 + 1) 0 (by omega) (by omega))
/-- all one block on -/
def fSft (f : Nat → Int32) : Nat → Int32 := fun j => f (j + 118)
/-- block c: z's first i -/
def fBl (f z : Nat → Int32) (c i : Nat) : Nat → Int32 := fun j => if c * 118 ≤ j ∧ j < c * 118 + i then z (j - c * 118) else f j
theorem fBl_0 (f z : Nat → Int32) (c : Nat) : fBl f z c 0 = f := by funext j; unfold fBl; rw [if_neg (by omega)]
theorem fBl_s (f z : Nat → Int32) (c i : Nat) : upd (fBl f z c i) (c * 118 + i) (z i) = fBl f z c (i + 1) := by
  funext j
  unfold upd fBl
  by_cases e : j = c * 118 + i
  · rw [if_pos e, if_pos (by omega), e, show c * 118 + i - c * 118 = i by omega]
  · rw [if_neg e]
    by_cases e2 : c * 118 ≤ j ∧ j < c * 118 + i
    · rw [if_pos e2, if_pos (by omega)]
    · rw [if_neg e2, if_neg (by omega)]
def mRp (N : mS) (c : Nat) : Nat → Int32 := if c = 5 then fBl (fCp (m_pa N) (fSft (m_pa N)) 472) (m_z N) 4 118 else fBl (m_pa N) (m_z N) c 118
abbrev mRec (N : mS) (c : Nat) : mS := m_wpm (m_wpa N (mRp N c)) (nI (min (c + 1) 5))
theorem n_record48 (h : mAt mem M) (N : mS) (hc : m_pm N = nI c) (hc5 : c < 5) (loc : Nat → Option Value) (hl : loc 0 = some (.ref 86)) : E G kX4_record (x_R none (mPut mem (m_wpm (m_wpa N (fBl (m_pa N) (m_z N) c 118)) (nI (c + 1))))) 0 0 (mPut mem N) 48 loc [] := by
  have ec : (nI c).toInt = (c : Int) := nI_toInt (by omega)
  have ix : ∀ i, nI c * 118 + nI i = nI (c * 118 + i) := fun i => by
    rw [show (118 : Int32) = nI 118 from rfl, pk_mul, nI_add]
  have loop : ∀ di i : Nat, 118 < i + di → i ≤ 118 → E G kX4_record (x_R (none) (mPut mem (m_wpm (m_wpa N (fBl (m_pa N) (m_z N) c 118)) (nI (c + 1))))) 0 0 ((mPut mem (m_wpa N (fBl (m_pa N) (m_z N) c i)))) 50 (x_L [(0, .ref 86), (1, .int (nI i))]) [] := by
    intro di
    induction di with
    | zero => intro i hi1 hi2; exact absurd hi1 (by omega)
    | succ di ihi =>
      intro i hi1 hi2
      have ei : (nI i).toInt = (i : Int) := nI_toInt (by omega)
      have eci : (nI i).toNatClampNeg = i := nI_clamp (by omega)
      obtain ⟨a0, a1, a2, a3, a4, a5, a6, a7⟩ := mAt_put h (m_wpa N (fBl (m_pa N) (m_z N) c i))
      have ex : (nI (c * 118 + i)).toInt = ((c * 118 + i : Nat) : Int) := nI_toInt (by omega)
      have ex2 : (nI (c * 118 + i)).toNatClampNeg = c * 118 + i := nI_clamp (by omega)
      refine E_iload_n dX4_record_50 (by rfl) ?_
      refine E_bipush (v := 118) dX4_record_51 (by decide) ?_
      refine E_icmp_ge (n := 118) (by decide) (tgt := 82) dX4_record_53 (by decide) (fun q53 => ?_) (fun q53 => ?_)
      · obtain rfl : i = 118 := by omega
        refine E_aload_n dX4_record_82 (by rfl) ?_
        refine E_dup dX4_record_83 rfl ?_
        refine gf_X4_32 dX4_record_84 rfl (by assumption) (by rfl) ?_
        refine E_iconst (v := 1) dX4_record_87 (by decide) ?_
        refine E_iadd dX4_record_88 ?_
        refine pf_X4_32 dX4_record_89 rfl (by assumption) (Nat.le_of_ble_eq_true rfl) ?_
        refine E_vret dX4_record_92 rfl (Nat.zero_le _) (Nat.zero_le _) ?_
        refine ⟨rfl, ?_⟩
        refine Eq.trans (mS_O h _ (m_wpm (m_wpa N (fBl (m_pa N) (m_z N) c 118)) (m_pm N + 1)) ⟨rfl, rfl, rfl, rfl, rfl, rfl, rfl⟩) ?_
        rw [hc, nI_1]
      · refine E_aload_n dX4_record_56 (by rfl) ?_
        refine gf_X4_13 dX4_record_57 rfl (by assumption) (by rfl) ?_
        refine E_aload_n dX4_record_60 (by rfl) ?_
        refine gf_X4_32 dX4_record_61 rfl (by assumption) (by rfl) ?_
        refine E_bipush (v := 118) dX4_record_64 (by decide) ?_
        refine E_imul dX4_record_66 ?_
        refine E_iload_n dX4_record_67 (by rfl) ?_
        refine E_iadd dX4_record_68 ?_
        rw [hc, ix]
        refine E_aload_n dX4_record_69 (by rfl) ?_
        refine gf_X4_7 dX4_record_70 rfl (by assumption) (by rfl) ?_
        refine E_iload_n dX4_record_73 (by rfl) ?_
        refine E_iald dX4_record_74 (by assumption) (i_in (by omega) (by omega)) ?_
        refine E_iast dX4_record_75 (by assumption) (i_in (by omega) (by omega)) ?_
        refine E_iinc (d := 1) dX4_record_76 (by rfl) (by decide) (Nat.le_of_ble_eq_true rfl) (by rfl) ?_
        refine E_goto (tgt := 50) dX4_record_79 (by decide) ?_
        refine E_mem ((mS_pa h _ _).trans (congrArg (fun f => mPut mem (m_wpa N f)) (Eq.trans (by rw [eci, ex2]) (fBl_s (m_pa N) (m_z N) c i)))) ?_
        exact E_loc [(0, .ref 86), (1, .int (nI (i + 1)))] ⟨rfl, x_i (by first | exact nI_1 _ | decide), trivial⟩ (ihi (i + 1) (by omega) (by omega))
  refine E_loc [(0, .ref 86)] ⟨hl, trivial⟩ ?_
  refine E_iconst (v := 0) dX4_record_48 (by decide) ?_
  refine E_istore_n dX4_record_49 (Nat.le_of_ble_eq_true rfl) (by rfl) ?_
  refine E_mem (show mPut mem N = mPut mem (m_wpa N (fBl (m_pa N) (m_z N) c 0)) by rw [fBl_0]) ?_
  exact E_loc [(0, .ref 86), (1, .int (nI 0))] ⟨rfl, x_i rfl, trivial⟩ (loop (118 + 1) 0 (by omega) (by omega))
theorem n_record (h : mAt mem M) (N : mS) (hc : m_pm N = nI c) (hc5 : c ≤ 5) : Dt G kX4_record [.ref 86] (mPut mem N) none (mPut mem (mRec N c)) := by
  obtain ⟨l0, l1, l2, l3, l4, l5, l6, l7⟩ := mAt_put h N
  have ec : (m_pm N).toInt = (c : Int) := by rw [hc]; exact nI_toInt (by omega)
  have e5 : (5 : Int32).toInt = 5 := by decide
  refine Ct_of (by decide) (Nat.le_of_ble_eq_true rfl) ?_
  by_cases hx : c = 5
  · subst hx
    have eR : mRec N 5 = m_wpm (m_wpa N (fBl (fCp (m_pa N) (fSft (m_pa N)) 472) (m_z N) 4 118)) (nI (4 + 1)) := by
      unfold mRec mRp
      rw [if_pos rfl]
      rfl
    rw [eR]
    have loop : ∀ di i : Nat, 472 < i + di → i ≤ 472 → E G kX4_record (x_R (none) (mPut mem (m_wpm (m_wpa N (fBl (fCp (m_pa N) (fSft (m_pa N)) 472) (m_z N) 4 118)) (nI (4 + 1))))) 0 0 ((mPut mem (m_wpa N (fCp (m_pa N) (fSft (m_pa N)) i)))) 10 (x_L [(0, .ref 86), (1, .int (nI i))]) [] := by
      intro di
      induction di with
      | zero => intro i hi1 hi2; exact absurd hi1 (by omega)
      | succ di ihi =>
        intro i hi1 hi2
        have ei : (nI i).toInt = (i : Int) := nI_toInt (by omega)
        have eci : (nI i).toNatClampNeg = i := nI_clamp (by omega)
        obtain ⟨a0, a1, a2, a3, a4, a5, a6, a7⟩ := mAt_put h (m_wpa N (fCp (m_pa N) (fSft (m_pa N)) i))
        have ex : (nI (i + 118)).toInt = ((i + 118 : Nat) : Int) := nI_toInt (by omega)
        have ex2 : (nI (i + 118)).toNatClampNeg = i + 118 := nI_clamp (by omega)
        have ix : nI i + 118 = nI (i + 118) := nI_add i 118
        refine E_iload_n dX4_record_10 (by rfl) ?_
        refine E_sipush (v := 472) dX4_record_11 (by decide) ?_
        refine E_icmp_ge (n := 472) (by decide) (tgt := 38) dX4_record_14 (by decide) (fun q14 => ?_) (fun q14 => ?_)
        · obtain rfl : i = 472 := by omega
          refine E_aload_n dX4_record_38 (by rfl) ?_
          refine E_dup dX4_record_39 rfl ?_
          refine gf_X4_32 dX4_record_40 rfl (by assumption) (by rfl) ?_
          refine E_iconst (v := 1) dX4_record_43 (by decide) ?_
          refine E_isub dX4_record_44 ?_
          refine pf_X4_32 dX4_record_45 rfl (by assumption) (Nat.le_of_ble_eq_true rfl) ?_
          refine E_mem (mS_O h _ (m_wpm (m_wpa N (fCp (m_pa N) (fSft (m_pa N)) 472)) (m_pm N - 1)) ⟨rfl, rfl, rfl, rfl, rfl, rfl, rfl⟩) ?_
          exact n_record48 h (m_wpm (m_wpa N (fCp (m_pa N) (fSft (m_pa N)) 472)) (m_pm N - 1)) (c := 4) (show m_pm N - 1 = nI 4 by rw [hc]; rfl) (by decide) _ rfl
        · refine E_aload_n dX4_record_17 (by rfl) ?_
          refine gf_X4_13 dX4_record_18 rfl (by assumption) (by rfl) ?_
          refine E_iload_n dX4_record_21 (by rfl) ?_
          refine E_aload_n dX4_record_22 (by rfl) ?_
          refine gf_X4_13 dX4_record_23 rfl (by assumption) (by rfl) ?_
          refine E_iload_n dX4_record_26 (by rfl) ?_
          refine E_bipush (v := 118) dX4_record_27 (by decide) ?_
          refine E_iadd dX4_record_29 ?_
          rw [ix]
          refine E_iald dX4_record_30 (by assumption) (i_in (by omega) (by omega)) ?_
          refine E_iast dX4_record_31 (by assumption) (i_in (by omega) (by omega)) ?_
          refine E_iinc (d := 1) dX4_record_32 (by rfl) (by decide) (Nat.le_of_ble_eq_true rfl) (by rfl) ?_
          refine E_goto (tgt := 10) dX4_record_35 (by decide) ?_
          refine E_mem ((mS_pa h _ _).trans (congrArg (fun f => mPut mem (m_wpa N f)) (Eq.trans (by rw [eci, ex2]; exact congrArg _ (fCp_ge (show ¬ i + 118 < i by omega))) (fCp_s (m_pa N) (fSft (m_pa N)) i)))) ?_
          exact E_loc [(0, .ref 86), (1, .int (nI (i + 1)))] ⟨rfl, x_i (by first | exact nI_1 _ | decide), trivial⟩ (ihi (i + 1) (by omega) (by omega))
    refine E_aload_n dX4_record_0 (by rfl) ?_
    refine gf_X4_32 dX4_record_1 rfl (by assumption) (by rfl) ?_
    refine E_iconst (v := 5) dX4_record_4 (by decide) ?_
    refine E_icmp_ne (n := 5) (by decide) (tgt := 48) dX4_record_5 (by decide) (fun q5 => ?_) (fun q5 => ?_)
    · exact absurd q5 (by omega)
    · refine E_iconst (v := 0) dX4_record_8 (by decide) ?_
      refine E_istore_n dX4_record_9 (Nat.le_of_ble_eq_true rfl) (by rfl) ?_
      refine E_mem (show mPut mem N = mPut mem (m_wpa N (fCp (m_pa N) (fSft (m_pa N)) 0)) by rw [fCp_0]) ?_
      exact E_loc [(0, .ref 86), (1, .int (nI 0))] ⟨rfl, x_i rfl, trivial⟩ (loop (472 + 1) 0 (by omega) (by omega))
  · have eR : mRec N c = m_wpm (m_wpa N (fBl (m_pa N) (m_z N) c 118)) (nI (c + 1)) := by
      unfold mRec mRp
      rw [if_neg hx, show min (c + 1) 5 = c + 1 by omega]
    rw [eR]
    refine E_aload_n dX4_record_0 (by rfl) ?_
    refine gf_X4_32 dX4_record_1 rfl (by assumption) (by rfl) ?_
    refine E_iconst (v := 5) dX4_record_4 (by decide) ?_
    refine E_icmp_ne (n := 5) (by decide) (tgt := 48) dX4_record_5 (by decide) (fun q5 => ?_) (fun q5 => ?_)
    · exact n_record48 h N hc (by omega) _ rfl
    · exact absurd q5 (by omega)
theorem n_undo_no (h : mAt mem M) (hc : m_pm M = 0) : Dt G kX4_undo [.ref 86] mem (some (.int (-3))) mem := by
  obtain ⟨l0, l1, l2, l3, l4, l5, l6, l7⟩ := id h
  have ec : (m_pm M).toInt = 0 := by rw [hc]; decide
  refine Ct_of (by decide) (Nat.le_of_ble_eq_true rfl) ?_
  refine E_aload_n dX4_undo_0 (by rfl) ?_
  refine gf_X4_32 dX4_undo_1 rfl (by assumption) (by rfl) ?_
  refine E_if_ne (tgt := 10) dX4_undo_4 (by decide) (fun q4 => ?_) (fun q4 => ?_)
  · exact absurd q4 (by omega)
  · refine E_bipush (v := (-3)) dX4_undo_7 (by decide) ?_
    refine E_iret dX4_undo_9 rfl rfl (Nat.zero_le _) (Nat.zero_le _) ?_
    exact ⟨rfl, rfl⟩
/-- block c -/
def fOf (f : Nat → Int32) (c : Nat) : Nat → Int32 := fun j => f (c * 118 + j)
theorem n_undo (h : mAt mem M) (N : mS) (hc : m_pm N = nI (c + 1)) (hc5 : c < 5) : Dt G kX4_undo [.ref 86] (mPut mem N) (some (.int (nI c))) (mPut mem (m_wpm (m_wz N (fOf (m_pa N) c)) (nI c))) := by
  obtain ⟨l0, l1, l2, l3, l4, l5, l6, l7⟩ := mAt_put h N
  have ec : (m_pm N).toInt = (c : Int) + 1 := by rw [hc, nI_toInt (by omega)]; omega
  have ec2 : m_pm N - 1 = nI c := by rw [hc, show nI (c + 1) - 1 = nI (c + 1 - 1) from pk_sub (show 1 ≤ c + 1 by omega)]; rfl
  have ec3 : (nI c).toInt = (c : Int) := nI_toInt (by omega)
  have ix : ∀ i, nI c * 118 + nI i = nI (c * 118 + i) := fun i => by
    rw [show (118 : Int32) = nI 118 from rfl, pk_mul, nI_add]
  refine Ct_of (by decide) (Nat.le_of_ble_eq_true rfl) ?_
  have loop : ∀ di i : Nat, 118 < i + di → i ≤ 118 → E G kX4_undo (x_R (some (.int (nI c))) (mPut mem (m_wpm (m_wz N (fOf (m_pa N) c)) (nI c)))) 0 0 ((mPut mem (m_wpm (m_wz N (fCp (m_z N) (fOf (m_pa N) c) i)) (nI c)))) 22 (x_L [(0, .ref 86), (1, .int (nI i))]) [] := by
    intro di
    induction di with
    | zero => intro i hi1 hi2; exact absurd hi1 (by omega)
    | succ di ihi =>
      intro i hi1 hi2
      have ei : (nI i).toInt = (i : Int) := nI_toInt (by omega)
      have eci : (nI i).toNatClampNeg = i := nI_clamp (by omega)
      obtain ⟨a0, a1, a2, a3, a4, a5, a6, a7⟩ := mAt_put h (m_wpm (m_wz N (fCp (m_z N) (fOf (m_pa N) c) i)) (nI c))
      have ex : (nI (c * 118 + i)).toInt = ((c * 118 + i : Nat) : Int) := nI_toInt (by omega)
      have ex2 : (nI (c * 118 + i)).toNatClampNeg = c * 118 + i := nI_clamp (by omega)
      refine E_iload_n dX4_undo_22 (by rfl) ?_
      refine E_bipush (v := 118) dX4_undo_23 (by decide) ?_
      refine E_icmp_ge (n := 118) (by decide) (tgt := 54) dX4_undo_25 (by decide) (fun q25 => ?_) (fun q25 => ?_)
      · refine E_ext a1 (f' := fOf (m_pa N) c) (fun j hj => fCp_lt (by omega)) ?_
        refine E_mem (mS_z h _ _) ?_
        obtain ⟨a0, a1, a2, a3, a4, a5, a6, a7⟩ := mAt_put h (m_wpm (m_wz N (fOf (m_pa N) c)) (nI c))
        refine E_aload_n dX4_undo_54 (by rfl) ?_
        refine gf_X4_32 dX4_undo_55 rfl (by assumption) (by rfl) ?_
        refine E_iret dX4_undo_58 rfl rfl (Nat.zero_le _) (Nat.zero_le _) ?_
        exact ⟨rfl, rfl⟩
      · refine E_aload_n dX4_undo_28 (by rfl) ?_
        refine gf_X4_7 dX4_undo_29 rfl (by assumption) (by rfl) ?_
        refine E_iload_n dX4_undo_32 (by rfl) ?_
        refine E_aload_n dX4_undo_33 (by rfl) ?_
        refine gf_X4_13 dX4_undo_34 rfl (by assumption) (by rfl) ?_
        refine E_aload_n dX4_undo_37 (by rfl) ?_
        refine gf_X4_32 dX4_undo_38 rfl (by assumption) (by rfl) ?_
        refine E_bipush (v := 118) dX4_undo_41 (by decide) ?_
        refine E_imul dX4_undo_43 ?_
        refine E_iload_n dX4_undo_44 (by rfl) ?_
        refine E_iadd dX4_undo_45 ?_
        rw [ix]
        refine E_iald dX4_undo_46 (by assumption) (i_in (by omega) (by omega)) ?_
        refine E_iast dX4_undo_47 (by assumption) (i_in (by omega) (by omega)) ?_
        refine E_iinc (d := 1) dX4_undo_48 (by rfl) (by decide) (Nat.le_of_ble_eq_true rfl) (by rfl) ?_
        refine E_goto (tgt := 22) dX4_undo_51 (by decide) ?_
        refine E_mem ((mS_z h _ _).trans (congrArg (fun f => mPut mem (m_wpm (m_wz N f) (nI c))) (Eq.trans (by rw [eci, ex2]; rfl) (fCp_s (m_z N) (fOf (m_pa N) c) i)))) ?_
        exact E_loc [(0, .ref 86), (1, .int (nI (i + 1)))] ⟨rfl, x_i (by first | exact nI_1 _ | decide), trivial⟩ (ihi (i + 1) (by omega) (by omega))
  refine E_aload_n dX4_undo_0 (by rfl) ?_
  refine gf_X4_32 dX4_undo_1 rfl (by assumption) (by rfl) ?_
  refine E_if_ne (tgt := 10) dX4_undo_4 (by decide) (fun q4 => ?_) (fun q4 => ?_)
  · refine E_aload_n dX4_undo_10 (by rfl) ?_
    refine E_dup dX4_undo_11 rfl ?_
    refine gf_X4_32 dX4_undo_12 rfl (by assumption) (by rfl) ?_
    refine E_iconst (v := 1) dX4_undo_15 (by decide) ?_
    refine E_isub dX4_undo_16 ?_
    refine pf_X4_32 dX4_undo_17 rfl (by assumption) (Nat.le_of_ble_eq_true rfl) ?_
    refine E_mem (mS_O h _ (m_wpm N (m_pm N - 1)) ⟨rfl, rfl, rfl, rfl, rfl, rfl, rfl⟩) ?_
    rw [ec2]
    refine E_iconst (v := 0) dX4_undo_20 (by decide) ?_
    refine E_istore_n dX4_undo_21 (Nat.le_of_ble_eq_true rfl) (by rfl) ?_
    refine E_mem (show mPut mem (m_wpm N (nI c)) = mPut mem (m_wpm (m_wz N (fCp (m_z N) (fOf (m_pa N) c) 0)) (nI c)) by rw [fCp_0]) ?_
    exact E_loc [(0, .ref 86), (1, .int (nI 0))] ⟨rfl, x_i rfl, trivial⟩ (loop (118 + 1) 0 (by omega) (by omega))
  · exact absurd q4 (by omega)
theorem n_restore_no (h : mAt mem M) (hc : m_ik M = 0) : Dt G kX4_restore [.ref 86] mem (some (.int (-3))) mem := by
  obtain ⟨l0, l1, l2, l3, l4, l5, l6, l7⟩ := id h
  have ec : (m_ik M).toInt = 0 := by rw [hc]; decide
  refine Ct_of (by decide) (Nat.le_of_ble_eq_true rfl) ?_
  refine E_aload_n dX4_restore_0 (by rfl) ?_
  refine gf_X4_36 dX4_restore_1 rfl (by assumption) (by rfl) ?_
  refine E_if_ne (tgt := 10) dX4_restore_4 (by decide) (fun q4 => ?_) (fun q4 => ?_)
  · exact absurd q4 (by omega)
  · refine E_bipush (v := (-3)) dX4_restore_7 (by decide) ?_
    refine E_iret dX4_restore_9 rfl rfl (Nat.zero_le _) (Nat.zero_le _) ?_
    exact ⟨rfl, rfl⟩
theorem n_restore (h : mAt mem M) (N : mS) (hk : m_ik N = 1) (hc : m_pm N = nI c) (hc5 : c ≤ 5) : Dt G kX4_restore [.ref 86] (mPut mem N) (some (.int (m_ke N 1))) (mPut mem (m_wz (mRec N c) (m_ke N))) := by
  obtain ⟨l0, l1, l2, l3, l4, l5, l6, l7⟩ := mAt_put h N
  have ec : (m_ik N).toInt = 1 := by rw [hk]; decide
  refine Ct_of (by decide) (Nat.le_of_ble_eq_true rfl) ?_
  have loop : ∀ di i : Nat, 118 < i + di → i ≤ 118 → E G kX4_restore (x_R (some (.int (m_ke N 1))) (mPut mem (m_wz (mRec N c) (m_ke N)))) 0 0 ((mPut mem (m_wz (mRec N c) (fCp (m_z N) (m_ke N) i)))) 16 (x_L [(0, .ref 86), (1, .int (nI i))]) [] := by
    intro di
    induction di with
    | zero => intro i hi1 hi2; exact absurd hi1 (by omega)
    | succ di ihi =>
      intro i hi1 hi2
      have ei : (nI i).toInt = (i : Int) := nI_toInt (by omega)
      have eci : (nI i).toNatClampNeg = i := nI_clamp (by omega)
      obtain ⟨a0, a1, a2, a3, a4, a5, a6, a7⟩ := mAt_put h (m_wz (mRec N c) (fCp (m_z N) (m_ke N) i))
      refine E_iload_n dX4_restore_16 (by rfl) ?_
      refine E_bipush (v := 118) dX4_restore_17 (by decide) ?_
      refine E_icmp_ge (n := 118) (by decide) (tgt := 40) dX4_restore_19 (by decide) (fun q19 => ?_) (fun q19 => ?_)
      · refine E_ext a1 (f' := m_ke N) (fun j hj => fCp_lt (by omega)) ?_
        refine E_mem (mS_z h _ _) ?_
        obtain ⟨a0, a1, a2, a3, a4, a5, a6, a7⟩ := mAt_put h (m_wz (mRec N c) (m_ke N))
        refine E_aload_n dX4_restore_40 (by rfl) ?_
        refine gf_X4_7 dX4_restore_41 rfl (by assumption) (by rfl) ?_
        refine E_iconst (v := 1) dX4_restore_44 (by decide) ?_
        refine E_iald dX4_restore_45 (by assumption) (i_in (by decide) (by decide)) ?_
        refine E_iret dX4_restore_46 rfl rfl (Nat.zero_le _) (Nat.zero_le _) ?_
        exact ⟨rfl, rfl⟩
      · refine E_aload_n dX4_restore_22 (by rfl) ?_
        refine gf_X4_7 dX4_restore_23 rfl (by assumption) (by rfl) ?_
        refine E_iload_n dX4_restore_26 (by rfl) ?_
        refine E_aload_n dX4_restore_27 (by rfl) ?_
        refine gf_X4_16 dX4_restore_28 rfl (by assumption) (by rfl) ?_
        refine E_iload_n dX4_restore_31 (by rfl) ?_
        refine E_iald dX4_restore_32 (by assumption) (i_in (by omega) (by omega)) ?_
        refine E_iast dX4_restore_33 (by assumption) (i_in (by omega) (by omega)) ?_
        refine E_iinc (d := 1) dX4_restore_34 (by rfl) (by decide) (Nat.le_of_ble_eq_true rfl) (by rfl) ?_
        refine E_goto (tgt := 16) dX4_restore_37 (by decide) ?_
        refine E_mem ((mS_z h _ _).trans (congrArg (fun f => mPut mem (m_wz (mRec N c) f)) (Eq.trans (by rw [eci]) (fCp_s (m_z N) (m_ke N) i)))) ?_
        exact E_loc [(0, .ref 86), (1, .int (nI (i + 1)))] ⟨rfl, x_i (by first | exact nI_1 _ | decide), trivial⟩ (ihi (i + 1) (by omega) (by omega))
  refine E_aload_n dX4_restore_0 (by rfl) ?_
  refine gf_X4_36 dX4_restore_1 rfl (by assumption) (by rfl) ?_
  refine E_if_ne (tgt := 10) dX4_restore_4 (by decide) (fun q4 => ?_) (fun q4 => ?_)
  · refine E_aload_n dX4_restore_10 (by rfl) ?_
    refine cs_X4_restore_11 (by assumption) (Nat.le_of_ble_eq_true rfl) (n_record h N hc hc5) ?_
    refine E_iconst (v := 0) dX4_restore_14 (by decide) ?_
    refine E_istore_n dX4_restore_15 (Nat.le_of_ble_eq_true rfl) (by rfl) ?_
    refine E_mem (show mPut mem (mRec N c) = mPut mem (m_wz (mRec N c) (fCp (m_z N) (m_ke N) 0)) by rw [fCp_0]) ?_
    exact E_loc [(0, .ref 86), (1, .int (nI 0))] ⟨rfl, x_i rfl, trivial⟩ (loop (118 + 1) 0 (by omega) (by omega))
  · exact absurd q4 (by omega)
end N2
