/-! the reference: its state -/
section N1
variable {G : xG} {mem : xM}
/-- z past pastMany kept isKept aside buffer typed reached told toldMany spot wrong -/
abbrev mS : Type := (Nat → Int32) × (Nat → Int32) × Int32 × (Nat → Int32) × Int32 × (Nat → Int32) × (Nat → Int32) × Int32 × (Nat → Int32) × (Nat → Int32) × Int32 × Int32 × Int32
abbrev m_z (M : mS) : Nat → Int32 := M.1
abbrev m_pa (M : mS) : Nat → Int32 := M.2.1
abbrev m_pm (M : mS) : Int32 := M.2.2.1
abbrev m_ke (M : mS) : Nat → Int32 := M.2.2.2.1
abbrev m_ik (M : mS) : Int32 := M.2.2.2.2.1
abbrev m_as (M : mS) : Nat → Int32 := M.2.2.2.2.2.1
abbrev m_bu (M : mS) : Nat → Int32 := M.2.2.2.2.2.2.1
abbrev m_ty (M : mS) : Int32 := M.2.2.2.2.2.2.2.1
abbrev m_re (M : mS) : Nat → Int32 := M.2.2.2.2.2.2.2.2.1
abbrev m_to (M : mS) : Nat → Int32 := M.2.2.2.2.2.2.2.2.2.1
abbrev m_tm (M : mS) : Int32 := M.2.2.2.2.2.2.2.2.2.2.1
abbrev m_sp (M : mS) : Int32 := M.2.2.2.2.2.2.2.2.2.2.2.1
abbrev m_wr (M : mS) : Int32 := M.2.2.2.2.2.2.2.2.2.2.2.2
abbrev m_O (M : mS) : va_E := m_o (m_pm M) (m_ik M) (m_ty M) (m_tm M) (m_sp M) (m_wr M)
def mCells (M : mS) : List va_E := [m_O M, g_a 0 118 (m_z M), g_a 0 590 (m_pa M), g_a 0 118 (m_ke M), g_a 0 118 (m_as M), .inl (2, 60, .inl (m_bu M)), g_a 0 61 (m_re M), g_a 0 93 (m_to M)]
def mAt (mem : xM) (M : mS) : Prop := mem[86]? = some (m_O M) ∧ mem[87]? = some (g_a 0 118 (m_z M)) ∧ mem[88]? = some (g_a 0 590 (m_pa M)) ∧ mem[89]? = some (g_a 0 118 (m_ke M)) ∧ mem[90]? = some (g_a 0 118 (m_as M)) ∧ mem[91]? = some (.inl (2, 60, .inl (m_bu M))) ∧ mem[92]? = some (g_a 0 61 (m_re M)) ∧ mem[93]? = some (g_a 0 93 (m_to M))
def mPut (mem : xM) (M : mS) : xM := x_seg mem 86 (mCells M)
theorem mAt_len {M : mS} (h : mAt mem M) : 86 + 8 ≤ mem.length := by
  have := (List.getElem?_eq_some_iff.mp h.2.2.2.2.2.2.2).1
  omega
theorem mAt_put {M : mS} (h : mAt mem M) (M' : mS) : mAt (mPut mem M') M' := by
  have hl : 86 + (mCells M').length ≤ mem.length := mAt_len h
  exact ⟨x_seg_in (i := 0) hl (Nat.le_of_ble_eq_true rfl), x_seg_in (i := 1) hl (Nat.le_of_ble_eq_true rfl), x_seg_in (i := 2) hl (Nat.le_of_ble_eq_true rfl), x_seg_in (i := 3) hl (Nat.le_of_ble_eq_true rfl), x_seg_in (i := 4) hl (Nat.le_of_ble_eq_true rfl), x_seg_in (i := 5) hl (Nat.le_of_ble_eq_true rfl), x_seg_in (i := 6) hl (Nat.le_of_ble_eq_true rfl), x_seg_in (i := 7) hl (Nat.le_of_ble_eq_true rfl)⟩
theorem mPut_put {M : mS} (h : mAt mem M) (M1 M2 : mS) : mPut (mPut mem M1) M2 = mPut mem M2 := x_seg_seg (mAt_len h) rfl
theorem mPut_lo {M : mS} {i : Nat} (h : mAt mem M) (M1 : mS) (hi : i < 86) : (mPut mem M1)[i]? = mem[i]? := x_seg_lo (mAt_len h) hi
theorem mPut_self {M : mS} (h : mAt mem M) : mPut mem M = mem := by
  apply List.ext_getElem?
  intro i
  have hl : 86 + (mCells M).length ≤ mem.length := mAt_len h
  by_cases h1 : i < 86
  · exact x_seg_lo hl h1
  · by_cases h2 : i < 86 + 8
    · obtain ⟨j, rfl⟩ : ∃ j, i = 86 + j := ⟨i - 86, by omega⟩
      have hj : j < 8 := by omega
      rw [mPut, x_seg_in hl hj]
      obtain ⟨a0, a1, a2, a3, a4, a5, a6, a7⟩ := h
      match j, hj with
      | 0, _ => exact a0.symm
      | 1, _ => exact a1.symm
      | 2, _ => exact a2.symm
      | 3, _ => exact a3.symm
      | 4, _ => exact a4.symm
      | 5, _ => exact a5.symm
      | 6, _ => exact a6.symm
      | 7, _ => exact a7.symm
    · exact x_seg_hi hl (by show 86 + 8 ≤ i; omega)
theorem mSetP {M N : mS} {c : va_E} (h : mAt mem M) (N' : mS) (i : Nat) (hi : i < 8) (he : (mCells N).set i c = mCells N') : (mPut mem N).set (86 + i) c = mPut mem N' := by
  have hl : 86 + (mCells N).length ≤ mem.length := mAt_len h
  rw [mPut, x_seg_set hl hi, he]
  rfl
abbrev m_wz (M : mS) (z : Nat → Int32) : mS := (z, M.2)
abbrev m_wpa (M : mS) (f : Nat → Int32) : mS := (M.1, f, M.2.2)
abbrev m_wpm (M : mS) (x : Int32) : mS := (M.1, M.2.1, x, M.2.2.2)
abbrev m_wke (M : mS) (f : Nat → Int32) : mS := (M.1, M.2.1, M.2.2.1, f, M.2.2.2.2)
abbrev m_wik (M : mS) (x : Int32) : mS := (M.1, M.2.1, M.2.2.1, M.2.2.2.1, x, M.2.2.2.2.2)
abbrev m_was (M : mS) (f : Nat → Int32) : mS := (M.1, M.2.1, M.2.2.1, M.2.2.2.1, M.2.2.2.2.1, f, M.2.2.2.2.2.2)
abbrev m_wbu (M : mS) (f : Nat → Int32) : mS := (M.1, M.2.1, M.2.2.1, M.2.2.2.1, M.2.2.2.2.1, M.2.2.2.2.2.1, f, M.2.2.2.2.2.2.2)
abbrev m_wty (M : mS) (x : Int32) : mS := (M.1, M.2.1, M.2.2.1, M.2.2.2.1, M.2.2.2.2.1, M.2.2.2.2.2.1, M.2.2.2.2.2.2.1, x, M.2.2.2.2.2.2.2.2)
abbrev m_wre (M : mS) (f : Nat → Int32) : mS := (M.1, M.2.1, M.2.2.1, M.2.2.2.1, M.2.2.2.2.1, M.2.2.2.2.2.1, M.2.2.2.2.2.2.1, M.2.2.2.2.2.2.2.1, f, M.2.2.2.2.2.2.2.2.2)
abbrev m_wto (M : mS) (f : Nat → Int32) : mS := (M.1, M.2.1, M.2.2.1, M.2.2.2.1, M.2.2.2.2.1, M.2.2.2.2.2.1, M.2.2.2.2.2.2.1, M.2.2.2.2.2.2.2.1, M.2.2.2.2.2.2.2.2.1, f, M.2.2.2.2.2.2.2.2.2.2)
abbrev m_wtm (M : mS) (x : Int32) : mS := (M.1, M.2.1, M.2.2.1, M.2.2.2.1, M.2.2.2.2.1, M.2.2.2.2.2.1, M.2.2.2.2.2.2.1, M.2.2.2.2.2.2.2.1, M.2.2.2.2.2.2.2.2.1, M.2.2.2.2.2.2.2.2.2.1, x, M.2.2.2.2.2.2.2.2.2.2.2)
abbrev m_wsp (M : mS) (x : Int32) : mS := (M.1, M.2.1, M.2.2.1, M.2.2.2.1, M.2.2.2.2.1, M.2.2.2.2.2.1, M.2.2.2.2.2.2.1, M.2.2.2.2.2.2.2.1, M.2.2.2.2.2.2.2.2.1, M.2.2.2.2.2.2.2.2.2.1, M.2.2.2.2.2.2.2.2.2.2.1, x, M.2.2.2.2.2.2.2.2.2.2.2.2)
abbrev m_wwr (M : mS) (x : Int32) : mS := (M.1, M.2.1, M.2.2.1, M.2.2.2.1, M.2.2.2.2.1, M.2.2.2.2.2.1, M.2.2.2.2.2.2.1, M.2.2.2.2.2.2.2.1, M.2.2.2.2.2.2.2.2.1, M.2.2.2.2.2.2.2.2.2.1, M.2.2.2.2.2.2.2.2.2.2.1, M.2.2.2.2.2.2.2.2.2.2.2.1, x)
variable {M N : mS} {t n k : Nat}
/-! what reads alone -/
theorem n_in (v lo hi : Int32) : Dt G kX4_in [.int v, .int lo, .int hi] mem (some (.int (b2i (lo.toInt ≤ v.toInt ∧ v.toInt ≤ hi.toInt)))) mem := by
  refine Ct_of (by decide) (Nat.le_of_ble_eq_true rfl) ?_
  refine E_iload_n dX4_in_0 (by rfl) ?_
  refine E_iload_n dX4_in_1 (by rfl) ?_
  refine E_icmp_lt (n := _) rfl (tgt := 14) dX4_in_2 (by decide) (fun q2 => ?_) (fun q2 => ?_)
  · refine E_iconst (v := 0) dX4_in_14 (by decide) ?_
    refine E_iret dX4_in_15 rfl (by decide) (Nat.zero_le _) (Nat.zero_le _) ?_
    first | exact ⟨by rw [b2i_t (by omega)], rfl⟩ | exact ⟨by rw [b2i_f (by omega)], rfl⟩
  · refine E_iload_n dX4_in_5 (by rfl) ?_
    refine E_iload_n dX4_in_6 (by rfl) ?_
    refine E_icmp_gt (n := _) rfl (tgt := 14) dX4_in_7 (by decide) (fun q7 => ?_) (fun q7 => ?_)
    · refine E_iconst (v := 0) dX4_in_14 (by decide) ?_
      refine E_iret dX4_in_15 rfl (by decide) (Nat.zero_le _) (Nat.zero_le _) ?_
      first | exact ⟨by rw [b2i_t (by omega)], rfl⟩ | exact ⟨by rw [b2i_f (by omega)], rfl⟩
    · refine E_iconst (v := 1) dX4_in_10 (by decide) ?_
      refine E_goto (tgt := 15) dX4_in_11 (by decide) ?_
      refine E_iret dX4_in_15 rfl (by decide) (Nat.zero_le _) (Nat.zero_le _) ?_
      first | exact ⟨by rw [b2i_t (by omega)], rfl⟩ | exact ⟨by rw [b2i_f (by omega)], rfl⟩
theorem n_ix (c w : Nat) : (8 : Int32) + 6 * nI c + nI w = nI (8 + 6 * c + w) := by
  rw [show (6 : Int32) = nI 6 from rfl, show (8 : Int32) = nI 8 from rfl, pk_mul, nI_add, nI_add]
theorem n_ix2 (j : Nat) : (44 : Int32) + 2 * nI j = nI (44 + 2 * j) := by
  rw [show (2 : Int32) = nI 2 from rfl, show (44 : Int32) = nI 44 from rfl, pk_mul, nI_add]
theorem n_ix3 (j : Nat) : (44 : Int32) + 2 * nI j + 1 = nI (45 + 2 * j) := by
  rw [n_ix2, nI_1]
  congr 1
  omega
theorem n_of (h : mAt mem M) (c w : Nat) (hc : c < 6) (hw : w < 6) : Dt G kX4_of [.ref 86, .int (nI c), .int (nI w)] mem (some (.int (m_z M (8 + 6 * c + w)))) mem := by
  obtain ⟨a0, a1, a2, a3, a4, a5, a6, a7⟩ := h
  have e := n_ix c w
  have e1 : (nI (8 + 6 * c + w)).toInt = ((8 + 6 * c + w : Nat) : Int) := nI_toInt (by omega)
  have e2 : (nI (8 + 6 * c + w)).toNatClampNeg = 8 + 6 * c + w := nI_clamp (by omega)
  refine Ct_of (by decide) (Nat.le_of_ble_eq_true rfl) ?_
  refine E_aload_n dX4_of_0 (by rfl) ?_
  refine gf_X4_7 dX4_of_1 rfl (by assumption) (by rfl) ?_
  refine E_bipush (v := 8) dX4_of_4 (by decide) ?_
  refine E_bipush (v := 6) dX4_of_6 (by decide) ?_
  refine E_iload_n dX4_of_8 (by rfl) ?_
  refine E_imul dX4_of_9 ?_
  refine E_iadd dX4_of_10 ?_
  refine E_iload_n dX4_of_11 (by rfl) ?_
  refine E_iadd dX4_of_12 ?_
  rw [e]
  refine E_iald dX4_of_13 (by assumption) (i_in (by omega) (by omega)) ?_
  refine E_iret dX4_of_14 rfl rfl (Nat.zero_le _) (Nat.zero_le _) ?_
  exact x_leaf (by rw [e2])
abbrev mLays (z : Nat → Int32) (c w : Nat) (v : Int32) : Nat → Int32 := upd z (8 + 6 * c + w) v
theorem n_lays (h : mAt mem M) (c w : Nat) (hc : c < 6) (hw : w < 6) (v : Int32) : Dt G kX4_lays [.ref 86, .int (nI c), .int (nI w), .int v] (mPut mem N) none (mPut mem (m_wz N (mLays (m_z N) c w v))) := by
  obtain ⟨a0, a1, a2, a3, a4, a5, a6, a7⟩ := mAt_put h N
  have e := n_ix c w
  have e1 : (nI (8 + 6 * c + w)).toInt = ((8 + 6 * c + w : Nat) : Int) := nI_toInt (by omega)
  have e2 : (nI (8 + 6 * c + w)).toNatClampNeg = 8 + 6 * c + w := nI_clamp (by omega)
  refine Ct_of (by decide) (Nat.le_of_ble_eq_true rfl) ?_
  refine E_aload_n dX4_lays_0 (by rfl) ?_
  refine gf_X4_7 dX4_lays_1 rfl (by assumption) (by rfl) ?_
  refine E_bipush (v := 8) dX4_lays_4 (by decide) ?_
  refine E_bipush (v := 6) dX4_lays_6 (by decide) ?_
  refine E_iload_n dX4_lays_8 (by rfl) ?_
  refine E_imul dX4_lays_9 ?_
  refine E_iadd dX4_lays_10 ?_
  refine E_iload_n dX4_lays_11 (by rfl) ?_
  refine E_iadd dX4_lays_12 ?_
  rw [e]
  refine E_iload_n dX4_lays_13 (by rfl) ?_
  refine E_iast dX4_lays_14 (by assumption) (i_in (by omega) (by omega)) ?_
  refine E_mem (mSetP h (m_wz N (mLays (m_z N) c w v)) 1 (by decide) (by rw [e2]; rfl)) ?_
  refine E_vret dX4_lays_15 rfl (Nat.zero_le _) (Nat.zero_le _) ?_
  exact ⟨rfl, rfl⟩
theorem n_upper (h : mAt mem M) (j : Nat) (hj : j ≤ 6) : Dt G kX4_upper [.ref 86, .int (nI j)] mem (some (.int (m_z M (44 + 2 * j)))) mem := by
  obtain ⟨a0, a1, a2, a3, a4, a5, a6, a7⟩ := h
  have e := n_ix2 j
  have e1 : (nI (44 + 2 * j)).toInt = ((44 + 2 * j : Nat) : Int) := nI_toInt (by omega)
  have e2 : (nI (44 + 2 * j)).toNatClampNeg = 44 + 2 * j := nI_clamp (by omega)
  refine Ct_of (by decide) (Nat.le_of_ble_eq_true rfl) ?_
  refine E_aload_n dX4_upper_0 (by rfl) ?_
  refine gf_X4_7 dX4_upper_1 rfl (by assumption) (by rfl) ?_
  refine E_bipush (v := 44) dX4_upper_4 (by decide) ?_
  refine E_iconst (v := 2) dX4_upper_6 (by decide) ?_
  refine E_iload_n dX4_upper_7 (by rfl) ?_
  refine E_imul dX4_upper_8 ?_
  refine E_iadd dX4_upper_9 ?_
  rw [e]
  refine E_iald dX4_upper_10 (by assumption) (i_in (by omega) (by omega)) ?_
  refine E_iret dX4_upper_11 rfl rfl (Nat.zero_le _) (Nat.zero_le _) ?_
  exact x_leaf (by rw [e2])
theorem n_lower (h : mAt mem M) (j : Nat) (hj : j ≤ 6) : Dt G kX4_lower [.ref 86, .int (nI j)] mem (some (.int (m_z M (45 + 2 * j)))) mem := by
  obtain ⟨a0, a1, a2, a3, a4, a5, a6, a7⟩ := h
  have e := n_ix3 j
  have e1 : (nI (45 + 2 * j)).toInt = ((45 + 2 * j : Nat) : Int) := nI_toInt (by omega)
  have e2 : (nI (45 + 2 * j)).toNatClampNeg = 45 + 2 * j := nI_clamp (by omega)
  refine Ct_of (by decide) (Nat.le_of_ble_eq_true rfl) ?_
  refine E_aload_n dX4_lower_0 (by rfl) ?_
  refine gf_X4_7 dX4_lower_1 rfl (by assumption) (by rfl) ?_
  refine E_bipush (v := 44) dX4_lower_4 (by decide) ?_
  refine E_iconst (v := 2) dX4_lower_6 (by decide) ?_
  refine E_iload_n dX4_lower_7 (by rfl) ?_
  refine E_imul dX4_lower_8 ?_
  refine E_iadd dX4_lower_9 ?_
  refine E_iconst (v := 1) dX4_lower_10 (by decide) ?_
  refine E_iadd dX4_lower_11 ?_
  rw [e]
  refine E_iald dX4_lower_12 (by assumption) (i_in (by omega) (by omega)) ?_
  refine E_iret dX4_lower_13 rfl rfl (Nat.zero_le _) (Nat.zero_le _) ?_
  exact x_leaf (by rw [e2])
theorem n_c (i : Nat) (hi : i < 2147483648) : (nI i).toNatClampNeg = i := nI_clamp hi
abbrev m_st (z : Nat → Int32) (x : Int32) : Prop := 1 ≤ x.toInt ∧ x.toInt ≤ (z 0 - 1).toInt
theorem n_isStep (h : mAt mem M) (x : Int32) : Dt G kX4_isStep [.ref 86, .int x] mem (some (.int (b2i (m_st (m_z M) x)))) mem := by
  obtain ⟨a0, a1, a2, a3, a4, a5, a6, a7⟩ := id h
  refine Ct_of (by decide) (Nat.le_of_ble_eq_true rfl) ?_
  refine E_iload_n dX4_isStep_0 (by rfl) ?_
  refine E_iconst (v := 1) dX4_isStep_1 (by decide) ?_
  refine E_aload_n dX4_isStep_2 (by rfl) ?_
  refine gf_X4_7 dX4_isStep_3 rfl (by assumption) (by rfl) ?_
  refine E_iconst (v := 0) dX4_isStep_6 (by decide) ?_
  refine E_iald dX4_isStep_7 (by assumption) (i_in (by decide) (by decide)) ?_
  refine E_iconst (v := 1) dX4_isStep_8 (by decide) ?_
  refine E_isub dX4_isStep_9 ?_
  refine cs_X4_isStep_10 (Nat.le_of_ble_eq_true rfl) (n_in _ _ _) ?_
  refine E_iret dX4_isStep_13 rfl b2i_nar (Nat.zero_le _) (Nat.zero_le _) ?_
  exact ⟨rfl, rfl⟩
abbrev m_la (z : Nat → Int32) (s : Nat) : Prop := (z (57 + s)).toInt = 1
theorem n_isLanding (h : mAt mem M) (s : Nat) (hs : s ≤ 60) : Dt G kX4_isLanding [.ref 86, .int (nI s)] mem (some (.int (b2i (m_la (m_z M) s)))) mem := by
  obtain ⟨a0, a1, a2, a3, a4, a5, a6, a7⟩ := id h
  have e : (57 : Int32) + nI s = nI (57 + s) := nI_add 57 s
  have e1 : (nI (57 + s)).toInt = ((57 + s : Nat) : Int) := nI_toInt (by omega)
  have e2 : (nI (57 + s)).toNatClampNeg = 57 + s := nI_clamp (by omega)
  refine Ct_of (by decide) (Nat.le_of_ble_eq_true rfl) ?_
  refine E_aload_n dX4_isLanding_0 (by rfl) ?_
  refine gf_X4_7 dX4_isLanding_1 rfl (by assumption) (by rfl) ?_
  refine E_bipush (v := 57) dX4_isLanding_4 (by decide) ?_
  refine E_iload_n dX4_isLanding_6 (by rfl) ?_
  refine E_iadd dX4_isLanding_7 ?_
  rw [e]
  refine E_iald dX4_isLanding_8 (by assumption) (i_in (by omega) (by omega)) ?_
  rw [e2]
  refine E_iconst (v := 1) dX4_isLanding_9 (by decide) ?_
  refine E_icmp_ne (n := 1) (by decide) (tgt := 17) dX4_isLanding_10 (by decide) (fun q10 => ?_) (fun q10 => ?_)
  · refine E_iconst (v := 0) dX4_isLanding_17 (by decide) ?_
    refine E_iret dX4_isLanding_18 rfl (by decide) (Nat.zero_le _) (Nat.zero_le _) ?_
    first | exact ⟨by rw [b2i_t (by omega)], rfl⟩ | exact ⟨by rw [b2i_f (by omega)], rfl⟩
  · refine E_iconst (v := 1) dX4_isLanding_13 (by decide) ?_
    refine E_goto (tgt := 18) dX4_isLanding_14 (by decide) ?_
    refine E_iret dX4_isLanding_18 rfl (by decide) (Nat.zero_le _) (Nat.zero_le _) ?_
    first | exact ⟨by rw [b2i_t (by omega)], rfl⟩ | exact ⟨by rw [b2i_f (by omega)], rfl⟩
/-- the number of the last carpet, of the first k, that begins at a step -/
def mCF (z : Nat → Int32) (x : Int32) : Nat → Int32
  | 0 => -6
  | j + 1 => if (z (44 + 2 * j)).toInt = x.toInt then nI j else mCF z x j
theorem n_carpetFrom (h : mAt mem M) (hk : m_z M 3 = nI k) (hk6 : k ≤ 6) (x : Int32) : Dt G kX4_carpetFrom [.ref 86, .int x] mem (some (.int (mCF (m_z M) x k))) mem := by
  obtain ⟨a0, a1, a2, a3, a4, a5, a6, a7⟩ := id h
  have hk' : (m_z M (3 : Int32).toNatClampNeg).toInt = (k : Int) := by rw [show (3 : Int32).toNatClampNeg = 3 by decide, hk]; exact nI_toInt (by omega)
  refine Ct_of (by decide) (Nat.le_of_ble_eq_true rfl) ?_
  have loop : ∀ di i : Nat, k < i + di → i ≤ k → E G kX4_carpetFrom (x_R (some (.int (mCF (m_z M) x k))) mem) 0 0 (mem) 5 (x_L [(0, .ref 86), (1, .int x), (2, .int (mCF (m_z M) x i)), (3, .int (nI i))]) [] := by
    intro di
    induction di with
    | zero => intro i hi1 hi2; exact absurd hi1 (by omega)
    | succ di ihi =>
      intro i hi1 hi2
      have ei : (nI i).toInt = (i : Int) := nI_toInt (by omega)
      have eci : (nI i).toNatClampNeg = i := nI_clamp (by omega)
      refine E_iload_n dX4_carpetFrom_5 (by rfl) ?_
      refine E_aload_n dX4_carpetFrom_6 (by rfl) ?_
      refine gf_X4_7 dX4_carpetFrom_7 rfl (by assumption) (by rfl) ?_
      refine E_iconst (v := 3) dX4_carpetFrom_10 (by decide) ?_
      refine E_iald dX4_carpetFrom_11 (by assumption) (i_in (by decide) (by decide)) ?_
      refine E_icmp_ge (n := _) rfl (tgt := 36) dX4_carpetFrom_12 (by decide) (fun q12 => ?_) (fun q12 => ?_)
      · refine E_iload_n dX4_carpetFrom_36 (by rfl) ?_
        refine E_iret dX4_carpetFrom_37 rfl rfl (Nat.zero_le _) (Nat.zero_le _) ?_
        exact x_leaf (by rw [show i = k by omega])
      · refine E_aload_n dX4_carpetFrom_15 (by rfl) ?_
        refine E_iload_n dX4_carpetFrom_16 (by rfl) ?_
        refine cs_X4_carpetFrom_17 (by assumption) (Nat.le_of_ble_eq_true rfl) (n_upper h i (by omega)) ?_
        refine E_iload_n dX4_carpetFrom_20 (by rfl) ?_
        refine E_icmp_ne (n := _) rfl (tgt := 28) dX4_carpetFrom_21 (by decide) (fun q21 => ?_) (fun q21 => ?_)
        · refine E_iload_n dX4_carpetFrom_28 (by rfl) ?_
          refine E_istore_n dX4_carpetFrom_29 (Nat.le_of_ble_eq_true rfl) (by rfl) ?_
          refine E_iinc (d := 1) dX4_carpetFrom_30 (by rfl) (by decide) (Nat.le_of_ble_eq_true rfl) (by rfl) ?_
          refine E_goto (tgt := 5) dX4_carpetFrom_33 (by decide) ?_
          exact E_loc [(0, .ref 86), (1, .int x), (2, .int (mCF (m_z M) x (i + 1))), (3, .int (nI (i + 1)))] ⟨rfl, rfl, x_i (by simp only [mCF]; first | rw [if_pos q21] | rw [if_neg q21]), x_i (by first | exact nI_1 _ | decide), trivial⟩ (ihi (i + 1) (by omega) (by omega))
        · refine E_iload_n dX4_carpetFrom_24 (by rfl) ?_
          refine E_goto (tgt := 29) dX4_carpetFrom_25 (by decide) ?_
          refine E_istore_n dX4_carpetFrom_29 (Nat.le_of_ble_eq_true rfl) (by rfl) ?_
          refine E_iinc (d := 1) dX4_carpetFrom_30 (by rfl) (by decide) (Nat.le_of_ble_eq_true rfl) (by rfl) ?_
          refine E_goto (tgt := 5) dX4_carpetFrom_33 (by decide) ?_
          exact E_loc [(0, .ref 86), (1, .int x), (2, .int (mCF (m_z M) x (i + 1))), (3, .int (nI (i + 1)))] ⟨rfl, rfl, x_i (by simp only [mCF]; first | rw [if_pos q21] | rw [if_neg q21]), x_i (by first | exact nI_1 _ | decide), trivial⟩ (ihi (i + 1) (by omega) (by omega))
  refine E_bipush (v := (-6)) dX4_carpetFrom_0 (by decide) ?_
  refine E_istore_n dX4_carpetFrom_2 (Nat.le_of_ble_eq_true rfl) (by rfl) ?_
  refine E_iconst (v := 0) dX4_carpetFrom_3 (by decide) ?_
  refine E_istore_n dX4_carpetFrom_4 (Nat.le_of_ble_eq_true rfl) (by rfl) ?_
  exact E_loc [(0, .ref 86), (1, .int x), (2, .int (mCF (m_z M) x 0)), (3, .int (nI 0))] ⟨rfl, rfl, x_i (by rfl), x_i (by first | rfl | decide), trivial⟩ (loop (k + 1) 0 (by omega) (by omega))
abbrev m_lo (z : Nat → Int32) (x : Int32) (j : Nat) : Prop := (z (45 + 2 * j)).toInt = x.toInt
theorem n_carpetsTo (h : mAt mem M) (hk : m_z M 3 = nI k) (hk6 : k ≤ 6) (x : Int32) : Dt G kX4_carpetsTo [.ref 86, .int x] mem (some (.int (sCn (m_lo (m_z M) x) k))) mem := by
  obtain ⟨a0, a1, a2, a3, a4, a5, a6, a7⟩ := id h
  have hk' : (m_z M (3 : Int32).toNatClampNeg).toInt = (k : Int) := by rw [show (3 : Int32).toNatClampNeg = 3 by decide, hk]; exact nI_toInt (by omega)
  refine Ct_of (by decide) (Nat.le_of_ble_eq_true rfl) ?_
  have loop : ∀ di i : Nat, k < i + di → i ≤ k → E G kX4_carpetsTo (x_R (some (.int (sCn (m_lo (m_z M) x) k))) mem) 0 0 (mem) 4 (x_L [(0, .ref 86), (1, .int x), (2, .int (sCn (m_lo (m_z M) x) i)), (3, .int (nI i))]) [] := by
    intro di
    induction di with
    | zero => intro i hi1 hi2; exact absurd hi1 (by omega)
    | succ di ihi =>
      intro i hi1 hi2
      have ei : (nI i).toInt = (i : Int) := nI_toInt (by omega)
      have eci : (nI i).toNatClampNeg = i := nI_clamp (by omega)
      refine E_iload_n dX4_carpetsTo_4 (by rfl) ?_
      refine E_aload_n dX4_carpetsTo_5 (by rfl) ?_
      refine gf_X4_7 dX4_carpetsTo_6 rfl (by assumption) (by rfl) ?_
      refine E_iconst (v := 3) dX4_carpetsTo_9 (by decide) ?_
      refine E_iald dX4_carpetsTo_10 (by assumption) (i_in (by decide) (by decide)) ?_
      refine E_icmp_ge (n := _) rfl (tgt := 37) dX4_carpetsTo_11 (by decide) (fun q11 => ?_) (fun q11 => ?_)
      · refine E_iload_n dX4_carpetsTo_37 (by rfl) ?_
        refine E_iret dX4_carpetsTo_38 rfl rfl (Nat.zero_le _) (Nat.zero_le _) ?_
        exact x_leaf (by rw [show i = k by omega])
      · refine E_iload_n dX4_carpetsTo_14 (by rfl) ?_
        refine E_aload_n dX4_carpetsTo_15 (by rfl) ?_
        refine E_iload_n dX4_carpetsTo_16 (by rfl) ?_
        refine cs_X4_carpetsTo_17 (by assumption) (Nat.le_of_ble_eq_true rfl) (n_lower h i (by omega)) ?_
        refine E_iload_n dX4_carpetsTo_20 (by rfl) ?_
        refine E_icmp_ne (n := _) rfl (tgt := 28) dX4_carpetsTo_21 (by decide) (fun q21 => ?_) (fun q21 => ?_)
        · refine E_iconst (v := 0) dX4_carpetsTo_28 (by decide) ?_
          refine E_iadd dX4_carpetsTo_29 ?_
          refine E_istore_n dX4_carpetsTo_30 (Nat.le_of_ble_eq_true rfl) (by rfl) ?_
          refine E_iinc (d := 1) dX4_carpetsTo_31 (by rfl) (by decide) (Nat.le_of_ble_eq_true rfl) (by rfl) ?_
          refine E_goto (tgt := 4) dX4_carpetsTo_34 (by decide) ?_
          exact E_loc [(0, .ref 86), (1, .int x), (2, .int (sCn (m_lo (m_z M) x) (i + 1))), (3, .int (nI (i + 1)))] ⟨rfl, rfl, x_i (by simp only [sCn]; first | rw [if_pos q21] | rw [if_neg q21, Int32.add_zero]), x_i (by first | exact nI_1 _ | decide), trivial⟩ (ihi (i + 1) (by omega) (by omega))
        · refine E_iconst (v := 1) dX4_carpetsTo_24 (by decide) ?_
          refine E_goto (tgt := 29) dX4_carpetsTo_25 (by decide) ?_
          refine E_iadd dX4_carpetsTo_29 ?_
          refine E_istore_n dX4_carpetsTo_30 (Nat.le_of_ble_eq_true rfl) (by rfl) ?_
          refine E_iinc (d := 1) dX4_carpetsTo_31 (by rfl) (by decide) (Nat.le_of_ble_eq_true rfl) (by rfl) ?_
          refine E_goto (tgt := 4) dX4_carpetsTo_34 (by decide) ?_
          exact E_loc [(0, .ref 86), (1, .int x), (2, .int (sCn (m_lo (m_z M) x) (i + 1))), (3, .int (nI (i + 1)))] ⟨rfl, rfl, x_i (by simp only [sCn]; first | rw [if_pos q21] | rw [if_neg q21, Int32.add_zero]), x_i (by first | exact nI_1 _ | decide), trivial⟩ (ihi (i + 1) (by omega) (by omega))
  refine E_iconst (v := 0) dX4_carpetsTo_0 (by decide) ?_
  refine E_istore_n dX4_carpetsTo_1 (Nat.le_of_ble_eq_true rfl) (by rfl) ?_
  refine E_iconst (v := 0) dX4_carpetsTo_2 (by decide) ?_
  refine E_istore_n dX4_carpetsTo_3 (Nat.le_of_ble_eq_true rfl) (by rfl) ?_
  exact E_loc [(0, .ref 86), (1, .int x), (2, .int (sCn (m_lo (m_z M) x) 0)), (3, .int (nI 0))] ⟨rfl, rfl, x_i (by rfl), x_i (by first | rfl | decide), trivial⟩ (loop (k + 1) 0 (by omega) (by omega))
abbrev m_pl (z : Nat → Int32) (c : Nat) : Int32 := z (8 + 6 * c)
theorem n_ofp (h : mAt mem M) (c : Nat) (hc : c < 6) : Dt G kX4_of [.ref 86, .int (nI c), .int (nI 0)] mem (some (.int (m_pl (m_z M) c))) mem := n_of h c 0 hc (by decide)
theorem n_1 : (1 : Int32).toNatClampNeg = 1 := by decide
theorem n_climbersOn (h : mAt mem M) (hc : m_z M 1 = nI n) (hn : n ≤ 6) (x : Int32) : Dt G kX4_climbersOn [.ref 86, .int x] mem (some (.int (sOn (m_pl (m_z M)) x n))) mem := by
  obtain ⟨a0, a1, a2, a3, a4, a5, a6, a7⟩ := id h
  have hc' : (m_z M (1 : Int32).toNatClampNeg).toInt = (n : Int) := by rw [n_1, hc]; exact nI_toInt (by omega)
  refine Ct_of (by decide) (Nat.le_of_ble_eq_true rfl) ?_
  have loop : ∀ di i : Nat, n < i + di → i ≤ n → E G kX4_climbersOn (x_R (some (.int (sOn (m_pl (m_z M)) x n))) mem) 0 0 (mem) 4 (x_L [(0, .ref 86), (1, .int x), (2, .int (sOn (m_pl (m_z M)) x i)), (3, .int (nI i))]) [] := by
    intro di
    induction di with
    | zero => intro i hi1 hi2; exact absurd hi1 (by omega)
    | succ di ihi =>
      intro i hi1 hi2
      have ei : (nI i).toInt = (i : Int) := nI_toInt (by omega)
      have eci : (nI i).toNatClampNeg = i := nI_clamp (by omega)
      refine E_iload_n dX4_climbersOn_4 (by rfl) ?_
      refine E_aload_n dX4_climbersOn_5 (by rfl) ?_
      refine gf_X4_7 dX4_climbersOn_6 rfl (by assumption) (by rfl) ?_
      refine E_iconst (v := 1) dX4_climbersOn_9 (by decide) ?_
      refine E_iald dX4_climbersOn_10 (by assumption) (i_in (by decide) (by decide)) ?_
      refine E_icmp_ge (n := _) rfl (tgt := 40) dX4_climbersOn_11 (by decide) (fun q11 => ?_) (fun q11 => ?_)
      · refine E_iload_n dX4_climbersOn_40 (by rfl) ?_
        refine E_iret dX4_climbersOn_41 rfl rfl (Nat.zero_le _) (Nat.zero_le _) ?_
        exact x_leaf (by rw [show i = n by omega])
      · refine E_iload_n dX4_climbersOn_14 (by rfl) ?_
        refine E_aload_n dX4_climbersOn_15 (by rfl) ?_
        refine E_iload_n dX4_climbersOn_16 (by rfl) ?_
        refine E_iconst (v := 0) dX4_climbersOn_17 (by decide) ?_
        refine cs_X4_climbersOn_18 (by assumption) (Nat.le_of_ble_eq_true rfl) (n_ofp h i (by omega)) ?_
        refine E_iload_n dX4_climbersOn_21 (by rfl) ?_
        refine E_icmp_ne (n := _) rfl (tgt := 31) dX4_climbersOn_22 (by decide) (fun q22 => ?_) (fun q22 => ?_)
        · refine E_iconst (v := 0) dX4_climbersOn_31 (by decide) ?_
          refine E_ior dX4_climbersOn_32 ?_
          refine E_istore_n dX4_climbersOn_33 (Nat.le_of_ble_eq_true rfl) (by rfl) ?_
          refine E_iinc (d := 1) dX4_climbersOn_34 (by rfl) (by decide) (Nat.le_of_ble_eq_true rfl) (by rfl) ?_
          refine E_goto (tgt := 4) dX4_climbersOn_37 (by decide) ?_
          exact E_loc [(0, .ref 86), (1, .int x), (2, .int (sOn (m_pl (m_z M)) x (i + 1))), (3, .int (nI (i + 1)))] ⟨rfl, rfl, x_i (by simp only [sOn]; first | rw [if_pos q22] | rw [if_neg q22, Int32.or_zero]), x_i (by first | exact nI_1 _ | decide), trivial⟩ (ihi (i + 1) (by omega) (by omega))
        · refine E_iconst (v := 1) dX4_climbersOn_25 (by decide) ?_
          refine E_iload_n dX4_climbersOn_26 (by rfl) ?_
          refine E_ishl dX4_climbersOn_27 ?_
          refine E_goto (tgt := 32) dX4_climbersOn_28 (by decide) ?_
          refine E_ior dX4_climbersOn_32 ?_
          refine E_istore_n dX4_climbersOn_33 (Nat.le_of_ble_eq_true rfl) (by rfl) ?_
          refine E_iinc (d := 1) dX4_climbersOn_34 (by rfl) (by decide) (Nat.le_of_ble_eq_true rfl) (by rfl) ?_
          refine E_goto (tgt := 4) dX4_climbersOn_37 (by decide) ?_
          exact E_loc [(0, .ref 86), (1, .int x), (2, .int (sOn (m_pl (m_z M)) x (i + 1))), (3, .int (nI (i + 1)))] ⟨rfl, rfl, x_i (by simp only [sOn]; first | rw [if_pos q22] | rw [if_neg q22, Int32.or_zero]), x_i (by first | exact nI_1 _ | decide), trivial⟩ (ihi (i + 1) (by omega) (by omega))
  refine E_iconst (v := 0) dX4_climbersOn_0 (by decide) ?_
  refine E_istore_n dX4_climbersOn_1 (Nat.le_of_ble_eq_true rfl) (by rfl) ?_
  refine E_iconst (v := 0) dX4_climbersOn_2 (by decide) ?_
  refine E_istore_n dX4_climbersOn_3 (Nat.le_of_ble_eq_true rfl) (by rfl) ?_
  exact E_loc [(0, .ref 86), (1, .int x), (2, .int (sOn (m_pl (m_z M)) x 0)), (3, .int (nI 0))] ⟨rfl, rfl, x_i (by rfl), x_i (by first | rfl | decide), trivial⟩ (loop (n + 1) 0 (by omega) (by omega))
def sBits (x : Int32) : Nat → Int32
  | 0 => 0
  | j + 1 => sBits x j + ((x >>> (nI j &&& 31)) &&& 1)
theorem n_bits (x : Int32) : Dt G kX4_bits [.int x] mem (some (.int (sBits x 6))) mem := by
  refine Ct_of (by decide) (Nat.le_of_ble_eq_true rfl) ?_
  have loop : ∀ di i : Nat, 6 < i + di → i ≤ 6 → E G kX4_bits (x_R (some (.int (sBits x 6))) mem) 0 0 (mem) 4 (x_L [(0, .int x), (1, .int (sBits x i)), (2, .int (nI i))]) [] := by
    intro di
    induction di with
    | zero => intro i hi1 hi2; exact absurd hi1 (by omega)
    | succ di ihi =>
      intro i hi1 hi2
      have ei : (nI i).toInt = (i : Int) := nI_toInt (by omega)
      have eci : (nI i).toNatClampNeg = i := nI_clamp (by omega)
      refine E_iload_n dX4_bits_4 (by rfl) ?_
      refine E_bipush (v := 6) dX4_bits_5 (by decide) ?_
      refine E_icmp_ge (n := 6) (by decide) (tgt := 24) dX4_bits_7 (by decide) (fun q7 => ?_) (fun q7 => ?_)
      · refine E_iload_n dX4_bits_24 (by rfl) ?_
        refine E_iret dX4_bits_25 rfl rfl (Nat.zero_le _) (Nat.zero_le _) ?_
        exact x_leaf (by rw [show i = 6 by omega])
      · refine E_iload_n dX4_bits_10 (by rfl) ?_
        refine E_iload_n dX4_bits_11 (by rfl) ?_
        refine E_iload_n dX4_bits_12 (by rfl) ?_
        refine E_ishr dX4_bits_13 ?_
        refine E_iconst (v := 1) dX4_bits_14 (by decide) ?_
        refine E_iand dX4_bits_15 ?_
        refine E_iadd dX4_bits_16 ?_
        refine E_istore_n dX4_bits_17 (Nat.le_of_ble_eq_true rfl) (by rfl) ?_
        refine E_iinc (d := 1) dX4_bits_18 (by rfl) (by decide) (Nat.le_of_ble_eq_true rfl) (by rfl) ?_
        refine E_goto (tgt := 4) dX4_bits_21 (by decide) ?_
        exact E_loc [(0, .int x), (1, .int (sBits x (i + 1))), (2, .int (nI (i + 1)))] ⟨rfl, x_i (by rfl), x_i (by first | exact nI_1 _ | decide), trivial⟩ (ihi (i + 1) (by omega) (by omega))
  refine E_iconst (v := 0) dX4_bits_0 (by decide) ?_
  refine E_istore_n dX4_bits_1 (Nat.le_of_ble_eq_true rfl) (by rfl) ?_
  refine E_iconst (v := 0) dX4_bits_2 (by decide) ?_
  refine E_istore_n dX4_bits_3 (Nat.le_of_ble_eq_true rfl) (by rfl) ?_
  exact E_loc [(0, .int x), (1, .int (sBits x 0)), (2, .int (nI 0))] ⟨rfl, x_i (by rfl), x_i (by first | rfl | decide), trivial⟩ (loop (6 + 1) 0 (by omega) (by omega))
theorem n_landings (h : mAt mem M) : Dt G kX4_landings [.ref 86] mem (some (.int (sSm (fun s => m_z M (57 + s)) 61))) mem := by
  obtain ⟨a0, a1, a2, a3, a4, a5, a6, a7⟩ := id h
  refine Ct_of (by decide) (Nat.le_of_ble_eq_true rfl) ?_
  have loop : ∀ di i : Nat, 61 < i + di → i ≤ 61 → E G kX4_landings (x_R (some (.int (sSm (fun s => m_z M (57 + s)) 61))) mem) 0 0 (mem) 4 (x_L [(0, .ref 86), (1, .int (sSm (fun s => m_z M (57 + s)) i)), (2, .int (nI i))]) [] := by
    intro di
    induction di with
    | zero => intro i hi1 hi2; exact absurd hi1 (by omega)
    | succ di ihi =>
      intro i hi1 hi2
      have ei : (nI i).toInt = (i : Int) := nI_toInt (by omega)
      have eci : (nI i).toNatClampNeg = i := nI_clamp (by omega)
      refine E_iload_n dX4_landings_4 (by rfl) ?_
      refine E_bipush (v := 61) dX4_landings_5 (by decide) ?_
      refine E_icmp_ge (n := 61) (by decide) (tgt := 28) dX4_landings_7 (by decide) (fun q7 => ?_) (fun q7 => ?_)
      · refine E_iload_n dX4_landings_28 (by rfl) ?_
        refine E_iret dX4_landings_29 rfl rfl (Nat.zero_le _) (Nat.zero_le _) ?_
        exact x_leaf (by rw [show i = 61 by omega])
      · refine E_iload_n dX4_landings_10 (by rfl) ?_
        refine E_aload_n dX4_landings_11 (by rfl) ?_
        refine gf_X4_7 dX4_landings_12 rfl (by assumption) (by rfl) ?_
        refine E_bipush (v := 57) dX4_landings_15 (by decide) ?_
        refine E_iload_n dX4_landings_17 (by rfl) ?_
        refine E_iadd dX4_landings_18 ?_
        rw [show (57 : Int32) + nI i = nI (57 + i) from nI_add 57 i]
        have e1 : (nI (57 + i)).toInt = ((57 + i : Nat) : Int) := nI_toInt (by omega)
        have e2 : (nI (57 + i)).toNatClampNeg = 57 + i := nI_clamp (by omega)
        refine E_iald dX4_landings_19 (by assumption) (i_in (by omega) (by omega)) ?_
        refine E_iadd dX4_landings_20 ?_
        refine E_istore_n dX4_landings_21 (Nat.le_of_ble_eq_true rfl) (by rfl) ?_
        refine E_iinc (d := 1) dX4_landings_22 (by rfl) (by decide) (Nat.le_of_ble_eq_true rfl) (by rfl) ?_
        refine E_goto (tgt := 4) dX4_landings_25 (by decide) ?_
        exact E_loc [(0, .ref 86), (1, .int (sSm (fun s => m_z M (57 + s)) (i + 1))), (2, .int (nI (i + 1)))] ⟨rfl, x_i (by rw [e2]; rfl), x_i (by first | exact nI_1 _ | decide), trivial⟩ (ihi (i + 1) (by omega) (by omega))
  refine E_iconst (v := 0) dX4_landings_0 (by decide) ?_
  refine E_istore_n dX4_landings_1 (Nat.le_of_ble_eq_true rfl) (by rfl) ?_
  refine E_iconst (v := 0) dX4_landings_2 (by decide) ?_
  refine E_istore_n dX4_landings_3 (Nat.le_of_ble_eq_true rfl) (by rfl) ?_
  exact E_loc [(0, .ref 86), (1, .int (sSm (fun s => m_z M (57 + s)) 0)), (2, .int (nI 0))] ⟨rfl, x_i (by rfl), x_i (by first | rfl | decide), trivial⟩ (loop (61 + 1) 0 (by omega) (by omega))
def mPr (z : Nat → Int32) (c : Nat) : Int32 := z (8 + 6 * c + 1) * z 0 + z (8 + 6 * c)
theorem n_progress (h : mAt mem M) (c : Nat) (hc : c < 6) : Dt G kX4_progress [.ref 86, .int (nI c)] mem (some (.int (mPr (m_z M) c))) mem := by
  obtain ⟨a0, a1, a2, a3, a4, a5, a6, a7⟩ := id h
  refine Ct_of (by decide) (Nat.le_of_ble_eq_true rfl) ?_
  refine E_aload_n dX4_progress_0 (by rfl) ?_
  refine E_iload_n dX4_progress_1 (by rfl) ?_
  refine E_iconst (v := 1) dX4_progress_2 (by decide) ?_
  refine cs_X4_progress_3 (by assumption) (Nat.le_of_ble_eq_true rfl) (n_of h c 1 hc (by decide)) ?_
  refine E_aload_n dX4_progress_6 (by rfl) ?_
  refine gf_X4_7 dX4_progress_7 rfl (by assumption) (by rfl) ?_
  refine E_iconst (v := 0) dX4_progress_10 (by decide) ?_
  refine E_iald dX4_progress_11 (by assumption) (i_in (by decide) (by decide)) ?_
  refine E_imul dX4_progress_12 ?_
  refine E_aload_n dX4_progress_13 (by rfl) ?_
  refine E_iload_n dX4_progress_14 (by rfl) ?_
  refine E_iconst (v := 0) dX4_progress_15 (by decide) ?_
  refine cs_X4_progress_16 (by assumption) (Nat.le_of_ble_eq_true rfl) (n_of h c 0 hc (by decide)) ?_
  refine E_iadd dX4_progress_19 ?_
  refine E_iret dX4_progress_20 rfl rfl (Nat.zero_le _) (Nat.zero_le _) ?_
  exact x_leaf rfl
abbrev m_cl (z : Nat → Int32) (x : Int32) : Prop := 0 ≤ x.toInt ∧ x.toInt ≤ (z 1 - 1).toInt
theorem n_isClimber (h : mAt mem M) (x : Int32) : Dt G kX4_isClimber [.ref 86, .int x] mem (some (.int (b2i (m_cl (m_z M) x)))) mem := by
  obtain ⟨a0, a1, a2, a3, a4, a5, a6, a7⟩ := id h
  refine Ct_of (by decide) (Nat.le_of_ble_eq_true rfl) ?_
  refine E_iload_n dX4_isClimber_0 (by rfl) ?_
  refine E_iconst (v := 0) dX4_isClimber_1 (by decide) ?_
  refine E_aload_n dX4_isClimber_2 (by rfl) ?_
  refine gf_X4_7 dX4_isClimber_3 rfl (by assumption) (by rfl) ?_
  refine E_iconst (v := 1) dX4_isClimber_6 (by decide) ?_
  refine E_iald dX4_isClimber_7 (by assumption) (i_in (by decide) (by decide)) ?_
  refine E_iconst (v := 1) dX4_isClimber_8 (by decide) ?_
  refine E_isub dX4_isClimber_9 ?_
  refine cs_X4_isClimber_10 (Nat.le_of_ble_eq_true rfl) (n_in _ _ _) ?_
  refine E_iret dX4_isClimber_13 rfl b2i_nar (Nat.zero_le _) (Nat.zero_le _) ?_
  exact ⟨rfl, rfl⟩
theorem n_allTops (h : mAt mem M) (hc : m_z M 1 = nI n) (hn : n ≤ 6) : Dt G kX4_allTops [.ref 86] mem (some (.int (sSm (fun c => m_z M (8 + 6 * c + 1)) n))) mem := by
  obtain ⟨a0, a1, a2, a3, a4, a5, a6, a7⟩ := id h
  have hc' : (m_z M (1 : Int32).toNatClampNeg).toInt = (n : Int) := by rw [n_1, hc]; exact nI_toInt (by omega)
  refine Ct_of (by decide) (Nat.le_of_ble_eq_true rfl) ?_
  have loop : ∀ di i : Nat, n < i + di → i ≤ n → E G kX4_allTops (x_R (some (.int (sSm (fun c => m_z M (8 + 6 * c + 1)) n))) mem) 0 0 (mem) 4 (x_L [(0, .ref 86), (1, .int (sSm (fun c => m_z M (8 + 6 * c + 1)) i)), (2, .int (nI i))]) [] := by
    intro di
    induction di with
    | zero => intro i hi1 hi2; exact absurd hi1 (by omega)
    | succ di ihi =>
      intro i hi1 hi2
      have ei : (nI i).toInt = (i : Int) := nI_toInt (by omega)
      have eci : (nI i).toNatClampNeg = i := nI_clamp (by omega)
      refine E_iload_n dX4_allTops_4 (by rfl) ?_
      refine E_aload_n dX4_allTops_5 (by rfl) ?_
      refine gf_X4_7 dX4_allTops_6 rfl (by assumption) (by rfl) ?_
      refine E_iconst (v := 1) dX4_allTops_9 (by decide) ?_
      refine E_iald dX4_allTops_10 (by assumption) (i_in (by decide) (by decide)) ?_
      refine E_icmp_ge (n := _) rfl (tgt := 29) dX4_allTops_11 (by decide) (fun q11 => ?_) (fun q11 => ?_)
      · refine E_iload_n dX4_allTops_29 (by rfl) ?_
        refine E_iret dX4_allTops_30 rfl rfl (Nat.zero_le _) (Nat.zero_le _) ?_
        exact x_leaf (by rw [show i = n by omega])
      · refine E_iload_n dX4_allTops_14 (by rfl) ?_
        refine E_aload_n dX4_allTops_15 (by rfl) ?_
        refine E_iload_n dX4_allTops_16 (by rfl) ?_
        refine E_iconst (v := 1) dX4_allTops_17 (by decide) ?_
        refine cs_X4_allTops_18 (by assumption) (Nat.le_of_ble_eq_true rfl) (n_of h i 1 (by omega) (by decide)) ?_
        refine E_iadd dX4_allTops_21 ?_
        refine E_istore_n dX4_allTops_22 (Nat.le_of_ble_eq_true rfl) (by rfl) ?_
        refine E_iinc (d := 1) dX4_allTops_23 (by rfl) (by decide) (Nat.le_of_ble_eq_true rfl) (by rfl) ?_
        refine E_goto (tgt := 4) dX4_allTops_26 (by decide) ?_
        exact E_loc [(0, .ref 86), (1, .int (sSm (fun c => m_z M (8 + 6 * c + 1)) (i + 1))), (2, .int (nI (i + 1)))] ⟨rfl, x_i (by rfl), x_i (by first | exact nI_1 _ | decide), trivial⟩ (ihi (i + 1) (by omega) (by omega))
  refine E_iconst (v := 0) dX4_allTops_0 (by decide) ?_
  refine E_istore_n dX4_allTops_1 (Nat.le_of_ble_eq_true rfl) (by rfl) ?_
  refine E_iconst (v := 0) dX4_allTops_2 (by decide) ?_
  refine E_istore_n dX4_allTops_3 (Nat.le_of_ble_eq_true rfl) (by rfl) ?_
  exact E_loc [(0, .ref 86), (1, .int (sSm (fun c => m_z M (8 + 6 * c + 1)) 0)), (2, .int (nI 0))] ⟨rfl, x_i (by rfl), x_i (by first | rfl | decide), trivial⟩ (loop (n + 1) 0 (by omega) (by omega))
abbrev m_ahd (z : Nat → Int32) (c o : Nat) : Prop := (mPr z c).toInt < (mPr z o).toInt ∨ (mPr z o).toInt = (mPr z c).toInt ∧ o < c
theorem n_ahead (h : mAt mem M) (hc : m_z M 1 = nI n) (hn : n ≤ 6) (c : Nat) (hc6 : c < 6) : Dt G kX4_ahead [.ref 86, .int (nI c)] mem (some (.int (sCn (m_ahd (m_z M) c) n))) mem := by
  obtain ⟨a0, a1, a2, a3, a4, a5, a6, a7⟩ := id h
  have hc' : (m_z M (1 : Int32).toNatClampNeg).toInt = (n : Int) := by rw [n_1, hc]; exact nI_toInt (by omega)
  have ec0 : (nI c).toInt = (c : Int) := nI_toInt (by omega)
  refine Ct_of (by decide) (Nat.le_of_ble_eq_true rfl) ?_
  have loop : ∀ di i : Nat, n < i + di → i ≤ n → E G kX4_ahead (x_R (some (.int (sCn (m_ahd (m_z M) c) n))) mem) 0 0 (mem) 4 (x_L [(0, .ref 86), (1, .int (nI c)), (2, .int (sCn (m_ahd (m_z M) c) i)), (3, .int (nI i))]) [] := by
    intro di
    induction di with
    | zero => intro i hi1 hi2; exact absurd hi1 (by omega)
    | succ di ihi =>
      intro i hi1 hi2
      have ei : (nI i).toInt = (i : Int) := nI_toInt (by omega)
      have eci : (nI i).toNatClampNeg = i := nI_clamp (by omega)
      refine E_iload_n dX4_ahead_4 (by rfl) ?_
      refine E_aload_n dX4_ahead_5 (by rfl) ?_
      refine gf_X4_7 dX4_ahead_6 rfl (by assumption) (by rfl) ?_
      refine E_iconst (v := 1) dX4_ahead_9 (by decide) ?_
      refine E_iald dX4_ahead_10 (by assumption) (i_in (by decide) (by decide)) ?_
      refine E_icmp_ge (n := _) rfl (tgt := 59) dX4_ahead_11 (by decide) (fun q11 => ?_) (fun q11 => ?_)
      · refine E_iload_n dX4_ahead_59 (by rfl) ?_
        refine E_iret dX4_ahead_60 rfl rfl (Nat.zero_le _) (Nat.zero_le _) ?_
        exact x_leaf (by rw [show i = n by omega])
      · refine E_iload_n dX4_ahead_14 (by rfl) ?_
        refine E_aload_n dX4_ahead_15 (by rfl) ?_
        refine E_iload_n dX4_ahead_16 (by rfl) ?_
        refine cs_X4_ahead_17 (by assumption) (Nat.le_of_ble_eq_true rfl) (n_progress h i (by omega)) ?_
        refine E_aload_n dX4_ahead_20 (by rfl) ?_
        refine E_iload_n dX4_ahead_21 (by rfl) ?_
        refine cs_X4_ahead_22 (by assumption) (Nat.le_of_ble_eq_true rfl) (n_progress h c hc6) ?_
        refine E_icmp_gt (n := _) rfl (tgt := 46) dX4_ahead_25 (by decide) (fun q25 => ?_) (fun q25 => ?_)
        · refine E_iconst (v := 1) dX4_ahead_46 (by decide) ?_
          refine E_goto (tgt := 51) dX4_ahead_47 (by decide) ?_
          refine E_iadd dX4_ahead_51 ?_
          refine E_istore_n dX4_ahead_52 (Nat.le_of_ble_eq_true rfl) (by rfl) ?_
          refine E_iinc (d := 1) dX4_ahead_53 (by rfl) (by decide) (Nat.le_of_ble_eq_true rfl) (by rfl) ?_
          refine E_goto (tgt := 4) dX4_ahead_56 (by decide) ?_
          exact E_loc [(0, .ref 86), (1, .int (nI c)), (2, .int (sCn (m_ahd (m_z M) c) (i + 1))), (3, .int (nI (i + 1)))] ⟨rfl, rfl, x_i (by simp only [sCn]; first | rw [if_pos (by unfold m_ahd; omega)] | rw [if_neg (by unfold m_ahd; omega), Int32.add_zero]), x_i (by first | exact nI_1 _ | decide), trivial⟩ (ihi (i + 1) (by omega) (by omega))
        · refine E_aload_n dX4_ahead_28 (by rfl) ?_
          refine E_iload_n dX4_ahead_29 (by rfl) ?_
          refine cs_X4_ahead_30 (by assumption) (Nat.le_of_ble_eq_true rfl) (n_progress h i (by omega)) ?_
          refine E_aload_n dX4_ahead_33 (by rfl) ?_
          refine E_iload_n dX4_ahead_34 (by rfl) ?_
          refine cs_X4_ahead_35 (by assumption) (Nat.le_of_ble_eq_true rfl) (n_progress h c hc6) ?_
          refine E_icmp_ne (n := _) rfl (tgt := 50) dX4_ahead_38 (by decide) (fun q38 => ?_) (fun q38 => ?_)
          · refine E_iconst (v := 0) dX4_ahead_50 (by decide) ?_
            refine E_iadd dX4_ahead_51 ?_
            refine E_istore_n dX4_ahead_52 (Nat.le_of_ble_eq_true rfl) (by rfl) ?_
            refine E_iinc (d := 1) dX4_ahead_53 (by rfl) (by decide) (Nat.le_of_ble_eq_true rfl) (by rfl) ?_
            refine E_goto (tgt := 4) dX4_ahead_56 (by decide) ?_
            exact E_loc [(0, .ref 86), (1, .int (nI c)), (2, .int (sCn (m_ahd (m_z M) c) (i + 1))), (3, .int (nI (i + 1)))] ⟨rfl, rfl, x_i (by simp only [sCn]; first | rw [if_pos (by unfold m_ahd; omega)] | rw [if_neg (by unfold m_ahd; omega), Int32.add_zero]), x_i (by first | exact nI_1 _ | decide), trivial⟩ (ihi (i + 1) (by omega) (by omega))
          · refine E_iload_n dX4_ahead_41 (by rfl) ?_
            refine E_iload_n dX4_ahead_42 (by rfl) ?_
            refine E_icmp_ge (n := _) rfl (tgt := 50) dX4_ahead_43 (by decide) (fun q43 => ?_) (fun q43 => ?_)
            · refine E_iconst (v := 0) dX4_ahead_50 (by decide) ?_
              refine E_iadd dX4_ahead_51 ?_
              refine E_istore_n dX4_ahead_52 (Nat.le_of_ble_eq_true rfl) (by rfl) ?_
              refine E_iinc (d := 1) dX4_ahead_53 (by rfl) (by decide) (Nat.le_of_ble_eq_true rfl) (by rfl) ?_
              refine E_goto (tgt := 4) dX4_ahead_56 (by decide) ?_
              exact E_loc [(0, .ref 86), (1, .int (nI c)), (2, .int (sCn (m_ahd (m_z M) c) (i + 1))), (3, .int (nI (i + 1)))] ⟨rfl, rfl, x_i (by simp only [sCn]; first | rw [if_pos (by unfold m_ahd; omega)] | rw [if_neg (by unfold m_ahd; omega), Int32.add_zero]), x_i (by first | exact nI_1 _ | decide), trivial⟩ (ihi (i + 1) (by omega) (by omega))
            · refine E_iconst (v := 1) dX4_ahead_46 (by decide) ?_
              refine E_goto (tgt := 51) dX4_ahead_47 (by decide) ?_
              refine E_iadd dX4_ahead_51 ?_
              refine E_istore_n dX4_ahead_52 (Nat.le_of_ble_eq_true rfl) (by rfl) ?_
              refine E_iinc (d := 1) dX4_ahead_53 (by rfl) (by decide) (Nat.le_of_ble_eq_true rfl) (by rfl) ?_
              refine E_goto (tgt := 4) dX4_ahead_56 (by decide) ?_
              exact E_loc [(0, .ref 86), (1, .int (nI c)), (2, .int (sCn (m_ahd (m_z M) c) (i + 1))), (3, .int (nI (i + 1)))] ⟨rfl, rfl, x_i (by simp only [sCn]; first | rw [if_pos (by unfold m_ahd; omega)] | rw [if_neg (by unfold m_ahd; omega), Int32.add_zero]), x_i (by first | exact nI_1 _ | decide), trivial⟩ (ihi (i + 1) (by omega) (by omega))
  refine E_iconst (v := 0) dX4_ahead_0 (by decide) ?_
  refine E_istore_n dX4_ahead_1 (Nat.le_of_ble_eq_true rfl) (by rfl) ?_
  refine E_iconst (v := 0) dX4_ahead_2 (by decide) ?_
  refine E_istore_n dX4_ahead_3 (Nat.le_of_ble_eq_true rfl) (by rfl) ?_
  exact E_loc [(0, .ref 86), (1, .int (nI c)), (2, .int (sCn (m_ahd (m_z M) c) 0)), (3, .int (nI 0))] ⟨rfl, rfl, x_i (by rfl), x_i (by first | rfl | decide), trivial⟩ (loop (n + 1) 0 (by omega) (by omega))
/-- the last, of the first n, that is so -/
def sLst (p : Nat → Prop) [DecidablePred p] : Nat → Int32
  | 0 => -6
  | c + 1 => if p c then nI c else sLst p c
theorem n_rank (h : mAt mem M) (hc : m_z M 1 = nI n) (hn : n ≤ 6) (x : Int32) : Dt G kX4_rank [.ref 86, .int x] mem (some (.int (if x.toInt < 0 then -2 else sLst (fun c => (sCn (m_ahd (m_z M) c) n).toInt = x.toInt) n))) mem := by
  obtain ⟨a0, a1, a2, a3, a4, a5, a6, a7⟩ := id h
  have hc' : (m_z M (1 : Int32).toNatClampNeg).toInt = (n : Int) := by rw [n_1, hc]; exact nI_toInt (by omega)
  refine Ct_of (by decide) (Nat.le_of_ble_eq_true rfl) ?_
  by_cases hx : x.toInt < 0
  · rw [if_pos hx]
    refine E_iload_n dX4_rank_0 (by rfl) ?_
    refine E_if_ge (tgt := 7) dX4_rank_1 (by decide) (fun q1 => ?_) (fun q1 => ?_)
    · exact absurd hx (by omega)
    · refine E_bipush (v := (-2)) dX4_rank_4 (by decide) ?_
      refine E_iret dX4_rank_6 rfl rfl (Nat.zero_le _) (Nat.zero_le _) ?_
      exact x_leaf rfl
  · rw [if_neg hx]
    have loop : ∀ di i : Nat, n < i + di → i ≤ n → E G kX4_rank (x_R (some (.int (sLst (fun c => (sCn (m_ahd (m_z M) c) n).toInt = x.toInt) n))) mem) 0 0 (mem) 12 (x_L [(0, .ref 86), (1, .int x), (2, .int (sLst (fun c => (sCn (m_ahd (m_z M) c) n).toInt = x.toInt) i)), (3, .int (nI i))]) [] := by
      intro di
      induction di with
      | zero => intro i hi1 hi2; exact absurd hi1 (by omega)
      | succ di ihi =>
        intro i hi1 hi2
        have ei : (nI i).toInt = (i : Int) := nI_toInt (by omega)
        have eci : (nI i).toNatClampNeg = i := nI_clamp (by omega)
        refine E_iload_n dX4_rank_12 (by rfl) ?_
        refine E_aload_n dX4_rank_13 (by rfl) ?_
        refine gf_X4_7 dX4_rank_14 rfl (by assumption) (by rfl) ?_
        refine E_iconst (v := 1) dX4_rank_17 (by decide) ?_
        refine E_iald dX4_rank_18 (by assumption) (i_in (by decide) (by decide)) ?_
        refine E_icmp_ge (n := _) rfl (tgt := 43) dX4_rank_19 (by decide) (fun q19 => ?_) (fun q19 => ?_)
        · refine E_iload_n dX4_rank_43 (by rfl) ?_
          refine E_iret dX4_rank_44 rfl rfl (Nat.zero_le _) (Nat.zero_le _) ?_
          exact x_leaf (by rw [show i = n by omega])
        · refine E_aload_n dX4_rank_22 (by rfl) ?_
          refine E_iload_n dX4_rank_23 (by rfl) ?_
          refine cs_X4_rank_24 (by assumption) (Nat.le_of_ble_eq_true rfl) (n_ahead h hc hn i (by omega)) ?_
          refine E_iload_n dX4_rank_27 (by rfl) ?_
          refine E_icmp_ne (n := _) rfl (tgt := 35) dX4_rank_28 (by decide) (fun q28 => ?_) (fun q28 => ?_)
          · refine E_iload_n dX4_rank_35 (by rfl) ?_
            refine E_istore_n dX4_rank_36 (Nat.le_of_ble_eq_true rfl) (by rfl) ?_
            refine E_iinc (d := 1) dX4_rank_37 (by rfl) (by decide) (Nat.le_of_ble_eq_true rfl) (by rfl) ?_
            refine E_goto (tgt := 12) dX4_rank_40 (by decide) ?_
            exact E_loc [(0, .ref 86), (1, .int x), (2, .int (sLst (fun c => (sCn (m_ahd (m_z M) c) n).toInt = x.toInt) (i + 1))), (3, .int (nI (i + 1)))] ⟨rfl, rfl, x_i (by simp only [sLst]; first | rw [if_pos q28] | rw [if_neg q28]), x_i (by first | exact nI_1 _ | decide), trivial⟩ (ihi (i + 1) (by omega) (by omega))
          · refine E_iload_n dX4_rank_31 (by rfl) ?_
            refine E_goto (tgt := 36) dX4_rank_32 (by decide) ?_
            refine E_istore_n dX4_rank_36 (Nat.le_of_ble_eq_true rfl) (by rfl) ?_
            refine E_iinc (d := 1) dX4_rank_37 (by rfl) (by decide) (Nat.le_of_ble_eq_true rfl) (by rfl) ?_
            refine E_goto (tgt := 12) dX4_rank_40 (by decide) ?_
            exact E_loc [(0, .ref 86), (1, .int x), (2, .int (sLst (fun c => (sCn (m_ahd (m_z M) c) n).toInt = x.toInt) (i + 1))), (3, .int (nI (i + 1)))] ⟨rfl, rfl, x_i (by simp only [sLst]; first | rw [if_pos q28] | rw [if_neg q28]), x_i (by first | exact nI_1 _ | decide), trivial⟩ (ihi (i + 1) (by omega) (by omega))
    refine E_iload_n dX4_rank_0 (by rfl) ?_
    refine E_if_ge (tgt := 7) dX4_rank_1 (by decide) (fun q1 => ?_) (fun q1 => ?_)
    · refine E_bipush (v := (-6)) dX4_rank_7 (by decide) ?_
      refine E_istore_n dX4_rank_9 (Nat.le_of_ble_eq_true rfl) (by rfl) ?_
      refine E_iconst (v := 0) dX4_rank_10 (by decide) ?_
      refine E_istore_n dX4_rank_11 (Nat.le_of_ble_eq_true rfl) (by rfl) ?_
      exact E_loc [(0, .ref 86), (1, .int x), (2, .int (sLst (fun c => (sCn (m_ahd (m_z M) c) n).toInt = x.toInt) 0)), (3, .int (nI 0))] ⟨rfl, rfl, x_i (by rfl), x_i (by first | rfl | decide), trivial⟩ (loop (n + 1) 0 (by omega) (by omega))
    · exact absurd q1 (by omega)
end N1
