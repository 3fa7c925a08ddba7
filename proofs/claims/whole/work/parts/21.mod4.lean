/-! the reference: rolls -/
section N4
variable {G : xG} {mem : xM} {M N : mS} {z : Nat → Int32} {t n k c m : Nat}
theorem mz_at (h : mAt mem M) (N : mS) (z : Nat → Int32) : (mPut mem (m_wz N z))[86]? = some (m_O N) ∧ (mPut mem (m_wz N z))[87]? = some (g_a 0 118 z) := ⟨(mAt_put h (m_wz N z)).1, (mAt_put h (m_wz N z)).2.1⟩
theorem mz_set (h : mAt mem M) (N : mS) (z f : Nat → Int32) : (mPut mem (m_wz N z)).set 87 (g_a 0 118 f) = mPut mem (m_wz N f) := mS_z h (m_wz N z) f
theorem r_of (h : mAt mem M) (N : mS) (z : Nat → Int32) (c w : Nat) (hc : c < 6) (hw : w < 6) : Dt G kX4_of [.ref 86, .int (nI c), .int (nI w)] (mPut mem (m_wz N z)) (some (.int (z (8 + 6 * c + w)))) (mPut mem (m_wz N z)) := n_of (mAt_put h (m_wz N z)) c w hc hw
theorem r_pl (h : mAt mem M) (N : mS) (z : Nat → Int32) (c : Nat) (hc : c < 6) : Dt G kX4_of [.ref 86, .int (nI c), .int (nI 0)] (mPut mem (m_wz N z)) (some (.int (z (8 + 6 * c)))) (mPut mem (m_wz N z)) := n_of (mAt_put h (m_wz N z)) c 0 hc (by decide)
theorem r_lays (h : mAt mem M) (N : mS) (z : Nat → Int32) (c w : Nat) (hc : c < 6) (hw : w < 6) (v : Int32) : Dt G kX4_lays [.ref 86, .int (nI c), .int (nI w), .int v] (mPut mem (m_wz N z)) none (mPut mem (m_wz N (mLays z c w v))) := n_lays h (N := m_wz N z) c w hc hw v
theorem r_carpetFrom (h : mAt mem M) (N : mS) (z : Nat → Int32) (hk : z 3 = nI k) (hk6 : k ≤ 6) (x : Int32) : Dt G kX4_carpetFrom [.ref 86, .int x] (mPut mem (m_wz N z)) (some (.int (mCF z x k))) (mPut mem (m_wz N z)) := n_carpetFrom (mAt_put h (m_wz N z)) hk hk6 x
theorem r_lower (h : mAt mem M) (N : mS) (z : Nat → Int32) (j : Nat) (hj : j ≤ 6) : Dt G kX4_lower [.ref 86, .int (nI j)] (mPut mem (m_wz N z)) (some (.int (z (45 + 2 * j)))) (mPut mem (m_wz N z)) := n_lower (mAt_put h (m_wz N z)) j hj
theorem r_isLandingI (h : mAt mem M) (N : mS) (z : Nat → Int32) (x : Int32) (h1 : 0 ≤ x.toInt) (h2 : x.toInt ≤ 60) : Dt G kX4_isLanding [.ref 86, .int x] (mPut mem (m_wz N z)) (some (.int (b2i (m_la z x.toNatClampNeg)))) (mPut mem (m_wz N z)) := n_isLandingI (mAt_put h (m_wz N z)) x h1 h2
theorem mCF_cases (z : Nat → Int32) (x : Int32) : ∀ k, (mCF z x k = -6 ∧ ∀ j, j < k → (z (44 + 2 * j)).toInt ≠ x.toInt) ∨ ∃ j, j < k ∧ mCF z x k = nI j ∧ (z (44 + 2 * j)).toInt = x.toInt := by
  intro k
  induction k with
  | zero => exact Or.inl ⟨rfl, fun j hj => absurd hj (by omega)⟩
  | succ k ih =>
    rw [mCF]
    by_cases e : (z (44 + 2 * k)).toInt = x.toInt
    · rw [if_pos e]
      exact Or.inr ⟨k, by omega, rfl, e⟩
    · rw [if_neg e]
      rcases ih with ⟨h1, h2⟩ | ⟨j, h1, h2, h3⟩
      · refine Or.inl ⟨h1, fun j hj => ?_⟩
        by_cases ej : j = k
        · subst ej
          exact e
        · exact h2 j (by omega)
      · exact Or.inr ⟨j, by omega, h2, h3⟩
theorem upd_self {f : Nat → Int32} {i : Nat} : upd f i (f i) = f := by
  funext j
  unfold upd
  split
  · rename_i e
    rw [e]
  · rfl
def mCome (z : Nat → Int32) (k c : Nat) (x : Int32) : Nat → Int32 :=
  if x.toInt < (z 0).toInt then
    if (mCF z x k).toInt = -6 then mLays z c 0 x
    else upd (mLays (mLays z c 0 (z (45 + 2 * (mCF z x k).toNatClampNeg))) c 5 (z (8 + 6 * c + 5) + 1)) 6 (z 6 + 1)
  else mLays (mLays z c 1 (z (8 + 6 * c + 1) + 1)) c 0 0
theorem n_comes (h : mAt mem M) (N : mS) (z : Nat → Int32) (hk : z 3 = nI k) (hk6 : k ≤ 6) (c : Nat) (hc : c < 6) (x : Int32) : Dt G kX4_comes [.ref 86, .int (nI c), .int x] (mPut mem (m_wz N z)) none (mPut mem (m_wz N (mCome z k c x))) := by
  obtain ⟨a0, a1⟩ := mz_at h N z
  have e0 : (0 : Int32).toNatClampNeg = 0 := by decide
  have e6 : (6 : Int32).toNatClampNeg = 6 := by decide
  refine Ct_of (by decide) (Nat.le_of_ble_eq_true rfl) ?_
  by_cases hx : x.toInt < (z 0).toInt
  · by_cases hf : (mCF z x k).toInt = -6
    · rw [mCome, if_pos hx, if_pos hf]
      obtain ⟨b0, b1⟩ := mz_at h N (mLays z c 0 x)
      refine E_iload_n dX4_comes_0 (by rfl) ?_
      refine E_aload_n dX4_comes_1 (by rfl) ?_
      refine gf_X4_7 dX4_comes_2 rfl (by assumption) (by rfl) ?_
      refine E_iconst (v := 0) dX4_comes_5 (by decide) ?_
      refine E_iald dX4_comes_6 (by assumption) (i_in (by decide) (by decide)) ?_
      refine E_icmp_lt (n := _) rfl (tgt := 32) dX4_comes_7 (by decide) (fun q7 => ?_) (fun q7 => ?_)
      · refine E_aload_n dX4_comes_32 (by rfl) ?_
        refine E_iload_n dX4_comes_33 (by rfl) ?_
        refine cs_X4_comes_34 (by assumption) (Nat.le_of_ble_eq_true rfl) (r_carpetFrom h N z hk hk6 x) ?_
        refine E_istore_n dX4_comes_37 (Nat.le_of_ble_eq_true rfl) (by rfl) ?_
        refine E_aload_n dX4_comes_38 (by rfl) ?_
        refine E_iload_n dX4_comes_39 (by rfl) ?_
        refine E_iconst (v := 0) dX4_comes_40 (by decide) ?_
        refine E_iload_n dX4_comes_41 (by rfl) ?_
        refine E_bipush (v := (-6)) dX4_comes_42 (by decide) ?_
        refine E_icmp_ne (n := (-6)) (by decide) (tgt := 51) dX4_comes_44 (by decide) (fun q44 => ?_) (fun q44 => ?_)
        · exact absurd hf q44
        · refine E_iload_n dX4_comes_47 (by rfl) ?_
          refine E_goto (tgt := 56) dX4_comes_48 (by decide) ?_
          refine cs_X4_comes_56 (by assumption) (Nat.le_of_ble_eq_true rfl) (r_lays h N z c 0 hc (by decide) x) ?_
          refine E_aload_n dX4_comes_59 (by rfl) ?_
          refine E_iload_n dX4_comes_60 (by rfl) ?_
          refine E_iconst (v := 5) dX4_comes_61 (by decide) ?_
          refine E_aload_n dX4_comes_62 (by rfl) ?_
          refine E_iload_n dX4_comes_63 (by rfl) ?_
          refine E_iconst (v := 5) dX4_comes_64 (by decide) ?_
          refine cs_X4_comes_65 (by assumption) (Nat.le_of_ble_eq_true rfl) (r_of h N (mLays z c 0 x) c 5 hc (by decide)) ?_
          refine E_iload_n dX4_comes_68 (by rfl) ?_
          refine E_bipush (v := (-6)) dX4_comes_69 (by decide) ?_
          refine E_icmp_ne (n := (-6)) (by decide) (tgt := 78) dX4_comes_71 (by decide) (fun q71 => ?_) (fun q71 => ?_)
          · exact absurd hf q71
          · refine E_iconst (v := 0) dX4_comes_74 (by decide) ?_
            refine E_goto (tgt := 79) dX4_comes_75 (by decide) ?_
            refine E_iadd dX4_comes_79 ?_
            refine cs_X4_comes_80 (by assumption) (Nat.le_of_ble_eq_true rfl) (r_lays h N (mLays z c 0 x) c 5 hc (by decide) _) ?_
            refine E_mem (congrArg (fun f => mPut mem (m_wz N f)) (show mLays (mLays z c 0 x) c 5 (mLays z c 0 x (8 + 6 * c + 5) + 0) = mLays z c 0 x by rw [Int32.add_zero]; exact upd_self)) ?_
            refine E_aload_n dX4_comes_83 (by rfl) ?_
            refine gf_X4_7 dX4_comes_84 rfl (by assumption) (by rfl) ?_
            refine E_bipush (v := 6) dX4_comes_87 (by decide) ?_
            refine E_dup2 dX4_comes_89 rfl rfl ?_
            refine E_iald dX4_comes_90 (by assumption) (i_in (by decide) (by decide)) ?_
            refine E_iload_n dX4_comes_91 (by rfl) ?_
            refine E_bipush (v := (-6)) dX4_comes_92 (by decide) ?_
            refine E_icmp_ne (n := (-6)) (by decide) (tgt := 101) dX4_comes_94 (by decide) (fun q94 => ?_) (fun q94 => ?_)
            · exact absurd hf q94
            · refine E_iconst (v := 0) dX4_comes_97 (by decide) ?_
              refine E_goto (tgt := 102) dX4_comes_98 (by decide) ?_
              refine E_iadd dX4_comes_102 ?_
              refine E_iast dX4_comes_103 (by assumption) (i_in (by decide) (by decide)) ?_
              refine E_mem ((mz_set h N _ _).trans (congrArg (fun f => mPut mem (m_wz N f)) (show _ = mLays z c 0 x by rw [Int32.add_zero]; exact upd_self))) ?_
              refine E_vret dX4_comes_104 rfl (Nat.zero_le _) (Nat.zero_le _) ?_
              exact ⟨rfl, rfl⟩
      · exact absurd hx q7
    · rcases mCF_cases z x k with ⟨h1, _⟩ | ⟨j, hj, h2, _⟩
      · exact absurd (by rw [h1]; decide) hf
      have ej : (nI j).toInt = (j : Int) := nI_toInt (by omega)
      have ecj : (nI j).toNatClampNeg = j := nI_clamp (by omega)
      rw [mCome, if_pos hx, if_neg hf, h2, ecj]
      obtain ⟨c0, c1⟩ := mz_at h N (mLays z c 0 (z (45 + 2 * j)))
      obtain ⟨b0, b1⟩ := mz_at h N (mLays (mLays z c 0 (z (45 + 2 * j))) c 5 (z (8 + 6 * c + 5) + 1))
      have g5 : mLays z c 0 (z (45 + 2 * j)) (8 + 6 * c + 5) = z (8 + 6 * c + 5) := upd_ne (by omega)
      have g6 : mLays (mLays z c 0 (z (45 + 2 * j))) c 5 (z (8 + 6 * c + 5) + 1) 6 = z 6 := (upd_ne (by omega)).trans (upd_ne (by omega))
      refine E_iload_n dX4_comes_0 (by rfl) ?_
      refine E_aload_n dX4_comes_1 (by rfl) ?_
      refine gf_X4_7 dX4_comes_2 rfl (by assumption) (by rfl) ?_
      refine E_iconst (v := 0) dX4_comes_5 (by decide) ?_
      refine E_iald dX4_comes_6 (by assumption) (i_in (by decide) (by decide)) ?_
      refine E_icmp_lt (n := _) rfl (tgt := 32) dX4_comes_7 (by decide) (fun q7 => ?_) (fun q7 => ?_)
      · refine E_aload_n dX4_comes_32 (by rfl) ?_
        refine E_iload_n dX4_comes_33 (by rfl) ?_
        refine cs_X4_comes_34 (by assumption) (Nat.le_of_ble_eq_true rfl) (r_carpetFrom h N z hk hk6 x) ?_
        rw [h2]
        refine E_istore_n dX4_comes_37 (Nat.le_of_ble_eq_true rfl) (by rfl) ?_
        refine E_aload_n dX4_comes_38 (by rfl) ?_
        refine E_iload_n dX4_comes_39 (by rfl) ?_
        refine E_iconst (v := 0) dX4_comes_40 (by decide) ?_
        refine E_iload_n dX4_comes_41 (by rfl) ?_
        refine E_bipush (v := (-6)) dX4_comes_42 (by decide) ?_
        refine E_icmp_ne (n := (-6)) (by decide) (tgt := 51) dX4_comes_44 (by decide) (fun q44 => ?_) (fun q44 => ?_)
        · refine E_aload_n dX4_comes_51 (by rfl) ?_
          refine E_iload_n dX4_comes_52 (by rfl) ?_
          refine cs_X4_comes_53 (by assumption) (Nat.le_of_ble_eq_true rfl) (r_lower h N z j (by omega)) ?_
          refine cs_X4_comes_56 (by assumption) (Nat.le_of_ble_eq_true rfl) (r_lays h N z c 0 hc (by decide) _) ?_
          refine E_aload_n dX4_comes_59 (by rfl) ?_
          refine E_iload_n dX4_comes_60 (by rfl) ?_
          refine E_iconst (v := 5) dX4_comes_61 (by decide) ?_
          refine E_aload_n dX4_comes_62 (by rfl) ?_
          refine E_iload_n dX4_comes_63 (by rfl) ?_
          refine E_iconst (v := 5) dX4_comes_64 (by decide) ?_
          refine cs_X4_comes_65 (by assumption) (Nat.le_of_ble_eq_true rfl) (r_of h N (mLays z c 0 (z (45 + 2 * j))) c 5 hc (by decide)) ?_
          rw [g5]
          refine E_iload_n dX4_comes_68 (by rfl) ?_
          refine E_bipush (v := (-6)) dX4_comes_69 (by decide) ?_
          refine E_icmp_ne (n := (-6)) (by decide) (tgt := 78) dX4_comes_71 (by decide) (fun q71 => ?_) (fun q71 => ?_)
          · refine E_iconst (v := 1) dX4_comes_78 (by decide) ?_
            refine E_iadd dX4_comes_79 ?_
            refine cs_X4_comes_80 (by assumption) (Nat.le_of_ble_eq_true rfl) (r_lays h N (mLays z c 0 (z (45 + 2 * j))) c 5 hc (by decide) _) ?_
            refine E_aload_n dX4_comes_83 (by rfl) ?_
            refine gf_X4_7 dX4_comes_84 rfl (by assumption) (by rfl) ?_
            refine E_bipush (v := 6) dX4_comes_87 (by decide) ?_
            refine E_dup2 dX4_comes_89 rfl rfl ?_
            refine E_iald dX4_comes_90 (by assumption) (i_in (by decide) (by decide)) ?_
            rw [e6, g6]
            refine E_iload_n dX4_comes_91 (by rfl) ?_
            refine E_bipush (v := (-6)) dX4_comes_92 (by decide) ?_
            refine E_icmp_ne (n := (-6)) (by decide) (tgt := 101) dX4_comes_94 (by decide) (fun q94 => ?_) (fun q94 => ?_)
            · refine E_iconst (v := 1) dX4_comes_101 (by decide) ?_
              refine E_iadd dX4_comes_102 ?_
              refine E_iast dX4_comes_103 (by assumption) (i_in (by decide) (by decide)) ?_
              refine E_mem (mz_set h N _ _) ?_
              refine E_vret dX4_comes_104 rfl (Nat.zero_le _) (Nat.zero_le _) ?_
              exact ⟨rfl, by rw [e6]⟩
            · exact absurd q94 (by omega)
          · exact absurd q71 (by omega)
        · exact absurd q44 (by omega)
      · exact absurd hx q7
  · rw [mCome, if_neg hx]
    obtain ⟨b0, b1⟩ := mz_at h N (mLays z c 1 (z (8 + 6 * c + 1) + 1))
    refine E_iload_n dX4_comes_0 (by rfl) ?_
    refine E_aload_n dX4_comes_1 (by rfl) ?_
    refine gf_X4_7 dX4_comes_2 rfl (by assumption) (by rfl) ?_
    refine E_iconst (v := 0) dX4_comes_5 (by decide) ?_
    refine E_iald dX4_comes_6 (by assumption) (i_in (by decide) (by decide)) ?_
    refine E_icmp_lt (n := _) rfl (tgt := 32) dX4_comes_7 (by decide) (fun q7 => ?_) (fun q7 => ?_)
    · exact absurd q7 hx
    · refine E_aload_n dX4_comes_10 (by rfl) ?_
      refine E_iload_n dX4_comes_11 (by rfl) ?_
      refine E_iconst (v := 1) dX4_comes_12 (by decide) ?_
      refine E_aload_n dX4_comes_13 (by rfl) ?_
      refine E_iload_n dX4_comes_14 (by rfl) ?_
      refine E_iconst (v := 1) dX4_comes_15 (by decide) ?_
      refine cs_X4_comes_16 (by assumption) (Nat.le_of_ble_eq_true rfl) (r_of h N z c 1 hc (by decide)) ?_
      refine E_iconst (v := 1) dX4_comes_19 (by decide) ?_
      refine E_iadd dX4_comes_20 ?_
      refine cs_X4_comes_21 (by assumption) (Nat.le_of_ble_eq_true rfl) (r_lays h N z c 1 hc (by decide) _) ?_
      refine E_aload_n dX4_comes_24 (by rfl) ?_
      refine E_iload_n dX4_comes_25 (by rfl) ?_
      refine E_iconst (v := 0) dX4_comes_26 (by decide) ?_
      refine E_iconst (v := 0) dX4_comes_27 (by decide) ?_
      refine cs_X4_comes_28 (by assumption) (Nat.le_of_ble_eq_true rfl) (r_lays h N (mLays z c 1 (z (8 + 6 * c + 1) + 1)) c 0 hc (by decide) _) ?_
      refine E_vret dX4_comes_31 rfl (Nat.zero_le _) (Nat.zero_le _) ?_
      exact ⟨rfl, rfl⟩
abbrev mPs (z : Nat → Int32) (m : Nat) (u : Int32) (c : Nat) : Prop := c ≠ m ∧ (z (8 + 6 * m)).toInt < (z (8 + 6 * c)).toInt ∧ (z (8 + 6 * c)).toInt < (z (8 + 6 * m) + u).toInt ∧ ¬ m_la z (z (8 + 6 * c)).toNatClampNeg
abbrev mPlo (z : Nat → Int32) (n : Nat) : Prop := ∀ c, c < n → 0 ≤ (z (8 + 6 * c)).toInt ∧ (z (8 + 6 * c)).toInt ≤ 60
theorem n_isPassed (h : mAt mem M) (N : mS) (z : Nat → Int32) (hm : z 2 = nI m) (hm6 : m < 6) (c : Nat) (hc : c < 6) (hp : 0 ≤ (z (8 + 6 * c)).toInt ∧ (z (8 + 6 * c)).toInt ≤ 60) (u : Int32) : Dt G kX4_isPassed [.ref 86, .int (nI c), .int u] (mPut mem (m_wz N z)) (some (.int (b2i (mPs z m u c)))) (mPut mem (m_wz N z)) := by
  obtain ⟨a0, a1⟩ := mz_at h N z
  have e2 : (2 : Int32).toNatClampNeg = 2 := by decide
  have em : (nI m).toInt = (m : Int) := nI_toInt (by omega)
  have ec : (nI c).toInt = (c : Int) := nI_toInt (by omega)
  refine Ct_of (by decide) (Nat.le_of_ble_eq_true rfl) ?_
  refine E_aload_n dX4_isPassed_0 (by rfl) ?_
  refine E_aload_n dX4_isPassed_1 (by rfl) ?_
  refine gf_X4_7 dX4_isPassed_2 rfl (by assumption) (by rfl) ?_
  refine E_iconst (v := 2) dX4_isPassed_5 (by decide) ?_
  refine E_iald dX4_isPassed_6 (by assumption) (i_in (by decide) (by decide)) ?_
  rw [e2, hm]
  refine E_iconst (v := 0) dX4_isPassed_7 (by decide) ?_
  refine cs_X4_isPassed_8 (by assumption) (Nat.le_of_ble_eq_true rfl) (r_pl h N z m hm6) ?_
  refine E_istore_n dX4_isPassed_11 (Nat.le_of_ble_eq_true rfl) (by rfl) ?_
  refine E_iload_n dX4_isPassed_12 (by rfl) ?_
  refine E_aload_n dX4_isPassed_13 (by rfl) ?_
  refine gf_X4_7 dX4_isPassed_14 rfl (by assumption) (by rfl) ?_
  refine E_iconst (v := 2) dX4_isPassed_17 (by decide) ?_
  refine E_iald dX4_isPassed_18 (by assumption) (i_in (by decide) (by decide)) ?_
  rw [e2, hm]
  refine E_icmp_eq (n := _) rfl (tgt := 61) dX4_isPassed_19 (by decide) (fun q19 => ?_) (fun q19 => ?_)
  · refine E_iconst (v := 0) dX4_isPassed_61 (by decide) ?_
    refine E_iret dX4_isPassed_62 rfl (by decide) (Nat.zero_le _) (Nat.zero_le _) ?_
    exact x_leaf (by rw [b2i_f (fun z => z.1 (by omega))])
  · refine E_aload_n dX4_isPassed_22 (by rfl) ?_
    refine E_iload_n dX4_isPassed_23 (by rfl) ?_
    refine E_iconst (v := 0) dX4_isPassed_24 (by decide) ?_
    refine cs_X4_isPassed_25 (by assumption) (Nat.le_of_ble_eq_true rfl) (r_pl h N z c hc) ?_
    refine E_iload_n dX4_isPassed_28 (by rfl) ?_
    refine E_icmp_le (n := _) rfl (tgt := 61) dX4_isPassed_29 (by decide) (fun q29 => ?_) (fun q29 => ?_)
    · refine E_iconst (v := 0) dX4_isPassed_61 (by decide) ?_
      refine E_iret dX4_isPassed_62 rfl (by decide) (Nat.zero_le _) (Nat.zero_le _) ?_
      exact x_leaf (by rw [b2i_f (fun z => absurd z.2.1 (by omega))])
    · refine E_aload_n dX4_isPassed_32 (by rfl) ?_
      refine E_iload_n dX4_isPassed_33 (by rfl) ?_
      refine E_iconst (v := 0) dX4_isPassed_34 (by decide) ?_
      refine cs_X4_isPassed_35 (by assumption) (Nat.le_of_ble_eq_true rfl) (r_pl h N z c hc) ?_
      refine E_iload_n dX4_isPassed_38 (by rfl) ?_
      refine E_iload_n dX4_isPassed_39 (by rfl) ?_
      refine E_iadd dX4_isPassed_40 ?_
      refine E_icmp_ge (n := _) rfl (tgt := 61) dX4_isPassed_41 (by decide) (fun q41 => ?_) (fun q41 => ?_)
      · refine E_iconst (v := 0) dX4_isPassed_61 (by decide) ?_
        refine E_iret dX4_isPassed_62 rfl (by decide) (Nat.zero_le _) (Nat.zero_le _) ?_
        exact x_leaf (by rw [b2i_f (fun z => absurd z.2.2.1 (by omega))])
      · refine E_aload_n dX4_isPassed_44 (by rfl) ?_
        refine E_aload_n dX4_isPassed_45 (by rfl) ?_
        refine E_iload_n dX4_isPassed_46 (by rfl) ?_
        refine E_iconst (v := 0) dX4_isPassed_47 (by decide) ?_
        refine cs_X4_isPassed_48 (by assumption) (Nat.le_of_ble_eq_true rfl) (r_pl h N z c hc) ?_
        refine cs_X4_isPassed_51 (by assumption) (Nat.le_of_ble_eq_true rfl) (r_isLandingI h N z _ hp.1 hp.2) ?_
        refine E_if_ne (tgt := 61) dX4_isPassed_54 (by decide) (fun q54 => ?_) (fun q54 => ?_)
        · rw [b2i_T0] at q54; have q54 := Classical.not_not.mp q54
          refine E_iconst (v := 0) dX4_isPassed_61 (by decide) ?_
          refine E_iret dX4_isPassed_62 rfl (by decide) (Nat.zero_le _) (Nat.zero_le _) ?_
          exact x_leaf (by rw [b2i_f (fun z => z.2.2.2 q54)])
        · rw [b2i_T0] at q54
          refine E_iconst (v := 1) dX4_isPassed_57 (by decide) ?_
          refine E_goto (tgt := 62) dX4_isPassed_58 (by decide) ?_
          refine E_iret dX4_isPassed_62 rfl (by decide) (Nat.zero_le _) (Nat.zero_le _) ?_
          exact x_leaf (by rw [b2i_t ⟨by omega, by omega, by omega, q54⟩])
/-- the set, as bits, of those of the first n that are so -/
def sBs (p : Nat → Prop) [DecidablePred p] : Nat → Int32
  | 0 => 0
  | c + 1 => sBs p c ||| (if p c then 1 <<< (nI c &&& 31) else 0)
theorem n_passedBy (h : mAt mem M) (N : mS) (z : Nat → Int32) (hn : z 1 = nI n) (hn6 : n ≤ 6) (hm : z 2 = nI m) (hm6 : m < 6) (hp : mPlo z n) (u : Int32) : Dt G kX4_passedBy [.ref 86, .int u] (mPut mem (m_wz N z)) (some (.int (sBs (mPs z m u) n))) (mPut mem (m_wz N z)) := by
  obtain ⟨a0, a1⟩ := mz_at h N z
  have hn' : (z (1 : Int32).toNatClampNeg).toInt = (n : Int) := by rw [n_1, hn]; exact nI_toInt (by omega)
  refine Ct_of (by decide) (Nat.le_of_ble_eq_true rfl) ?_
  have loop : ∀ di i : Nat, n < i + di → i ≤ n → E G kX4_passedBy (x_R (some (.int (sBs (mPs z m u) n))) (mPut mem (m_wz N z))) 0 0 ((mPut mem (m_wz N z))) 4 (x_L [(0, .ref 86), (1, .int u), (2, .int (sBs (mPs z m u) i)), (3, .int (nI i))]) [] := by
    intro di
    induction di with
    | zero => intro i hi1 hi2; exact absurd hi1 (by omega)
    | succ di ihi =>
      intro i hi1 hi2
      have ei : (nI i).toInt = (i : Int) := nI_toInt (by omega)
      have eci : (nI i).toNatClampNeg = i := nI_clamp (by omega)
      refine E_iload_n dX4_passedBy_4 (by rfl) ?_
      refine E_aload_n dX4_passedBy_5 (by rfl) ?_
      refine gf_X4_7 dX4_passedBy_6 rfl (by assumption) (by rfl) ?_
      refine E_iconst (v := 1) dX4_passedBy_9 (by decide) ?_
      refine E_iald dX4_passedBy_10 (by assumption) (i_in (by decide) (by decide)) ?_
      refine E_icmp_ge (n := _) rfl (tgt := 39) dX4_passedBy_11 (by decide) (fun q11 => ?_) (fun q11 => ?_)
      · refine E_iload_n dX4_passedBy_39 (by rfl) ?_
        refine E_iret dX4_passedBy_40 rfl rfl (Nat.zero_le _) (Nat.zero_le _) ?_
        exact x_leaf (by rw [show i = n by omega])
      · refine E_iload_n dX4_passedBy_14 (by rfl) ?_
        refine E_aload_n dX4_passedBy_15 (by rfl) ?_
        refine E_iload_n dX4_passedBy_16 (by rfl) ?_
        refine E_iload_n dX4_passedBy_17 (by rfl) ?_
        refine cs_X4_passedBy_18 (by assumption) (Nat.le_of_ble_eq_true rfl) (n_isPassed h N z hm hm6 i (by omega) (hp i (by omega)) u) ?_
        refine E_if_eq (tgt := 30) dX4_passedBy_21 (by decide) (fun q21 => ?_) (fun q21 => ?_)
        · rw [b2i_T0] at q21
          refine E_iconst (v := 0) dX4_passedBy_30 (by decide) ?_
          refine E_ior dX4_passedBy_31 ?_
          refine E_istore_n dX4_passedBy_32 (Nat.le_of_ble_eq_true rfl) (by rfl) ?_
          refine E_iinc (d := 1) dX4_passedBy_33 (by rfl) (by decide) (Nat.le_of_ble_eq_true rfl) (by rfl) ?_
          refine E_goto (tgt := 4) dX4_passedBy_36 (by decide) ?_
          exact E_loc [(0, .ref 86), (1, .int u), (2, .int (sBs (mPs z m u) (i + 1))), (3, .int (nI (i + 1)))] ⟨rfl, rfl, x_i (by simp only [sBs]; first | rw [if_pos q21] | rw [if_neg q21]), x_i (by first | exact nI_1 _ | decide), trivial⟩ (ihi (i + 1) (by omega) (by omega))
        · rw [b2i_T0] at q21; have q21 := Classical.not_not.mp q21
          refine E_iconst (v := 1) dX4_passedBy_24 (by decide) ?_
          refine E_iload_n dX4_passedBy_25 (by rfl) ?_
          refine E_ishl dX4_passedBy_26 ?_
          refine E_goto (tgt := 31) dX4_passedBy_27 (by decide) ?_
          refine E_ior dX4_passedBy_31 ?_
          refine E_istore_n dX4_passedBy_32 (Nat.le_of_ble_eq_true rfl) (by rfl) ?_
          refine E_iinc (d := 1) dX4_passedBy_33 (by rfl) (by decide) (Nat.le_of_ble_eq_true rfl) (by rfl) ?_
          refine E_goto (tgt := 4) dX4_passedBy_36 (by decide) ?_
          exact E_loc [(0, .ref 86), (1, .int u), (2, .int (sBs (mPs z m u) (i + 1))), (3, .int (nI (i + 1)))] ⟨rfl, rfl, x_i (by simp only [sBs]; first | rw [if_pos q21] | rw [if_neg q21]), x_i (by first | exact nI_1 _ | decide), trivial⟩ (ihi (i + 1) (by omega) (by omega))
  refine E_iconst (v := 0) dX4_passedBy_0 (by decide) ?_
  refine E_istore_n dX4_passedBy_1 (Nat.le_of_ble_eq_true rfl) (by rfl) ?_
  refine E_iconst (v := 0) dX4_passedBy_2 (by decide) ?_
  refine E_istore_n dX4_passedBy_3 (Nat.le_of_ble_eq_true rfl) (by rfl) ?_
  exact E_loc [(0, .ref 86), (1, .int u), (2, .int (sBs (mPs z m u) 0)), (3, .int (nI 0))] ⟨rfl, rfl, x_i (by rfl), x_i (by first | rfl | decide), trivial⟩ (loop (n + 1) 0 (by omega) (by omega))
/-- the one, of the first n in a set, on the highest step -/
def sHi (z : Nat → Int32) (s : Int32) : Nat → Int32
  | 0 => -6
  | c + 1 => if ((s >>> (nI c &&& 31)) &&& 1).toInt = 1 ∧ ((sHi z s c).toInt = -6 ∨ (z (8 + 6 * (sHi z s c).toNatClampNeg)).toInt < (z (8 + 6 * c)).toInt) then nI c else sHi z s c
theorem sHi_cases (z : Nat → Int32) (s : Int32) : ∀ n, sHi z s n = -6 ∨ ∃ c, c < n ∧ sHi z s n = nI c ∧ ((s >>> (nI c &&& 31)) &&& 1).toInt = 1 := by
  intro n
  induction n with
  | zero => exact Or.inl rfl
  | succ n ih =>
    rw [sHi]
    split
    · rename_i e
      exact Or.inr ⟨n, by omega, rfl, e.1⟩
    · rcases ih with e | ⟨c, h1, h2, h3⟩
      · exact Or.inl e
      · exact Or.inr ⟨c, by omega, h2, h3⟩
theorem n_highest (h : mAt mem M) (N : mS) (z : Nat → Int32) (hn : z 1 = nI n) (hn6 : n ≤ 6) (s : Int32) : Dt G kX4_highest [.ref 86, .int s] (mPut mem (m_wz N z)) (some (.int (sHi z s n))) (mPut mem (m_wz N z)) := by
  obtain ⟨a0, a1⟩ := mz_at h N z
  have hn' : (z (1 : Int32).toNatClampNeg).toInt = (n : Int) := by rw [n_1, hn]; exact nI_toInt (by omega)
  refine Ct_of (by decide) (Nat.le_of_ble_eq_true rfl) ?_
  have loop : ∀ di i : Nat, n < i + di → i ≤ n → E G kX4_highest (x_R (some (.int (sHi z s n))) (mPut mem (m_wz N z))) 0 0 ((mPut mem (m_wz N z))) 5 (x_L [(0, .ref 86), (1, .int s), (2, .int (sHi z s i)), (3, .int (nI i))]) [] := by
    intro di
    induction di with
    | zero => intro i hi1 hi2; exact absurd hi1 (by omega)
    | succ di ihi =>
      intro i hi1 hi2
      have ei : (nI i).toInt = (i : Int) := nI_toInt (by omega)
      have eci : (nI i).toNatClampNeg = i := nI_clamp (by omega)
      have hh : (sHi z s i).toInt ≠ -6 → sHi z s i = nI (sHi z s i).toNatClampNeg ∧ (sHi z s i).toNatClampNeg < 6 := fun hne => by rcases sHi_cases z s i with e | ⟨c, h1, h2, _⟩; exact absurd (by rw [e]; decide) hne; rw [h2, nI_clamp (by omega)]; exact ⟨rfl, by omega⟩
      refine E_iload_n dX4_highest_5 (by rfl) ?_
      refine E_aload_n dX4_highest_6 (by rfl) ?_
      refine gf_X4_7 dX4_highest_7 rfl (by assumption) (by rfl) ?_
      refine E_iconst (v := 1) dX4_highest_10 (by decide) ?_
      refine E_iald dX4_highest_11 (by assumption) (i_in (by decide) (by decide)) ?_
      refine E_icmp_ge (n := _) rfl (tgt := 57) dX4_highest_12 (by decide) (fun q12 => ?_) (fun q12 => ?_)
      · refine E_iload_n dX4_highest_57 (by rfl) ?_
        refine E_iret dX4_highest_58 rfl rfl (Nat.zero_le _) (Nat.zero_le _) ?_
        exact x_leaf (by rw [show i = n by omega])
      · refine E_iload_n dX4_highest_15 (by rfl) ?_
        refine E_iload_n dX4_highest_16 (by rfl) ?_
        refine E_ishr dX4_highest_17 ?_
        refine E_iconst (v := 1) dX4_highest_18 (by decide) ?_
        refine E_iand dX4_highest_19 ?_
        refine E_iconst (v := 1) dX4_highest_20 (by decide) ?_
        refine E_icmp_ne (n := 1) (by decide) (tgt := 49) dX4_highest_21 (by decide) (fun q21 => ?_) (fun q21 => ?_)
        · have eS : sHi z s (i + 1) = sHi z s i := by rw [sHi, if_neg (fun z => q21 z.1)]
          refine E_iload_n dX4_highest_49 (by rfl) ?_
          refine E_istore_n dX4_highest_50 (Nat.le_of_ble_eq_true rfl) (by rfl) ?_
          refine E_iinc (d := 1) dX4_highest_51 (by rfl) (by decide) (Nat.le_of_ble_eq_true rfl) (by rfl) ?_
          refine E_goto (tgt := 5) dX4_highest_54 (by decide) ?_
          exact E_loc [(0, .ref 86), (1, .int s), (2, .int (sHi z s (i + 1))), (3, .int (nI (i + 1)))] ⟨rfl, rfl, x_i (by rw [eS]), x_i (by first | exact nI_1 _ | decide), trivial⟩ (ihi (i + 1) (by omega) (by omega))
        · refine E_iload_n dX4_highest_24 (by rfl) ?_
          refine E_bipush (v := (-6)) dX4_highest_25 (by decide) ?_
          refine E_icmp_eq (n := (-6)) (by decide) (tgt := 45) dX4_highest_27 (by decide) (fun q27 => ?_) (fun q27 => ?_)
          · have eS : sHi z s (i + 1) = nI i := by rw [sHi, if_pos ⟨q21, Or.inl q27⟩]
            refine E_iload_n dX4_highest_45 (by rfl) ?_
            refine E_goto (tgt := 50) dX4_highest_46 (by decide) ?_
            refine E_istore_n dX4_highest_50 (Nat.le_of_ble_eq_true rfl) (by rfl) ?_
            refine E_iinc (d := 1) dX4_highest_51 (by rfl) (by decide) (Nat.le_of_ble_eq_true rfl) (by rfl) ?_
            refine E_goto (tgt := 5) dX4_highest_54 (by decide) ?_
            exact E_loc [(0, .ref 86), (1, .int s), (2, .int (sHi z s (i + 1))), (3, .int (nI (i + 1)))] ⟨rfl, rfl, x_i (by rw [eS]), x_i (by first | exact nI_1 _ | decide), trivial⟩ (ihi (i + 1) (by omega) (by omega))
          · refine E_aload_n dX4_highest_30 (by rfl) ?_
            refine E_iload_n dX4_highest_31 (by rfl) ?_
            refine E_iconst (v := 0) dX4_highest_32 (by decide) ?_
            refine cs_X4_highest_33 (by assumption) (Nat.le_of_ble_eq_true rfl) (r_pl h N z i (by omega)) ?_
            refine E_aload_n dX4_highest_36 (by rfl) ?_
            refine E_iload_n dX4_highest_37 (by rfl) ?_
            refine E_iconst (v := 0) dX4_highest_38 (by decide) ?_
            have h39 : Dt G kX4_of [.ref 86, .int (sHi z s i), .int (nI 0)] (mPut mem (m_wz N z)) (some (.int (z (8 + 6 * (sHi z s i).toNatClampNeg)))) (mPut mem (m_wz N z)) := by have := r_pl (G := G) h N z (sHi z s i).toNatClampNeg (hh q27).2; rw [← (hh q27).1] at this; exact this
            refine cs_X4_highest_39 (by assumption) (Nat.le_of_ble_eq_true rfl) h39 ?_
            refine E_icmp_le (n := _) rfl (tgt := 49) dX4_highest_42 (by decide) (fun q42 => ?_) (fun q42 => ?_)
            · have eS : sHi z s (i + 1) = sHi z s i := by rw [sHi, if_neg (fun z => z.2.elim q27 (fun z => absurd z (by omega)))]
              refine E_iload_n dX4_highest_49 (by rfl) ?_
              refine E_istore_n dX4_highest_50 (Nat.le_of_ble_eq_true rfl) (by rfl) ?_
              refine E_iinc (d := 1) dX4_highest_51 (by rfl) (by decide) (Nat.le_of_ble_eq_true rfl) (by rfl) ?_
              refine E_goto (tgt := 5) dX4_highest_54 (by decide) ?_
              exact E_loc [(0, .ref 86), (1, .int s), (2, .int (sHi z s (i + 1))), (3, .int (nI (i + 1)))] ⟨rfl, rfl, x_i (by rw [eS]), x_i (by first | exact nI_1 _ | decide), trivial⟩ (ihi (i + 1) (by omega) (by omega))
            · have eS : sHi z s (i + 1) = nI i := by rw [sHi, if_pos ⟨q21, Or.inr (by omega)⟩]
              refine E_iload_n dX4_highest_45 (by rfl) ?_
              refine E_goto (tgt := 50) dX4_highest_46 (by decide) ?_
              refine E_istore_n dX4_highest_50 (Nat.le_of_ble_eq_true rfl) (by rfl) ?_
              refine E_iinc (d := 1) dX4_highest_51 (by rfl) (by decide) (Nat.le_of_ble_eq_true rfl) (by rfl) ?_
              refine E_goto (tgt := 5) dX4_highest_54 (by decide) ?_
              exact E_loc [(0, .ref 86), (1, .int s), (2, .int (sHi z s (i + 1))), (3, .int (nI (i + 1)))] ⟨rfl, rfl, x_i (by rw [eS]), x_i (by first | exact nI_1 _ | decide), trivial⟩ (ihi (i + 1) (by omega) (by omega))
  refine E_bipush (v := (-6)) dX4_highest_0 (by decide) ?_
  refine E_istore_n dX4_highest_2 (Nat.le_of_ble_eq_true rfl) (by rfl) ?_
  refine E_iconst (v := 0) dX4_highest_3 (by decide) ?_
  refine E_istore_n dX4_highest_4 (Nat.le_of_ble_eq_true rfl) (by rfl) ?_
  exact E_loc [(0, .ref 86), (1, .int s), (2, .int (sHi z s 0)), (3, .int (nI 0))] ⟨rfl, rfl, x_i (by rfl), x_i (by first | rfl | decide), trivial⟩ (loop (n + 1) 0 (by omega) (by omega))
def mSk (n : Nat) : Nat → (Nat → Int32) → Nat → (Nat → Int32) × Nat
  | 0, z, m => (z, m)
  | f + 1, z, m => if 0 < (z (8 + 6 * m + 2)).toInt then mSk n f (upd (mLays z m 2 (z (8 + 6 * m + 2) - 1)) 7 (z 7 + 1)) ((m + 1) % n) else (z, m)
abbrev mNx (z : Nat → Int32) (n m : Nat) : (Nat → Int32) × Nat := mSk n 12 z ((m + 1) % n)
abbrev mNext (z : Nat → Int32) (n m : Nat) : Nat → Int32 := upd (mNx z n m).1 2 (nI (mNx z n m).2)
abbrev mNok (z : Nat → Int32) (n m : Nat) : Prop := ¬ 0 < ((mNx z n m).1 (8 + 6 * (mNx z n m).2 + 2)).toInt
theorem n_nextMover16 (h : mAt mem M) (N : mS) (hn0 : 0 < n) (hn6 : n ≤ 6) : ∀ (f : Nat) (z : Nat → Int32) (m : Nat), z 1 = nI n → m < n → ¬ 0 < ((mSk n f z m).1 (8 + 6 * (mSk n f z m).2 + 2)).toInt → E G kX4_nextMover (x_R none (mPut mem (m_wz N (upd (mSk n f z m).1 2 (nI (mSk n f z m).2))))) 0 0 (mPut mem (m_wz N z)) 16 (x_L [(0, .ref 86), (1, .int (nI m))]) [] := by
  have e1 : (1 : Int32).toNatClampNeg = 1 := by decide
  have e2 : (2 : Int32).toNatClampNeg = 2 := by decide
  have e7 : (7 : Int32).toNatClampNeg = 7 := by decide
  have leaf : ∀ (z : Nat → Int32) (m : Nat), m < n → ¬ 0 < (z (8 + 6 * m + 2)).toInt → E G kX4_nextMover (x_R none (mPut mem (m_wz N (upd z 2 (nI m))))) 0 0 (mPut mem (m_wz N z)) 16 (x_L [(0, .ref 86), (1, .int (nI m))]) [] := by
    intro z m hm hz
    obtain ⟨a0, a1⟩ := mz_at h N z
    refine E_aload_n dX4_nextMover_16 (by rfl) ?_
    refine E_iload_n dX4_nextMover_17 (by rfl) ?_
    refine E_iconst (v := 2) dX4_nextMover_18 (by decide) ?_
    refine cs_X4_nextMover_19 (by assumption) (Nat.le_of_ble_eq_true rfl) (r_of h N z m 2 (by omega) (by decide)) ?_
    refine E_if_le (tgt := 64) dX4_nextMover_22 (by decide) (fun q22 => ?_) (fun q22 => ?_)
    · refine E_aload_n dX4_nextMover_64 (by rfl) ?_
      refine gf_X4_7 dX4_nextMover_65 rfl (by assumption) (by rfl) ?_
      refine E_iconst (v := 2) dX4_nextMover_68 (by decide) ?_
      refine E_iload_n dX4_nextMover_69 (by rfl) ?_
      refine E_iast dX4_nextMover_70 (by assumption) (i_in (by decide) (by decide)) ?_
      refine E_mem (mz_set h N _ _) ?_
      refine E_vret dX4_nextMover_71 rfl (Nat.zero_le _) (Nat.zero_le _) ?_
      exact ⟨rfl, by rw [e2]⟩
    · exact absurd q22 (by omega)
  intro f
  induction f with
  | zero => exact fun z m _ hm hz => leaf z m hm hz
  | succ f ih =>
    intro z m h1 hm hz
    by_cases hs : 0 < (z (8 + 6 * m + 2)).toInt
    · rw [mSk, if_pos hs] at hz ⊢
      obtain ⟨a0, a1⟩ := mz_at h N z
      obtain ⟨b0, b1⟩ := mz_at h N (mLays z m 2 (z (8 + 6 * m + 2) - 1))
      obtain ⟨c0, c1⟩ := mz_at h N (upd (mLays z m 2 (z (8 + 6 * m + 2) - 1)) 7 (z 7 + 1))
      have g7 : mLays z m 2 (z (8 + 6 * m + 2) - 1) 7 = z 7 := upd_ne (by omega)
      have g1 : upd (mLays z m 2 (z (8 + 6 * m + 2) - 1)) 7 (z 7 + 1) 1 = nI n := (upd_ne (by omega)).trans ((upd_ne (by omega)).trans h1)
      have hne : ¬ nI n = 0 := fun e => by have e2 := congrArg Int32.toInt e; rw [nI_toInt (by omega), show (0 : Int32).toInt = 0 from rfl] at e2; omega
      have em : nI m + 1 = nI (m + 1) := nI_1 m
      have er : nI (m + 1) - nI (m + 1) / nI n * nI n = nI ((m + 1) % n) := pk_rem (by omega) hn0 (by omega)
      refine E_aload_n dX4_nextMover_16 (by rfl) ?_
      refine E_iload_n dX4_nextMover_17 (by rfl) ?_
      refine E_iconst (v := 2) dX4_nextMover_18 (by decide) ?_
      refine cs_X4_nextMover_19 (by assumption) (Nat.le_of_ble_eq_true rfl) (r_of h N z m 2 (by omega) (by decide)) ?_
      refine E_if_le (tgt := 64) dX4_nextMover_22 (by decide) (fun q22 => ?_) (fun q22 => ?_)
      · exact absurd q22 (by omega)
      · refine E_aload_n dX4_nextMover_25 (by rfl) ?_
        refine E_iload_n dX4_nextMover_26 (by rfl) ?_
        refine E_iconst (v := 2) dX4_nextMover_27 (by decide) ?_
        refine E_aload_n dX4_nextMover_28 (by rfl) ?_
        refine E_iload_n dX4_nextMover_29 (by rfl) ?_
        refine E_iconst (v := 2) dX4_nextMover_30 (by decide) ?_
        refine cs_X4_nextMover_31 (by assumption) (Nat.le_of_ble_eq_true rfl) (r_of h N z m 2 (by omega) (by decide)) ?_
        refine E_iconst (v := 1) dX4_nextMover_34 (by decide) ?_
        refine E_isub dX4_nextMover_35 ?_
        refine cs_X4_nextMover_36 (by assumption) (Nat.le_of_ble_eq_true rfl) (r_lays h N z m 2 (by omega) (by decide) _) ?_
        refine E_aload_n dX4_nextMover_39 (by rfl) ?_
        refine gf_X4_7 dX4_nextMover_40 rfl (by assumption) (by rfl) ?_
        refine E_bipush (v := 7) dX4_nextMover_43 (by decide) ?_
        refine E_dup2 dX4_nextMover_45 rfl rfl ?_
        refine E_iald dX4_nextMover_46 (by assumption) (i_in (by decide) (by decide)) ?_
        rw [e7, g7]
        refine E_iconst (v := 1) dX4_nextMover_47 (by decide) ?_
        refine E_iadd dX4_nextMover_48 ?_
        refine E_iast dX4_nextMover_49 (by assumption) (i_in (by decide) (by decide)) ?_
        refine E_mem ((mz_set h N _ _).trans (congrArg (fun f => mPut mem (m_wz N f)) (show _ = upd (mLays z m 2 (z (8 + 6 * m + 2) - 1)) 7 (z 7 + 1) by rw [e7]))) ?_
        refine E_iload_n dX4_nextMover_50 (by rfl) ?_
        refine E_iconst (v := 1) dX4_nextMover_51 (by decide) ?_
        refine E_iadd dX4_nextMover_52 ?_
        refine E_aload_n dX4_nextMover_53 (by rfl) ?_
        refine gf_X4_7 dX4_nextMover_54 rfl (by assumption) (by rfl) ?_
        refine E_iconst (v := 1) dX4_nextMover_57 (by decide) ?_
        refine E_iald dX4_nextMover_58 (by assumption) (i_in (by decide) (by decide)) ?_
        rw [e1, g1, em]
        refine E_irem dX4_nextMover_59 hne ?_
        rw [er]
        refine E_istore_n dX4_nextMover_60 (Nat.le_of_ble_eq_true rfl) (by rfl) ?_
        refine E_goto (tgt := 16) dX4_nextMover_61 (by decide) ?_
        exact E_loc [(0, .ref 86), (1, .int (nI ((m + 1) % n)))] ⟨rfl, rfl, trivial⟩ (ih _ _ g1 (Nat.mod_lt _ hn0) hz)
    · rw [mSk, if_neg hs] at hz ⊢
      exact leaf z m hm hs
theorem n_nextMover (h : mAt mem M) (N : mS) (z : Nat → Int32) (hn : z 1 = nI n) (hn6 : n ≤ 6) (hm : z 2 = nI m) (hmn : m < n) (hok : mNok z n m) : Dt G kX4_nextMover [.ref 86] (mPut mem (m_wz N z)) none (mPut mem (m_wz N (mNext z n m))) := by
  obtain ⟨a0, a1⟩ := mz_at h N z
  have e1 : (1 : Int32).toNatClampNeg = 1 := by decide
  have e2 : (2 : Int32).toNatClampNeg = 2 := by decide
  have hne : ¬ nI n = 0 := fun e => by have e2 := congrArg Int32.toInt e; rw [nI_toInt (by omega), show (0 : Int32).toInt = 0 from rfl] at e2; omega
  have em : nI m + 1 = nI (m + 1) := nI_1 m
  have er : nI (m + 1) - nI (m + 1) / nI n * nI n = nI ((m + 1) % n) := pk_rem (by omega) (by omega) (by omega)
  refine Ct_of (by decide) (Nat.le_of_ble_eq_true rfl) ?_
  refine E_aload_n dX4_nextMover_0 (by rfl) ?_
  refine gf_X4_7 dX4_nextMover_1 rfl (by assumption) (by rfl) ?_
  refine E_iconst (v := 2) dX4_nextMover_4 (by decide) ?_
  refine E_iald dX4_nextMover_5 (by assumption) (i_in (by decide) (by decide)) ?_
  rw [e2, hm]
  refine E_iconst (v := 1) dX4_nextMover_6 (by decide) ?_
  refine E_iadd dX4_nextMover_7 ?_
  refine E_aload_n dX4_nextMover_8 (by rfl) ?_
  refine gf_X4_7 dX4_nextMover_9 rfl (by assumption) (by rfl) ?_
  refine E_iconst (v := 1) dX4_nextMover_12 (by decide) ?_
  refine E_iald dX4_nextMover_13 (by assumption) (i_in (by decide) (by decide)) ?_
  rw [e1, hn, em]
  refine E_irem dX4_nextMover_14 hne ?_
  rw [er]
  refine E_istore_n dX4_nextMover_15 (Nat.le_of_ble_eq_true rfl) (by rfl) ?_
  exact E_loc [(0, .ref 86), (1, .int (nI ((m + 1) % n)))] ⟨rfl, rfl, trivial⟩ (n_nextMover16 h N (by omega) hn6 12 z _ hn (Nat.mod_lt _ (by omega)) hok)
/-- one that is passed goes up -/
abbrev mUp (z : Nat → Int32) (k c : Nat) : Nat → Int32 := mCome (mLays z c 3 (z (8 + 6 * c + 3) + 1)) k c (z (8 + 6 * c) + 1)
def mLf (n k : Nat) : Nat → (Nat → Int32) → Int32 → Nat → Int32
  | 0, z, _ => z
  | f + 1, z, s => if s.toInt = 0 then z else mLf n k f (mUp z k (sHi z s n).toNatClampNeg) (s - (1 <<< (sHi z s n &&& 31)))
def mLk (n k : Nat) : Nat → (Nat → Int32) → Int32 → Prop
  | 0, _, s => s.toInt = 0
  | f + 1, z, s => s.toInt = 0 ∨ (sHi z s n).toInt ≠ -6 ∧ mLk n k f (mUp z k (sHi z s n).toNatClampNeg) (s - (1 <<< (sHi z s n &&& 31)))
theorem mCome_lo (z : Nat → Int32) (k c : Nat) (x : Int32) {i : Nat} (hi : i < 6 ∨ i = 7 ∨ 44 ≤ i) (hc : c < 6) : mCome z k c x i = z i := by
  unfold mCome
  split
  · split
    · exact upd_ne (by omega)
    · exact (upd_ne (by omega)).trans ((upd_ne (by omega)).trans (upd_ne (by omega)))
  · exact (upd_ne (by omega)).trans (upd_ne (by omega))
theorem mUp_lo (z : Nat → Int32) (k c : Nat) {i : Nat} (hi : i < 6 ∨ i = 7 ∨ 44 ≤ i) (hc : c < 6) : mUp z k c i = z i := (mCome_lo _ _ _ _ hi hc).trans (upd_ne (by omega))
/-- what rolls does first -/
abbrev mR1 (z : Nat → Int32) (m : Nat) (b : Int32) : Nat → Int32 := upd (upd (mLays z m 4 (z (8 + 6 * m + 4) + b)) 5 (z 5 + b)) 4 (z 4 + 1)
abbrev mPB (z : Nat → Int32) (n m : Nat) (u : Int32) : Int32 := sBs (mPs z m u) n
abbrev mR2 (z : Nat → Int32) (n k m : Nat) (u : Int32) : Nat → Int32 := mLf n k 6 (mR1 z m (sBits (mPB z n m u) 6)) (mPB z n m u)
abbrev mR3 (z : Nat → Int32) (n k m : Nat) (u : Int32) : Nat → Int32 := mCome (mR2 z n k m u) k m (z (8 + 6 * m) + u)
def mR4 (z : Nat → Int32) (n k m : Nat) (u : Int32) : Nat → Int32 := if (z (8 + 6 * m) + u).toInt < (z 0).toInt ∧ m_la z (z (8 + 6 * m) + u).toNatClampNeg then mLays (mR3 z n k m u) m 2 (mR3 z n k m u (8 + 6 * m + 2) + 1) else mR3 z n k m u
abbrev mRoll (z : Nat → Int32) (n k m : Nat) (u : Int32) : Nat → Int32 := mNext (mR4 z n k m u) n m
abbrev mRok (z : Nat → Int32) (n k m : Nat) (u : Int32) : Prop := mLk n k 6 (mR1 z m (sBits (mPB z n m u) 6)) (mPB z n m u) ∧ mNok (mR4 z n k m u) n m
theorem mLf_lo (n k : Nat) (hn6 : n ≤ 6) {i : Nat} (hi : i < 6 ∨ i = 7 ∨ 44 ≤ i) : ∀ f (z : Nat → Int32) (s : Int32), mLk n k f z s → mLf n k f z s i = z i := by
  intro f
  induction f with
  | zero => exact fun z s _ => rfl
  | succ f ih =>
    intro z s hk
    rw [mLf]
    split
    · rfl
    · rename_i hs
      rcases hk with e | ⟨e, e2⟩
      · exact absurd e hs
      · rw [ih _ _ e2]
        refine mUp_lo z k _ hi ?_
        rcases sHi_cases z s n with e3 | ⟨c, h1, h2, _⟩
        · exact absurd (by rw [e3]; decide) e
        · rw [h2, nI_clamp (by omega)]
          omega
theorem n_rolls65 (h : mAt mem M) (N : mS) (hn6 : n ≤ 6) (hk6 : k ≤ 6) (u A B : Int32) (R : _) : ∀ (f : Nat) (z : Nat → Int32) (s : Int32), z 1 = nI n → z 3 = nI k → mLk n k f z s → E G kX4_rolls R 0 0 (mPut mem (m_wz N (mLf n k f z s))) 121 (x_L [(0, .ref 86), (1, .int u), (2, .int A), (3, .int B)]) [] → E G kX4_rolls R 0 0 (mPut mem (m_wz N z)) 65 (x_L [(0, .ref 86), (1, .int u), (2, .int A), (3, .int B), (4, .int s)]) [] := by
  intro f
  induction f with
  | zero =>
    intro z s h1 h3 hk kk
    rw [mLf] at kk
    have hs : s.toInt = 0 := hk
    refine E_iload dX4_rolls_65 (by rfl) ?_
    refine E_if_eq (tgt := 121) dX4_rolls_67 (by decide) (fun q67 => ?_) (fun q67 => ?_)
    · exact E_loc [(0, .ref 86), (1, .int u), (2, .int A), (3, .int B)] ⟨rfl, rfl, rfl, rfl, trivial⟩ kk
    · exact absurd hs q67
  | succ f ih =>
    intro z s h1 h3 hk kk
    by_cases hs : s.toInt = 0
    · rw [mLf, if_pos hs] at kk
      refine E_iload dX4_rolls_65 (by rfl) ?_
      refine E_if_eq (tgt := 121) dX4_rolls_67 (by decide) (fun q67 => ?_) (fun q67 => ?_)
      · exact E_loc [(0, .ref 86), (1, .int u), (2, .int A), (3, .int B)] ⟨rfl, rfl, rfl, rfl, trivial⟩ kk
      · exact absurd hs q67
    · rw [mLf, if_neg hs] at kk
      rcases hk with hk | ⟨hne, hk⟩
      · exact absurd hk hs
      rcases sHi_cases z s n with e | ⟨c, hc, ec, _⟩
      · exact absurd (by rw [e]; decide) hne
      have ecc : (nI c).toNatClampNeg = c := nI_clamp (by omega)
      rw [ec, ecc] at kk hk
      obtain ⟨a0, a1⟩ := mz_at h N z
      obtain ⟨b0, b1⟩ := mz_at h N (mLays z c 3 (z (8 + 6 * c + 3) + 1))
      have g0 : mLays z c 3 (z (8 + 6 * c + 3) + 1) (8 + 6 * c) = z (8 + 6 * c) := upd_ne (by omega)
      have g1 : mUp z k c 1 = nI n := (mUp_lo z k c (Or.inl (by decide)) (by omega)).trans h1
      have g3 : mUp z k c 3 = nI k := (mUp_lo z k c (Or.inl (by decide)) (by omega)).trans h3
      have g3' : mLays z c 3 (z (8 + 6 * c + 3) + 1) 3 = nI k := (upd_ne (by omega)).trans h3
      refine E_iload dX4_rolls_65 (by rfl) ?_
      refine E_if_eq (tgt := 121) dX4_rolls_67 (by decide) (fun q67 => ?_) (fun q67 => ?_)
      · exact absurd q67 hs
      · refine E_aload_n dX4_rolls_70 (by rfl) ?_
        refine E_iload dX4_rolls_71 (by rfl) ?_
        refine cs_X4_rolls_73 (by assumption) (Nat.le_of_ble_eq_true rfl) (n_highest h N z h1 hn6 s) ?_
        rw [ec]
        refine E_istore dX4_rolls_76 (Nat.le_of_ble_eq_true rfl) (by rfl) ?_
        refine E_iload dX4_rolls_78 (by rfl) ?_
        refine E_iconst (v := 1) dX4_rolls_80 (by decide) ?_
        refine E_iload dX4_rolls_81 (by rfl) ?_
        refine E_ishl dX4_rolls_83 ?_
        refine E_isub dX4_rolls_84 ?_
        refine E_istore dX4_rolls_85 (Nat.le_of_ble_eq_true rfl) (by rfl) ?_
        refine E_aload_n dX4_rolls_87 (by rfl) ?_
        refine E_iload dX4_rolls_88 (by rfl) ?_
        refine E_iconst (v := 3) dX4_rolls_90 (by decide) ?_
        refine E_aload_n dX4_rolls_91 (by rfl) ?_
        refine E_iload dX4_rolls_92 (by rfl) ?_
        refine E_iconst (v := 3) dX4_rolls_94 (by decide) ?_
        refine cs_X4_rolls_95 (by assumption) (Nat.le_of_ble_eq_true rfl) (r_of h N z c 3 (by omega) (by decide)) ?_
        refine E_iconst (v := 1) dX4_rolls_98 (by decide) ?_
        refine E_iadd dX4_rolls_99 ?_
        refine cs_X4_rolls_100 (by assumption) (Nat.le_of_ble_eq_true rfl) (r_lays h N z c 3 (by omega) (by decide) _) ?_
        refine E_aload_n dX4_rolls_103 (by rfl) ?_
        refine E_iload dX4_rolls_104 (by rfl) ?_
        refine E_aload_n dX4_rolls_106 (by rfl) ?_
        refine E_iload dX4_rolls_107 (by rfl) ?_
        refine E_iconst (v := 0) dX4_rolls_109 (by decide) ?_
        refine cs_X4_rolls_110 (by assumption) (Nat.le_of_ble_eq_true rfl) (r_pl h N (mLays z c 3 (z (8 + 6 * c + 3) + 1)) c (by omega)) ?_
        rw [g0]
        refine E_iconst (v := 1) dX4_rolls_113 (by decide) ?_
        refine E_iadd dX4_rolls_114 ?_
        refine cs_X4_rolls_115 (by assumption) (Nat.le_of_ble_eq_true rfl) (n_comes h N (mLays z c 3 (z (8 + 6 * c + 3) + 1)) g3' hk6 c (by omega) _) ?_
        refine E_goto (tgt := 65) dX4_rolls_118 (by decide) ?_
        exact E_loc [(0, .ref 86), (1, .int u), (2, .int A), (3, .int B), (4, .int (s - (1 <<< (nI c &&& 31))))] ⟨rfl, rfl, rfl, rfl, rfl, trivial⟩ (ih (mUp z k c) _ g1 g3 hk kk)
theorem n_rolls (h : mAt mem M) (N : mS) (z : Nat → Int32) (hn : z 1 = nI n) (hn6 : n ≤ 6) (hm : z 2 = nI m) (hmn : m < n) (hk : z 3 = nI k) (hk6 : k ≤ 6) (ht60 : (z 0).toInt ≤ 60) (hp : mPlo z n) (u : Int32) (hto : 0 ≤ (z (8 + 6 * m) + u).toInt) (hok : mRok z n k m u) : Dt G kX4_rolls [.ref 86, .int u] (mPut mem (m_wz N z)) (some (.int (mRoll z n k m u (8 + 6 * m)))) (mPut mem (m_wz N (mRoll z n k m u))) := by
  have hm6 : m < 6 := by omega
  have e0 : (0 : Int32).toNatClampNeg = 0 := by decide
  have e2 : (2 : Int32).toNatClampNeg = 2 := by decide
  have e4 : (4 : Int32).toNatClampNeg = 4 := by decide
  have e5 : (5 : Int32).toNatClampNeg = 5 := by decide
  obtain ⟨a0, a1⟩ := mz_at h N z
  obtain ⟨b0, b1⟩ := mz_at h N (mLays z m 4 (z (8 + 6 * m + 4) + sBits (mPB z n m u) 6))
  obtain ⟨c0, c1⟩ := mz_at h N (upd (mLays z m 4 (z (8 + 6 * m + 4) + sBits (mPB z n m u) 6)) 5 (z 5 + sBits (mPB z n m u) 6))
  obtain ⟨d0, d1⟩ := mz_at h N (mR1 z m (sBits (mPB z n m u) 6))
  obtain ⟨l0, l1⟩ := mz_at h N (mR2 z n k m u)
  obtain ⟨r0, r1⟩ := mz_at h N (mR3 z n k m u)
  obtain ⟨s0, s1⟩ := mz_at h N (mR4 z n k m u)
  obtain ⟨t0, t1⟩ := mz_at h N (mRoll z n k m u)
  have g5 : mLays z m 4 (z (8 + 6 * m + 4) + sBits (mPB z n m u) 6) 5 = z 5 := upd_ne (by omega)
  have g4 : upd (mLays z m 4 (z (8 + 6 * m + 4) + sBits (mPB z n m u) 6)) 5 (z 5 + sBits (mPB z n m u) 6) 4 = z 4 := (upd_ne (by omega)).trans (upd_ne (by omega))
  have lo1 : ∀ i, i < 4 ∨ i = 7 ∨ 44 ≤ i → mR1 z m (sBits (mPB z n m u) 6) i = z i := fun i hi => (upd_ne (by omega)).trans ((upd_ne (by omega)).trans (upd_ne (by omega)))
  have lo2 : ∀ i, i < 4 ∨ i = 7 ∨ 44 ≤ i → mR2 z n k m u i = z i := fun i hi => (mLf_lo n k hn6 (by omega) 6 _ _ hok.1).trans (lo1 i hi)
  have lo3 : ∀ i, i < 4 ∨ i = 7 ∨ 44 ≤ i → mR3 z n k m u i = z i := fun i hi => (mCome_lo _ _ _ _ (by omega) hm6).trans (lo2 i hi)
  have lo4 : ∀ i, i < 4 ∨ i = 7 ∨ 44 ≤ i → mR4 z n k m u i = z i := fun i hi => by
    unfold mR4
    split
    · exact (upd_ne (by omega)).trans (lo3 i hi)
    · exact lo3 i hi
  have ez0 : mR3 z n k m u (0 : Int32).toNatClampNeg = z 0 := lo3 _ (by decide)
  have hend : E G kX4_rolls (x_R (some (.int (mRoll z n k m u (8 + 6 * m)))) (mPut mem (m_wz N (mRoll z n k m u)))) 0 0 (mPut mem (m_wz N (mR2 z n k m u))) 121 (x_L [(0, .ref 86), (1, .int u), (2, .int (nI m)), (3, .int (z (8 + 6 * m) + u))]) [] := by
    have hla : ∀ x, m_la (mR3 z n k m u) x ↔ m_la z x := fun x => by unfold m_la; rw [lo3 (57 + x) (by omega)]
    have hre : ∀ hh : mR4 z n k m u = mR3 z n k m u, (mPut mem (m_wz N (mR3 z n k m u))) = (mPut mem (m_wz N (mR4 z n k m u))) := fun hh => by rw [hh]
    refine E_aload_n dX4_rolls_121 (by rfl) ?_
    refine E_iload_n dX4_rolls_122 (by rfl) ?_
    refine E_iload_n dX4_rolls_123 (by rfl) ?_
    refine cs_X4_rolls_124 (by assumption) (Nat.le_of_ble_eq_true rfl) (n_comes h N (mR2 z n k m u) ((lo2 3 (by decide)).trans hk) hk6 m hm6 _) ?_
    refine E_iload_n dX4_rolls_127 (by rfl) ?_
    refine E_aload_n dX4_rolls_128 (by rfl) ?_
    refine gf_X4_7 dX4_rolls_129 rfl (by assumption) (by rfl) ?_
    refine E_iconst (v := 0) dX4_rolls_132 (by decide) ?_
    refine E_iald dX4_rolls_133 (by assumption) (i_in (by decide) (by decide)) ?_
    rw [ez0]
    refine E_icmp_ge (n := _) rfl (tgt := 159) dX4_rolls_134 (by decide) (fun q134 => ?_) (fun q134 => ?_)
    · have hm4 : mR4 z n k m u = mR3 z n k m u := if_neg (fun v => absurd v.1 (by omega))
      refine E_mem (mem' := mPut mem (m_wz N (mR4 z n k m u))) (congrArg (fun f => mPut mem (m_wz N f)) hm4.symm) ?_
      refine E_aload_n dX4_rolls_159 (by rfl) ?_
      refine cs_X4_rolls_160 (by assumption) (Nat.le_of_ble_eq_true rfl) (n_nextMover h N (mR4 z n k m u) ((lo4 1 (by decide)).trans hn) hn6 ((lo4 2 (by decide)).trans hm) hmn hok.2) ?_
      refine E_aload_n dX4_rolls_163 (by rfl) ?_
      refine E_iload_n dX4_rolls_164 (by rfl) ?_
      refine E_iconst (v := 0) dX4_rolls_165 (by decide) ?_
      refine cs_X4_rolls_166 (by assumption) (Nat.le_of_ble_eq_true rfl) (r_pl h N (mRoll z n k m u) m hm6) ?_
      refine E_iret dX4_rolls_169 rfl rfl (Nat.zero_le _) (Nat.zero_le _) ?_
      exact ⟨rfl, rfl⟩
    · refine E_aload_n dX4_rolls_137 (by rfl) ?_
      refine E_iload_n dX4_rolls_138 (by rfl) ?_
      refine cs_X4_rolls_139 (by assumption) (Nat.le_of_ble_eq_true rfl) (r_isLandingI h N (mR3 z n k m u) _ hto (by omega)) ?_
      refine E_if_eq (tgt := 159) dX4_rolls_142 (by decide) (fun q142 => ?_) (fun q142 => ?_)
      · rw [b2i_T0, hla] at q142; have hm4 : mR4 z n k m u = mR3 z n k m u := if_neg (fun v => q142 v.2)
        refine E_mem (mem' := mPut mem (m_wz N (mR4 z n k m u))) (congrArg (fun f => mPut mem (m_wz N f)) hm4.symm) ?_
        refine E_aload_n dX4_rolls_159 (by rfl) ?_
        refine cs_X4_rolls_160 (by assumption) (Nat.le_of_ble_eq_true rfl) (n_nextMover h N (mR4 z n k m u) ((lo4 1 (by decide)).trans hn) hn6 ((lo4 2 (by decide)).trans hm) hmn hok.2) ?_
        refine E_aload_n dX4_rolls_163 (by rfl) ?_
        refine E_iload_n dX4_rolls_164 (by rfl) ?_
        refine E_iconst (v := 0) dX4_rolls_165 (by decide) ?_
        refine cs_X4_rolls_166 (by assumption) (Nat.le_of_ble_eq_true rfl) (r_pl h N (mRoll z n k m u) m hm6) ?_
        refine E_iret dX4_rolls_169 rfl rfl (Nat.zero_le _) (Nat.zero_le _) ?_
        exact ⟨rfl, rfl⟩
      · rw [b2i_T0, hla] at q142; have q142 := Classical.not_not.mp q142; have hm4 : mR4 z n k m u = mLays (mR3 z n k m u) m 2 (mR3 z n k m u (8 + 6 * m + 2) + 1) := if_pos ⟨by omega, q142⟩
        refine E_aload_n dX4_rolls_145 (by rfl) ?_
        refine E_iload_n dX4_rolls_146 (by rfl) ?_
        refine E_iconst (v := 2) dX4_rolls_147 (by decide) ?_
        refine E_aload_n dX4_rolls_148 (by rfl) ?_
        refine E_iload_n dX4_rolls_149 (by rfl) ?_
        refine E_iconst (v := 2) dX4_rolls_150 (by decide) ?_
        refine cs_X4_rolls_151 (by assumption) (Nat.le_of_ble_eq_true rfl) (r_of h N (mR3 z n k m u) m 2 hm6 (by decide)) ?_
        refine E_iconst (v := 1) dX4_rolls_154 (by decide) ?_
        refine E_iadd dX4_rolls_155 ?_
        refine cs_X4_rolls_156 (by assumption) (Nat.le_of_ble_eq_true rfl) (r_lays h N (mR3 z n k m u) m 2 hm6 (by decide) _) ?_
        refine E_mem (mem' := mPut mem (m_wz N (mR4 z n k m u))) (congrArg (fun f => mPut mem (m_wz N f)) hm4.symm) ?_
        refine E_aload_n dX4_rolls_159 (by rfl) ?_
        refine cs_X4_rolls_160 (by assumption) (Nat.le_of_ble_eq_true rfl) (n_nextMover h N (mR4 z n k m u) ((lo4 1 (by decide)).trans hn) hn6 ((lo4 2 (by decide)).trans hm) hmn hok.2) ?_
        refine E_aload_n dX4_rolls_163 (by rfl) ?_
        refine E_iload_n dX4_rolls_164 (by rfl) ?_
        refine E_iconst (v := 0) dX4_rolls_165 (by decide) ?_
        refine cs_X4_rolls_166 (by assumption) (Nat.le_of_ble_eq_true rfl) (r_pl h N (mRoll z n k m u) m hm6) ?_
        refine E_iret dX4_rolls_169 rfl rfl (Nat.zero_le _) (Nat.zero_le _) ?_
        exact ⟨rfl, rfl⟩
  refine Ct_of (by decide) (Nat.le_of_ble_eq_true rfl) ?_
  refine E_aload_n dX4_rolls_0 (by rfl) ?_
  refine gf_X4_7 dX4_rolls_1 rfl (by assumption) (by rfl) ?_
  refine E_iconst (v := 2) dX4_rolls_4 (by decide) ?_
  refine E_iald dX4_rolls_5 (by assumption) (i_in (by decide) (by decide)) ?_
  rw [e2, hm]
  refine E_istore_n dX4_rolls_6 (Nat.le_of_ble_eq_true rfl) (by rfl) ?_
  refine E_aload_n dX4_rolls_7 (by rfl) ?_
  refine E_iload_n dX4_rolls_8 (by rfl) ?_
  refine E_iconst (v := 0) dX4_rolls_9 (by decide) ?_
  refine cs_X4_rolls_10 (by assumption) (Nat.le_of_ble_eq_true rfl) (r_pl h N z m hm6) ?_
  refine E_iload_n dX4_rolls_13 (by rfl) ?_
  refine E_iadd dX4_rolls_14 ?_
  refine E_istore_n dX4_rolls_15 (Nat.le_of_ble_eq_true rfl) (by rfl) ?_
  refine E_aload_n dX4_rolls_16 (by rfl) ?_
  refine E_iload_n dX4_rolls_17 (by rfl) ?_
  refine cs_X4_rolls_18 (by assumption) (Nat.le_of_ble_eq_true rfl) (n_passedBy h N z hn hn6 hm hm6 hp u) ?_
  refine E_istore dX4_rolls_21 (Nat.le_of_ble_eq_true rfl) (by rfl) ?_
  refine E_aload_n dX4_rolls_23 (by rfl) ?_
  refine E_iload_n dX4_rolls_24 (by rfl) ?_
  refine E_iconst (v := 4) dX4_rolls_25 (by decide) ?_
  refine E_aload_n dX4_rolls_26 (by rfl) ?_
  refine E_iload_n dX4_rolls_27 (by rfl) ?_
  refine E_iconst (v := 4) dX4_rolls_28 (by decide) ?_
  refine cs_X4_rolls_29 (by assumption) (Nat.le_of_ble_eq_true rfl) (r_of h N z m 4 hm6 (by decide)) ?_
  refine E_iload dX4_rolls_32 (by rfl) ?_
  refine cs_X4_rolls_34 (Nat.le_of_ble_eq_true rfl) (n_bits _) ?_
  refine E_iadd dX4_rolls_37 ?_
  refine cs_X4_rolls_38 (by assumption) (Nat.le_of_ble_eq_true rfl) (r_lays h N z m 4 hm6 (by decide) _) ?_
  refine E_aload_n dX4_rolls_41 (by rfl) ?_
  refine gf_X4_7 dX4_rolls_42 rfl (by assumption) (by rfl) ?_
  refine E_iconst (v := 5) dX4_rolls_45 (by decide) ?_
  refine E_dup2 dX4_rolls_46 rfl rfl ?_
  refine E_iald dX4_rolls_47 (by assumption) (i_in (by decide) (by decide)) ?_
  rw [e5, g5]
  refine E_iload dX4_rolls_48 (by rfl) ?_
  refine cs_X4_rolls_50 (Nat.le_of_ble_eq_true rfl) (n_bits _) ?_
  refine E_iadd dX4_rolls_53 ?_
  refine E_iast dX4_rolls_54 (by assumption) (i_in (by decide) (by decide)) ?_
  refine E_mem ((mz_set h N _ _).trans (congrArg (fun f => mPut mem (m_wz N f)) (show _ = upd (mLays z m 4 (z (8 + 6 * m + 4) + sBits (mPB z n m u) 6)) 5 (z 5 + sBits (mPB z n m u) 6) by rw [e5]))) ?_
  refine E_aload_n dX4_rolls_55 (by rfl) ?_
  refine gf_X4_7 dX4_rolls_56 rfl (by assumption) (by rfl) ?_
  refine E_iconst (v := 4) dX4_rolls_59 (by decide) ?_
  refine E_dup2 dX4_rolls_60 rfl rfl ?_
  refine E_iald dX4_rolls_61 (by assumption) (i_in (by decide) (by decide)) ?_
  rw [e4, g4]
  refine E_iconst (v := 1) dX4_rolls_62 (by decide) ?_
  refine E_iadd dX4_rolls_63 ?_
  refine E_iast dX4_rolls_64 (by assumption) (i_in (by decide) (by decide)) ?_
  refine E_mem ((mz_set h N _ _).trans (congrArg (fun f => mPut mem (m_wz N f)) (show _ = mR1 z m (sBits (mPB z n m u) 6) by rw [e4]))) ?_
  refine E_loc [(0, .ref 86), (1, .int u), (2, .int (nI m)), (3, .int (z (8 + 6 * m) + u)), (4, .int (mPB z n m u))] ⟨rfl, rfl, rfl, rfl, rfl, trivial⟩ (n_rolls65 h N hn6 hk6 u (nI m) (z (8 + 6 * m) + u) _ 6 _ _ ((lo1 1 (by decide)).trans hn) ((lo1 3 (by decide)).trans hk) hok.1 ?_)
  exact hend
end N4
