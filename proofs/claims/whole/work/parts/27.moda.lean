/-! the reference: a move of a text, a text -/
section NA
variable {G : xG} {mem : xM} {M N : mS} {z f to : Nat → Int32} {t n k c m s j a : Nat} {op y w : Int32}
def mOne (z : Nat → Int32) (n k m : Nat) (op y w : Int32) : Int32 × (Nat → Int32) :=
  if op = 112 then (if n = 0 then (-3, z) else (0, mNext z n m))
  else if op = 106 then (if n = 6 then (-4, z) else (0, mJoin z n))
  else if op = 99 then (if (mWL z n k y w).toInt = 0 then (0, mLay z k y w) else (mWL z n k y w, z))
  else if op = 108 then (if (mWP z k y).toInt = 0 then (0, upd z (57 + y.toNatClampNeg) 1) else (mWP z k y, z))
  else (if (mWR z (op - 48)).toInt = 0 then (0, mRoll z n k m (op - 48)) else (mWR z (op - 48), z))
/-- all is within its bounds -/
def mGd (z : Nat → Int32) (t n k m : Nat) : Prop := z 0 = nI t ∧ 1 ≤ t ∧ t ≤ 60 ∧ z 1 = nI n ∧ n ≤ 6 ∧ z 2 = nI m ∧ (m < n ∨ n = 0) ∧ z 3 = nI k ∧ k ≤ 6 ∧ mPlo z n ∧ (m < n → mNok z n m) ∧ (∀ u : Int32, 1 ≤ u.toInt ∧ u.toInt ≤ 6 → m < n → 0 ≤ (z (8 + 6 * m) + u).toInt ∧ mRok z n k m u)
theorem mWL_0 {x : Int32} (hk : z 3 = nI k) (hk6 : k ≤ 6) (h : (mWL z n k x y).toInt = 0) : k < 6 := by
  unfold mWL at h
  split at h
  · exact absurd h (by decide)
  · split at h
    · exact absurd h (by decide)
    · split at h
      · exact absurd h (by decide)
      · split at h
        · exact absurd h (by decide)
        · rename_i e
          rw [hk, nI_toInt (by omega)] at e
          omega
theorem mWP_0 {x : Int32} (h : (mWP z k x).toInt = 0) : m_st z x := by
  unfold mWP at h
  split at h
  · exact absurd h (by decide)
  · rename_i e
    exact Classical.not_not.mp e
theorem mWR_0 {x : Int32} (h : (mWR z x).toInt = 0) : (1 ≤ x.toInt ∧ x.toInt ≤ 6) ∧ ¬ (z 1).toInt = 0 := by
  unfold mWR at h
  split at h
  · exact absurd h (by decide)
  · rename_i e
    split at h
    · exact absurd h (by decide)
    · rename_i e2
      exact ⟨Classical.not_not.mp e, e2⟩
abbrev mLs (a : Nat) (y w : Int32) : List (Nat × Value) := [(0, .ref 86), (1, .int (nI a)), (2, .int y), (3, .int w), (4, .int 0)]
theorem n_mo207 (v : Int32) (mem1 : xM) (loc : Nat → Option Value) (hl : x_has loc [(4, .int v)]) : E G kX4_makeOne (x_R (some (.int v)) mem1) 0 0 mem1 207 loc [] := by
  refine E_loc _ hl ?_
  refine E_iload dX4_makeOne_207 (by rfl) ?_
  refine E_iret dX4_makeOne_209 rfl rfl (Nat.zero_le _) (Nat.zero_le _) ?_
  exact ⟨rfl, rfl⟩
theorem n_mo68 (h : mAt mem M) (N : mS) (hg : mGd z t n k m) : E G kX4_makeOne (x_R (some (.int (if n = 0 then (-3, z) else (0, mNext z n m) : Int32 × (Nat → Int32)).1)) (mPut mem (m_wz N (if n = 0 then (-3, z) else (0, mNext z n m) : Int32 × (Nat → Int32)).2))) 0 0 (mPut mem (m_wz N z)) 68 (x_L (mLs a y w)) [] := by
  obtain ⟨g0, g1, g2, g3, g4, g5, g6, g7, g8, g9, g10, g11⟩ := hg
  obtain ⟨a0, a1⟩ := mz_at h N z
  by_cases e : n = 0
  · rw [if_pos e]
    refine E_aload_n dX4_makeOne_68 (by rfl) ?_
    refine gf_X4_7 dX4_makeOne_69 rfl (by assumption) (by rfl) ?_
    refine E_iconst (v := 1) dX4_makeOne_72 (by decide) ?_
    refine E_iald dX4_makeOne_73 (by assumption) (i_in (by decide) (by decide)) ?_
    rw [n_1, g3, e]
    refine E_if_ne (tgt := 82) dX4_makeOne_74 (by decide) (fun q74 => ?_) (fun q74 => ?_)
    · exact absurd q74 (by decide)
    · refine E_bipush (v := (-3)) dX4_makeOne_77 (by decide) ?_
      refine E_goto (tgt := 83) dX4_makeOne_79 (by decide) ?_
      refine E_istore dX4_makeOne_83 (Nat.le_of_ble_eq_true rfl) (by rfl) ?_
      refine E_iload dX4_makeOne_85 (by rfl) ?_
      refine E_if_ne (tgt := 207) dX4_makeOne_87 (by decide) (fun q87 => ?_) (fun q87 => ?_)
      · exact n_mo207 _ _ _ ⟨rfl, trivial⟩
      · exact absurd q87 (by decide)
  · rw [if_neg e]
    have hm : m < n := by omega
    have en : ¬ (nI n).toInt = 0 := by rw [nI_toInt (by omega)]; omega
    refine E_aload_n dX4_makeOne_68 (by rfl) ?_
    refine gf_X4_7 dX4_makeOne_69 rfl (by assumption) (by rfl) ?_
    refine E_iconst (v := 1) dX4_makeOne_72 (by decide) ?_
    refine E_iald dX4_makeOne_73 (by assumption) (i_in (by decide) (by decide)) ?_
    rw [n_1, g3]
    refine E_if_ne (tgt := 82) dX4_makeOne_74 (by decide) (fun q74 => ?_) (fun q74 => ?_)
    · refine E_iconst (v := 0) dX4_makeOne_82 (by decide) ?_
      refine E_istore dX4_makeOne_83 (Nat.le_of_ble_eq_true rfl) (by rfl) ?_
      refine E_iload dX4_makeOne_85 (by rfl) ?_
      refine E_if_ne (tgt := 207) dX4_makeOne_87 (by decide) (fun q87 => ?_) (fun q87 => ?_)
      · exact absurd (by decide) q87
      · refine E_aload_n dX4_makeOne_90 (by rfl) ?_
        refine cs_X4_makeOne_91 (by assumption) (Nat.le_of_ble_eq_true rfl) (n_nextMover h N z g3 g4 g5 hm (g10 hm)) ?_
        refine E_goto (tgt := 207) dX4_makeOne_94 (by decide) ?_
        exact n_mo207 _ _ _ ⟨rfl, trivial⟩
    · exact absurd q74 en
theorem n_mo97 (h : mAt mem M) (N : mS) (hg : mGd z t n k m) : E G kX4_makeOne (x_R (some (.int (if n = 6 then (-4, z) else (0, mJoin z n) : Int32 × (Nat → Int32)).1)) (mPut mem (m_wz N (if n = 6 then (-4, z) else (0, mJoin z n) : Int32 × (Nat → Int32)).2))) 0 0 (mPut mem (m_wz N z)) 97 (x_L (mLs a y w)) [] := by
  obtain ⟨g0, g1, g2, g3, g4, g5, g6, g7, g8, g9, g10, g11⟩ := hg
  obtain ⟨a0, a1⟩ := mz_at h N z
  by_cases e : n = 6
  · rw [if_pos e]
    refine E_aload_n dX4_makeOne_97 (by rfl) ?_
    refine gf_X4_7 dX4_makeOne_98 rfl (by assumption) (by rfl) ?_
    refine E_iconst (v := 1) dX4_makeOne_101 (by decide) ?_
    refine E_iald dX4_makeOne_102 (by assumption) (i_in (by decide) (by decide)) ?_
    refine E_bipush (v := 6) dX4_makeOne_103 (by decide) ?_
    rw [n_1, g3, e]
    refine E_icmp_ne (n := 6) (by decide) (tgt := 113) dX4_makeOne_105 (by decide) (fun q105 => ?_) (fun q105 => ?_)
    · exact absurd (by decide) q105
    · refine E_bipush (v := (-4)) dX4_makeOne_108 (by decide) ?_
      refine E_goto (tgt := 114) dX4_makeOne_110 (by decide) ?_
      refine E_istore dX4_makeOne_114 (Nat.le_of_ble_eq_true rfl) (by rfl) ?_
      refine E_iload dX4_makeOne_116 (by rfl) ?_
      refine E_if_ne (tgt := 207) dX4_makeOne_118 (by decide) (fun q118 => ?_) (fun q118 => ?_)
      · exact n_mo207 _ _ _ ⟨rfl, trivial⟩
      · exact absurd q118 (by decide)
  · rw [if_neg e]
    have en : ¬ (nI n).toInt = 6 := by rw [nI_toInt (by omega)]; omega
    refine E_aload_n dX4_makeOne_97 (by rfl) ?_
    refine gf_X4_7 dX4_makeOne_98 rfl (by assumption) (by rfl) ?_
    refine E_iconst (v := 1) dX4_makeOne_101 (by decide) ?_
    refine E_iald dX4_makeOne_102 (by assumption) (i_in (by decide) (by decide)) ?_
    refine E_bipush (v := 6) dX4_makeOne_103 (by decide) ?_
    rw [n_1, g3]
    refine E_icmp_ne (n := 6) (by decide) (tgt := 113) dX4_makeOne_105 (by decide) (fun q105 => ?_) (fun q105 => ?_)
    · refine E_iconst (v := 0) dX4_makeOne_113 (by decide) ?_
      refine E_istore dX4_makeOne_114 (Nat.le_of_ble_eq_true rfl) (by rfl) ?_
      refine E_iload dX4_makeOne_116 (by rfl) ?_
      refine E_if_ne (tgt := 207) dX4_makeOne_118 (by decide) (fun q118 => ?_) (fun q118 => ?_)
      · exact absurd (by decide) q118
      · refine E_aload_n dX4_makeOne_121 (by rfl) ?_
        refine cs_X4_makeOne_122 (by assumption) (Nat.le_of_ble_eq_true rfl) (n_joins h (m_wz N z) g3 (by omega)) ?_
        refine E_pop dX4_makeOne_125 rfl ?_
        refine E_goto (tgt := 207) dX4_makeOne_126 (by decide) ?_
        exact n_mo207 _ _ _ ⟨rfl, trivial⟩
    · exact absurd q105 en
theorem n_mo129 (h : mAt mem M) (N : mS) (hg : mGd z t n k m) : E G kX4_makeOne (x_R (some (.int (if (mWL z n k y w).toInt = 0 then (0, mLay z k y w) else (mWL z n k y w, z) : Int32 × (Nat → Int32)).1)) (mPut mem (m_wz N (if (mWL z n k y w).toInt = 0 then (0, mLay z k y w) else (mWL z n k y w, z) : Int32 × (Nat → Int32)).2))) 0 0 (mPut mem (m_wz N z)) 129 (x_L (mLs a y w)) [] := by
  obtain ⟨g0, g1, g2, g3, g4, g5, g6, g7, g8, g9, g10, g11⟩ := hg
  obtain ⟨a0, a1⟩ := mz_at h N z
  have hw : Dt G kX4_whyNotLay [.ref 86, .int y, .int w] (mPut mem (m_wz N z)) (some (.int (mWL z n k y w))) (mPut mem (m_wz N z)) := n_whyNotLay (mAt_put h (m_wz N z)) g3 g4 g7 g8 g0 g2 g1 y w
  by_cases e : (mWL z n k y w).toInt = 0
  · rw [if_pos e]
    have ee : mWL z n k y w = 0 := Int32.toInt_inj.mp e
    refine E_aload_n dX4_makeOne_129 (by rfl) ?_
    refine E_iload_n dX4_makeOne_130 (by rfl) ?_
    refine E_iload_n dX4_makeOne_131 (by rfl) ?_
    refine cs_X4_makeOne_132 (by assumption) (Nat.le_of_ble_eq_true rfl) hw ?_
    rw [ee]
    refine E_istore dX4_makeOne_135 (Nat.le_of_ble_eq_true rfl) (by rfl) ?_
    refine E_iload dX4_makeOne_137 (by rfl) ?_
    refine E_if_ne (tgt := 207) dX4_makeOne_139 (by decide) (fun q139 => ?_) (fun q139 => ?_)
    · exact absurd (by decide) q139
    · refine E_aload_n dX4_makeOne_142 (by rfl) ?_
      refine E_iload_n dX4_makeOne_143 (by rfl) ?_
      refine E_iload_n dX4_makeOne_144 (by rfl) ?_
      refine cs_X4_makeOne_145 (by assumption) (Nat.le_of_ble_eq_true rfl) (n_laysCarpet h (m_wz N z) g7 (mWL_0 g7 g8 e) y w) ?_
      refine E_pop dX4_makeOne_148 rfl ?_
      refine E_goto (tgt := 207) dX4_makeOne_149 (by decide) ?_
      exact n_mo207 _ _ _ ⟨rfl, trivial⟩
  · rw [if_neg e]
    refine E_aload_n dX4_makeOne_129 (by rfl) ?_
    refine E_iload_n dX4_makeOne_130 (by rfl) ?_
    refine E_iload_n dX4_makeOne_131 (by rfl) ?_
    refine cs_X4_makeOne_132 (by assumption) (Nat.le_of_ble_eq_true rfl) hw ?_
    refine E_istore dX4_makeOne_135 (Nat.le_of_ble_eq_true rfl) (by rfl) ?_
    refine E_iload dX4_makeOne_137 (by rfl) ?_
    refine E_if_ne (tgt := 207) dX4_makeOne_139 (by decide) (fun q139 => ?_) (fun q139 => ?_)
    · exact n_mo207 _ _ _ ⟨rfl, trivial⟩
    · exact absurd q139 e
theorem n_mo152 (h : mAt mem M) (N : mS) (hg : mGd z t n k m) : E G kX4_makeOne (x_R (some (.int (if (mWP z k y).toInt = 0 then (0, upd z (57 + y.toNatClampNeg) 1) else (mWP z k y, z) : Int32 × (Nat → Int32)).1)) (mPut mem (m_wz N (if (mWP z k y).toInt = 0 then (0, upd z (57 + y.toNatClampNeg) 1) else (mWP z k y, z) : Int32 × (Nat → Int32)).2))) 0 0 (mPut mem (m_wz N z)) 152 (x_L (mLs a y w)) [] := by
  obtain ⟨g0, g1, g2, g3, g4, g5, g6, g7, g8, g9, g10, g11⟩ := hg
  obtain ⟨a0, a1⟩ := mz_at h N z
  have hw : Dt G kX4_whyNotPut [.ref 86, .int y] (mPut mem (m_wz N z)) (some (.int (mWP z k y))) (mPut mem (m_wz N z)) := n_whyNotPut (mAt_put h (m_wz N z)) g7 g8 g0 g2 g1 y
  by_cases e : (mWP z k y).toInt = 0
  · rw [if_pos e]
    have ee : mWP z k y = 0 := Int32.toInt_inj.mp e
    have b := m_st_rng (mWP_0 e) g0 g2 g1
    have hp : Dt G kX4_puts [.ref 86, .int y] (mPut mem (m_wz N z)) (some (.int (sSm (fun j => upd z (57 + y.toNatClampNeg) 1 (57 + j)) 61))) (mPut mem (m_wz N (upd z (57 + y.toNatClampNeg) 1))) := by
      have := n_puts (G := G) h (m_wz N z) y.toNatClampNeg (by have := i_cl (x := y) (by omega); omega)
      rw [← i_nI (x := y) (by omega)] at this
      exact this
    refine E_aload_n dX4_makeOne_152 (by rfl) ?_
    refine E_iload_n dX4_makeOne_153 (by rfl) ?_
    refine cs_X4_makeOne_154 (by assumption) (Nat.le_of_ble_eq_true rfl) hw ?_
    rw [ee]
    refine E_istore dX4_makeOne_157 (Nat.le_of_ble_eq_true rfl) (by rfl) ?_
    refine E_iload dX4_makeOne_159 (by rfl) ?_
    refine E_if_ne (tgt := 207) dX4_makeOne_161 (by decide) (fun q161 => ?_) (fun q161 => ?_)
    · exact absurd (by decide) q161
    · refine E_aload_n dX4_makeOne_164 (by rfl) ?_
      refine E_iload_n dX4_makeOne_165 (by rfl) ?_
      refine cs_X4_makeOne_166 (by assumption) (Nat.le_of_ble_eq_true rfl) hp ?_
      refine E_pop dX4_makeOne_169 rfl ?_
      refine E_goto (tgt := 207) dX4_makeOne_170 (by decide) ?_
      exact n_mo207 _ _ _ ⟨rfl, trivial⟩
  · rw [if_neg e]
    refine E_aload_n dX4_makeOne_152 (by rfl) ?_
    refine E_iload_n dX4_makeOne_153 (by rfl) ?_
    refine cs_X4_makeOne_154 (by assumption) (Nat.le_of_ble_eq_true rfl) hw ?_
    refine E_istore dX4_makeOne_157 (Nat.le_of_ble_eq_true rfl) (by rfl) ?_
    refine E_iload dX4_makeOne_159 (by rfl) ?_
    refine E_if_ne (tgt := 207) dX4_makeOne_161 (by decide) (fun q161 => ?_) (fun q161 => ?_)
    · exact n_mo207 _ _ _ ⟨rfl, trivial⟩
    · exact absurd q161 e
theorem n_mo173 (h : mAt mem M) (N : mS) (hg : mGd z t n k m) (ha : a < 93) (hop : m_to N a = op) : E G kX4_makeOne (x_R (some (.int (if (mWR z (op - 48)).toInt = 0 then (0, mRoll z n k m (op - 48)) else (mWR z (op - 48), z) : Int32 × (Nat → Int32)).1)) (mPut mem (m_wz N (if (mWR z (op - 48)).toInt = 0 then (0, mRoll z n k m (op - 48)) else (mWR z (op - 48), z) : Int32 × (Nat → Int32)).2))) 0 0 (mPut mem (m_wz N z)) 173 (x_L (mLs a y w)) [] := by
  obtain ⟨g0, g1, g2, g3, g4, g5, g6, g7, g8, g9, g10, g11⟩ := hg
  obtain ⟨a0, a1⟩ := mz_at h N z
  have a7 : (mPut mem (m_wz N z))[93]? = some (g_a 0 93 (m_to N)) := (mAt_put h (m_wz N z)).2.2.2.2.2.2.2
  have ea : (nI a).toInt = (a : Int) := nI_toInt (by omega)
  have eca : (nI a).toNatClampNeg = a := nI_clamp (by omega)
  have hw : Dt G kX4_whyNotRoll [.ref 86, .int (op - 48)] (mPut mem (m_wz N z)) (some (.int (mWR z (op - 48)))) (mPut mem (m_wz N z)) := n_whyNotRoll (mAt_put h (m_wz N z)) (op - 48)
  by_cases e : (mWR z (op - 48)).toInt = 0
  · rw [if_pos e]
    have ee : mWR z (op - 48) = 0 := Int32.toInt_inj.mp e
    have hz := mWR_0 e
    have hm : m < n := by
      rcases g6 with g6 | g6
      · exact g6
      · exact absurd (by rw [g3, g6]; decide) hz.2
    have hr := g11 _ hz.1 hm
    refine E_aload_n dX4_makeOne_173 (by rfl) ?_
    refine E_aload_n dX4_makeOne_174 (by rfl) ?_
    refine gf_X4_29 dX4_makeOne_175 rfl (by assumption) (by rfl) ?_
    refine E_iload_n dX4_makeOne_178 (by rfl) ?_
    refine E_iald dX4_makeOne_179 (by assumption) (i_in (by omega) (by omega)) ?_
    rw [eca, hop]
    refine E_bipush (v := 48) dX4_makeOne_180 (by decide) ?_
    refine E_isub dX4_makeOne_182 ?_
    refine cs_X4_makeOne_183 (by assumption) (Nat.le_of_ble_eq_true rfl) hw ?_
    rw [ee]
    refine E_istore dX4_makeOne_186 (Nat.le_of_ble_eq_true rfl) (by rfl) ?_
    refine E_iload dX4_makeOne_188 (by rfl) ?_
    refine E_if_ne (tgt := 207) dX4_makeOne_190 (by decide) (fun q190 => ?_) (fun q190 => ?_)
    · exact absurd (by decide) q190
    · refine E_aload_n dX4_makeOne_193 (by rfl) ?_
      refine E_aload_n dX4_makeOne_194 (by rfl) ?_
      refine gf_X4_29 dX4_makeOne_195 rfl (by assumption) (by rfl) ?_
      refine E_iload_n dX4_makeOne_198 (by rfl) ?_
      refine E_iald dX4_makeOne_199 (by assumption) (i_in (by omega) (by omega)) ?_
      rw [eca, hop]
      refine E_bipush (v := 48) dX4_makeOne_200 (by decide) ?_
      refine E_isub dX4_makeOne_202 ?_
      refine cs_X4_makeOne_203 (by assumption) (Nat.le_of_ble_eq_true rfl) (n_rolls h N z g3 g4 g5 hm g7 g8 (by rw [g0, nI_toInt (by omega)]; omega) g9 (op - 48) hr.1 hr.2) ?_
      refine E_pop dX4_makeOne_206 rfl ?_
      exact n_mo207 _ _ _ ⟨rfl, trivial⟩
  · rw [if_neg e]
    refine E_aload_n dX4_makeOne_173 (by rfl) ?_
    refine E_aload_n dX4_makeOne_174 (by rfl) ?_
    refine gf_X4_29 dX4_makeOne_175 rfl (by assumption) (by rfl) ?_
    refine E_iload_n dX4_makeOne_178 (by rfl) ?_
    refine E_iald dX4_makeOne_179 (by assumption) (i_in (by omega) (by omega)) ?_
    rw [eca, hop]
    refine E_bipush (v := 48) dX4_makeOne_180 (by decide) ?_
    refine E_isub dX4_makeOne_182 ?_
    refine cs_X4_makeOne_183 (by assumption) (Nat.le_of_ble_eq_true rfl) hw ?_
    refine E_istore dX4_makeOne_186 (Nat.le_of_ble_eq_true rfl) (by rfl) ?_
    refine E_iload dX4_makeOne_188 (by rfl) ?_
    refine E_if_ne (tgt := 207) dX4_makeOne_190 (by decide) (fun q190 => ?_) (fun q190 => ?_)
    · exact n_mo207 _ _ _ ⟨rfl, trivial⟩
    · exact absurd q190 e
theorem n_makeOne (h : mAt mem M) (N : mS) (hg : mGd z t n k m) (ha : a + 2 < 93) : Dt G kX4_makeOne [.ref 86, .int (nI a)] (mPut mem (m_wz N z)) (some (.int (mOne z n k m (m_to N a) (m_to N (a + 1)) (m_to N (a + 2))).1)) (mPut mem (m_wz N (mOne z n k m (m_to N a) (m_to N (a + 1)) (m_to N (a + 2))).2)) := by
  obtain ⟨op, hop⟩ : ∃ op, m_to N a = op := ⟨_, rfl⟩
  obtain ⟨y, hy⟩ : ∃ op, m_to N (a + 1) = op := ⟨_, rfl⟩
  obtain ⟨w, hw⟩ : ∃ op, m_to N (a + 2) = op := ⟨_, rfl⟩
  rw [hop, hy, hw]
  have a0 : (mPut mem (m_wz N z))[86]? = some (m_O N) := (mAt_put h (m_wz N z)).1
  have a7 : (mPut mem (m_wz N z))[93]? = some (g_a 0 93 (m_to N)) := (mAt_put h (m_wz N z)).2.2.2.2.2.2.2
  have ea : (nI a).toInt = (a : Int) := nI_toInt (by omega)
  have eca : (nI a).toNatClampNeg = a := nI_clamp (by omega)
  have ea1 : (nI (a + 1)).toInt = ((a + 1 : Nat) : Int) := nI_toInt (by omega)
  have eca1 : (nI (a + 1)).toNatClampNeg = a + 1 := nI_clamp (by omega)
  have ea2 : (nI (a + 2)).toInt = ((a + 2 : Nat) : Int) := nI_toInt (by omega)
  have eca2 : (nI (a + 2)).toNatClampNeg = a + 2 := nI_clamp (by omega)
  have e1 : nI a + 1 = nI (a + 1) := nI_1 a
  have e2 : nI a + 2 = nI (a + 2) := nI_add a 2
  have r68 := n_mo68 (G := G) (a := a) (y := y) (w := w) h N hg
  have r97 := n_mo97 (G := G) (a := a) (y := y) (w := w) h N hg
  have r129 := n_mo129 (G := G) (a := a) (y := y) (w := w) h N hg
  have r152 := n_mo152 (G := G) (a := a) (y := y) (w := w) h N hg
  have r173 := n_mo173 (G := G) (a := a) (y := y) (w := w) h N hg (by omega) hop
  obtain ⟨R, hR⟩ : ∃ R, mOne z n k m op y w = R := ⟨_, rfl⟩
  unfold mOne at hR
  have s68 : op = 112 → E G kX4_makeOne (x_R (some (.int R.1)) (mPut mem (m_wz N R.2))) 0 0 (mPut mem (m_wz N z)) 68 (x_L (mLs a y w)) [] := fun e => by
    rw [if_pos e] at hR; rw [hR] at r68; exact r68
  have s97 : op ≠ 112 → op = 106 → E G kX4_makeOne (x_R (some (.int R.1)) (mPut mem (m_wz N R.2))) 0 0 (mPut mem (m_wz N z)) 97 (x_L (mLs a y w)) [] := fun e1 e => by
    rw [if_neg e1, if_pos e] at hR; rw [hR] at r97; exact r97
  have s129 : op ≠ 112 → op ≠ 106 → op = 99 → E G kX4_makeOne (x_R (some (.int R.1)) (mPut mem (m_wz N R.2))) 0 0 (mPut mem (m_wz N z)) 129 (x_L (mLs a y w)) [] := fun e1 e2 e => by
    rw [if_neg e1, if_neg e2, if_pos e] at hR; rw [hR] at r129; exact r129
  have s152 : op ≠ 112 → op ≠ 106 → op ≠ 99 → op = 108 → E G kX4_makeOne (x_R (some (.int R.1)) (mPut mem (m_wz N R.2))) 0 0 (mPut mem (m_wz N z)) 152 (x_L (mLs a y w)) [] := fun e1 e2 e3 e => by
    rw [if_neg e1, if_neg e2, if_neg e3, if_pos e] at hR; rw [hR] at r152; exact r152
  have s173 : op ≠ 112 → op ≠ 106 → op ≠ 99 → op ≠ 108 → E G kX4_makeOne (x_R (some (.int R.1)) (mPut mem (m_wz N R.2))) 0 0 (mPut mem (m_wz N z)) 173 (x_L (mLs a y w)) [] := fun e1 e2 e3 e => by
    rw [if_neg e1, if_neg e2, if_neg e3, if_neg e] at hR; rw [hR] at r173; exact r173
  rw [show mOne z n k m op y w = R from by unfold mOne; exact hR]
  clear r68 r97 r129 r152 r173 hR
  have f1 : ∀ x : Int32, op = x → ∀ y : Int32, x ≠ y → op ≠ y := fun x e y hne e2 => hne (e.symm.trans e2)
  refine Ct_of (by decide) (Nat.le_of_ble_eq_true rfl) ?_
  refine E_aload_n dX4_makeOne_0 (by rfl) ?_
  refine gf_X4_29 dX4_makeOne_1 rfl (by assumption) (by rfl) ?_
  refine E_iload_n dX4_makeOne_4 (by rfl) ?_
  refine E_iconst (v := 1) dX4_makeOne_5 (by decide) ?_
  refine E_iadd dX4_makeOne_6 ?_
  rw [e1]
  refine E_iald dX4_makeOne_7 (by assumption) (i_in (by omega) (by omega)) ?_
  rw [eca1, hy]
  refine E_istore_n dX4_makeOne_8 (Nat.le_of_ble_eq_true rfl) (by rfl) ?_
  refine E_aload_n dX4_makeOne_9 (by rfl) ?_
  refine gf_X4_29 dX4_makeOne_10 rfl (by assumption) (by rfl) ?_
  refine E_iload_n dX4_makeOne_13 (by rfl) ?_
  refine E_iconst (v := 2) dX4_makeOne_14 (by decide) ?_
  refine E_iadd dX4_makeOne_15 ?_
  rw [e2]
  refine E_iald dX4_makeOne_16 (by assumption) (i_in (by omega) (by omega)) ?_
  rw [eca2, hw]
  refine E_istore_n dX4_makeOne_17 (Nat.le_of_ble_eq_true rfl) (by rfl) ?_
  refine E_iconst (v := 0) dX4_makeOne_18 (by decide) ?_
  refine E_istore dX4_makeOne_19 (Nat.le_of_ble_eq_true rfl) (by rfl) ?_
  refine E_aload_n dX4_makeOne_21 (by rfl) ?_
  refine gf_X4_29 dX4_makeOne_22 rfl (by assumption) (by rfl) ?_
  refine E_iload_n dX4_makeOne_25 (by rfl) ?_
  refine E_iald dX4_makeOne_26 (by assumption) (i_in (by omega) (by omega)) ?_
  rw [eca, hop]
  by_cases c27_99 : op = 99
  · rw [c27_99]
    refine E_lookup (off := 102) (tgt := 129) dX4_makeOne_27 (by decide) (by decide) (by decide) ?_
    exact E_loc (mLs a y w) ⟨rfl, rfl, rfl, rfl, rfl, trivial⟩ (s129 (f1 _ c27_99 _ (by decide)) (f1 _ c27_99 _ (by decide)) c27_99)
  by_cases c27_106 : op = 106
  · rw [c27_106]
    refine E_lookup (off := 70) (tgt := 97) dX4_makeOne_27 (by decide) (by decide) (by decide) ?_
    exact E_loc (mLs a y w) ⟨rfl, rfl, rfl, rfl, rfl, trivial⟩ (s97 (f1 _ c27_106 _ (by decide)) c27_106)
  by_cases c27_108 : op = 108
  · rw [c27_108]
    refine E_lookup (off := 125) (tgt := 152) dX4_makeOne_27 (by decide) (by decide) (by decide) ?_
    exact E_loc (mLs a y w) ⟨rfl, rfl, rfl, rfl, rfl, trivial⟩ (s152 (f1 _ c27_108 _ (by decide)) (f1 _ c27_108 _ (by decide)) (f1 _ c27_108 _ (by decide)) c27_108)
  by_cases c27_112 : op = 112
  · rw [c27_112]
    refine E_lookup (off := 41) (tgt := 68) dX4_makeOne_27 (by decide) (by decide) (by decide) ?_
    exact E_loc (mLs a y w) ⟨rfl, rfl, rfl, rfl, rfl, trivial⟩ (s68 c27_112)
  refine E_lookup (off := 146) (tgt := 173) dX4_makeOne_27 (by decide) ((lv_osw c27_99 (by decide)).trans ((lv_osw c27_106 (by decide)).trans ((lv_osw c27_108 (by decide)).trans ((lv_osw c27_112 (by decide)).trans rfl)))) (by decide) ?_
  exact E_loc (mLs a y w) ⟨rfl, rfl, rfl, rfl, rfl, trivial⟩ (s173 c27_112 c27_106 c27_99 c27_108)
abbrev mOz (z : Nat → Int32) (op y w : Int32) : Int32 × (Nat → Int32) := mOne z (z 1).toNatClampNeg (z 3).toNatClampNeg (z 2).toNatClampNeg op y w
abbrev mGz (z : Nat → Int32) : Prop := mGd z (z 0).toNatClampNeg (z 1).toNatClampNeg (z 3).toNatClampNeg (z 2).toNatClampNeg
/-- the moves told, from i on; how many were made -/
def mPl (to : Nat → Int32) : Nat → Nat → (Nat → Int32) → Nat × (Nat → Int32)
  | 0, i, z => (i, z)
  | u + 1, i, z => if (mOz z (to (3 * i)) (to (3 * i + 1)) (to (3 * i + 2))).1.toInt = 0 then mPl to u (i + 1) (mOz z (to (3 * i)) (to (3 * i + 1)) (to (3 * i + 2))).2 else (i, (mOz z (to (3 * i)) (to (3 * i + 1)) (to (3 * i + 2))).2)
def mPk (to : Nat → Int32) : Nat → Nat → (Nat → Int32) → Prop
  | 0, _, _ => True
  | u + 1, i, z => mGz z ∧ ((mOz z (to (3 * i)) (to (3 * i + 1)) (to (3 * i + 2))).1.toInt = 0 → mPk to u (i + 1) (mOz z (to (3 * i)) (to (3 * i + 1)) (to (3 * i + 2))).2)
theorem n_pl42 (h : mAt mem M) (N : mS) (i : Nat) (loc : Nat → Option Value) (hl : x_has loc [(0, .ref 86), (1, .int (nI i))]) : E G kX4_play (x_R (some (.int (nI i))) (mPut mem (m_wty N 0))) 0 0 (mPut mem N) 42 loc [] := by
  obtain ⟨a0, _⟩ := mAt_put h N
  refine E_loc _ hl ?_
  refine E_aload_n dX4_play_42 (by rfl) ?_
  refine E_iconst (v := 0) dX4_play_43 (by decide) ?_
  refine pf_X4_144 dX4_play_44 rfl (by assumption) (Nat.le_of_ble_eq_true rfl) ?_
  refine E_mem (mS_O h N (m_wty N 0) ⟨rfl, rfl, rfl, rfl, rfl, rfl, rfl⟩) ?_
  refine E_iload_n dX4_play_47 (by rfl) ?_
  refine E_iret dX4_play_48 rfl rfl (Nat.zero_le _) (Nat.zero_le _) ?_
  exact ⟨rfl, rfl⟩
theorem n_pl18 (h : mAt mem M) (N : mS) (hj : m_tm N = nI j) (hj31 : j ≤ 31) : ∀ (u i : Nat) (z : Nat → Int32) (P : Nat × (Nat → Int32)), i + u = j → mPk (m_to N) u i z → mPl (m_to N) u i z = P → E G kX4_play (x_R (some (.int (nI P.1))) (mPut mem (m_wty (m_wz N P.2) 0))) 0 0 (mPut mem (m_wz N z)) 18 (x_L [(0, .ref 86), (1, .int (nI i))]) [] := by
  have ej : (m_tm N).toInt = (j : Int) := by rw [hj]; exact nI_toInt (by omega)
  intro u
  induction u with
  | zero =>
    intro i z P hi _ hP
    have ei : (nI i).toInt = (i : Int) := nI_toInt (by omega)
    rw [mPl] at hP
    subst hP
    have a0 : (mPut mem (m_wz N z))[86]? = some (m_O N) := (mAt_put h (m_wz N z)).1
    refine E_iload_n dX4_play_18 (by rfl) ?_
    refine E_aload_n dX4_play_19 (by rfl) ?_
    refine gf_X4_160 dX4_play_20 rfl (by assumption) (by rfl) ?_
    refine E_icmp_ge (n := _) rfl (tgt := 42) dX4_play_23 (by decide) (fun q23 => ?_) (fun q23 => ?_)
    · exact n_pl42 h (m_wz N z) i _ ⟨rfl, rfl, trivial⟩
    · exact absurd q23 (by omega)
  | succ u ih =>
    intro i z P hi hk hP
    have ei : (nI i).toInt = (i : Int) := nI_toInt (by omega)
    have e3 : (3 : Int32) * nI i = nI (3 * i) := pk_mul (a := 3) (b := i)
    rw [mPl] at hP
    rw [mPk] at hk
    have hone := n_makeOne (G := G) (a := 3 * i) h N hk.1 (by omega)
    obtain ⟨r, hr⟩ : ∃ r, mOz z (m_to N (3 * i)) (m_to N (3 * i + 1)) (m_to N (3 * i + 2)) = r := ⟨_, rfl⟩
    rw [show mOne z (z 1).toNatClampNeg (z 3).toNatClampNeg (z 2).toNatClampNeg (m_to N (3 * i)) (m_to N (3 * i + 1)) (m_to N (3 * i + 2)) = r from hr] at hone
    rw [hr] at hP hk
    have a0 : (mPut mem (m_wz N z))[86]? = some (m_O N) := (mAt_put h (m_wz N z)).1
    by_cases e : r.1.toInt = 0
    · rw [if_pos e] at hP
      refine E_iload_n dX4_play_18 (by rfl) ?_
      refine E_aload_n dX4_play_19 (by rfl) ?_
      refine gf_X4_160 dX4_play_20 rfl (by assumption) (by rfl) ?_
      refine E_icmp_ge (n := _) rfl (tgt := 42) dX4_play_23 (by decide) (fun q23 => ?_) (fun q23 => ?_)
      · exact absurd q23 (by omega)
      · refine E_aload_n dX4_play_26 (by rfl) ?_
        refine E_iconst (v := 3) dX4_play_27 (by decide) ?_
        refine E_iload_n dX4_play_28 (by rfl) ?_
        refine E_imul dX4_play_29 ?_
        rw [e3]
        refine cs_X4_play_30 (by assumption) (Nat.le_of_ble_eq_true rfl) hone ?_
        refine E_if_ne (tgt := 42) dX4_play_33 (by decide) (fun q33 => ?_) (fun q33 => ?_)
        · exact absurd e q33
        · refine E_iinc (d := 1) dX4_play_36 (by rfl) (by decide) (Nat.le_of_ble_eq_true rfl) (by rfl) ?_
          refine E_goto (tgt := 18) dX4_play_39 (by decide) ?_
          exact E_loc [(0, .ref 86), (1, .int (nI (i + 1)))] ⟨rfl, x_i (nI_1 i), trivial⟩ (ih (i + 1) r.2 P (by omega) (hk.2 e) hP)
    · rw [if_neg e] at hP
      subst hP
      refine E_iload_n dX4_play_18 (by rfl) ?_
      refine E_aload_n dX4_play_19 (by rfl) ?_
      refine gf_X4_160 dX4_play_20 rfl (by assumption) (by rfl) ?_
      refine E_icmp_ge (n := _) rfl (tgt := 42) dX4_play_23 (by decide) (fun q23 => ?_) (fun q23 => ?_)
      · exact absurd q23 (by omega)
      · refine E_aload_n dX4_play_26 (by rfl) ?_
        refine E_iconst (v := 3) dX4_play_27 (by decide) ?_
        refine E_iload_n dX4_play_28 (by rfl) ?_
        refine E_imul dX4_play_29 ?_
        rw [e3]
        refine cs_X4_play_30 (by assumption) (Nat.le_of_ble_eq_true rfl) hone ?_
        refine E_if_ne (tgt := 42) dX4_play_33 (by decide) (fun q33 => ?_) (fun q33 => ?_)
        · exact n_pl42 h (m_wz N r.2) i _ ⟨rfl, rfl, trivial⟩
        · exact absurd q33 e
theorem n_play_no (h : mAt mem M) (hn : m_ty M = nI n) (hn60 : n ≤ 60) (hk : mEk (m_bu M) n 40 ((0, -6), m_to M, 0)) (P : mPp) (hP : mEs M n = P) (hw : ¬ P.1.2.toInt = -6) : Dt G kX4_play [.ref 86] mem (some (.int (-5))) (mPut mem (mQ M P.2.1 P.2.2 P.1)) := by
  obtain ⟨a0, a1, a2, a3, a4, a5, a6, a7⟩ := id h
  refine Ct_of (by decide) (Nat.le_of_ble_eq_true rfl) ?_
  refine E_aload_n dX4_play_0 (by rfl) ?_
  refine cs_X4_play_1 (by assumption) (Nat.le_of_ble_eq_true rfl) (n_errorPosition h hn hn60 hk P hP) ?_
  refine E_bipush (v := (-6)) dX4_play_4 (by decide) ?_
  refine E_icmp_eq (n := (-6)) (by decide) (tgt := 12) dX4_play_6 (by decide) (fun q6 => ?_) (fun q6 => ?_)
  · exact absurd q6 hw
  · refine E_bipush (v := (-5)) dX4_play_9 (by decide) ?_
    refine E_iret dX4_play_11 rfl rfl (Nat.zero_le _) (Nat.zero_le _) ?_
    exact ⟨rfl, rfl⟩
theorem n_play (h : mAt mem M) (hp : m_pm M = nI c) (hc5 : c ≤ 5) (hn : m_ty M = nI n) (hn60 : n ≤ 60) (hk : mEk (m_bu M) n 40 ((0, -6), m_to M, 0)) (P : mPp) (hP : mEs M n = P) (hw : P.1.2.toInt = -6) (hj : P.2.2 ≤ 31) (hk2 : mPk P.2.1 P.2.2 0 (m_z M)) (Q : Nat × (Nat → Int32)) (hQ : mPl P.2.1 P.2.2 0 (m_z M) = Q) : Dt G kX4_play [.ref 86] mem (some (.int (nI Q.1))) (mPut mem (m_wty (m_wz (mRec (mQ M P.2.1 P.2.2 P.1) c) Q.2) 0)) := by
  obtain ⟨a0, a1, a2, a3, a4, a5, a6, a7⟩ := id h
  obtain ⟨b0, b1, b2⟩ := mQ_at h M P.2.1 P.2.2 P.1
  have hrec := n_record (G := G) h (mQ M P.2.1 P.2.2 P.1) hp hc5
  refine Ct_of (by decide) (Nat.le_of_ble_eq_true rfl) ?_
  refine E_aload_n dX4_play_0 (by rfl) ?_
  refine cs_X4_play_1 (by assumption) (Nat.le_of_ble_eq_true rfl) (n_errorPosition h hn hn60 hk P hP) ?_
  refine E_bipush (v := (-6)) dX4_play_4 (by decide) ?_
  refine E_icmp_eq (n := (-6)) (by decide) (tgt := 12) dX4_play_6 (by decide) (fun q6 => ?_) (fun q6 => ?_)
  · refine E_aload_n dX4_play_12 (by rfl) ?_
    refine cs_X4_play_13 (by assumption) (Nat.le_of_ble_eq_true rfl) hrec ?_
    refine E_iconst (v := 0) dX4_play_16 (by decide) ?_
    refine E_istore_n dX4_play_17 (Nat.le_of_ble_eq_true rfl) (by rfl) ?_
    exact E_loc [(0, .ref 86), (1, .int (nI 0))] ⟨rfl, rfl, trivial⟩ (n_pl18 h (mRec (mQ M P.2.1 P.2.2 P.1) c) (j := P.2.2) rfl hj P.2.2 0 (m_z M) Q (by omega) hk2 hQ)
  · exact absurd hw q6
end NA
