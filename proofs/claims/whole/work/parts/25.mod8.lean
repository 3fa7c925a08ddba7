/-! the reference: moves in the text -/
section N8
variable {G : xG} {mem : xM} {M N : mS} {z f to : Nat → Int32} {t n k c m s j : Nat}
abbrev mB (N : mS) (to : Nat → Int32) (j : Nat) : mS := m_wtm (m_wto N to) (nI j)
abbrev mQ (N : mS) (to : Nat → Int32) (j : Nat) (q : Nat × Int32) : mS := mP (mB N to j) q.1 q.2
theorem mQ_at (h : mAt mem M) (N : mS) (to : Nat → Int32) (j : Nat) (q : Nat × Int32) : (mPut mem (mQ N to j q))[86]? = some (m_o (m_pm N) (m_ik N) (m_ty N) (nI j) (nI q.1) q.2) ∧ (mPut mem (mQ N to j q))[91]? = some (.inl (2, 60, .inl (m_bu N))) ∧ (mPut mem (mQ N to j q))[93]? = some (g_a 0 93 to) := mP_at h (mB N to j) q.1 q.2
theorem mQ_to' (h : mAt mem M) (N : mS) (to to' : Nat → Int32) (x y w : Int32) : (mPut mem (m_wwr (m_wsp (m_wtm (m_wto N to) x) y) w)).set 93 (g_a 0 93 to') = mPut mem (m_wwr (m_wsp (m_wtm (m_wto N to') x) y) w) := mS_to h _ to'
theorem mQ_to (h : mAt mem M) (N : mS) (to to' : Nat → Int32) (j : Nat) (q : Nat × Int32) : (mPut mem (mQ N to j q)).set 93 (g_a 0 93 to') = mPut mem (mQ N to' j q) := mQ_to' h N to to' (nI j) (nI q.1) q.2
theorem mQ_tm' (h : mAt mem M) (N : mS) (to : Nat → Int32) (x x' y w : Int32) : (mPut mem (m_wwr (m_wsp (m_wtm (m_wto N to) x) y) w)).set 86 (m_o (m_pm N) (m_ik N) (m_ty N) x' y w) = mPut mem (m_wwr (m_wsp (m_wtm (m_wto N to) x') y) w) := mS_O h _ (m_wwr (m_wsp (m_wtm (m_wto N to) x') y) w) ⟨rfl, rfl, rfl, rfl, rfl, rfl, rfl⟩
theorem mQ_tm (h : mAt mem M) (N : mS) (to : Nat → Int32) (j i : Nat) (q : Nat × Int32) : (mPut mem (mQ N to j q)).set 86 (m_o (m_pm N) (m_ik N) (m_ty N) (nI i) (nI q.1) q.2) = mPut mem (mQ N to i q) := mQ_tm' h N to (nI j) (nI i) (nI q.1) q.2
abbrev mStt (l : Int32) : Prop := (49 ≤ l.toInt ∧ l.toInt ≤ 54) ∨ l.toInt = 112 ∨ l.toInt = 106 ∨ l.toInt = 99 ∨ l.toInt = 108
abbrev mPp : Type := (Nat × Int32) × (Nat → Int32) × Nat
abbrev mRl (f : Nat → Int32) (n : Nat) (p : mPp) : Int32 := mLt f n p.1.1
/-- behind the letter; behind the first number; behind the arrow -/
abbrev mRa (f : Nat → Int32) (n : Nat) (p : mPp) : Nat × Int32 := mW (b2i (mStt (mRl f n p))) p.1
abbrev mRb (f : Nat → Int32) (n : Nat) (p : mPp) : Nat × Int32 := (mNu f n (mRa f n p)).2
abbrev mRc (f : Nat → Int32) (n : Nat) (p : mPp) : Nat × Int32 := mW (b2i ((mLt f n (mRb f n p).1).toInt = 62)) (mRb f n p)
abbrev mTa (f : Nat → Int32) (n : Nat) (p : mPp) : Nat → Int32 := upd p.2.1 (3 * p.2.2) (mRl f n p)
abbrev mTb (f : Nat → Int32) (n : Nat) (p : mPp) : Nat → Int32 := upd (mTa f n p) (3 * p.2.2 + 1) (mNu f n (mRa f n p)).1
abbrev mTc (f : Nat → Int32) (n : Nat) (p : mPp) : Nat → Int32 := upd (mTb f n p) (3 * p.2.2 + 2) (mNu f n (mRc f n p)).1
def mRd (f : Nat → Int32) (n : Nat) (p : mPp) : mPp :=
  if (mRl f n p).toInt = 99 then ((mNu f n (mRc f n p)).2, mTc f n p, p.2.2 + 1)
  else if (mRl f n p).toInt = 108 then (mRb f n p, mTb f n p, p.2.2 + 1)
  else (mRa f n p, mTa f n p, p.2.2 + 1)
abbrev mPm (mem : xM) (N : mS) (p : mPp) : xM := mPut mem (mQ N p.2.1 p.2.2 p.1)
theorem mNu_s (f : Nat → Int32) (n : Nat) (q : Nat × Int32) : q.1 ≤ (mNu f n q).2.1 ∧ (mNu f n q).2.1 ≤ q.1 + 2 := by
  have h := mW_s (b2i (0 ≤ (mNa f n q).toInt ∧ (mNa f n q).toInt ≤ 9)) q
  unfold mNu
  split
  · exact ⟨by show _ ≤ (mNq f n q).1 + 1; unfold mNq; omega, by show (mNq f n q).1 + 1 ≤ _; unfold mNq; omega⟩
  · exact ⟨by show _ ≤ (mNq f n q).1; unfold mNq; omega, by show (mNq f n q).1 ≤ _; unfold mNq; omega⟩
theorem q_wants (h : mAt mem M) (N : mS) (to : Nat → Int32) (j : Nat) (b : Int32) (q q' : Nat × Int32) (e : mW b q = q') : Dt G kX4_wants [.ref 86, .int b] (mPut mem (mQ N to j q)) none (mPut mem (mQ N to j q')) := e ▸ n_wants h (mB N to j) b q
theorem q_number (h : mAt mem M) (N : mS) (hn : m_ty N = nI n) (hn60 : n ≤ 60) (to : Nat → Int32) (j : Nat) (q : Nat × Int32) (hs : q.1 < 900) (r : Int32 × Nat × Int32) (e : mNu (m_bu N) n q = r) : Dt G kX4_number [.ref 86] (mPut mem (mQ N to j q)) (some (.int r.1)) (mPut mem (mQ N to j r.2)) := e ▸ n_number h (mB N to j) hn hn60 q hs
theorem q_letter (h : mAt mem M) (N : mS) (hn : m_ty N = nI n) (hn60 : n ≤ 60) (to : Nat → Int32) (j : Nat) (q : Nat × Int32) (hs : q.1 < 1000) : Dt G kX4_letter [.ref 86] (mPut mem (mQ N to j q)) (some (.int (mLt (m_bu N) n q.1))) (mPut mem (mQ N to j q)) := n_letter h (mB N to j) hn hn60 q.1 q.2 hs
theorem n_rm108 (h : mAt mem M) (N : mS) (hn : m_ty N = nI n) (hn60 : n ≤ 60) (tb tc : Nat → Int32) (j : Nat) (hj : j ≤ 30) (qb qc : Nat × Int32) (hs : qc.1 < 900) (nc : Int32 × Nat × Int32) (l b : Int32) (hqc : mW b qb = qc) (hnc : mNu (m_bu N) n qc = nc) (htc : upd tb (3 * j + 2) nc.1 = tc) (loc : Nat → Option Value) (hl : x_has loc [(0, .ref 86), (1, .int l), (2, .int (nI (3 * j)))]) : E G kX4_readMove (x_R none (mPut mem (mQ N tc (j + 1) nc.2))) 0 0 (mPut mem (mQ N tb j qb)) 108 loc [.int b, .ref 86] := by
  have e2 : nI (3 * j) + 2 = nI (3 * j + 2) := nI_add _ 2
  have c2 : (nI (3 * j + 2)).toNatClampNeg = 3 * j + 2 := nI_clamp (by omega)
  have i2 : (nI (3 * j + 2)).toInt = ((3 * j + 2 : Nat) : Int) := nI_toInt (by omega)
  have ej : nI j + 1 = nI (j + 1) := nI_1 j
  obtain ⟨a0, a1, a2⟩ := mQ_at h N tb j qb
  obtain ⟨g0, g1, g2⟩ := mQ_at h N tb j qc
  obtain ⟨l0, l1, l2⟩ := mQ_at h N tb j nc.2
  obtain ⟨o0, o1, o2⟩ := mQ_at h N tc j nc.2
  refine E_loc _ hl ?_
  refine cs_X4_readMove_108 (by assumption) (Nat.le_of_ble_eq_true rfl) (q_wants h N tb j b qb qc hqc) ?_
  refine E_aload_n dX4_readMove_111 (by rfl) ?_
  refine gf_X4_29 dX4_readMove_112 rfl (by assumption) (by rfl) ?_
  refine E_iload_n dX4_readMove_115 (by rfl) ?_
  refine E_iconst (v := 2) dX4_readMove_116 (by decide) ?_
  refine E_iadd dX4_readMove_117 ?_
  refine E_aload_n dX4_readMove_118 (by rfl) ?_
  refine cs_X4_readMove_119 (by assumption) (Nat.le_of_ble_eq_true rfl) (q_number h N hn hn60 tb j qc hs nc hnc) ?_
  rw [e2]
  refine E_iast dX4_readMove_122 (by assumption) (i_in (by omega) (by omega)) ?_
  refine E_mem ((mQ_to h N _ _ j _).trans (congrArg (fun g => mPut mem (mQ N g j nc.2)) (show _ = tc by rw [c2]; exact htc))) ?_
  refine E_aload_n dX4_readMove_123 (by rfl) ?_
  refine E_dup dX4_readMove_124 rfl ?_
  refine gf_X4_160 dX4_readMove_125 rfl (by assumption) (by rfl) ?_
  refine E_iconst (v := 1) dX4_readMove_128 (by decide) ?_
  refine E_iadd dX4_readMove_129 ?_
  rw [ej]
  refine pf_X4_160 dX4_readMove_130 rfl (by assumption) (Nat.le_of_ble_eq_true rfl) ?_
  refine E_vret dX4_readMove_133 rfl (Nat.zero_le _) (Nat.zero_le _) ?_
  exact ⟨rfl, mQ_tm h N _ j (j + 1) _⟩
/-- from the test of the letter on -/
theorem n_rm46c (h : mAt mem M) (N : mS) (hn : m_ty N = nI n) (hn60 : n ≤ 60) (to ta tb tc : Nat → Int32) (j : Nat) (hj : j ≤ 30) (q qa qc : Nat × Int32) (hs : qa.1 < 800) (na nc : Int32 × Nat × Int32) (hs2 : na.2.1 < 850) (hs3 : qc.1 < 900) (l b : Int32) (hc : l.toInt = 99) (hqa : mW b q = qa) (hta : upd to (3 * j) l = ta) (hna : mNu (m_bu N) n qa = na) (htb : upd ta (3 * j + 1) na.1 = tb) (hqc : mW (b2i ((mLt (m_bu N) n na.2.1).toInt = 62)) na.2 = qc) (hnc : mNu (m_bu N) n qc = nc) (htc : upd tb (3 * j + 2) nc.1 = tc) : E G kX4_readMove (x_R none (mPut mem (mQ N tc (j + 1) nc.2))) 0 0 (mPut mem (mQ N to j q)) 46 (x_L [(0, .ref 86), (1, .int l)]) [.int b, .ref 86] := by
  have w3 : (3 : Int32) * nI j = nI (3 * j) := pk_mul (a := 3) (b := j)
  have e1 : nI (3 * j) + 1 = nI (3 * j + 1) := nI_1 _
  have c0 : (nI (3 * j)).toNatClampNeg = 3 * j := nI_clamp (by omega)
  have c1 : (nI (3 * j + 1)).toNatClampNeg = 3 * j + 1 := nI_clamp (by omega)
  have i0 : (nI (3 * j)).toInt = ((3 * j : Nat) : Int) := nI_toInt (by omega)
  have i1 : (nI (3 * j + 1)).toInt = ((3 * j + 1 : Nat) : Int) := nI_toInt (by omega)
  obtain ⟨z0, z1, z2⟩ := mQ_at h N to j q
  obtain ⟨a0, a1, a2⟩ := mQ_at h N to j qa
  obtain ⟨b0, b1, b2⟩ := mQ_at h N ta j qa
  obtain ⟨d0, d1, d2⟩ := mQ_at h N ta j na.2
  obtain ⟨f0, f1, f2⟩ := mQ_at h N tb j na.2
  refine cs_X4_readMove_46 (by assumption) (Nat.le_of_ble_eq_true rfl) (q_wants h N to j b q qa hqa) ?_
  refine E_iconst (v := 3) dX4_readMove_49 (by decide) ?_
  refine E_aload_n dX4_readMove_50 (by rfl) ?_
  refine gf_X4_160 dX4_readMove_51 rfl (by assumption) (by rfl) ?_
  refine E_imul dX4_readMove_54 ?_
  rw [w3]
  refine E_istore_n dX4_readMove_55 (Nat.le_of_ble_eq_true rfl) (by rfl) ?_
  refine E_aload_n dX4_readMove_56 (by rfl) ?_
  refine gf_X4_29 dX4_readMove_57 rfl (by assumption) (by rfl) ?_
  refine E_iload_n dX4_readMove_60 (by rfl) ?_
  refine E_iload_n dX4_readMove_61 (by rfl) ?_
  refine E_iast dX4_readMove_62 (by assumption) (i_in (by omega) (by omega)) ?_
  refine E_mem ((mQ_to h N _ _ j _).trans (congrArg (fun g => mPut mem (mQ N g j qa)) (show _ = ta by rw [c0]; exact hta))) ?_
  refine E_iload_n dX4_readMove_63 (by rfl) ?_
  refine E_bipush (v := 99) dX4_readMove_64 (by decide) ?_
  refine E_icmp_eq (n := 99) (by decide) (tgt := 75) dX4_readMove_66 (by decide) (fun q66 => ?_) (fun q66 => ?_)
  · refine E_aload_n dX4_readMove_75 (by rfl) ?_
    refine gf_X4_29 dX4_readMove_76 rfl (by assumption) (by rfl) ?_
    refine E_iload_n dX4_readMove_79 (by rfl) ?_
    refine E_iconst (v := 1) dX4_readMove_80 (by decide) ?_
    refine E_iadd dX4_readMove_81 ?_
    refine E_aload_n dX4_readMove_82 (by rfl) ?_
    refine cs_X4_readMove_83 (by assumption) (Nat.le_of_ble_eq_true rfl) (q_number h N hn hn60 ta j qa (by omega) na hna) ?_
    rw [e1]
    refine E_iast dX4_readMove_86 (by assumption) (i_in (by omega) (by omega)) ?_
    refine E_mem ((mQ_to h N _ _ j _).trans (congrArg (fun g => mPut mem (mQ N g j na.2)) (show _ = tb by rw [c1]; exact htb))) ?_
    refine E_iload_n dX4_readMove_87 (by rfl) ?_
    refine E_bipush (v := 99) dX4_readMove_88 (by decide) ?_
    refine E_icmp_ne (n := 99) (by decide) (tgt := 123) dX4_readMove_90 (by decide) (fun q90 => ?_) (fun q90 => ?_)
    · exact absurd hc q90
    · refine E_aload_n dX4_readMove_93 (by rfl) ?_
      refine E_aload_n dX4_readMove_94 (by rfl) ?_
      refine cs_X4_readMove_95 (by assumption) (Nat.le_of_ble_eq_true rfl) (q_letter h N hn hn60 tb j na.2 (by omega)) ?_
      refine E_bipush (v := 62) dX4_readMove_98 (by decide) ?_
      refine E_icmp_ne (n := 62) (by decide) (tgt := 107) dX4_readMove_100 (by decide) (fun q100 => ?_) (fun q100 => ?_)
      · refine E_iconst (v := 0) dX4_readMove_107 (by decide) ?_
        exact n_rm108 h N hn hn60 tb tc j hj na.2 qc hs3 nc l 0 (by rw [← hqc, b2i_f q100]) hnc htc _ ⟨rfl, rfl, rfl, trivial⟩
      · refine E_iconst (v := 1) dX4_readMove_103 (by decide) ?_
        refine E_goto (tgt := 108) dX4_readMove_104 (by decide) ?_
        exact n_rm108 h N hn hn60 tb tc j hj na.2 qc hs3 nc l 1 (by rw [← hqc, b2i_t q100]) hnc htc _ ⟨rfl, rfl, rfl, trivial⟩
  · exact absurd hc q66
theorem n_rm46l (h : mAt mem M) (N : mS) (hn : m_ty N = nI n) (hn60 : n ≤ 60) (to ta tb : Nat → Int32) (j : Nat) (hj : j ≤ 30) (q qa : Nat × Int32) (hs : qa.1 < 800) (na : Int32 × Nat × Int32) (l b : Int32) (hc : ¬ l.toInt = 99) (hl : l.toInt = 108) (hqa : mW b q = qa) (hta : upd to (3 * j) l = ta) (hna : mNu (m_bu N) n qa = na) (htb : upd ta (3 * j + 1) na.1 = tb) : E G kX4_readMove (x_R none (mPut mem (mQ N tb (j + 1) na.2))) 0 0 (mPut mem (mQ N to j q)) 46 (x_L [(0, .ref 86), (1, .int l)]) [.int b, .ref 86] := by
  have w3 : (3 : Int32) * nI j = nI (3 * j) := pk_mul (a := 3) (b := j)
  have e1 : nI (3 * j) + 1 = nI (3 * j + 1) := nI_1 _
  have c0 : (nI (3 * j)).toNatClampNeg = 3 * j := nI_clamp (by omega)
  have c1 : (nI (3 * j + 1)).toNatClampNeg = 3 * j + 1 := nI_clamp (by omega)
  have i0 : (nI (3 * j)).toInt = ((3 * j : Nat) : Int) := nI_toInt (by omega)
  have i1 : (nI (3 * j + 1)).toInt = ((3 * j + 1 : Nat) : Int) := nI_toInt (by omega)
  have ej : nI j + 1 = nI (j + 1) := nI_1 j
  obtain ⟨z0, z1, z2⟩ := mQ_at h N to j q
  obtain ⟨a0, a1, a2⟩ := mQ_at h N to j qa
  obtain ⟨b0, b1, b2⟩ := mQ_at h N ta j qa
  obtain ⟨d0, d1, d2⟩ := mQ_at h N ta j na.2
  obtain ⟨f0, f1, f2⟩ := mQ_at h N tb j na.2
  refine cs_X4_readMove_46 (by assumption) (Nat.le_of_ble_eq_true rfl) (q_wants h N to j b q qa hqa) ?_
  refine E_iconst (v := 3) dX4_readMove_49 (by decide) ?_
  refine E_aload_n dX4_readMove_50 (by rfl) ?_
  refine gf_X4_160 dX4_readMove_51 rfl (by assumption) (by rfl) ?_
  refine E_imul dX4_readMove_54 ?_
  rw [w3]
  refine E_istore_n dX4_readMove_55 (Nat.le_of_ble_eq_true rfl) (by rfl) ?_
  refine E_aload_n dX4_readMove_56 (by rfl) ?_
  refine gf_X4_29 dX4_readMove_57 rfl (by assumption) (by rfl) ?_
  refine E_iload_n dX4_readMove_60 (by rfl) ?_
  refine E_iload_n dX4_readMove_61 (by rfl) ?_
  refine E_iast dX4_readMove_62 (by assumption) (i_in (by omega) (by omega)) ?_
  refine E_mem ((mQ_to h N _ _ j _).trans (congrArg (fun g => mPut mem (mQ N g j qa)) (show _ = ta by rw [c0]; exact hta))) ?_
  refine E_iload_n dX4_readMove_63 (by rfl) ?_
  refine E_bipush (v := 99) dX4_readMove_64 (by decide) ?_
  refine E_icmp_eq (n := 99) (by decide) (tgt := 75) dX4_readMove_66 (by decide) (fun q66 => ?_) (fun q66 => ?_)
  · exact absurd q66 hc
  · refine E_iload_n dX4_readMove_69 (by rfl) ?_
    refine E_bipush (v := 108) dX4_readMove_70 (by decide) ?_
    refine E_icmp_ne (n := 108) (by decide) (tgt := 87) dX4_readMove_72 (by decide) (fun q72 => ?_) (fun q72 => ?_)
    · exact absurd hl q72
    · refine E_aload_n dX4_readMove_75 (by rfl) ?_
      refine gf_X4_29 dX4_readMove_76 rfl (by assumption) (by rfl) ?_
      refine E_iload_n dX4_readMove_79 (by rfl) ?_
      refine E_iconst (v := 1) dX4_readMove_80 (by decide) ?_
      refine E_iadd dX4_readMove_81 ?_
      refine E_aload_n dX4_readMove_82 (by rfl) ?_
      refine cs_X4_readMove_83 (by assumption) (Nat.le_of_ble_eq_true rfl) (q_number h N hn hn60 ta j qa (by omega) na hna) ?_
      rw [e1]
      refine E_iast dX4_readMove_86 (by assumption) (i_in (by omega) (by omega)) ?_
      refine E_mem ((mQ_to h N _ _ j _).trans (congrArg (fun g => mPut mem (mQ N g j na.2)) (show _ = tb by rw [c1]; exact htb))) ?_
      refine E_iload_n dX4_readMove_87 (by rfl) ?_
      refine E_bipush (v := 99) dX4_readMove_88 (by decide) ?_
      refine E_icmp_ne (n := 99) (by decide) (tgt := 123) dX4_readMove_90 (by decide) (fun q90 => ?_) (fun q90 => ?_)
      · refine E_aload_n dX4_readMove_123 (by rfl) ?_
        refine E_dup dX4_readMove_124 rfl ?_
        refine gf_X4_160 dX4_readMove_125 rfl (by assumption) (by rfl) ?_
        refine E_iconst (v := 1) dX4_readMove_128 (by decide) ?_
        refine E_iadd dX4_readMove_129 ?_
        rw [ej]
        refine pf_X4_160 dX4_readMove_130 rfl (by assumption) (Nat.le_of_ble_eq_true rfl) ?_
        refine E_vret dX4_readMove_133 rfl (Nat.zero_le _) (Nat.zero_le _) ?_
        exact ⟨rfl, mQ_tm h N _ j (j + 1) _⟩
      · exact absurd q90 hc
theorem n_rm46o (h : mAt mem M) (N : mS) (to ta : Nat → Int32) (j : Nat) (hj : j ≤ 30) (q qa : Nat × Int32) (l b : Int32) (hc : ¬ l.toInt = 99) (hl : ¬ l.toInt = 108) (hqa : mW b q = qa) (hta : upd to (3 * j) l = ta) : E G kX4_readMove (x_R none (mPut mem (mQ N ta (j + 1) qa))) 0 0 (mPut mem (mQ N to j q)) 46 (x_L [(0, .ref 86), (1, .int l)]) [.int b, .ref 86] := by
  have w3 : (3 : Int32) * nI j = nI (3 * j) := pk_mul (a := 3) (b := j)
  have c0 : (nI (3 * j)).toNatClampNeg = 3 * j := nI_clamp (by omega)
  have i0 : (nI (3 * j)).toInt = ((3 * j : Nat) : Int) := nI_toInt (by omega)
  have ej : nI j + 1 = nI (j + 1) := nI_1 j
  obtain ⟨z0, z1, z2⟩ := mQ_at h N to j q
  obtain ⟨a0, a1, a2⟩ := mQ_at h N to j qa
  obtain ⟨b0, b1, b2⟩ := mQ_at h N ta j qa
  refine cs_X4_readMove_46 (by assumption) (Nat.le_of_ble_eq_true rfl) (q_wants h N to j b q qa hqa) ?_
  refine E_iconst (v := 3) dX4_readMove_49 (by decide) ?_
  refine E_aload_n dX4_readMove_50 (by rfl) ?_
  refine gf_X4_160 dX4_readMove_51 rfl (by assumption) (by rfl) ?_
  refine E_imul dX4_readMove_54 ?_
  rw [w3]
  refine E_istore_n dX4_readMove_55 (Nat.le_of_ble_eq_true rfl) (by rfl) ?_
  refine E_aload_n dX4_readMove_56 (by rfl) ?_
  refine gf_X4_29 dX4_readMove_57 rfl (by assumption) (by rfl) ?_
  refine E_iload_n dX4_readMove_60 (by rfl) ?_
  refine E_iload_n dX4_readMove_61 (by rfl) ?_
  refine E_iast dX4_readMove_62 (by assumption) (i_in (by omega) (by omega)) ?_
  refine E_mem ((mQ_to h N _ _ j _).trans (congrArg (fun g => mPut mem (mQ N g j qa)) (show _ = ta by rw [c0]; exact hta))) ?_
  refine E_iload_n dX4_readMove_63 (by rfl) ?_
  refine E_bipush (v := 99) dX4_readMove_64 (by decide) ?_
  refine E_icmp_eq (n := 99) (by decide) (tgt := 75) dX4_readMove_66 (by decide) (fun q66 => ?_) (fun q66 => ?_)
  · exact absurd q66 hc
  · refine E_iload_n dX4_readMove_69 (by rfl) ?_
    refine E_bipush (v := 108) dX4_readMove_70 (by decide) ?_
    refine E_icmp_ne (n := 108) (by decide) (tgt := 87) dX4_readMove_72 (by decide) (fun q72 => ?_) (fun q72 => ?_)
    · refine E_iload_n dX4_readMove_87 (by rfl) ?_
      refine E_bipush (v := 99) dX4_readMove_88 (by decide) ?_
      refine E_icmp_ne (n := 99) (by decide) (tgt := 123) dX4_readMove_90 (by decide) (fun q90 => ?_) (fun q90 => ?_)
      · refine E_aload_n dX4_readMove_123 (by rfl) ?_
        refine E_dup dX4_readMove_124 rfl ?_
        refine gf_X4_160 dX4_readMove_125 rfl (by assumption) (by rfl) ?_
        refine E_iconst (v := 1) dX4_readMove_128 (by decide) ?_
        refine E_iadd dX4_readMove_129 ?_
        rw [ej]
        refine pf_X4_160 dX4_readMove_130 rfl (by assumption) (Nat.le_of_ble_eq_true rfl) ?_
        refine E_vret dX4_readMove_133 rfl (Nat.zero_le _) (Nat.zero_le _) ?_
        exact ⟨rfl, mQ_tm h N _ j (j + 1) _⟩
      · exact absurd q90 hc
    · exact absurd q72 hl
theorem mRd_c (f : Nat → Int32) (n : Nat) (p : mPp) (hc : (mRl f n p).toInt = 99) (qa qc : Nat × Int32) (na nc : Int32 × Nat × Int32) (ta tb tc : Nat → Int32) (hqa : mW (b2i (mStt (mRl f n p))) p.1 = qa) (hta : upd p.2.1 (3 * p.2.2) (mRl f n p) = ta) (hna : mNu f n qa = na) (htb : upd ta (3 * p.2.2 + 1) na.1 = tb) (hqc : mW (b2i ((mLt f n na.2.1).toInt = 62)) na.2 = qc) (hnc : mNu f n qc = nc) (htc : upd tb (3 * p.2.2 + 2) nc.1 = tc) : mRd f n p = (nc.2, tc, p.2.2 + 1) := by
  subst hqa; subst hna; subst hqc; subst hnc; subst hta; subst htb; subst htc
  unfold mRd
  rw [if_pos hc]
theorem mRd_l (f : Nat → Int32) (n : Nat) (p : mPp) (hc : ¬ (mRl f n p).toInt = 99) (hl : (mRl f n p).toInt = 108) (qa : Nat × Int32) (na : Int32 × Nat × Int32) (ta tb : Nat → Int32) (hqa : mW (b2i (mStt (mRl f n p))) p.1 = qa) (hta : upd p.2.1 (3 * p.2.2) (mRl f n p) = ta) (hna : mNu f n qa = na) (htb : upd ta (3 * p.2.2 + 1) na.1 = tb) : mRd f n p = (na.2, tb, p.2.2 + 1) := by
  subst hqa; subst hna; subst hta; subst htb
  unfold mRd
  rw [if_neg hc, if_pos hl]
theorem mRd_o (f : Nat → Int32) (n : Nat) (p : mPp) (hc : ¬ (mRl f n p).toInt = 99) (hl : ¬ (mRl f n p).toInt = 108) (qa : Nat × Int32) (ta : Nat → Int32) (hqa : mW (b2i (mStt (mRl f n p))) p.1 = qa) (hta : upd p.2.1 (3 * p.2.2) (mRl f n p) = ta) : mRd f n p = (qa, ta, p.2.2 + 1) := by
  subst hqa; subst hta
  unfold mRd
  rw [if_neg hc, if_neg hl]
theorem n_readMove46 (h : mAt mem M) (N : mS) (hn : m_ty N = nI n) (hn60 : n ≤ 60) (q : Nat × Int32) (to : Nat → Int32) (j : Nat) (hs : q.1 < 700) (hj : j ≤ 30) (b : Int32) (hb : b = b2i (mStt (mLt (m_bu N) n q.1))) (P : mPp) (hP : mRd (m_bu N) n (q, to, j) = P) : E G kX4_readMove (x_R none (mPut mem (mQ N P.2.1 P.2.2 P.1))) 0 0 (mPut mem (mQ N to j q)) 46 (x_L [(0, .ref 86), (1, .int (mLt (m_bu N) n q.1))]) [.int b, .ref 86] := by
  obtain ⟨l, hl'⟩ : ∃ l, mLt (m_bu N) n q.1 = l := ⟨_, rfl⟩
  obtain ⟨qa, hqa⟩ : ∃ qa, mW b q = qa := ⟨_, rfl⟩
  obtain ⟨ta, hta⟩ : ∃ ta, upd to (3 * j) l = ta := ⟨_, rfl⟩
  obtain ⟨na, hna⟩ : ∃ na, mNu (m_bu N) n qa = na := ⟨_, rfl⟩
  obtain ⟨tb, htb⟩ : ∃ tb, upd ta (3 * j + 1) na.1 = tb := ⟨_, rfl⟩
  obtain ⟨qc, hqc⟩ : ∃ qc, mW (b2i ((mLt (m_bu N) n na.2.1).toInt = 62)) na.2 = qc := ⟨_, rfl⟩
  obtain ⟨nc, hnc⟩ : ∃ nc, mNu (m_bu N) n qc = nc := ⟨_, rfl⟩
  obtain ⟨tc, htc⟩ : ∃ tc, upd tb (3 * j + 2) nc.1 = tc := ⟨_, rfl⟩
  have s1 : q.1 ≤ qa.1 ∧ qa.1 ≤ q.1 + 1 := hqa ▸ mW_s b q
  have s2 : qa.1 ≤ na.2.1 ∧ na.2.1 ≤ qa.1 + 2 := hna ▸ mNu_s (m_bu N) n qa
  have s3 : na.2.1 ≤ qc.1 ∧ qc.1 ≤ na.2.1 + 1 := hqc ▸ mW_s _ na.2
  have hqa' : mW (b2i (mStt (mLt (m_bu N) n q.1))) q = qa := hb ▸ hqa
  have hta' : upd to (3 * j) (mLt (m_bu N) n q.1) = ta := hl'.symm ▸ hta
  rw [hl']
  by_cases hc : l.toInt = 99
  · have e := mRd_c (m_bu N) n (q, to, j) (show (mLt (m_bu N) n q.1).toInt = 99 by rw [hl']; exact hc) qa qc na nc ta tb tc hqa' hta' hna htb hqc hnc htc
    rw [e] at hP
    subst hP
    exact n_rm46c h N hn hn60 to ta tb tc j hj q qa qc (by omega) na nc (by omega) (by omega) l b hc hqa hta hna htb hqc hnc htc
  · by_cases hl : l.toInt = 108
    · have e := mRd_l (m_bu N) n (q, to, j) (show ¬ (mLt (m_bu N) n q.1).toInt = 99 by rw [hl']; exact hc) (show (mLt (m_bu N) n q.1).toInt = 108 by rw [hl']; exact hl) qa na ta tb hqa' hta' hna htb
      rw [e] at hP
      subst hP
      exact n_rm46l h N hn hn60 to ta tb j hj q qa (by omega) na l b hc hl hqa hta hna htb
    · have e := mRd_o (m_bu N) n (q, to, j) (show ¬ (mLt (m_bu N) n q.1).toInt = 99 by rw [hl']; exact hc) (show ¬ (mLt (m_bu N) n q.1).toInt = 108 by rw [hl']; exact hl) qa ta hqa' hta'
      rw [e] at hP
      subst hP
      exact n_rm46o h N to ta j hj q qa l b hc hl hqa hta
theorem n_readMove (h : mAt mem M) (N : mS) (hn : m_ty N = nI n) (hn60 : n ≤ 60) (q : Nat × Int32) (to : Nat → Int32) (j : Nat) (hs : q.1 < 700) (hj : j ≤ 30) (P : mPp) (hP : mRd (m_bu N) n (q, to, j) = P) : Dt G kX4_readMove [.ref 86] (mPut mem (mQ N to j q)) none (mPut mem (mQ N P.2.1 P.2.2 P.1)) := by
  obtain ⟨a0, a1, a2⟩ := mQ_at h N to j q
  have hl := q_letter (G := G) h N hn hn60 to j q (by omega)
  have rest := fun b hb => n_readMove46 (G := G) h N hn hn60 q to j hs hj b hb P hP
  obtain ⟨l, hl'⟩ : ∃ l, mLt (m_bu N) n q.1 = l := ⟨_, rfl⟩
  rw [hl'] at hl rest
  have R : ∀ b, b = b2i (mStt l) → ∀ loc, x_has loc [(0, .ref 86), (1, .int l)] → E G kX4_readMove (x_R none (mPut mem (mQ N P.2.1 P.2.2 P.1))) 0 0 (mPut mem (mQ N to j q)) 46 loc [.int b, .ref 86] := fun b hb loc hl => E_loc _ hl (rest b hb)
  refine Ct_of (by decide) (Nat.le_of_ble_eq_true rfl) ?_
  refine E_aload_n dX4_readMove_0 (by rfl) ?_
  refine cs_X4_readMove_1 (by assumption) (Nat.le_of_ble_eq_true rfl) hl ?_
  refine E_istore_n dX4_readMove_4 (Nat.le_of_ble_eq_true rfl) (by rfl) ?_
  refine E_aload_n dX4_readMove_5 (by rfl) ?_
  refine E_iload_n dX4_readMove_6 (by rfl) ?_
  refine E_bipush (v := 49) dX4_readMove_7 (by decide) ?_
  refine E_bipush (v := 54) dX4_readMove_9 (by decide) ?_
  refine cs_X4_readMove_11 (Nat.le_of_ble_eq_true rfl) (n_in _ _ _) ?_
  refine E_if_ne (tgt := 41) dX4_readMove_14 (by decide) (fun q14 => ?_) (fun q14 => ?_)
  · rw [b2i_T0] at q14; have q14 : 49 ≤ l.toInt ∧ l.toInt ≤ 54 := Classical.not_not.mp q14; have hb : b2i (mStt l) = 1 := b2i_t (Or.inl q14)
    refine E_iconst (v := 1) dX4_readMove_41 (by decide) ?_
    refine E_goto (tgt := 46) dX4_readMove_42 (by decide) ?_
    exact R _ hb.symm _ ⟨rfl, rfl, trivial⟩
  · rw [b2i_T0] at q14; have q14 : ¬ (49 ≤ l.toInt ∧ l.toInt ≤ 54) := q14
    refine E_iload_n dX4_readMove_17 (by rfl) ?_
    refine E_bipush (v := 112) dX4_readMove_18 (by decide) ?_
    refine E_icmp_eq (n := 112) (by decide) (tgt := 41) dX4_readMove_20 (by decide) (fun q20 => ?_) (fun q20 => ?_)
    · have hb : b2i (mStt l) = 1 := b2i_t (Or.inr (Or.inl q20))
      refine E_iconst (v := 1) dX4_readMove_41 (by decide) ?_
      refine E_goto (tgt := 46) dX4_readMove_42 (by decide) ?_
      exact R _ hb.symm _ ⟨rfl, rfl, trivial⟩
    · refine E_iload_n dX4_readMove_23 (by rfl) ?_
      refine E_bipush (v := 106) dX4_readMove_24 (by decide) ?_
      refine E_icmp_eq (n := 106) (by decide) (tgt := 41) dX4_readMove_26 (by decide) (fun q26 => ?_) (fun q26 => ?_)
      · have hb : b2i (mStt l) = 1 := b2i_t (Or.inr (Or.inr (Or.inl q26)))
        refine E_iconst (v := 1) dX4_readMove_41 (by decide) ?_
        refine E_goto (tgt := 46) dX4_readMove_42 (by decide) ?_
        exact R _ hb.symm _ ⟨rfl, rfl, trivial⟩
      · refine E_iload_n dX4_readMove_29 (by rfl) ?_
        refine E_bipush (v := 99) dX4_readMove_30 (by decide) ?_
        refine E_icmp_eq (n := 99) (by decide) (tgt := 41) dX4_readMove_32 (by decide) (fun q32 => ?_) (fun q32 => ?_)
        · have hb : b2i (mStt l) = 1 := b2i_t (Or.inr (Or.inr (Or.inr (Or.inl q32))))
          refine E_iconst (v := 1) dX4_readMove_41 (by decide) ?_
          refine E_goto (tgt := 46) dX4_readMove_42 (by decide) ?_
          exact R _ hb.symm _ ⟨rfl, rfl, trivial⟩
        · refine E_iload_n dX4_readMove_35 (by rfl) ?_
          refine E_bipush (v := 108) dX4_readMove_36 (by decide) ?_
          refine E_icmp_ne (n := 108) (by decide) (tgt := 45) dX4_readMove_38 (by decide) (fun q38 => ?_) (fun q38 => ?_)
          · have hb : b2i (mStt l) = 0 := b2i_f (fun v => v.elim q14 (fun v => v.elim q20 (fun v => v.elim q26 (fun v => v.elim q32 q38))))
            refine E_iconst (v := 0) dX4_readMove_45 (by decide) ?_
            exact R _ hb.symm _ ⟨rfl, rfl, trivial⟩
          · have hb : b2i (mStt l) = 1 := b2i_t (Or.inr (Or.inr (Or.inr (Or.inr q38))))
            refine E_iconst (v := 1) dX4_readMove_41 (by decide) ?_
            refine E_goto (tgt := 46) dX4_readMove_42 (by decide) ?_
            exact R _ hb.symm _ ⟨rfl, rfl, trivial⟩
end N8
