/-! the reference: the text's error, its moves -/
section N9
variable {G : xG} {mem : xM} {M N : mS} {z f to : Nat → Int32} {t n k c m s j : Nat}
abbrev mEc (f : Nat → Int32) (n : Nat) (p : mPp) : Nat × Int32 := mW (b2i ((mLt f n p.1.1).toInt = 44)) p.1
def mEp (f : Nat → Int32) (n : Nat) : Nat → mPp → mPp
  | 0, p => p
  | u + 1, p => if (mRd f n p).1.2.toInt = -6 ∧ (mRd f n p).1.1 < n then (if (mEc f n (mRd f n p)).2.toInt = -6 then mEp f n u (mEc f n (mRd f n p), (mRd f n p).2) else (mEc f n (mRd f n p), (mRd f n p).2)) else mRd f n p
def mEk (f : Nat → Int32) (n : Nat) : Nat → mPp → Prop
  | 0, _ => False
  | u + 1, p => p.1.1 < 700 ∧ p.2.2 ≤ 30 ∧ (mRd f n p).1.1 < 900 ∧ ((mRd f n p).1.2.toInt = -6 ∧ (mRd f n p).1.1 < n → (mEc f n (mRd f n p)).2.toInt = -6 → mEk f n u (mEc f n (mRd f n p), (mRd f n p).2))
theorem n_ep92 (h : mAt mem M) (N : mS) (to : Nat → Int32) (j : Nat) (q : Nat × Int32) (loc : Nat → Option Value) (hl : x_has loc [(0, .ref 86), (1, .int 0)]) : E G kX4_errorPosition (x_R (some (.int q.2)) (mPut mem (mQ N to j q))) 0 0 (mPut mem (mQ N to j q)) 18 loc [] := by
  obtain ⟨a0, a1, a2⟩ := mQ_at h N to j q
  refine E_loc _ hl ?_
  refine E_iload_n dX4_errorPosition_18 (by rfl) ?_
  refine E_if_eq (tgt := 92) dX4_errorPosition_19 (by decide) (fun q19 => ?_) (fun q19 => ?_)
  · refine E_aload_n dX4_errorPosition_92 (by rfl) ?_
    refine gf_X4_150 dX4_errorPosition_93 rfl (by assumption) (by rfl) ?_
    refine E_iret dX4_errorPosition_96 rfl rfl (Nat.zero_le _) (Nat.zero_le _) ?_
    exact ⟨rfl, rfl⟩
  · exact absurd q19 (by decide)
theorem n_ep18 (h : mAt mem M) (N : mS) (hn : m_ty N = nI n) (hn60 : n ≤ 60) : ∀ (u : Nat) (q : Nat × Int32) (to : Nat → Int32) (j : Nat) (P : mPp), mEk (m_bu N) n u (q, to, j) → mEp (m_bu N) n u (q, to, j) = P → ∀ loc, x_has loc [(0, .ref 86), (1, .int 1)] → E G kX4_errorPosition (x_R (some (.int P.1.2)) (mPut mem (mQ N P.2.1 P.2.2 P.1))) 0 0 (mPut mem (mQ N to j q)) 18 loc [] := by
  have ety : (m_ty N).toInt = (n : Int) := by rw [hn]; exact nI_toInt (by omega)
  intro u
  induction u with
  | zero => intro q to j P hk _ _ _; exact absurd hk id
  | succ u ih =>
    intro q to j P hk hP loc hl
    obtain ⟨k1, k2, k3, k4⟩ := hk
    have k1 : q.1 < 700 := k1
    have k2 : j ≤ 30 := k2
    rw [mEp] at hP
    obtain ⟨r, hr⟩ : ∃ r, mRd (m_bu N) n (q, to, j) = r := ⟨_, rfl⟩
    rw [hr] at hP k3 k4
    obtain ⟨a0, a1, a2⟩ := mQ_at h N to j q
    obtain ⟨b0, b1, b2⟩ := mQ_at h N r.2.1 r.2.2 r.1
    obtain ⟨c, hc⟩ : ∃ c, mEc (m_bu N) n r = c := ⟨_, rfl⟩
    rw [hc] at hP k4
    obtain ⟨d0, d1, d2⟩ := mQ_at h N r.2.1 r.2.2 c
    have er : (nI r.1.1).toInt = (r.1.1 : Int) := nI_toInt (by omega)
    have e6 : (-6 : Int32).toInt = -6 := by decide
    have R0 : ∀ loc, x_has loc [(0, .ref 86), (1, .int 0)] → ¬ (r.1.2.toInt = -6 ∧ r.1.1 < n) → E G kX4_errorPosition (x_R (some (.int P.1.2)) (mPut mem (mQ N P.2.1 P.2.2 P.1))) 0 0 (mPut mem (mQ N r.2.1 r.2.2 r.1)) 18 loc [] := fun loc hl hno => by
      rw [if_neg hno] at hP
      subst hP
      exact n_ep92 h N _ _ _ loc hl
    have R1 : ∀ b, b = b2i ((mLt (m_bu N) n r.1.1).toInt = 44) → r.1.2.toInt = -6 ∧ r.1.1 < n → ∀ loc, x_has loc [(0, .ref 86)] → E G kX4_errorPosition (x_R (some (.int P.1.2)) (mPut mem (mQ N P.2.1 P.2.2 P.1))) 0 0 (mPut mem (mQ N r.2.1 r.2.2 r.1)) 71 loc [.int b, .ref 86] := fun b hb hyes loc hl => by
      subst hb
      rw [if_pos hyes] at hP
      refine E_loc _ hl ?_
      refine cs_X4_errorPosition_71 (by assumption) (Nat.le_of_ble_eq_true rfl) (q_wants h N r.2.1 r.2.2 _ r.1 c hc) ?_
      refine E_aload_n dX4_errorPosition_74 (by rfl) ?_
      refine gf_X4_150 dX4_errorPosition_75 rfl (by assumption) (by rfl) ?_
      refine E_bipush (v := (-6)) dX4_errorPosition_78 (by decide) ?_
      refine E_icmp_ne (n := (-6)) (by decide) (tgt := 87) dX4_errorPosition_80 (by decide) (fun q80 => ?_) (fun q80 => ?_)
      · rw [if_neg q80] at hP
        subst hP
        refine E_iconst (v := 0) dX4_errorPosition_87 (by decide) ?_
        refine E_istore_n dX4_errorPosition_88 (Nat.le_of_ble_eq_true rfl) (by rfl) ?_
        refine E_goto (tgt := 18) dX4_errorPosition_89 (by decide) ?_
        exact n_ep92 h N _ _ _ _ ⟨rfl, rfl, trivial⟩
      · rw [if_pos q80] at hP
        refine E_iconst (v := 1) dX4_errorPosition_83 (by decide) ?_
        refine E_goto (tgt := 88) dX4_errorPosition_84 (by decide) ?_
        refine E_istore_n dX4_errorPosition_88 (Nat.le_of_ble_eq_true rfl) (by rfl) ?_
        refine E_goto (tgt := 18) dX4_errorPosition_89 (by decide) ?_
        exact ih c r.2.1 r.2.2 P (k4 hyes q80) hP _ ⟨rfl, rfl, trivial⟩
    have K0 : ¬ (r.1.2.toInt = -6 ∧ r.1.1 < n) → ∀ loc, x_has loc [(0, .ref 86)] → E G kX4_errorPosition (x_R (some (.int P.1.2)) (mPut mem (mQ N P.2.1 P.2.2 P.1))) 0 0 (mPut mem (mQ N r.2.1 r.2.2 r.1)) 51 loc [.int 0] := fun hno loc hl => by
      refine E_loc _ hl ?_
      refine E_istore_n dX4_errorPosition_51 (Nat.le_of_ble_eq_true rfl) (by rfl) ?_
      refine E_iload_n dX4_errorPosition_52 (by rfl) ?_
      refine E_if_eq (tgt := 18) dX4_errorPosition_53 (by decide) (fun q53 => ?_) (fun q53 => ?_)
      · exact R0 _ ⟨rfl, rfl, trivial⟩ hno
      · exact absurd q53 (by decide)
    have K1 : r.1.2.toInt = -6 ∧ r.1.1 < n → ∀ loc, x_has loc [(0, .ref 86)] → E G kX4_errorPosition (x_R (some (.int P.1.2)) (mPut mem (mQ N P.2.1 P.2.2 P.1))) 0 0 (mPut mem (mQ N r.2.1 r.2.2 r.1)) 51 loc [.int 1] := fun hyes loc hl => by
      refine E_loc _ hl ?_
      refine E_istore_n dX4_errorPosition_51 (Nat.le_of_ble_eq_true rfl) (by rfl) ?_
      refine E_iload_n dX4_errorPosition_52 (by rfl) ?_
      refine E_if_eq (tgt := 18) dX4_errorPosition_53 (by decide) (fun q53 => ?_) (fun q53 => ?_)
      · exact absurd q53 (by decide)
      · refine E_aload_n dX4_errorPosition_56 (by rfl) ?_
        refine E_aload_n dX4_errorPosition_57 (by rfl) ?_
        refine cs_X4_errorPosition_58 (by assumption) (Nat.le_of_ble_eq_true rfl) (q_letter h N hn hn60 r.2.1 r.2.2 r.1 (by omega)) ?_
        refine E_bipush (v := 44) dX4_errorPosition_61 (by decide) ?_
        refine E_icmp_ne (n := 44) (by decide) (tgt := 70) dX4_errorPosition_63 (by decide) (fun q63 => ?_) (fun q63 => ?_)
        · refine E_iconst (v := 0) dX4_errorPosition_70 (by decide) ?_
          exact R1 0 (b2i_f q63).symm hyes _ ⟨rfl, trivial⟩
        · refine E_iconst (v := 1) dX4_errorPosition_66 (by decide) ?_
          refine E_goto (tgt := 71) dX4_errorPosition_67 (by decide) ?_
          exact R1 1 (b2i_t q63).symm hyes _ ⟨rfl, trivial⟩
    refine E_loc _ hl ?_
    refine E_iload_n dX4_errorPosition_18 (by rfl) ?_
    refine E_if_eq (tgt := 92) dX4_errorPosition_19 (by decide) (fun q19 => ?_) (fun q19 => ?_)
    · exact absurd q19 (by decide)
    · refine E_aload_n dX4_errorPosition_22 (by rfl) ?_
      refine cs_X4_errorPosition_23 (by assumption) (Nat.le_of_ble_eq_true rfl) (n_readMove h N hn hn60 q to j k1 k2 r hr) ?_
      refine E_aload_n dX4_errorPosition_26 (by rfl) ?_
      refine gf_X4_150 dX4_errorPosition_27 rfl (by assumption) (by rfl) ?_
      refine E_bipush (v := (-6)) dX4_errorPosition_30 (by decide) ?_
      refine E_icmp_ne (n := (-6)) (by decide) (tgt := 50) dX4_errorPosition_32 (by decide) (fun q32 => ?_) (fun q32 => ?_)
      · refine E_iconst (v := 0) dX4_errorPosition_50 (by decide) ?_
        exact K0 (fun v => q32 v.1) _ ⟨rfl, trivial⟩
      · refine E_aload_n dX4_errorPosition_35 (by rfl) ?_
        refine gf_X4_147 dX4_errorPosition_36 rfl (by assumption) (by rfl) ?_
        refine E_aload_n dX4_errorPosition_39 (by rfl) ?_
        refine gf_X4_144 dX4_errorPosition_40 rfl (by assumption) (by rfl) ?_
        refine E_icmp_ge (n := _) rfl (tgt := 50) dX4_errorPosition_43 (by decide) (fun q43 => ?_) (fun q43 => ?_)
        · refine E_iconst (v := 0) dX4_errorPosition_50 (by decide) ?_
          exact K0 (fun v => absurd v.2 (by omega)) _ ⟨rfl, trivial⟩
        · refine E_iconst (v := 1) dX4_errorPosition_46 (by decide) ?_
          refine E_goto (tgt := 51) dX4_errorPosition_47 (by decide) ?_
          exact K1 ⟨q32, by omega⟩ _ ⟨rfl, trivial⟩
/-- the reading from its beginning -/
abbrev mEs (N : mS) (n : Nat) : mPp := mEp (m_bu N) n 40 ((0, -6), m_to N, 0)
theorem mS_O1 (h : mAt mem M) (N : mS) (x : Int32) : (mPut mem N).set 86 (m_o (m_pm N) (m_ik N) (m_ty N) x (m_sp N) (m_wr N)) = mPut mem (m_wtm N x) := mS_O h N (m_wtm N x) ⟨rfl, rfl, rfl, rfl, rfl, rfl, rfl⟩
theorem mS_O2 (h : mAt mem M) (N : mS) (x y : Int32) : (mPut mem (m_wtm N x)).set 86 (m_o (m_pm N) (m_ik N) (m_ty N) x y (m_wr N)) = mPut mem (m_wsp (m_wtm N x) y) := mS_O h _ (m_wsp (m_wtm N x) y) ⟨rfl, rfl, rfl, rfl, rfl, rfl, rfl⟩
theorem mS_O3 (h : mAt mem M) (N : mS) (x y w : Int32) : (mPut mem (m_wsp (m_wtm N x) y)).set 86 (m_o (m_pm N) (m_ik N) (m_ty N) x y w) = mPut mem (m_wwr (m_wsp (m_wtm (m_wto N (m_to N)) x) y) w) := mS_O h _ (m_wwr (m_wsp (m_wtm N x) y) w) ⟨rfl, rfl, rfl, rfl, rfl, rfl, rfl⟩
theorem n_errorPosition (h : mAt mem M) (hn : m_ty M = nI n) (hn60 : n ≤ 60) (hk : mEk (m_bu M) n 40 ((0, -6), m_to M, 0)) (P : mPp) (hP : mEs M n = P) : Dt G kX4_errorPosition [.ref 86] mem (some (.int P.1.2)) (mPut mem (mQ M P.2.1 P.2.2 P.1)) := by
  obtain ⟨a0, _⟩ := mAt_put h M
  have b0 : (mPut mem (m_wtm M 0))[86]? = some (m_o (m_pm M) (m_ik M) (m_ty M) 0 (m_sp M) (m_wr M)) := (mAt_put h (m_wtm M 0)).1
  have c0 : (mPut mem (m_wsp (m_wtm M 0) 0))[86]? = some (m_o (m_pm M) (m_ik M) (m_ty M) 0 0 (m_wr M)) := (mAt_put h (m_wsp (m_wtm M 0) 0)).1
  refine Ct_of (by decide) (Nat.le_of_ble_eq_true rfl) ?_
  refine E_mem (mPut_self h).symm ?_
  refine E_aload_n dX4_errorPosition_0 (by rfl) ?_
  refine E_iconst (v := 0) dX4_errorPosition_1 (by decide) ?_
  refine pf_X4_160 dX4_errorPosition_2 rfl (by assumption) (Nat.le_of_ble_eq_true rfl) ?_
  refine E_mem (mS_O1 h M 0) ?_
  refine E_aload_n dX4_errorPosition_5 (by rfl) ?_
  refine E_iconst (v := 0) dX4_errorPosition_6 (by decide) ?_
  refine pf_X4_147 dX4_errorPosition_7 rfl (by assumption) (Nat.le_of_ble_eq_true rfl) ?_
  refine E_mem (mS_O2 h M 0 0) ?_
  refine E_aload_n dX4_errorPosition_10 (by rfl) ?_
  refine E_bipush (v := (-6)) dX4_errorPosition_11 (by decide) ?_
  refine pf_X4_150 dX4_errorPosition_13 rfl (by assumption) (Nat.le_of_ble_eq_true rfl) ?_
  refine E_mem (mS_O3 h M 0 0 (-6)) ?_
  refine E_iconst (v := 1) dX4_errorPosition_16 (by decide) ?_
  refine E_istore_n dX4_errorPosition_17 (Nat.le_of_ble_eq_true rfl) (by rfl) ?_
  exact n_ep18 h M hn hn60 40 (0, -6) (m_to M) 0 P hk hP _ ⟨rfl, rfl, trivial⟩
end N9
