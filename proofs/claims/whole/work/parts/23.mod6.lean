/-! the reference: rolls to the top -/
section N6
variable {G : xG} {mem : xM} {M N : mS} {z : Nat → Int32} {t n k c m d s : Nat}
theorem mre_at (h : mAt mem M) (f : Nat → Int32) : (mPut mem (m_wre M f))[86]? = some (m_O M) ∧ (mPut mem (m_wre M f))[87]? = some (g_a 0 118 (m_z M)) ∧ (mPut mem (m_wre M f))[92]? = some (g_a 0 61 f) := ⟨(mAt_put h (m_wre M f)).1, (mAt_put h (m_wre M f)).2.1, (mAt_put h (m_wre M f)).2.2.2.2.2.2.1⟩
theorem mre_set (h : mAt mem M) (f g : Nat → Int32) : (mPut mem (m_wre M f)).set 92 (g_a 0 61 g) = mPut mem (m_wre M g) := mS_re h (m_wre M f) g
def mDs (z : Nat → Int32) (k s : Nat) : Int32 := if (mCF z (nI s) k).toInt = -6 then nI s else z (45 + 2 * (mCF z (nI s) k).toNatClampNeg)
def mI0 (d : Nat) (f : Nat → Int32) (x : Nat) : Nat → Int32 := upd f x (if (f x).toInt = -6 then nI d else f x)
def mI1 (z : Nat → Int32) (k d s : Nat) : Nat → (Nat → Int32) → Nat → Int32
  | 0, f => f
  | u + 1, f => mI0 d (mI1 z k d s u f) (mDs z k (s + u + 1)).toNatClampNeg
abbrev mIc (f : Nat → Int32) (d s : Nat) : Prop := (f s).toInt + 1 = d
def mSt (z : Nat → Int32) (k d s : Nat) (f : Nat → Int32) : Nat → Int32 := if mIc f d s then mI1 z k d s 6 f else f
def mI2 (z : Nat → Int32) (k d : Nat) : Nat → (Nat → Int32) → Nat → Int32
  | 0, f => f
  | s + 1, f => mSt z k d s (mI2 z k d s f)
theorem mI0_keep {f : Nat → Int32} {x : Nat} (hs : (f s).toInt ≠ -6) : mI0 d f x s = f s := by
  unfold mI0 upd
  split
  · rename_i e
    subst e
    rw [if_neg hs]
  · rfl
theorem mI1_keep {f : Nat → Int32} {r : Nat} (hs : (f r).toInt ≠ -6) : ∀ u, mI1 z k d s u f r = f r := by
  intro u
  induction u with
  | zero => rfl
  | succ u ih => rw [mI1, mI0_keep (by rw [ih]; exact hs), ih]
abbrev mRt (mem : xM) (M : mS) (x : Int32) : Option Value → xM → Prop := fun v m => v = some (.int x) ∧ ∃ f, m = mPut mem (m_wre M f)
theorem r2_carpetFrom (h : mAt mem M) (f : Nat → Int32) (hk : m_z M 3 = nI k) (hk6 : k ≤ 6) (x : Int32) : Dt G kX4_carpetFrom [.ref 86, .int x] (mPut mem (m_wre M f)) (some (.int (mCF (m_z M) x k))) (mPut mem (m_wre M f)) := n_carpetFrom (mAt_put h (m_wre M f)) hk hk6 x
theorem r2_lower (h : mAt mem M) (f : Nat → Int32) (j : Nat) (hj : j ≤ 6) : Dt G kX4_lower [.ref 86, .int (nI j)] (mPut mem (m_wre M f)) (some (.int (m_z M (45 + 2 * j)))) (mPut mem (m_wre M f)) := n_lower (mAt_put h (m_wre M f)) j hj
theorem r2_pl (h : mAt mem M) (f : Nat → Int32) (c : Nat) (hc : c < 6) : Dt G kX4_of [.ref 86, .int (nI c), .int (nI 0)] (mPut mem (m_wre M f)) (some (.int (m_z M (8 + 6 * c)))) (mPut mem (m_wre M f)) := n_of (mAt_put h (m_wre M f)) c 0 hc (by decide)
theorem n_rt67 (h : mAt mem M) (hk : m_z M 3 = nI k) (hk6 : k ≤ 6) (h0 : m_z M 0 = nI t) (ht60 : t ≤ 60) (hd1 : 1 ≤ d) (hd61 : d ≤ 61) (hs : s < t) (hds : ∀ s, s < t → 0 ≤ (mDs (m_z M) k s).toInt ∧ (mDs (m_z M) k s).toInt ≤ 60) (x : Int32) (f : Nat → Int32) (hit : mIc f d s → s + 6 < t) (R : Option Value → xM → Prop)
    (kk : E G kX4_rollsToTop R 0 0 (mPut mem (m_wre M (mSt (m_z M) k d s f))) 54 (x_L [(0, .ref 86), (1, .int x), (2, .int (nI d)), (3, .int (nI (s + 1)))]) []) :
    E G kX4_rollsToTop R 0 0 (mPut mem (m_wre M f)) 67 (x_L [(0, .ref 86), (1, .int x), (2, .int (nI d)), (3, .int (nI s)), (4, .int 1)]) [] := by
  have es : (nI s).toInt = (s : Int) := nI_toInt (by omega)
  have esc : (nI s).toNatClampNeg = s := nI_clamp (by omega)
  have ed : (nI d - 1).toInt = (d : Int) - 1 := by rw [show nI d - 1 = nI (d - 1) from pk_sub hd1, nI_toInt (by omega)]; omega
  have w0 : (0 : Int32).toNatClampNeg = 0 := by decide
  have et : (nI t).toInt = (t : Int) := nI_toInt (by omega)
  by_cases hc : mIc f d s
  · have hsf : (f s).toInt ≠ -6 := fun e => by have : (f s).toInt + 1 = d := hc; omega
    have hh := hit hc
    rw [mSt, if_pos hc] at kk
    have loop : ∀ di i : Nat, 7 < i + di → i ≤ 7 → (1 ≤ i) → E G kX4_rollsToTop R 0 0 ((mPut mem (m_wre M (mI1 (m_z M) k d s (i - 1) f)))) 67 (x_L [(0, .ref 86), (1, .int x), (2, .int (nI d)), (3, .int (nI s)), (4, .int (nI i))]) [] := by
      intro di
      induction di with
      | zero => intro i hi1 hi2 _; exact absurd hi1 (by omega)
      | succ di ihi =>
        intro i hi1 hi2 hinv
        have ei : (nI i).toInt = (i : Int) := nI_toInt (by omega)
        have eci : (nI i).toNatClampNeg = i := nI_clamp (by omega)
        obtain ⟨a0, a1, a2⟩ := mre_at h (mI1 (m_z M) k d s (i - 1) f)
        have hf : mI1 (m_z M) k d s (i - 1) f s = f s := mI1_keep hsf _
        have hc' : (f s).toInt + 1 = d := hc
        have e5 : nI s + nI i = nI (s + i) := nI_add s i
        have e5i : (nI (s + i)).toInt = ((s + i : Nat) : Int) := nI_toInt (by omega)
        have hne : i ≤ 6 → 0 ≤ (mDs (m_z M) k (s + i)).toInt ∧ (mDs (m_z M) k (s + i)).toInt ≤ 60 := fun hi => hds (s + i) (by omega)
        refine E_iload dX4_rollsToTop_67 (by rfl) ?_
        refine E_bipush (v := 6) dX4_rollsToTop_69 (by decide) ?_
        refine E_icmp_gt (n := 6) (by decide) (tgt := 169) dX4_rollsToTop_71 (by decide) (fun q71 => ?_) (fun q71 => ?_)
        · obtain rfl : i = 7 := by omega
          refine E_iinc (d := 1) dX4_rollsToTop_169 (by rfl) (by decide) (Nat.le_of_ble_eq_true rfl) (by rfl) ?_
          refine E_goto (tgt := 54) dX4_rollsToTop_172 (by decide) ?_
          exact E_loc [(0, .ref 86), (1, .int x), (2, .int (nI d)), (3, .int (nI (s + 1)))] ⟨rfl, rfl, rfl, x_i (nI_1 s), trivial⟩ kk
        · refine E_aload_n dX4_rollsToTop_74 (by rfl) ?_
          refine gf_X4_26 dX4_rollsToTop_75 rfl (by assumption) (by rfl) ?_
          refine E_iload_n dX4_rollsToTop_78 (by rfl) ?_
          refine E_iald dX4_rollsToTop_79 (by assumption) (i_in (by omega) (by omega)) ?_
          refine E_iload_n dX4_rollsToTop_80 (by rfl) ?_
          refine E_iconst (v := 1) dX4_rollsToTop_81 (by decide) ?_
          refine E_isub dX4_rollsToTop_82 ?_
          rw [esc, hf]
          refine E_icmp_ne (n := _) rfl (tgt := 169) dX4_rollsToTop_83 (by decide) (fun q83 => ?_) (fun q83 => ?_)
          · exact absurd hc' (by omega)
          · refine E_iload_n dX4_rollsToTop_86 (by rfl) ?_
            refine E_iload dX4_rollsToTop_87 (by rfl) ?_
            refine E_iadd dX4_rollsToTop_89 ?_
            rw [e5]
            refine E_istore dX4_rollsToTop_90 (Nat.le_of_ble_eq_true rfl) (by rfl) ?_
            refine E_iload dX4_rollsToTop_92 (by rfl) ?_
            refine E_aload_n dX4_rollsToTop_94 (by rfl) ?_
            refine gf_X4_7 dX4_rollsToTop_95 rfl (by assumption) (by rfl) ?_
            refine E_iconst (v := 0) dX4_rollsToTop_98 (by decide) ?_
            refine E_iald dX4_rollsToTop_99 (by assumption) (i_in (by decide) (by decide)) ?_
            rw [w0, h0]
            refine E_icmp_lt (n := _) rfl (tgt := 105) dX4_rollsToTop_100 (by decide) (fun q100 => ?_) (fun q100 => ?_)
            · refine E_aload_n dX4_rollsToTop_105 (by rfl) ?_
              refine E_iload dX4_rollsToTop_106 (by rfl) ?_
              refine cs_X4_rollsToTop_108 (by assumption) (Nat.le_of_ble_eq_true rfl) (r2_carpetFrom h (mI1 (m_z M) k d s (i - 1) f) hk hk6 (nI (s + i))) ?_
              refine E_istore dX4_rollsToTop_111 (Nat.le_of_ble_eq_true rfl) (by rfl) ?_
              refine E_iload dX4_rollsToTop_113 (by rfl) ?_
              refine E_bipush (v := (-6)) dX4_rollsToTop_115 (by decide) ?_
              refine E_icmp_ne (n := (-6)) (by decide) (tgt := 125) dX4_rollsToTop_117 (by decide) (fun q117 => ?_) (fun q117 => ?_)
              · refine E_aload_n dX4_rollsToTop_125 (by rfl) ?_
                refine E_iload dX4_rollsToTop_126 (by rfl) ?_
                rcases mCF_cases (m_z M) (nI (s + i)) k with ⟨ec, _⟩ | ⟨j, hj, ec, _⟩
                · exact absurd (by rw [ec]; decide) q117
                have ejc : (nI j).toNatClampNeg = j := nI_clamp (by omega)
                rw [ec]
                have hx : mDs (m_z M) k (s + i) = m_z M (45 + 2 * j) := by rw [mDs, if_neg q117, ec, ejc]
                refine cs_X4_rollsToTop_128 (by assumption) (Nat.le_of_ble_eq_true rfl) (r2_lower h (mI1 (m_z M) k d s (i - 1) f) j (by omega)) ?_
                refine E_istore dX4_rollsToTop_131 (Nat.le_of_ble_eq_true rfl) (by rfl) ?_
                have hD : 0 ≤ (mDs (m_z M) k (s + i)).toInt ∧ (mDs (m_z M) k (s + i)).toInt ≤ 60 := hne (by omega)
                rw [hx] at hD
                refine E_aload_n dX4_rollsToTop_133 (by rfl) ?_
                refine gf_X4_26 dX4_rollsToTop_134 rfl (by assumption) (by rfl) ?_
                refine E_iload dX4_rollsToTop_137 (by rfl) ?_
                refine E_aload_n dX4_rollsToTop_139 (by rfl) ?_
                refine gf_X4_26 dX4_rollsToTop_140 rfl (by assumption) (by rfl) ?_
                refine E_iload dX4_rollsToTop_143 (by rfl) ?_
                refine E_iald dX4_rollsToTop_145 (by assumption) (i_in (by omega) (by omega)) ?_
                refine E_bipush (v := (-6)) dX4_rollsToTop_146 (by decide) ?_
                refine E_icmp_ne (n := (-6)) (by decide) (tgt := 155) dX4_rollsToTop_148 (by decide) (fun q148 => ?_) (fun q148 => ?_)
                · refine E_aload_n dX4_rollsToTop_155 (by rfl) ?_
                  refine gf_X4_26 dX4_rollsToTop_156 rfl (by assumption) (by rfl) ?_
                  refine E_iload dX4_rollsToTop_159 (by rfl) ?_
                  refine E_iald dX4_rollsToTop_161 (by assumption) (i_in (by omega) (by omega)) ?_
                  refine E_iast dX4_rollsToTop_162 (by assumption) (i_in (by omega) (by omega)) ?_
                  refine E_iinc (d := 1) dX4_rollsToTop_163 (by rfl) (by decide) (Nat.le_of_ble_eq_true rfl) (by rfl) ?_
                  refine E_goto (tgt := 67) dX4_rollsToTop_166 (by decide) ?_
                  refine E_mem ((mre_set h _ _).trans (congrArg (fun g => mPut mem (m_wre M g)) (show _ = mI1 (m_z M) k d s (i + 1 - 1) f by rw [show i + 1 - 1 = (i - 1) + 1 by omega, mI1, show s + (i - 1) + 1 = s + i by omega, hx, mI0]; first | rw [if_pos q148] | rw [if_neg q148]))) ?_
                  exact E_loc [(0, .ref 86), (1, .int x), (2, .int (nI d)), (3, .int (nI s)), (4, .int (nI (i + 1)))] ⟨rfl, rfl, rfl, rfl, x_i (by first | exact nI_1 _ | decide), trivial⟩ (ihi (i + 1) (by omega) (by omega) (by omega))
                · refine E_iload_n dX4_rollsToTop_151 (by rfl) ?_
                  refine E_goto (tgt := 162) dX4_rollsToTop_152 (by decide) ?_
                  refine E_iast dX4_rollsToTop_162 (by assumption) (i_in (by omega) (by omega)) ?_
                  refine E_iinc (d := 1) dX4_rollsToTop_163 (by rfl) (by decide) (Nat.le_of_ble_eq_true rfl) (by rfl) ?_
                  refine E_goto (tgt := 67) dX4_rollsToTop_166 (by decide) ?_
                  refine E_mem ((mre_set h _ _).trans (congrArg (fun g => mPut mem (m_wre M g)) (show _ = mI1 (m_z M) k d s (i + 1 - 1) f by rw [show i + 1 - 1 = (i - 1) + 1 by omega, mI1, show s + (i - 1) + 1 = s + i by omega, hx, mI0]; first | rw [if_pos q148] | rw [if_neg q148]))) ?_
                  exact E_loc [(0, .ref 86), (1, .int x), (2, .int (nI d)), (3, .int (nI s)), (4, .int (nI (i + 1)))] ⟨rfl, rfl, rfl, rfl, x_i (by first | exact nI_1 _ | decide), trivial⟩ (ihi (i + 1) (by omega) (by omega) (by omega))
              · have hx : mDs (m_z M) k (s + i) = nI (s + i) := if_pos q117
                refine E_iload dX4_rollsToTop_120 (by rfl) ?_
                refine E_goto (tgt := 131) dX4_rollsToTop_122 (by decide) ?_
                refine E_istore dX4_rollsToTop_131 (Nat.le_of_ble_eq_true rfl) (by rfl) ?_
                have hD : 0 ≤ (mDs (m_z M) k (s + i)).toInt ∧ (mDs (m_z M) k (s + i)).toInt ≤ 60 := hne (by omega)
                rw [hx] at hD
                refine E_aload_n dX4_rollsToTop_133 (by rfl) ?_
                refine gf_X4_26 dX4_rollsToTop_134 rfl (by assumption) (by rfl) ?_
                refine E_iload dX4_rollsToTop_137 (by rfl) ?_
                refine E_aload_n dX4_rollsToTop_139 (by rfl) ?_
                refine gf_X4_26 dX4_rollsToTop_140 rfl (by assumption) (by rfl) ?_
                refine E_iload dX4_rollsToTop_143 (by rfl) ?_
                refine E_iald dX4_rollsToTop_145 (by assumption) (i_in (by omega) (by omega)) ?_
                refine E_bipush (v := (-6)) dX4_rollsToTop_146 (by decide) ?_
                refine E_icmp_ne (n := (-6)) (by decide) (tgt := 155) dX4_rollsToTop_148 (by decide) (fun q148 => ?_) (fun q148 => ?_)
                · refine E_aload_n dX4_rollsToTop_155 (by rfl) ?_
                  refine gf_X4_26 dX4_rollsToTop_156 rfl (by assumption) (by rfl) ?_
                  refine E_iload dX4_rollsToTop_159 (by rfl) ?_
                  refine E_iald dX4_rollsToTop_161 (by assumption) (i_in (by omega) (by omega)) ?_
                  refine E_iast dX4_rollsToTop_162 (by assumption) (i_in (by omega) (by omega)) ?_
                  refine E_iinc (d := 1) dX4_rollsToTop_163 (by rfl) (by decide) (Nat.le_of_ble_eq_true rfl) (by rfl) ?_
                  refine E_goto (tgt := 67) dX4_rollsToTop_166 (by decide) ?_
                  refine E_mem ((mre_set h _ _).trans (congrArg (fun g => mPut mem (m_wre M g)) (show _ = mI1 (m_z M) k d s (i + 1 - 1) f by rw [show i + 1 - 1 = (i - 1) + 1 by omega, mI1, show s + (i - 1) + 1 = s + i by omega, hx, mI0]; first | rw [if_pos q148] | rw [if_neg q148]))) ?_
                  exact E_loc [(0, .ref 86), (1, .int x), (2, .int (nI d)), (3, .int (nI s)), (4, .int (nI (i + 1)))] ⟨rfl, rfl, rfl, rfl, x_i (by first | exact nI_1 _ | decide), trivial⟩ (ihi (i + 1) (by omega) (by omega) (by omega))
                · refine E_iload_n dX4_rollsToTop_151 (by rfl) ?_
                  refine E_goto (tgt := 162) dX4_rollsToTop_152 (by decide) ?_
                  refine E_iast dX4_rollsToTop_162 (by assumption) (i_in (by omega) (by omega)) ?_
                  refine E_iinc (d := 1) dX4_rollsToTop_163 (by rfl) (by decide) (Nat.le_of_ble_eq_true rfl) (by rfl) ?_
                  refine E_goto (tgt := 67) dX4_rollsToTop_166 (by decide) ?_
                  refine E_mem ((mre_set h _ _).trans (congrArg (fun g => mPut mem (m_wre M g)) (show _ = mI1 (m_z M) k d s (i + 1 - 1) f by rw [show i + 1 - 1 = (i - 1) + 1 by omega, mI1, show s + (i - 1) + 1 = s + i by omega, hx, mI0]; first | rw [if_pos q148] | rw [if_neg q148]))) ?_
                  exact E_loc [(0, .ref 86), (1, .int x), (2, .int (nI d)), (3, .int (nI s)), (4, .int (nI (i + 1)))] ⟨rfl, rfl, rfl, rfl, x_i (by first | exact nI_1 _ | decide), trivial⟩ (ihi (i + 1) (by omega) (by omega) (by omega))
            · exact absurd hh (by omega)
    exact E_loc [(0, .ref 86), (1, .int x), (2, .int (nI d)), (3, .int (nI s)), (4, .int (nI 1))] ⟨rfl, rfl, rfl, rfl, rfl, trivial⟩ (loop (7 + 1) 1 (by omega) (by omega) (Nat.le_refl _))
  · rw [mSt, if_neg hc] at kk
    obtain ⟨a0, a1, a2⟩ := mre_at h f
    have hc' : ¬ (f s).toInt + 1 = d := hc
    refine E_iload dX4_rollsToTop_67 (by rfl) ?_
    refine E_bipush (v := 6) dX4_rollsToTop_69 (by decide) ?_
    refine E_icmp_gt (n := 6) (by decide) (tgt := 169) dX4_rollsToTop_71 (by decide) (fun q71 => ?_) (fun q71 => ?_)
    · exact absurd q71 (by decide)
    · refine E_aload_n dX4_rollsToTop_74 (by rfl) ?_
      refine gf_X4_26 dX4_rollsToTop_75 rfl (by assumption) (by rfl) ?_
      refine E_iload_n dX4_rollsToTop_78 (by rfl) ?_
      refine E_iald dX4_rollsToTop_79 (by assumption) (i_in (by omega) (by omega)) ?_
      refine E_iload_n dX4_rollsToTop_80 (by rfl) ?_
      refine E_iconst (v := 1) dX4_rollsToTop_81 (by decide) ?_
      refine E_isub dX4_rollsToTop_82 ?_
      rw [esc]
      refine E_icmp_ne (n := _) rfl (tgt := 169) dX4_rollsToTop_83 (by decide) (fun q83 => ?_) (fun q83 => ?_)
      · refine E_iinc (d := 1) dX4_rollsToTop_169 (by rfl) (by decide) (Nat.le_of_ble_eq_true rfl) (by rfl) ?_
        refine E_goto (tgt := 54) dX4_rollsToTop_172 (by decide) ?_
        exact E_loc [(0, .ref 86), (1, .int x), (2, .int (nI d)), (3, .int (nI (s + 1)))] ⟨rfl, rfl, rfl, x_i (nI_1 s), trivial⟩ kk
      · exact absurd q83 (by omega)
theorem n_rt67_hit (h : mAt mem M) (hk : m_z M 3 = nI k) (hk6 : k ≤ 6) (h0 : m_z M 0 = nI t) (ht60 : t ≤ 60) (hd1 : 1 ≤ d) (hd61 : d ≤ 61) (hs : s < t) (hds : ∀ s, s < t → 0 ≤ (mDs (m_z M) k s).toInt ∧ (mDs (m_z M) k s).toInt ≤ 60) (x : Int32) (f : Nat → Int32) (hc : mIc f d s) (hit : t ≤ s + 6) : E G kX4_rollsToTop (mRt mem M (nI d)) 0 0 (mPut mem (m_wre M f)) 67 (x_L [(0, .ref 86), (1, .int x), (2, .int (nI d)), (3, .int (nI s)), (4, .int 1)]) [] := by
  have es : (nI s).toInt = (s : Int) := nI_toInt (by omega)
  have esc : (nI s).toNatClampNeg = s := nI_clamp (by omega)
  have ed : (nI d - 1).toInt = (d : Int) - 1 := by rw [show nI d - 1 = nI (d - 1) from pk_sub hd1, nI_toInt (by omega)]; omega
  have w0 : (0 : Int32).toNatClampNeg = 0 := by decide
  have et : (nI t).toInt = (t : Int) := nI_toInt (by omega)
  have hsf : (f s).toInt ≠ -6 := fun e => by have : (f s).toInt + 1 = d := hc; omega
  have loop : ∀ di i : Nat, 6 < i + di → i ≤ 6 → (1 ≤ i ∧ s + i ≤ t) → E G kX4_rollsToTop (mRt mem M (nI d)) 0 0 ((mPut mem (m_wre M (mI1 (m_z M) k d s (i - 1) f)))) 67 (x_L [(0, .ref 86), (1, .int x), (2, .int (nI d)), (3, .int (nI s)), (4, .int (nI i))]) [] := by
    intro di
    induction di with
    | zero => intro i hi1 hi2 _; exact absurd hi1 (by omega)
    | succ di ihi =>
      intro i hi1 hi2 hinv
      have ei : (nI i).toInt = (i : Int) := nI_toInt (by omega)
      have eci : (nI i).toNatClampNeg = i := nI_clamp (by omega)
      obtain ⟨a0, a1, a2⟩ := mre_at h (mI1 (m_z M) k d s (i - 1) f)
      have hf : mI1 (m_z M) k d s (i - 1) f s = f s := mI1_keep hsf _
      have hc' : (f s).toInt + 1 = d := hc
      have e5 : nI s + nI i = nI (s + i) := nI_add s i
      have e5i : (nI (s + i)).toInt = ((s + i : Nat) : Int) := nI_toInt (by omega)
      have hne : s + i < t → 0 ≤ (mDs (m_z M) k (s + i)).toInt ∧ (mDs (m_z M) k (s + i)).toInt ≤ 60 := fun hi => hds (s + i) hi
      refine E_iload dX4_rollsToTop_67 (by rfl) ?_
      refine E_bipush (v := 6) dX4_rollsToTop_69 (by decide) ?_
      refine E_icmp_gt (n := 6) (by decide) (tgt := 169) dX4_rollsToTop_71 (by decide) (fun q71 => ?_) (fun q71 => ?_)
      · exact absurd q71 (by omega)
      · refine E_aload_n dX4_rollsToTop_74 (by rfl) ?_
        refine gf_X4_26 dX4_rollsToTop_75 rfl (by assumption) (by rfl) ?_
        refine E_iload_n dX4_rollsToTop_78 (by rfl) ?_
        refine E_iald dX4_rollsToTop_79 (by assumption) (i_in (by omega) (by omega)) ?_
        refine E_iload_n dX4_rollsToTop_80 (by rfl) ?_
        refine E_iconst (v := 1) dX4_rollsToTop_81 (by decide) ?_
        refine E_isub dX4_rollsToTop_82 ?_
        rw [esc, hf]
        refine E_icmp_ne (n := _) rfl (tgt := 169) dX4_rollsToTop_83 (by decide) (fun q83 => ?_) (fun q83 => ?_)
        · exact absurd hc' (by omega)
        · refine E_iload_n dX4_rollsToTop_86 (by rfl) ?_
          refine E_iload dX4_rollsToTop_87 (by rfl) ?_
          refine E_iadd dX4_rollsToTop_89 ?_
          rw [e5]
          refine E_istore dX4_rollsToTop_90 (Nat.le_of_ble_eq_true rfl) (by rfl) ?_
          refine E_iload dX4_rollsToTop_92 (by rfl) ?_
          refine E_aload_n dX4_rollsToTop_94 (by rfl) ?_
          refine gf_X4_7 dX4_rollsToTop_95 rfl (by assumption) (by rfl) ?_
          refine E_iconst (v := 0) dX4_rollsToTop_98 (by decide) ?_
          refine E_iald dX4_rollsToTop_99 (by assumption) (i_in (by decide) (by decide)) ?_
          rw [w0, h0]
          refine E_icmp_lt (n := _) rfl (tgt := 105) dX4_rollsToTop_100 (by decide) (fun q100 => ?_) (fun q100 => ?_)
          · refine E_aload_n dX4_rollsToTop_105 (by rfl) ?_
            refine E_iload dX4_rollsToTop_106 (by rfl) ?_
            refine cs_X4_rollsToTop_108 (by assumption) (Nat.le_of_ble_eq_true rfl) (r2_carpetFrom h (mI1 (m_z M) k d s (i - 1) f) hk hk6 (nI (s + i))) ?_
            refine E_istore dX4_rollsToTop_111 (Nat.le_of_ble_eq_true rfl) (by rfl) ?_
            refine E_iload dX4_rollsToTop_113 (by rfl) ?_
            refine E_bipush (v := (-6)) dX4_rollsToTop_115 (by decide) ?_
            refine E_icmp_ne (n := (-6)) (by decide) (tgt := 125) dX4_rollsToTop_117 (by decide) (fun q117 => ?_) (fun q117 => ?_)
            · refine E_aload_n dX4_rollsToTop_125 (by rfl) ?_
              refine E_iload dX4_rollsToTop_126 (by rfl) ?_
              rcases mCF_cases (m_z M) (nI (s + i)) k with ⟨ec, _⟩ | ⟨j, hj, ec, _⟩
              · exact absurd (by rw [ec]; decide) q117
              have ejc : (nI j).toNatClampNeg = j := nI_clamp (by omega)
              rw [ec]
              have hx : mDs (m_z M) k (s + i) = m_z M (45 + 2 * j) := by rw [mDs, if_neg q117, ec, ejc]
              refine cs_X4_rollsToTop_128 (by assumption) (Nat.le_of_ble_eq_true rfl) (r2_lower h (mI1 (m_z M) k d s (i - 1) f) j (by omega)) ?_
              have hD : 0 ≤ (mDs (m_z M) k (s + i)).toInt ∧ (mDs (m_z M) k (s + i)).toInt ≤ 60 := hne (by omega)
              rw [hx] at hD
              refine E_istore dX4_rollsToTop_131 (Nat.le_of_ble_eq_true rfl) (by rfl) ?_
              refine E_aload_n dX4_rollsToTop_133 (by rfl) ?_
              refine gf_X4_26 dX4_rollsToTop_134 rfl (by assumption) (by rfl) ?_
              refine E_iload dX4_rollsToTop_137 (by rfl) ?_
              refine E_aload_n dX4_rollsToTop_139 (by rfl) ?_
              refine gf_X4_26 dX4_rollsToTop_140 rfl (by assumption) (by rfl) ?_
              refine E_iload dX4_rollsToTop_143 (by rfl) ?_
              refine E_iald dX4_rollsToTop_145 (by assumption) (i_in (by omega) (by omega)) ?_
              refine E_bipush (v := (-6)) dX4_rollsToTop_146 (by decide) ?_
              refine E_icmp_ne (n := (-6)) (by decide) (tgt := 155) dX4_rollsToTop_148 (by decide) (fun q148 => ?_) (fun q148 => ?_)
              · refine E_aload_n dX4_rollsToTop_155 (by rfl) ?_
                refine gf_X4_26 dX4_rollsToTop_156 rfl (by assumption) (by rfl) ?_
                refine E_iload dX4_rollsToTop_159 (by rfl) ?_
                refine E_iald dX4_rollsToTop_161 (by assumption) (i_in (by omega) (by omega)) ?_
                refine E_iast dX4_rollsToTop_162 (by assumption) (i_in (by omega) (by omega)) ?_
                refine E_iinc (d := 1) dX4_rollsToTop_163 (by rfl) (by decide) (Nat.le_of_ble_eq_true rfl) (by rfl) ?_
                refine E_goto (tgt := 67) dX4_rollsToTop_166 (by decide) ?_
                refine E_mem ((mre_set h _ _).trans (congrArg (fun g => mPut mem (m_wre M g)) (show _ = mI1 (m_z M) k d s (i + 1 - 1) f by rw [show i + 1 - 1 = (i - 1) + 1 by omega, mI1, show s + (i - 1) + 1 = s + i by omega, hx, mI0]; first | rw [if_pos q148] | rw [if_neg q148]))) ?_
                exact E_loc [(0, .ref 86), (1, .int x), (2, .int (nI d)), (3, .int (nI s)), (4, .int (nI (i + 1)))] ⟨rfl, rfl, rfl, rfl, x_i (by first | exact nI_1 _ | decide), trivial⟩ (ihi (i + 1) (by omega) (by omega) ⟨by omega, by omega⟩)
              · refine E_iload_n dX4_rollsToTop_151 (by rfl) ?_
                refine E_goto (tgt := 162) dX4_rollsToTop_152 (by decide) ?_
                refine E_iast dX4_rollsToTop_162 (by assumption) (i_in (by omega) (by omega)) ?_
                refine E_iinc (d := 1) dX4_rollsToTop_163 (by rfl) (by decide) (Nat.le_of_ble_eq_true rfl) (by rfl) ?_
                refine E_goto (tgt := 67) dX4_rollsToTop_166 (by decide) ?_
                refine E_mem ((mre_set h _ _).trans (congrArg (fun g => mPut mem (m_wre M g)) (show _ = mI1 (m_z M) k d s (i + 1 - 1) f by rw [show i + 1 - 1 = (i - 1) + 1 by omega, mI1, show s + (i - 1) + 1 = s + i by omega, hx, mI0]; first | rw [if_pos q148] | rw [if_neg q148]))) ?_
                exact E_loc [(0, .ref 86), (1, .int x), (2, .int (nI d)), (3, .int (nI s)), (4, .int (nI (i + 1)))] ⟨rfl, rfl, rfl, rfl, x_i (by first | exact nI_1 _ | decide), trivial⟩ (ihi (i + 1) (by omega) (by omega) ⟨by omega, by omega⟩)
            · have hx : mDs (m_z M) k (s + i) = nI (s + i) := if_pos q117
              refine E_iload dX4_rollsToTop_120 (by rfl) ?_
              refine E_goto (tgt := 131) dX4_rollsToTop_122 (by decide) ?_
              have hD : 0 ≤ (mDs (m_z M) k (s + i)).toInt ∧ (mDs (m_z M) k (s + i)).toInt ≤ 60 := hne (by omega)
              rw [hx] at hD
              refine E_istore dX4_rollsToTop_131 (Nat.le_of_ble_eq_true rfl) (by rfl) ?_
              refine E_aload_n dX4_rollsToTop_133 (by rfl) ?_
              refine gf_X4_26 dX4_rollsToTop_134 rfl (by assumption) (by rfl) ?_
              refine E_iload dX4_rollsToTop_137 (by rfl) ?_
              refine E_aload_n dX4_rollsToTop_139 (by rfl) ?_
              refine gf_X4_26 dX4_rollsToTop_140 rfl (by assumption) (by rfl) ?_
              refine E_iload dX4_rollsToTop_143 (by rfl) ?_
              refine E_iald dX4_rollsToTop_145 (by assumption) (i_in (by omega) (by omega)) ?_
              refine E_bipush (v := (-6)) dX4_rollsToTop_146 (by decide) ?_
              refine E_icmp_ne (n := (-6)) (by decide) (tgt := 155) dX4_rollsToTop_148 (by decide) (fun q148 => ?_) (fun q148 => ?_)
              · refine E_aload_n dX4_rollsToTop_155 (by rfl) ?_
                refine gf_X4_26 dX4_rollsToTop_156 rfl (by assumption) (by rfl) ?_
                refine E_iload dX4_rollsToTop_159 (by rfl) ?_
                refine E_iald dX4_rollsToTop_161 (by assumption) (i_in (by omega) (by omega)) ?_
                refine E_iast dX4_rollsToTop_162 (by assumption) (i_in (by omega) (by omega)) ?_
                refine E_iinc (d := 1) dX4_rollsToTop_163 (by rfl) (by decide) (Nat.le_of_ble_eq_true rfl) (by rfl) ?_
                refine E_goto (tgt := 67) dX4_rollsToTop_166 (by decide) ?_
                refine E_mem ((mre_set h _ _).trans (congrArg (fun g => mPut mem (m_wre M g)) (show _ = mI1 (m_z M) k d s (i + 1 - 1) f by rw [show i + 1 - 1 = (i - 1) + 1 by omega, mI1, show s + (i - 1) + 1 = s + i by omega, hx, mI0]; first | rw [if_pos q148] | rw [if_neg q148]))) ?_
                exact E_loc [(0, .ref 86), (1, .int x), (2, .int (nI d)), (3, .int (nI s)), (4, .int (nI (i + 1)))] ⟨rfl, rfl, rfl, rfl, x_i (by first | exact nI_1 _ | decide), trivial⟩ (ihi (i + 1) (by omega) (by omega) ⟨by omega, by omega⟩)
              · refine E_iload_n dX4_rollsToTop_151 (by rfl) ?_
                refine E_goto (tgt := 162) dX4_rollsToTop_152 (by decide) ?_
                refine E_iast dX4_rollsToTop_162 (by assumption) (i_in (by omega) (by omega)) ?_
                refine E_iinc (d := 1) dX4_rollsToTop_163 (by rfl) (by decide) (Nat.le_of_ble_eq_true rfl) (by rfl) ?_
                refine E_goto (tgt := 67) dX4_rollsToTop_166 (by decide) ?_
                refine E_mem ((mre_set h _ _).trans (congrArg (fun g => mPut mem (m_wre M g)) (show _ = mI1 (m_z M) k d s (i + 1 - 1) f by rw [show i + 1 - 1 = (i - 1) + 1 by omega, mI1, show s + (i - 1) + 1 = s + i by omega, hx, mI0]; first | rw [if_pos q148] | rw [if_neg q148]))) ?_
                exact E_loc [(0, .ref 86), (1, .int x), (2, .int (nI d)), (3, .int (nI s)), (4, .int (nI (i + 1)))] ⟨rfl, rfl, rfl, rfl, x_i (by first | exact nI_1 _ | decide), trivial⟩ (ihi (i + 1) (by omega) (by omega) ⟨by omega, by omega⟩)
          · refine E_iload_n dX4_rollsToTop_103 (by rfl) ?_
            refine E_iret dX4_rollsToTop_104 rfl rfl (Nat.zero_le _) (Nat.zero_le _) ?_
            exact ⟨rfl, _, rfl⟩
  exact E_loc [(0, .ref 86), (1, .int x), (2, .int (nI d)), (3, .int (nI s)), (4, .int (nI 1))] ⟨rfl, rfl, rfl, rfl, rfl, trivial⟩ (loop (6 + 1) 1 (by omega) (by omega) ⟨Nat.le_refl _, by omega⟩)
theorem n_rt54 (h : mAt mem M) (hk : m_z M 3 = nI k) (hk6 : k ≤ 6) (h0 : m_z M 0 = nI t) (ht60 : t ≤ 60) (hd1 : 1 ≤ d) (hd61 : d ≤ 61) (hds : ∀ s, s < t → 0 ≤ (mDs (m_z M) k s).toInt ∧ (mDs (m_z M) k s).toInt ≤ 60) (x : Int32) (f : Nat → Int32) (hit : ∀ s, s < t → mIc (mI2 (m_z M) k d s f) d s → s + 6 < t) (R : Option Value → xM → Prop)
    (kk : E G kX4_rollsToTop R 0 0 (mPut mem (m_wre M (mI2 (m_z M) k d t f))) 46 (x_L [(0, .ref 86), (1, .int x), (2, .int (nI (d + 1)))]) []) :
    E G kX4_rollsToTop R 0 0 (mPut mem (m_wre M f)) 54 (x_L [(0, .ref 86), (1, .int x), (2, .int (nI d)), (3, .int (nI 0))]) [] := by
  have w0 : (0 : Int32).toNatClampNeg = 0 := by decide
  have et : (nI t).toInt = (t : Int) := nI_toInt (by omega)
  have loop : ∀ di i : Nat, t < i + di → i ≤ t → E G kX4_rollsToTop R 0 0 ((mPut mem (m_wre M (mI2 (m_z M) k d i f)))) 54 (x_L [(0, .ref 86), (1, .int x), (2, .int (nI d)), (3, .int (nI i))]) [] := by
    intro di
    induction di with
    | zero => intro i hi1 hi2; exact absurd hi1 (by omega)
    | succ di ihi =>
      intro i hi1 hi2
      have ei : (nI i).toInt = (i : Int) := nI_toInt (by omega)
      have eci : (nI i).toNatClampNeg = i := nI_clamp (by omega)
      obtain ⟨a0, a1, a2⟩ := mre_at h (mI2 (m_z M) k d i f)
      refine E_iload_n dX4_rollsToTop_54 (by rfl) ?_
      refine E_aload_n dX4_rollsToTop_55 (by rfl) ?_
      refine gf_X4_7 dX4_rollsToTop_56 rfl (by assumption) (by rfl) ?_
      refine E_iconst (v := 0) dX4_rollsToTop_59 (by decide) ?_
      refine E_iald dX4_rollsToTop_60 (by assumption) (i_in (by decide) (by decide)) ?_
      rw [w0, h0]
      refine E_icmp_ge (n := _) rfl (tgt := 175) dX4_rollsToTop_61 (by decide) (fun q61 => ?_) (fun q61 => ?_)
      · obtain rfl : i = t := by omega
        refine E_iinc (d := 1) dX4_rollsToTop_175 (by rfl) (by decide) (Nat.le_of_ble_eq_true rfl) (by rfl) ?_
        refine E_goto (tgt := 46) dX4_rollsToTop_178 (by decide) ?_
        exact E_loc [(0, .ref 86), (1, .int x), (2, .int (nI (d + 1)))] ⟨rfl, rfl, x_i (nI_1 d), trivial⟩ kk
      · refine E_iconst (v := 1) dX4_rollsToTop_64 (by decide) ?_
        refine E_istore dX4_rollsToTop_65 (Nat.le_of_ble_eq_true rfl) (by rfl) ?_
        exact E_loc [(0, .ref 86), (1, .int x), (2, .int (nI d)), (3, .int (nI i)), (4, .int 1)] ⟨rfl, rfl, rfl, rfl, rfl, trivial⟩ (n_rt67 h hk hk6 h0 ht60 hd1 hd61 (by omega) hds x _ (hit i (by omega)) _ (ihi (i + 1) (by omega) (by omega)))
  exact loop (t + 1) 0 (by omega) (by omega)
theorem n_rt54_hit {s0 : Nat} (h : mAt mem M) (hk : m_z M 3 = nI k) (hk6 : k ≤ 6) (h0 : m_z M 0 = nI t) (ht60 : t ≤ 60) (hd1 : 1 ≤ d) (hd61 : d ≤ 61) (hds : ∀ s, s < t → 0 ≤ (mDs (m_z M) k s).toInt ∧ (mDs (m_z M) k s).toInt ≤ 60) (x : Int32) (f : Nat → Int32) (hs0 : s0 < t) (hc : mIc (mI2 (m_z M) k d s0 f) d s0) (ht : t ≤ s0 + 6) (hit : ∀ s, s < s0 → mIc (mI2 (m_z M) k d s f) d s → s + 6 < t) :
    E G kX4_rollsToTop (mRt mem M (nI d)) 0 0 (mPut mem (m_wre M f)) 54 (x_L [(0, .ref 86), (1, .int x), (2, .int (nI d)), (3, .int (nI 0))]) [] := by
  have w0 : (0 : Int32).toNatClampNeg = 0 := by decide
  have et : (nI t).toInt = (t : Int) := nI_toInt (by omega)
  have loop : ∀ di i : Nat, s0 + 1 < i + di → i ≤ s0 + 1 → (i ≤ s0) → E G kX4_rollsToTop (mRt mem M (nI d)) 0 0 ((mPut mem (m_wre M (mI2 (m_z M) k d i f)))) 54 (x_L [(0, .ref 86), (1, .int x), (2, .int (nI d)), (3, .int (nI i))]) [] := by
    intro di
    induction di with
    | zero => intro i hi1 hi2 _; exact absurd hi1 (by omega)
    | succ di ihi =>
      intro i hi1 hi2 hinv
      have ei : (nI i).toInt = (i : Int) := nI_toInt (by omega)
      have eci : (nI i).toNatClampNeg = i := nI_clamp (by omega)
      obtain ⟨a0, a1, a2⟩ := mre_at h (mI2 (m_z M) k d i f)
      refine E_iload_n dX4_rollsToTop_54 (by rfl) ?_
      refine E_aload_n dX4_rollsToTop_55 (by rfl) ?_
      refine gf_X4_7 dX4_rollsToTop_56 rfl (by assumption) (by rfl) ?_
      refine E_iconst (v := 0) dX4_rollsToTop_59 (by decide) ?_
      refine E_iald dX4_rollsToTop_60 (by assumption) (i_in (by decide) (by decide)) ?_
      rw [w0, h0]
      refine E_icmp_ge (n := _) rfl (tgt := 175) dX4_rollsToTop_61 (by decide) (fun q61 => ?_) (fun q61 => ?_)
      · exact absurd q61 (by omega)
      · refine E_iconst (v := 1) dX4_rollsToTop_64 (by decide) ?_
        refine E_istore dX4_rollsToTop_65 (Nat.le_of_ble_eq_true rfl) (by rfl) ?_
        refine E_loc [(0, .ref 86), (1, .int x), (2, .int (nI d)), (3, .int (nI i)), (4, .int 1)] ⟨rfl, rfl, rfl, rfl, rfl, trivial⟩ ?_
        by_cases e : i = s0
        · subst e
          exact n_rt67_hit h hk hk6 h0 ht60 hd1 hd61 hs0 hds x _ hc ht
        · exact n_rt67 h hk hk6 h0 ht60 hd1 hd61 (by omega) hds x _ (hit i (by omega)) _ (ihi (i + 1) (by omega) (by omega) (by omega))
  exact loop (s0 + 1 + 1) 0 (by omega) (by omega) (Nat.zero_le _)
def mI3 (z : Nat → Int32) (k t : Nat) (f : Nat → Int32) : Nat → Nat → Int32
  | 0 => f
  | d + 1 => mI2 z k (d + 1) t (mI3 z k t f d)
/-- in round d the top is reached -/
abbrev mHi (z : Nat → Int32) (k t : Nat) (f : Nat → Int32) (d : Nat) : Prop := ∃ s, s < t ∧ t ≤ s + 6 ∧ mIc (mI2 z k d s (mI3 z k t f (d - 1))) d s
theorem least_of {p : Nat → Prop} {n : Nat} (h : ∃ s, s < n ∧ p s) : ∃ s, s < n ∧ p s ∧ ∀ r, r < s → ¬ p r := by
  obtain ⟨s, hs, hp⟩ := h
  induction s using Nat.strongRecOn with
  | _ s ih =>
    by_cases e : ∃ r, r < s ∧ p r
    · obtain ⟨r, hr, hpr⟩ := e
      exact ih r hr (by omega) hpr
    · exact ⟨s, hs, hp, fun r hr hpr => e ⟨r, hr, hpr⟩⟩
theorem n_rt46 (h : mAt mem M) (hk : m_z M 3 = nI k) (hk6 : k ≤ 6) (h0 : m_z M 0 = nI t) (ht60 : t ≤ 60) (hds : ∀ s, s < t → 0 ≤ (mDs (m_z M) k s).toInt ∧ (mDs (m_z M) k s).toInt ≤ 60) (x : Int32) (f : Nat → Int32) (a : Int32) (ha : (∃ D, 1 ≤ D ∧ D ≤ 61 ∧ mHi (m_z M) k t f D ∧ (∀ d, 1 ≤ d → d < D → ¬ mHi (m_z M) k t f d) ∧ a = nI D) ∨ (∀ d, 1 ≤ d → d ≤ 61 → ¬ mHi (m_z M) k t f d) ∧ a = -6) :
    E G kX4_rollsToTop (mRt mem M a) 0 0 (mPut mem (m_wre M f)) 46 (x_L [(0, .ref 86), (1, .int x), (2, .int (nI 1))]) [] := by
  have e61 : (61 : Int32).toInt = 61 := by decide
  have loop : ∀ di i : Nat, 62 < i + di → i ≤ 62 → (1 ≤ i ∧ ∀ d, 1 ≤ d → d < i → ¬ mHi (m_z M) k t f d) → E G kX4_rollsToTop (mRt mem M a) 0 0 ((mPut mem (m_wre M (mI3 (m_z M) k t f (i - 1))))) 46 (x_L [(0, .ref 86), (1, .int x), (2, .int (nI i))]) [] := by
    intro di
    induction di with
    | zero => intro i hi1 hi2 _; exact absurd hi1 (by omega)
    | succ di ihi =>
      intro i hi1 hi2 hinv
      have ei : (nI i).toInt = (i : Int) := nI_toInt (by omega)
      have eci : (nI i).toNatClampNeg = i := nI_clamp (by omega)
      obtain ⟨hv1, hv2⟩ := hinv
      refine E_iload_n dX4_rollsToTop_46 (by rfl) ?_
      refine E_bipush (v := 61) dX4_rollsToTop_47 (by decide) ?_
      refine E_icmp_gt (n := 61) (by decide) (tgt := 181) dX4_rollsToTop_49 (by decide) (fun q49 => ?_) (fun q49 => ?_)
      · have hae : a = -6 := by
            rcases ha with ⟨D, d1, d2, d3, d4, d5⟩ | ⟨_, d1⟩
            · exact absurd d3 (hv2 D d1 (by omega))
            · exact d1
        refine E_bipush (v := (-6)) dX4_rollsToTop_181 (by decide) ?_
        refine E_iret dX4_rollsToTop_183 rfl rfl (Nat.zero_le _) (Nat.zero_le _) ?_
        exact ⟨by rw [hae], _, rfl⟩
      · refine E_iconst (v := 0) dX4_rollsToTop_52 (by decide) ?_
        refine E_istore_n dX4_rollsToTop_53 (Nat.le_of_ble_eq_true rfl) (by rfl) ?_
        refine E_loc [(0, .ref 86), (1, .int x), (2, .int (nI i)), (3, .int (nI 0))] ⟨rfl, rfl, rfl, rfl, trivial⟩ ?_
        by_cases hh : mHi (m_z M) k t f i
        · have hai : a = nI i := by
            rcases ha with ⟨D, d1, d2, d3, d4, d5⟩ | ⟨d1, _⟩
            · by_cases e : D = i
              · rw [d5, e]
              · rcases Nat.lt_or_ge D i with e1 | e1
                · exact absurd d3 (hv2 D d1 e1)
                · exact absurd hh (d4 i hv1 (by omega))
            · exact absurd hh (d1 i hv1 (by omega))
          obtain ⟨s0, g1, ⟨g2, g3⟩, g4⟩ := least_of hh
          rw [hai]
          exact n_rt54_hit h hk hk6 h0 ht60 hv1 (by omega) hds x _ g1 g3 g2 (fun s hs hc => by have := g4 s hs; by_cases e : s + 6 < t; exact e; exact absurd ⟨by omega, hc⟩ this)
        · refine n_rt54 h hk hk6 h0 ht60 hv1 (by omega) hds x _ (fun s hs hc => by by_cases e : s + 6 < t; exact e; exact absurd ⟨s, hs, by omega, hc⟩ hh) _ ?_
          refine E_mem (mem' := mPut mem (m_wre M (mI3 (m_z M) k t f (i + 1 - 1)))) (by rw [show i + 1 - 1 = (i - 1) + 1 by omega, mI3, show i - 1 + 1 = i by omega]) ?_
          exact ihi (i + 1) (by omega) (by omega) ⟨by omega, fun d d1 d2 => if e : d = i then e ▸ hh else hv2 d d1 (by omega)⟩
  exact loop (62 + 1) 1 (by omega) (by omega) ⟨Nat.le_refl _, fun d d1 d2 => absurd d1 (by omega)⟩
abbrev mRi (p : Nat) : Nat → Int32 := upd (fun _ => -6) p 0
theorem n_rollsToTop_no (h : mAt mem M) (x : Int32) (hx : ¬ m_cl (m_z M) x) : Dt G kX4_rollsToTop [.ref 86, .int x] mem (some (.int (-1))) mem := by
  obtain ⟨a0, a1, a2, a3, a4, a5, a6, a7⟩ := id h
  refine Ct_of (by decide) (Nat.le_of_ble_eq_true rfl) ?_
  refine E_aload_n dX4_rollsToTop_0 (by rfl) ?_
  refine E_iload_n dX4_rollsToTop_1 (by rfl) ?_
  refine cs_X4_rollsToTop_2 (by assumption) (Nat.le_of_ble_eq_true rfl) (n_isClimber h x) ?_
  refine E_if_ne (tgt := 10) dX4_rollsToTop_5 (by decide) (fun q5 => ?_) (fun q5 => ?_)
  · rw [b2i_T0] at q5; exact absurd hx q5
  · refine E_iconst (v := (-1)) dX4_rollsToTop_8 (by decide) ?_
    refine E_iret dX4_rollsToTop_9 rfl rfl (Nat.zero_le _) (Nat.zero_le _) ?_
    exact ⟨rfl, rfl⟩
theorem n_rollsToTop (h : mAt mem M) (hn : m_z M 1 = nI n) (hn6 : n ≤ 6) (hk : m_z M 3 = nI k) (hk6 : k ≤ 6) (h0 : m_z M 0 = nI t) (ht60 : t ≤ 60) (hds : ∀ s, s < t → 0 ≤ (mDs (m_z M) k s).toInt ∧ (mDs (m_z M) k s).toInt ≤ 60) (hc : c < n) (hp : 0 ≤ (m_z M (8 + 6 * c)).toInt ∧ (m_z M (8 + 6 * c)).toInt ≤ 60) (a : Int32) (ha : (∃ D, 1 ≤ D ∧ D ≤ 61 ∧ mHi (m_z M) k t (mRi (m_z M (8 + 6 * c)).toNatClampNeg) D ∧ (∀ d, 1 ≤ d → d < D → ¬ mHi (m_z M) k t (mRi (m_z M (8 + 6 * c)).toNatClampNeg) d) ∧ a = nI D) ∨ (∀ d, 1 ≤ d → d ≤ 61 → ¬ mHi (m_z M) k t (mRi (m_z M (8 + 6 * c)).toNatClampNeg) d) ∧ a = -6) : Pt G kX4_rollsToTop [.ref 86, .int (nI c)] mem (some (.int a)) (fun m => ∃ f, m = mPut mem (m_wre M f)) := by
  have ec : (nI c).toInt = (c : Int) := nI_toInt (by omega)
  have hcl : m_cl (m_z M) (nI c) := by
    refine ⟨by omega, ?_⟩
    rw [hn, show nI n - 1 = nI (n - 1) from pk_sub (show 1 ≤ n by omega), nI_toInt (show n - 1 < 2147483648 by omega)]
    omega
  obtain ⟨z0, z1, z2, z3, z4, z5, z6, z7⟩ := id h
  have e61 : (61 : Int32).toInt = 61 := by decide
  refine Ct_of (by decide) (Nat.le_of_ble_eq_true rfl) ?_
  have loop : ∀ di i : Nat, 61 < i + di → i ≤ 61 → E G kX4_rollsToTop (mRt mem M a) 0 0 ((mPut mem (m_wre M (fCp (m_re M) (fun _ => -6) i)))) 12 (x_L [(0, .ref 86), (1, .int (nI c)), (2, .int (nI i))]) [] := by
    intro di
    induction di with
    | zero => intro i hi1 hi2; exact absurd hi1 (by omega)
    | succ di ihi =>
      intro i hi1 hi2
      have ei : (nI i).toInt = (i : Int) := nI_toInt (by omega)
      have eci : (nI i).toNatClampNeg = i := nI_clamp (by omega)
      obtain ⟨a0, a1, a2⟩ := mre_at h (fCp (m_re M) (fun _ => -6) i)
      obtain ⟨b0, b1, b2⟩ := mre_at h (fun _ => -6)
      refine E_iload_n dX4_rollsToTop_12 (by rfl) ?_
      refine E_bipush (v := 61) dX4_rollsToTop_13 (by decide) ?_
      refine E_icmp_ge (n := 61) (by decide) (tgt := 32) dX4_rollsToTop_15 (by decide) (fun q15 => ?_) (fun q15 => ?_)
      · refine E_ext a2 (f' := fun _ => -6) (fun j hj => fCp_lt (by omega)) ?_
        refine E_mem (mre_set h _ _) ?_
        refine E_aload_n dX4_rollsToTop_32 (by rfl) ?_
        refine gf_X4_26 dX4_rollsToTop_33 rfl (by assumption) (by rfl) ?_
        refine E_aload_n dX4_rollsToTop_36 (by rfl) ?_
        refine E_iload_n dX4_rollsToTop_37 (by rfl) ?_
        refine E_iconst (v := 0) dX4_rollsToTop_38 (by decide) ?_
        refine cs_X4_rollsToTop_39 (by assumption) (Nat.le_of_ble_eq_true rfl) (r2_pl h (fun _ => -6) c (by omega)) ?_
        refine E_iconst (v := 0) dX4_rollsToTop_42 (by decide) ?_
        refine E_iast dX4_rollsToTop_43 (by assumption) (i_in (by omega) (by omega)) ?_
        refine E_mem (mre_set h _ _) ?_
        refine E_iconst (v := 1) dX4_rollsToTop_44 (by decide) ?_
        refine E_istore_n dX4_rollsToTop_45 (Nat.le_of_ble_eq_true rfl) (by rfl) ?_
        exact E_loc [(0, .ref 86), (1, .int (nI c)), (2, .int (nI 1))] ⟨rfl, rfl, rfl, trivial⟩ (n_rt46 h hk hk6 h0 ht60 hds (nI c) (mRi (m_z M (8 + 6 * c)).toNatClampNeg) a ha)
      · refine E_aload_n dX4_rollsToTop_18 (by rfl) ?_
        refine gf_X4_26 dX4_rollsToTop_19 rfl (by assumption) (by rfl) ?_
        refine E_iload_n dX4_rollsToTop_22 (by rfl) ?_
        refine E_bipush (v := (-6)) dX4_rollsToTop_23 (by decide) ?_
        refine E_iast dX4_rollsToTop_25 (by assumption) (i_in (by omega) (by omega)) ?_
        refine E_iinc (d := 1) dX4_rollsToTop_26 (by rfl) (by decide) (Nat.le_of_ble_eq_true rfl) (by rfl) ?_
        refine E_goto (tgt := 12) dX4_rollsToTop_29 (by decide) ?_
        refine E_mem ((mre_set h _ _).trans (congrArg (fun f => mPut mem (m_wre M f)) (Eq.trans (by rw [eci]) (fCp_s (m_re M) (fun _ => -6) i)))) ?_
        exact E_loc [(0, .ref 86), (1, .int (nI c)), (2, .int (nI (i + 1)))] ⟨rfl, rfl, x_i (by first | exact nI_1 _ | decide), trivial⟩ (ihi (i + 1) (by omega) (by omega))
  refine E_aload_n dX4_rollsToTop_0 (by rfl) ?_
  refine E_iload_n dX4_rollsToTop_1 (by rfl) ?_
  refine cs_X4_rollsToTop_2 (by assumption) (Nat.le_of_ble_eq_true rfl) (n_isClimber h _) ?_
  refine E_if_ne (tgt := 10) dX4_rollsToTop_5 (by decide) (fun q5 => ?_) (fun q5 => ?_)
  · refine E_iconst (v := 0) dX4_rollsToTop_10 (by decide) ?_
    refine E_istore_n dX4_rollsToTop_11 (Nat.le_of_ble_eq_true rfl) (by rfl) ?_
    refine E_mem (show mem = mPut mem (m_wre M (fCp (m_re M) (fun _ => -6) 0)) by rw [fCp_0]; exact (mPut_self h).symm) ?_
    exact E_loc [(0, .ref 86), (1, .int (nI c)), (2, .int (nI 0))] ⟨rfl, rfl, x_i rfl, trivial⟩ (loop (61 + 1) 0 (by omega) (by omega))
  · rw [b2i_T0] at q5; exact absurd hcl q5
end N6
