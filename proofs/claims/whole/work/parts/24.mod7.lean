/-! the reference: the text -/
section N7
variable {G : xG} {mem : xM} {M N : mS} {z f : Nat → Int32} {t n k c m s : Nat}
theorem n_append_no1 (x : Int32) (hx : ¬ (33 ≤ x.toInt ∧ x.toInt ≤ 126)) (h : mAt mem M) : Dt G kX4_append [.ref 86, .int x] mem (some (.int (-2))) mem := by
  obtain ⟨a0, a1, a2, a3, a4, a5, a6, a7⟩ := id h
  refine Ct_of (by decide) (Nat.le_of_ble_eq_true rfl) ?_
  refine E_iload_n dX4_append_0 (by rfl) ?_
  refine E_bipush (v := 33) dX4_append_1 (by decide) ?_
  refine E_bipush (v := 126) dX4_append_3 (by decide) ?_
  refine cs_X4_append_5 (Nat.le_of_ble_eq_true rfl) (n_in _ _ _) ?_
  refine E_if_ne (tgt := 14) dX4_append_8 (by decide) (fun q8 => ?_) (fun q8 => ?_)
  · exact absurd hx (fun hh => q8 (by rw [b2i_T0]; exact hh))
  · refine E_bipush (v := (-2)) dX4_append_11 (by decide) ?_
    refine E_iret dX4_append_13 rfl rfl (Nat.zero_le _) (Nat.zero_le _) ?_
    exact ⟨rfl, rfl⟩
theorem n_append_no2 (h : mAt mem M) (hn : m_ty M = nI 60) (x : Int32) (hx : 33 ≤ x.toInt ∧ x.toInt ≤ 126) : Dt G kX4_append [.ref 86, .int x] mem (some (.int (-4))) mem := by
  obtain ⟨a0, a1, a2, a3, a4, a5, a6, a7⟩ := id h
  refine Ct_of (by decide) (Nat.le_of_ble_eq_true rfl) ?_
  refine E_iload_n dX4_append_0 (by rfl) ?_
  refine E_bipush (v := 33) dX4_append_1 (by decide) ?_
  refine E_bipush (v := 126) dX4_append_3 (by decide) ?_
  refine cs_X4_append_5 (Nat.le_of_ble_eq_true rfl) (n_in _ _ _) ?_
  refine E_if_ne (tgt := 14) dX4_append_8 (by decide) (fun q8 => ?_) (fun q8 => ?_)
  · refine E_aload_n dX4_append_14 (by rfl) ?_
    refine gf_X4_144 dX4_append_15 rfl (by assumption) (by rfl) ?_
    refine E_bipush (v := 60) dX4_append_18 (by decide) ?_
    rw [hn]
    refine E_icmp_ne (n := 60) (by decide) (tgt := 26) dX4_append_20 (by decide) (fun q20 => ?_) (fun q20 => ?_)
    · exact absurd q20 (by decide)
    · refine E_bipush (v := (-4)) dX4_append_23 (by decide) ?_
      refine E_iret dX4_append_25 rfl rfl (Nat.zero_le _) (Nat.zero_le _) ?_
      exact ⟨rfl, rfl⟩
  · rw [b2i_T0] at q8; exact absurd hx q8
theorem n_append (h : mAt mem M) (hn : m_ty M = nI n) (hn60 : n < 60) (x : Int32) (hx : 33 ≤ x.toInt ∧ x.toInt ≤ 126) : Dt G kX4_append [.ref 86, .int x] mem (some (.int (nI (n + 1)))) (mPut mem (m_wty (m_wbu M (upd (m_bu M) n x)) (nI (n + 1)))) := by
  obtain ⟨a0, a1, a2, a3, a4, a5, a6, a7⟩ := mAt_put h M
  obtain ⟨b0, b1, b2, b3, b4, b5, b6, b7⟩ := mAt_put h (m_wbu M (upd (m_bu M) n x))
  obtain ⟨c0, c1, c2, c3, c4, c5, c6, c7⟩ := mAt_put h (m_wty (m_wbu M (upd (m_bu M) n x)) (nI (n + 1)))
  have en : (nI n).toInt = (n : Int) := nI_toInt (by omega)
  have ecn : (nI n).toNatClampNeg = n := nI_clamp (by omega)
  have ech : (x.toUInt32 % 65536).toInt32 = x := t_char ⟨by omega, by omega⟩
  have enr : narrow .char (.int x) = .int x := t_nar ⟨by omega, by omega⟩
  refine Ct_of (by decide) (Nat.le_of_ble_eq_true rfl) ?_
  refine E_mem (mPut_self h).symm ?_
  refine E_iload_n dX4_append_0 (by rfl) ?_
  refine E_bipush (v := 33) dX4_append_1 (by decide) ?_
  refine E_bipush (v := 126) dX4_append_3 (by decide) ?_
  refine cs_X4_append_5 (Nat.le_of_ble_eq_true rfl) (n_in _ _ _) ?_
  refine E_if_ne (tgt := 14) dX4_append_8 (by decide) (fun q8 => ?_) (fun q8 => ?_)
  · refine E_aload_n dX4_append_14 (by rfl) ?_
    refine gf_X4_144 dX4_append_15 rfl (by assumption) (by rfl) ?_
    refine E_bipush (v := 60) dX4_append_18 (by decide) ?_
    rw [hn]
    refine E_icmp_ne (n := 60) (by decide) (tgt := 26) dX4_append_20 (by decide) (fun q20 => ?_) (fun q20 => ?_)
    · refine E_aload_n dX4_append_26 (by rfl) ?_
      refine gf_X4_22 dX4_append_27 rfl (by assumption) (by rfl) ?_
      refine E_aload_n dX4_append_30 (by rfl) ?_
      refine gf_X4_144 dX4_append_31 rfl (by assumption) (by rfl) ?_
      rw [hn]
      refine E_iload_n dX4_append_34 (by rfl) ?_
      refine E_i2c dX4_append_35 rfl ?_
      rw [ech]
      refine E_cast dX4_append_36 (by assumption) (i_in (by omega) (by omega)) enr ?_
      refine E_mem ((mS_bu h _ _).trans (congrArg (fun f => mPut mem (m_wbu M f)) (show _ = upd (m_bu M) n x by rw [ecn]))) ?_
      refine E_aload_n dX4_append_37 (by rfl) ?_
      refine E_dup dX4_append_38 rfl ?_
      refine gf_X4_144 dX4_append_39 rfl (by assumption) (by rfl) ?_
      refine E_iconst (v := 1) dX4_append_42 (by decide) ?_
      refine E_iadd dX4_append_43 ?_
      refine (?_ : E G kX4_append _ 0 0 _ 44 _ [.int (m_ty M + 1), .ref 86])
      rw [hn, nI_1]
      refine pf_X4_144 dX4_append_44 rfl (by assumption) (Nat.le_of_ble_eq_true rfl) ?_
      refine E_mem (mS_O h _ (m_wty (m_wbu M (upd (m_bu M) n x)) (nI (n + 1))) ⟨rfl, rfl, rfl, rfl, rfl, rfl, rfl⟩) ?_
      refine E_aload_n dX4_append_47 (by rfl) ?_
      refine gf_X4_144 dX4_append_48 rfl (by assumption) (by rfl) ?_
      refine E_iret dX4_append_51 rfl rfl (Nat.zero_le _) (Nat.zero_le _) ?_
      exact ⟨rfl, rfl⟩
    · exact absurd q20 (by have e60 : (60 : Int32).toInt = 60 := (by decide); omega)
  · rw [b2i_T0] at q8; exact absurd hx q8
theorem n_clearText (h : mAt mem M) : Dt G kX4_clearText [.ref 86] mem (some (.int (m_ty M))) (mPut mem (m_wty M 0)) := by
  obtain ⟨a0, a1, a2, a3, a4, a5, a6, a7⟩ := mAt_put h M
  refine Ct_of (by decide) (Nat.le_of_ble_eq_true rfl) ?_
  refine E_mem (mPut_self h).symm ?_
  refine E_aload_n dX4_clearText_0 (by rfl) ?_
  refine gf_X4_144 dX4_clearText_1 rfl (by assumption) (by rfl) ?_
  refine E_istore_n dX4_clearText_4 (Nat.le_of_ble_eq_true rfl) (by rfl) ?_
  refine E_aload_n dX4_clearText_5 (by rfl) ?_
  refine E_iconst (v := 0) dX4_clearText_6 (by decide) ?_
  refine pf_X4_144 dX4_clearText_7 rfl (by assumption) (Nat.le_of_ble_eq_true rfl) ?_
  refine E_mem (mS_O h _ (m_wty M 0) ⟨rfl, rfl, rfl, rfl, rfl, rfl, rfl⟩) ?_
  refine E_iload_n dX4_clearText_10 (by rfl) ?_
  refine E_iret dX4_clearText_11 rfl rfl (Nat.zero_le _) (Nat.zero_le _) ?_
  exact ⟨rfl, rfl⟩
/-- the reader at s, with its error w -/
abbrev mP (N : mS) (s : Nat) (w : Int32) : mS := m_wwr (m_wsp N (nI s)) w
theorem mO_wr (h : mAt mem M) (N : mS) (s : Nat) (w v : Int32) : (mPut mem (mP N s w)).set 86 (m_o (m_pm N) (m_ik N) (m_ty N) (m_tm N) (nI s) v) = mPut mem (mP N s v) := mS_O h (mP N s w) (mP N s v) ⟨rfl, rfl, rfl, rfl, rfl, rfl, rfl⟩
theorem mO_sp' (h : mAt mem M) (N : mS) (x y w : Int32) : (mPut mem (m_wwr (m_wsp N x) w)).set 86 (m_o (m_pm N) (m_ik N) (m_ty N) (m_tm N) y w) = mPut mem (m_wwr (m_wsp N y) w) := mS_O h (m_wwr (m_wsp N x) w) (m_wwr (m_wsp N y) w) ⟨rfl, rfl, rfl, rfl, rfl, rfl, rfl⟩
theorem mO_sp (h : mAt mem M) (N : mS) (s r : Nat) (w : Int32) : (mPut mem (mP N s w)).set 86 (m_o (m_pm N) (m_ik N) (m_ty N) (m_tm N) (nI r) w) = mPut mem (mP N r w) := mO_sp' h N (nI s) (nI r) w
theorem mP_at (h : mAt mem M) (N : mS) (s : Nat) (w : Int32) : (mPut mem (mP N s w))[86]? = some (m_o (m_pm N) (m_ik N) (m_ty N) (m_tm N) (nI s) w) ∧ (mPut mem (mP N s w))[91]? = some (.inl (2, 60, .inl (m_bu N))) ∧ (mPut mem (mP N s w))[93]? = some (g_a 0 93 (m_to N)) := ⟨(mAt_put h (mP N s w)).1, (mAt_put h (mP N s w)).2.2.2.2.2.1, (mAt_put h (mP N s w)).2.2.2.2.2.2.2⟩
def mLt (f : Nat → Int32) (n s : Nat) : Int32 := if s < n then f s else -6
theorem n_letter (h : mAt mem M) (N : mS) (hn : m_ty N = nI n) (hn60 : n ≤ 60) (s : Nat) (w : Int32) (hs : s < 1000) : Dt G kX4_letter [.ref 86] (mPut mem (mP N s w)) (some (.int (mLt (m_bu N) n s))) (mPut mem (mP N s w)) := by
  obtain ⟨a0, a1, a2⟩ := mP_at h N s w
  have en : (m_ty N).toInt = (n : Int) := by rw [hn]; exact nI_toInt (by omega)
  have es : (nI s).toInt = (s : Int) := nI_toInt (by omega)
  have ecs : (nI s).toNatClampNeg = s := nI_clamp (by omega)
  refine Ct_of (by decide) (Nat.le_of_ble_eq_true rfl) ?_
  unfold mLt
  refine E_aload_n dX4_letter_0 (by rfl) ?_
  refine gf_X4_147 dX4_letter_1 rfl (by assumption) (by rfl) ?_
  refine E_aload_n dX4_letter_4 (by rfl) ?_
  refine gf_X4_144 dX4_letter_5 rfl (by assumption) (by rfl) ?_
  refine E_icmp_ge (n := _) rfl (tgt := 23) dX4_letter_8 (by decide) (fun q8 => ?_) (fun q8 => ?_)
  · refine E_bipush (v := (-6)) dX4_letter_23 (by decide) ?_
    refine E_iret dX4_letter_25 rfl rfl (Nat.zero_le _) (Nat.zero_le _) ?_
    exact x_leaf (by rw [if_neg (by omega)])
  · refine E_aload_n dX4_letter_11 (by rfl) ?_
    refine gf_X4_22 dX4_letter_12 rfl (by assumption) (by rfl) ?_
    refine E_aload_n dX4_letter_15 (by rfl) ?_
    refine gf_X4_147 dX4_letter_16 rfl (by assumption) (by rfl) ?_
    refine E_cald dX4_letter_19 (by assumption) (i_in (by omega) (by omega)) ?_
    refine E_goto (tgt := 25) dX4_letter_20 (by decide) ?_
    refine E_iret dX4_letter_25 rfl rfl (Nat.zero_le _) (Nat.zero_le _) ?_
    exact x_leaf (by rw [if_pos (by omega), ecs])
def mW (b : Int32) (q : Nat × Int32) : Nat × Int32 := if q.2.toInt = -6 then (q.1 + 1, if b.toInt = 0 then nI q.1 else -6) else q
theorem n_wants0 (h : mAt mem M) (N : mS) (b : Int32) (s : Nat) (w : Int32) (hw : ¬ w.toInt = -6) : Dt G kX4_wants [.ref 86, .int b] (mPut mem (mP N s w)) none (mPut mem (mP N s w)) := by
  obtain ⟨a0, a1, a2⟩ := mP_at h N s w
  refine Ct_of (by decide) (Nat.le_of_ble_eq_true rfl) ?_
  refine E_aload_n dX4_wants_0 (by rfl) ?_
  refine gf_X4_150 dX4_wants_1 rfl (by assumption) (by rfl) ?_
  refine E_bipush (v := (-6)) dX4_wants_4 (by decide) ?_
  refine E_icmp_ne (n := (-6)) (by decide) (tgt := 36) dX4_wants_6 (by decide) (fun q6 => ?_) (fun q6 => ?_)
  · refine E_vret dX4_wants_36 rfl (Nat.zero_le _) (Nat.zero_le _) ?_
    exact ⟨rfl, rfl⟩
  · exact absurd q6 hw
theorem n_wants1 (h : mAt mem M) (N : mS) (b : Int32) (s : Nat) (w : Int32) (hw : w.toInt = -6) (hb : b.toInt = 0) : Dt G kX4_wants [.ref 86, .int b] (mPut mem (mP N s w)) none (mPut mem (mP N (s + 1) (nI s))) := by
  obtain ⟨a0, a1, a2⟩ := mP_at h N s w
  obtain ⟨b0, b1, b2⟩ := mP_at h N s (nI s)
  have e1 := nI_1 s
  refine Ct_of (by decide) (Nat.le_of_ble_eq_true rfl) ?_
  refine E_aload_n dX4_wants_0 (by rfl) ?_
  refine gf_X4_150 dX4_wants_1 rfl (by assumption) (by rfl) ?_
  refine E_bipush (v := (-6)) dX4_wants_4 (by decide) ?_
  refine E_icmp_ne (n := (-6)) (by decide) (tgt := 36) dX4_wants_6 (by decide) (fun q6 => ?_) (fun q6 => ?_)
  · exact absurd hw q6
  · refine E_aload_n dX4_wants_9 (by rfl) ?_
    refine E_iload_n dX4_wants_10 (by rfl) ?_
    refine E_if_eq (tgt := 19) dX4_wants_11 (by decide) (fun q11 => ?_) (fun q11 => ?_)
    · refine E_aload_n dX4_wants_19 (by rfl) ?_
      refine gf_X4_147 dX4_wants_20 rfl (by assumption) (by rfl) ?_
      refine pf_X4_150 dX4_wants_23 rfl (by assumption) (Nat.le_of_ble_eq_true rfl) ?_
      refine E_mem (mO_wr h N s w (nI s)) ?_
      refine E_aload_n dX4_wants_26 (by rfl) ?_
      refine E_dup dX4_wants_27 rfl ?_
      refine gf_X4_147 dX4_wants_28 rfl (by assumption) (by rfl) ?_
      refine E_iconst (v := 1) dX4_wants_31 (by decide) ?_
      refine E_iadd dX4_wants_32 ?_
      rw [e1]
      refine pf_X4_147 dX4_wants_33 rfl (by assumption) (Nat.le_of_ble_eq_true rfl) ?_
      refine E_mem (mO_sp h N s (s + 1) (nI s)) ?_
      refine E_vret dX4_wants_36 rfl (Nat.zero_le _) (Nat.zero_le _) ?_
      exact ⟨rfl, rfl⟩
    · exact absurd hb q11
theorem n_wants2 (h : mAt mem M) (N : mS) (b : Int32) (s : Nat) (w : Int32) (hw : w.toInt = -6) (hb : ¬ b.toInt = 0) : Dt G kX4_wants [.ref 86, .int b] (mPut mem (mP N s w)) none (mPut mem (mP N (s + 1) (-6))) := by
  obtain ⟨a0, a1, a2⟩ := mP_at h N s w
  obtain ⟨b0, b1, b2⟩ := mP_at h N s (-6)
  have e1 := nI_1 s
  refine Ct_of (by decide) (Nat.le_of_ble_eq_true rfl) ?_
  refine E_aload_n dX4_wants_0 (by rfl) ?_
  refine gf_X4_150 dX4_wants_1 rfl (by assumption) (by rfl) ?_
  refine E_bipush (v := (-6)) dX4_wants_4 (by decide) ?_
  refine E_icmp_ne (n := (-6)) (by decide) (tgt := 36) dX4_wants_6 (by decide) (fun q6 => ?_) (fun q6 => ?_)
  · exact absurd hw q6
  · refine E_aload_n dX4_wants_9 (by rfl) ?_
    refine E_iload_n dX4_wants_10 (by rfl) ?_
    refine E_if_eq (tgt := 19) dX4_wants_11 (by decide) (fun q11 => ?_) (fun q11 => ?_)
    · exact absurd q11 hb
    · refine E_bipush (v := (-6)) dX4_wants_14 (by decide) ?_
      refine E_goto (tgt := 23) dX4_wants_16 (by decide) ?_
      refine pf_X4_150 dX4_wants_23 rfl (by assumption) (Nat.le_of_ble_eq_true rfl) ?_
      refine E_mem (mO_wr h N s w (-6)) ?_
      refine E_aload_n dX4_wants_26 (by rfl) ?_
      refine E_dup dX4_wants_27 rfl ?_
      refine gf_X4_147 dX4_wants_28 rfl (by assumption) (by rfl) ?_
      refine E_iconst (v := 1) dX4_wants_31 (by decide) ?_
      refine E_iadd dX4_wants_32 ?_
      rw [e1]
      refine pf_X4_147 dX4_wants_33 rfl (by assumption) (Nat.le_of_ble_eq_true rfl) ?_
      refine E_mem (mO_sp h N s (s + 1) (-6)) ?_
      refine E_vret dX4_wants_36 rfl (Nat.zero_le _) (Nat.zero_le _) ?_
      exact ⟨rfl, rfl⟩
theorem n_wants (h : mAt mem M) (N : mS) (b : Int32) (q : Nat × Int32) : Dt G kX4_wants [.ref 86, .int b] (mPut mem (mP N q.1 q.2)) none (mPut mem (mP N (mW b q).1 (mW b q).2)) := by
  by_cases hw : q.2.toInt = -6
  · by_cases hb : b.toInt = 0
    · rw [mW, if_pos hw, if_pos hb]
      exact n_wants1 h N b q.1 q.2 hw hb
    · rw [mW, if_pos hw, if_neg hb]
      exact n_wants2 h N b q.1 q.2 hw hb
  · rw [mW, if_neg hw]
    exact n_wants0 h N b q.1 q.2 hw
theorem mW_s (b : Int32) (q : Nat × Int32) : q.1 ≤ (mW b q).1 ∧ (mW b q).1 ≤ q.1 + 1 := by
  unfold mW
  split
  · exact ⟨by show _ ≤ _ + 1; omega, Nat.le_refl _⟩
  · exact ⟨Nat.le_refl _, by omega⟩
abbrev mNa (f : Nat → Int32) (n : Nat) (q : Nat × Int32) : Int32 := mLt f n q.1 - 48
abbrev mNq (f : Nat → Int32) (n : Nat) (q : Nat × Int32) : Nat × Int32 := mW (b2i (0 ≤ (mNa f n q).toInt ∧ (mNa f n q).toInt ≤ 9)) q
abbrev mNt (f : Nat → Int32) (n : Nat) (q : Nat × Int32) : Prop := (mNq f n q).2.toInt = -6 ∧ 0 < (mNa f n q).toInt ∧ 0 ≤ (mNa f n (mNq f n q)).toInt ∧ (mNa f n (mNq f n q)).toInt ≤ 9
/-- a number is read -/
def mNu (f : Nat → Int32) (n : Nat) (q : Nat × Int32) : Int32 × Nat × Int32 := if mNt f n q then (10 * mNa f n q + mNa f n (mNq f n q), (mNq f n q).1 + 1, (mNq f n q).2) else (mNa f n q, mNq f n q)
theorem n_number (h : mAt mem M) (N : mS) (hn : m_ty N = nI n) (hn60 : n ≤ 60) (q : Nat × Int32) (hs : q.1 < 900) : Dt G kX4_number [.ref 86] (mPut mem (mP N q.1 q.2)) (some (.int (mNu (m_bu N) n q).1)) (mPut mem (mP N (mNu (m_bu N) n q).2.1 (mNu (m_bu N) n q).2.2)) := by
  obtain ⟨a0, _⟩ := mP_at h N q.1 q.2
  obtain ⟨b0, _⟩ := mP_at h N (mNq (m_bu N) n q).1 (mNq (m_bu N) n q).2
  have hq2 : (mNq (m_bu N) n q).1 ≤ q.1 + 1 := (mW_s _ _).2
  have hq := mW_s (b2i (0 ≤ (mNa (m_bu N) n q).toInt ∧ (mNa (m_bu N) n q).toInt ≤ 9)) q
  refine Ct_of (by decide) (Nat.le_of_ble_eq_true rfl) ?_
  refine E_aload_n dX4_number_0 (by rfl) ?_
  refine cs_X4_number_1 (by assumption) (Nat.le_of_ble_eq_true rfl) (n_letter h N hn hn60 q.1 q.2 (by omega)) ?_
  refine E_bipush (v := 48) dX4_number_4 (by decide) ?_
  refine E_isub dX4_number_6 ?_
  refine (?_ : E G kX4_number _ 0 0 _ 7 _ [.int (mNa (m_bu N) n q)])
  refine E_istore_n dX4_number_7 (Nat.le_of_ble_eq_true rfl) (by rfl) ?_
  refine E_aload_n dX4_number_8 (by rfl) ?_
  refine E_iload_n dX4_number_9 (by rfl) ?_
  refine E_iconst (v := 0) dX4_number_10 (by decide) ?_
  refine E_bipush (v := 9) dX4_number_11 (by decide) ?_
  refine cs_X4_number_13 (Nat.le_of_ble_eq_true rfl) (n_in _ _ _) ?_
  refine cs_X4_number_16 (by assumption) (Nat.le_of_ble_eq_true rfl) (n_wants h N _ q) ?_
  refine E_mem (mem' := mPut mem (mP N (mNq (m_bu N) n q).1 (mNq (m_bu N) n q).2)) rfl ?_
  refine E_aload_n dX4_number_19 (by rfl) ?_
  refine cs_X4_number_20 (by assumption) (Nat.le_of_ble_eq_true rfl) (n_letter h N hn hn60 (mNq (m_bu N) n q).1 (mNq (m_bu N) n q).2 (by omega)) ?_
  refine E_bipush (v := 48) dX4_number_23 (by decide) ?_
  refine E_isub dX4_number_25 ?_
  refine (?_ : E G kX4_number _ 0 0 _ 26 _ [.int (mNa (m_bu N) n (mNq (m_bu N) n q))])
  refine E_istore_n dX4_number_26 (Nat.le_of_ble_eq_true rfl) (by rfl) ?_
  refine E_aload_n dX4_number_27 (by rfl) ?_
  refine gf_X4_150 dX4_number_28 rfl (by assumption) (by rfl) ?_
  refine E_bipush (v := (-6)) dX4_number_31 (by decide) ?_
  refine E_icmp_ne (n := (-6)) (by decide) (tgt := 67) dX4_number_33 (by decide) (fun q33 => ?_) (fun q33 => ?_)
  · refine E_iload_n dX4_number_67 (by rfl) ?_
    refine E_iret dX4_number_68 rfl rfl (Nat.zero_le _) (Nat.zero_le _) ?_
    rw [mNu, if_neg (fun v => q33 v.1)]
    exact ⟨rfl, rfl⟩
  · refine E_iload_n dX4_number_36 (by rfl) ?_
    refine E_if_le (tgt := 67) dX4_number_37 (by decide) (fun q37 => ?_) (fun q37 => ?_)
    · refine E_iload_n dX4_number_67 (by rfl) ?_
      refine E_iret dX4_number_68 rfl rfl (Nat.zero_le _) (Nat.zero_le _) ?_
      rw [mNu, if_neg (fun v => absurd v.2.1 (show ¬ (0 : Int) < (mNa (m_bu N) n q).toInt by omega))]
      exact ⟨rfl, rfl⟩
    · refine E_iload_n dX4_number_40 (by rfl) ?_
      refine E_iconst (v := 0) dX4_number_41 (by decide) ?_
      refine E_bipush (v := 9) dX4_number_42 (by decide) ?_
      refine cs_X4_number_44 (Nat.le_of_ble_eq_true rfl) (n_in _ _ _) ?_
      refine E_if_eq (tgt := 67) dX4_number_47 (by decide) (fun q47 => ?_) (fun q47 => ?_)
      · rw [b2i_T0] at q47
        refine E_iload_n dX4_number_67 (by rfl) ?_
        refine E_iret dX4_number_68 rfl rfl (Nat.zero_le _) (Nat.zero_le _) ?_
        rw [mNu, if_neg (fun v => q47 v.2.2)]
        exact ⟨rfl, rfl⟩
      · rw [b2i_T0] at q47; have q47 := Classical.not_not.mp q47
        refine E_aload_n dX4_number_50 (by rfl) ?_
        refine E_dup dX4_number_51 rfl ?_
        refine gf_X4_147 dX4_number_52 rfl (by assumption) (by rfl) ?_
        refine E_iconst (v := 1) dX4_number_55 (by decide) ?_
        refine E_iadd dX4_number_56 ?_
        rw [nI_1]
        refine pf_X4_147 dX4_number_57 rfl (by assumption) (Nat.le_of_ble_eq_true rfl) ?_
        refine E_mem (mO_sp h N (mNq (m_bu N) n q).1 ((mNq (m_bu N) n q).1 + 1) (mNq (m_bu N) n q).2) ?_
        refine E_bipush (v := 10) dX4_number_60 (by decide) ?_
        refine E_iload_n dX4_number_62 (by rfl) ?_
        refine E_imul dX4_number_63 ?_
        refine E_iload_n dX4_number_64 (by rfl) ?_
        refine E_iadd dX4_number_65 ?_
        refine E_iret dX4_number_66 rfl rfl (Nat.zero_le _) (Nat.zero_le _) ?_
        rw [mNu, if_pos ⟨q33, (show (0 : Int) < (mNa (m_bu N) n q).toInt by omega), q47⟩]
        exact ⟨rfl, rfl⟩
end N7
