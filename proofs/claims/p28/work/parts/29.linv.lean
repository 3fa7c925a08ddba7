/-! what holds of the class's state all the time: kept by each call -/
section JV
variable {S V W : gS} {T n m k i u x c : Nat} {v w : Int32}
def Jv (S : gS) (T n : Nat) : Prop :=
  g_top S = nI T ∧ 10 ≤ T ∧ T ≤ 60 ∧ g_cl S = nI n ∧ n ≤ 6 ∧
  (∀ i, i < 6 → n ≤ i → g_pl S i = 0 ∧ g_tp S i = 0 ∧ g_tl S i = 0 ∧ g_lm S i = 0 ∧ g_sl S i = 0) ∧
  (∀ i, i < 6 → ∃ p, p < T ∧ g_pl S i = nI p) ∧
  (∀ s, s < 60 → g_la S s = 0 ∨ g_la S s = 1) ∧ (∀ s, T ≤ s → s < 60 → g_la S s = 0) ∧
  (∀ s, s < 60 → g_le S s = -6 ∨ ∃ l, l < s ∧ s < T ∧ g_le S s = nI l)
theorem Iv.jv (h : Iv S T n m) : Jv S T n := ⟨h.gt, h.t10, h.t60, h.gc, h.n6, fun i hi hn => by have q := h.out i hi hn; exact ⟨q.1, q.2.1, q.2.2.2⟩, h.pl, h.la, h.lt, h.le⟩
theorem Jv.iv (h : Jv S T n) (gm : g_mv S = nI m) (mn : m < n ∨ n = 0 ∧ m = 0) (ho : ∀ i, i < 6 → n ≤ i → g_rs S i = 0) (hr : ∀ i, i < 6 → g_rs S i = 0 ∨ g_rs S i = 1) (r0 : g_rs S m = 0) : Iv S T n m := by
  obtain ⟨h1, h2, h3, h4, h5, h6, h7, h8, h9, h10⟩ := h
  exact ⟨h1, h2, h3, h4, h5, gm, mn, fun i hi hn => ⟨(h6 i hi hn).1, (h6 i hi hn).2.1, ho i hi hn, (h6 i hi hn).2.2⟩, h7, hr, h8, h9, h10, r0⟩
theorem Jv.of (h : Jv S T n) (e0 : g_top V = g_top S) (e1 : g_cl V = g_cl S) (e2 : g_pl V = g_pl S) (e3 : g_tp V = g_tp S) (e4 : g_tl V = g_tl S) (e5 : g_lm V = g_lm S) (e6 : g_sl V = g_sl S) (e7 : g_la V = g_la S) (e8 : g_le V = g_le S) : Jv V T n := by
  unfold Jv
  rw [e0, e1, e2, e3, e4, e5, e6, e7, e8]
  exact h
theorem gV_lt (h : Jv S T n) (v : Int32) : ∃ p, p < T ∧ gV (g_le S) (g_top S) v = nI p := by
  obtain ⟨h1, h2, h3, h4, h5, h6, h7, h8, h9, h10⟩ := h
  have eT : (nI T).toInt = (T : Int) := nI_toInt (by omega)
  unfold gV
  rw [h1]
  by_cases e : 0 ≤ v.toInt ∧ v.toInt < (nI T).toInt
  · rw [if_pos e]
    have ev := i_cl e.1
    rcases h10 v.toNatClampNeg (by omega) with q | ⟨l, q1, q2, q3⟩
    · rw [if_pos (i_6.mpr q)]
      exact ⟨v.toNatClampNeg, by omega, i_nI e.1⟩
    · rw [if_neg (fun z => by rw [q3] at z; exact nI_ne6 (by omega) (i_6.mp z)), q3]
      exact ⟨l, by omega, rfl⟩
  · rw [if_neg e]
    exact ⟨0, by omega, rfl⟩
theorem Jv_come (h : Jv S T n) (hc : c < n) (v : Int32) : Jv (gCome S c v) T n := by
  have g := gV_lt h v
  obtain ⟨h1, h2, h3, h4, h5, h6, h7, h8, h9, h10⟩ := h
  rw [gCome_nf]
  refine ⟨h1, h2, h3, h4, h5, fun i hi hn => ?_, fun i hi => ?_, h8, h9, h10⟩
  · obtain ⟨q1, q2, q3, q4, q5⟩ := h6 i hi hn
    exact ⟨(upd_ne (by omega)).trans q1, (upd_ne (by omega)).trans q2, q3, q4, (upd_ne (by omega)).trans q5⟩
  · show ∃ p, p < T ∧ upd (g_pl S) c (gV (g_le S) (g_top S) v) i = nI p
    by_cases e : i = c
    · subst e; rw [upd_same]; exact g
    · rw [upd_ne e]; exact h7 i hi
theorem Jv_lf (h : Jv S T n) (hk : k < n) (hm : m < n) : Jv (gLf S m k) T n := by
  unfold gLf
  refine Jv_come ?_ hk _
  obtain ⟨h1, h2, h3, h4, h5, h6, h7, h8, h9, h10⟩ := h
  refine ⟨h1, h2, h3, h4, h5, fun i hi hn => ?_, h7, h8, h9, h10⟩
  obtain ⟨q1, q2, q3, q4, q5⟩ := h6 i hi hn
  exact ⟨q1, q2, (upd_ne (by omega)).trans q3, (upd_ne (by omega)).trans q4, q5⟩
theorem Jv_gLs {p : Nat → Prop} [DecidablePred p] (h : Jv S T n) (hm : m < n) : ∀ j, j ≤ n → Jv (gLs S m p j) T n
  | 0, _ => h
  | j + 1, hj => by
    rw [gLs]
    by_cases e : p j
    · rw [if_pos e]; exact Jv_lf (Jv_gLs h hm j (by omega)) (by omega) hm
    · rw [if_neg e]; exact Jv_gLs h hm j (by omega)
theorem gSkF_ok (hn : n ≤ 6) : ∀ (u : Nat) (S : gS) (x : Nat), g_cl S = nI n → x < n → (∀ i, i < 6 → g_rs S i = 0 ∨ g_rs S i = 1) → (∀ i, i < 6 → n ≤ i → g_rs S i = 0) → cN (fun i => g_rs S i = 1) n ≤ u → ∃ x', x' < n ∧ g_mv (gSkF u S (nI x)) = nI x' ∧ g_rs (gSkF u S (nI x)) x' = 0 ∧ (∀ i, i < 6 → g_rs (gSkF u S (nI x)) i = 0 ∨ g_rs (gSkF u S (nI x)) i = 1) ∧ (∀ i, i < 6 → n ≤ i → g_rs (gSkF u S (nI x)) i = 0)
  | 0, S, x, hcl, hx, hrs, ho, hu => by
    refine ⟨x, hx, rfl, ?_, hrs, ho⟩
    rcases hrs x (by omega) with e | e
    · exact e
    · have := cN_lt (p := fun _ => False) (q := fun i => g_rs S i = 1) n (fun _ _ v => v.elim) ⟨x, hx, e, id⟩
      omega
  | u + 1, S, x, hcl, hx, hrs, ho, hu => by
    rw [gSkF, nI_clamp (by omega)]
    rcases hrs x (by omega) with e | e
    · rw [if_neg (by rw [e]; decide)]
      exact ⟨x, hx, rfl, e, hrs, ho⟩
    · rw [if_pos (by rw [e]; decide), gBeh_nx hcl hn hx]
      refine gSkF_ok hn u (g_wO (g_wRs S (upd (g_rs S) x (g_rs S x - 1))) (g_top S) (g_cl S) (g_mv S) (g_ro S) (g_lo S + 1)) ((x + 1) % n) hcl (Nat.mod_lt _ (by omega)) (fun i hi => ?_) (fun i hi hni => ?_) ?_
      · show upd (g_rs S) x (g_rs S x - 1) i = 0 ∨ upd (g_rs S) x (g_rs S x - 1) i = 1
        by_cases ei : i = x
        · subst ei; rw [upd_same, e]; exact Or.inl (by decide)
        · rw [upd_ne ei]; exact hrs i hi
      · exact (upd_ne (by omega)).trans (ho i hi hni)
      · have := cN_lt (p := fun i => g_rs (g_wO (g_wRs S (upd (g_rs S) x (g_rs S x - 1))) (g_top S) (g_cl S) (g_mv S) (g_ro S) (g_lo S + 1)) i = 1) (q := fun i => g_rs S i = 1) n (fun i hi v => ?_) ⟨x, hx, e, fun v => ?_⟩
        · omega
        · have v2 : upd (g_rs S) x (g_rs S x - 1) i = 1 := v
          by_cases ei : i = x
          · subst ei; exact e
          · rw [upd_ne ei] at v2; exact v2
        · have v2 : upd (g_rs S) x (g_rs S x - 1) x = 1 := v
          rw [upd_same, e] at v2
          exact absurd v2 (by decide)
theorem Iv_next (hJ : Jv S T n) (hmv : g_mv S = nI m) (hm : m < n) (hrs : ∀ i, i < 6 → g_rs S i = 0 ∨ g_rs S i = 1) (ho : ∀ i, i < 6 → n ≤ i → g_rs S i = 0) : ∃ m', m' < n ∧ Iv (gNext S) T n m' := by
  have hcl := hJ.2.2.2.1
  have n6 := hJ.2.2.2.2.1
  have f := gNext_fix S
  obtain ⟨x', q1, q2, q3, q4, q5⟩ := gSkF_ok n6 12 S ((m + 1) % n) hcl (Nat.mod_lt _ (by omega)) hrs ho (by have := cN_le (fun i => g_rs S i = 1) n; omega)
  have e : gNext S = gSkF 12 S (nI ((m + 1) % n)) := by unfold gNext; rw [hmv, gBeh_nx hcl n6 hm]
  rw [← e] at q2 q3 q4 q5
  exact ⟨x', q1, Jv.iv (hJ.of f.2.2.2.2.2.2.2.1 f.2.2.2.2.2.2.2.2.1 f.2.2.1 f.2.2.2.1 f.2.2.2.2.1 f.2.2.2.2.2.1 f.2.2.2.2.2.2.1 f.2.1 f.1) q2 (Or.inl q1) q5 q4 q3⟩
theorem gRoll1_nf (hI : Iv S T n m) {f0 : Nat} (hf : g_pl S m = nI f0) : gRoll1 S (nI u) n = gCome (gLs (gRo S) m (rPs S u) n) m (nI (f0 + u)) := by
  have m6 := hI.m6
  have ft := gLiftTo_gLs (T := gRo S) (u := nI u) (m := m) hI.gm (by omega) n
  show gCome (gLiftTo (gRo S) (nI u) n) (g_mv S).toNatClampNeg (g_pl S (g_mv S).toNatClampNeg + nI u) = _
  have q : ∀ a, a = m → gCome (gLiftTo (gRo S) (nI u) n) a (g_pl S a + nI u) = gCome (gLs (gRo S) m (rPs S u) n) m (nI (f0 + u)) := by
    intro a e
    subst e
    rw [hf, nI_add, ft.1]
  exact q _ hI.gmN
theorem Iv_roll (hI : Iv S T n m) (hm : m < n) : ∃ m', m' < n ∧ Iv (gRoll S (nI u) n) T n m' := by
  have n6 := hI.n6
  obtain ⟨f0, hf0, hf⟩ := hI.pl m (by omega)
  have fix := gRoll1_fix S (nI u) n
  have j1 : Jv (gRoll1 S (nI u) n) T n := by
    rw [gRoll1_nf hI hf]
    have j0 : Jv (gRo S) T n := hI.jv.of (V := gRo S) rfl rfl rfl rfl rfl rfl rfl rfl rfl
    exact Jv_come (Jv_gLs j0 hm n (Nat.le_refl _)) hm _
  have hr2 : ∀ i, g_rs (gRoll2 S (nI u) n) i = g_rs S i ∨ i = m ∧ g_rs (gRoll2 S (nI u) n) i = g_rs S i + 1 := by
    intro i
    show (if g_isLa (gRoll1 S (nI u) n) (g_pl S (g_mv S).toNatClampNeg + nI u) then upd (g_rs (gRoll1 S (nI u) n)) (g_mv S).toNatClampNeg (g_rs (gRoll1 S (nI u) n) (g_mv S).toNatClampNeg + 1) else g_rs (gRoll1 S (nI u) n)) i = g_rs S i ∨ i = m ∧ (if g_isLa (gRoll1 S (nI u) n) (g_pl S (g_mv S).toNatClampNeg + nI u) then upd (g_rs (gRoll1 S (nI u) n)) (g_mv S).toNatClampNeg (g_rs (gRoll1 S (nI u) n) (g_mv S).toNatClampNeg + 1) else g_rs (gRoll1 S (nI u) n)) i = g_rs S i + 1
    rw [fix.2.2.1, hI.gmN]
    split
    · by_cases e : i = m
      · subst e; rw [upd_same]; exact Or.inr ⟨rfl, rfl⟩
      · rw [upd_ne e]; exact Or.inl rfl
    · exact Or.inl rfl
  refine Iv_next (m := m) (j1.of (V := gRoll2 S (nI u) n) rfl rfl rfl rfl rfl rfl rfl rfl rfl) ((congrArg (fun z => z.2.2.1) fix.2.2.2).trans hI.gm) hm (fun i hi => ?_) (fun i hi hn => ?_)
  · rcases hr2 i with e | ⟨e1, e2⟩
    · rw [e]; exact hI.rs i hi
    · rw [e2, e1, hI.r0]; exact Or.inr (by decide)
  · rcases hr2 i with e | ⟨e1, e2⟩
    · rw [e]; exact (hI.out i hi hn).2.2.1
    · omega
theorem gLs_tl {p : Nat → Prop} [DecidablePred p] : ∀ j, j ≤ 6 → sSm (g_tl (gLs S m p j)) 6 = sSm (g_tl S) 6 + nI (cN p j)
  | 0, _ => (Int32.add_zero _).symm
  | j + 1, hj => by
    rw [gLs]
    simp only [cN]
    have ih := gLs_tl (p := p) j (by omega)
    by_cases e : p j
    · rw [if_pos e, if_pos e, gLf_nf]
      show sSm (upd (g_tl (gLs S m p j)) j (g_tl (gLs S m p j) j + 1)) 6 = _
      rw [sSm_upd _ _ _ 6 (by omega), ih, Int32.add_assoc, nI_1]
    · rw [if_neg e, if_neg e]; exact ih
theorem tl_roll (hI : Iv S T n m) (hm : m < n) : sSm (g_tl (gRoll S (nI u) n)) 6 - sSm (g_tl S) 6 = nI (cN (rPs S u) n) := by
  have n6 := hI.n6
  obtain ⟨f0, hf0, hf⟩ := hI.pl m (by omega)
  have e1 : g_tl (gRoll S (nI u) n) = g_tl (gRoll1 S (nI u) n) := (gNext_fix (gRoll2 S (nI u) n)).2.2.2.2.1
  have e2 : g_tl (gRoll1 S (nI u) n) = g_tl (gLs (gRo S) m (rPs S u) n) := by rw [gRoll1_nf hI hf, gCome_nf]
  rw [e1, e2, gLs_tl n n6]
  show sSm (g_tl S) 6 + nI (cN (rPs S u) n) - sSm (g_tl S) 6 = _
  rw [Int32.add_comm, Int32.add_sub_cancel]
end JV
