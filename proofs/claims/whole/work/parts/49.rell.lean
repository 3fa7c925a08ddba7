/-! class and reference: one move of a text, and all of them -/
section RL
variable {z f to : Nat → Int32} {t n k m c i j a b s e N J : Nat} {v w u x y : Int32} {S T : gS}
/-- a state of the class and one of the reference are the same, nobody with more than b tops -/
def OkE (S : gS) (z : Nat → Int32) (b : Nat) : Prop := ∃ t n k m, Rl S z t n k m ∧ g_rs S m = 0 ∧ Tb S b ∧ g_la S 0 = 0
theorem OkE.mono (h : OkE S z a) (hb : a ≤ b) : OkE S z b := by
  obtain ⟨t, n, k, m, h1, h2, h3, h4⟩ := h
  exact ⟨t, n, k, m, h1, h2, h3.mono hb, h4⟩
theorem Rl.gd (h : Rl S z t n k m) (hr : g_rs S m = 0) : mGd z t n k m := by
  have t10 := h.t10
  have mn := h.mn
  refine ⟨h.z0, by omega, h.t60, h.z1, h.n6, h.z2, mn.elim Or.inl (fun q => Or.inr q.1), h.z3, h.k6, Ok.plo h, fun hm => h.nok hm, fun u hu hm => ?_⟩
  have e := i_nI (x := u) (by omega)
  have ec := i_cl (x := u) (by omega)
  rw [e]
  exact ⟨h.to hm (by omega), (h.roll hm hr ⟨by omega, by omega⟩).1⟩
theorem Rl.c0 (h : Rl S z t n k m) : (z 0).toNatClampNeg = t := by have := h.t60; rw [h.z0]; exact nI_clamp (by omega)
theorem Rl.c1 (h : Rl S z t n k m) : (z 1).toNatClampNeg = n := by have := h.n6; rw [h.z1]; exact nI_clamp (by omega)
theorem Rl.c2 (h : Rl S z t n k m) : (z 2).toNatClampNeg = m := by have := h.n6; have := h.mn; rw [h.z2]; exact nI_clamp (by omega)
theorem Rl.c3 (h : Rl S z t n k m) : (z 3).toNatClampNeg = k := by have := h.k6; rw [h.z3]; exact nI_clamp (by omega)
theorem Rl.gtt (h : Rl S z t n k m) : gTT S = t := by have := h.t60; unfold gTT; rw [h.gt]; exact nI_clamp (by omega)
theorem Rl.gnn (h : Rl S z t n k m) : gNN S = n := by have := h.n6; unfold gNN; rw [h.gn]; exact nI_clamp (by omega)
theorem Rl.gmm (h : Rl S z t n k m) : (g_mv S).toNatClampNeg = m := by have := h.n6; have := h.mn; rw [h.gm]; exact nI_clamp (by omega)
theorem Rl.gw (h : Rl S z t n k m) : gW S := ⟨t, n, h.gt, h.t10, h.t60, h.gn, h.n6⟩
theorem Rl.gz (h : Rl S z t n k m) (hr : g_rs S m = 0) : mGz z := by
  unfold mGz
  rw [h.c0, h.c1, h.c2, h.c3]
  exact h.gd hr
theorem mWL_neg (z : Nat → Int32) (n k : Nat) (x y : Int32) : (mWL z n k x y).toInt = 0 ∨ (mWL z n k x y).toInt < 0 := by
  unfold mWL
  split
  · exact Or.inr (by decide)
  · split
    · exact Or.inr (by decide)
    · split
      · exact Or.inr (by decide)
      · split
        · exact Or.inr (by decide)
        · exact Or.inl (by decide)
theorem mWP_neg (z : Nat → Int32) (k : Nat) (x : Int32) : (mWP z k x).toInt = 0 ∨ (mWP z k x).toInt < 0 := by
  unfold mWP
  split
  · exact Or.inr (by decide)
  · split
    · exact Or.inr (by decide)
    · exact Or.inl (by decide)
theorem mWL_ok (h : (mWL z n k x y).toInt = 0) : m_st z x ∧ (0 ≤ y.toInt ∧ y.toInt ≤ (x - 1).toInt) ∧ (mCF z x k).toInt = -6 ∧ (z 3).toInt ≠ 6 := by
  unfold mWL at h
  by_cases e1 : m_st z x
  · rw [if_neg (not_not_intro e1)] at h
    by_cases e2 : 0 ≤ y.toInt ∧ y.toInt ≤ (x - 1).toInt
    · rw [if_neg (not_not_intro e2)] at h
      by_cases e3 : (mCF z x k).toInt ≠ -6 ∨ 0 < (sCn (m_lo z x) k).toInt ∨ (mCF z y k).toInt ≠ -6 ∨ m_la z x.toNatClampNeg ∨ (sOn (m_pl z) x n).toInt ≠ 0
      · rw [if_pos e3] at h; exact absurd h (by decide)
      · rw [if_neg e3] at h
        by_cases e4 : (z 3).toInt = 6
        · rw [if_pos e4] at h; exact absurd h (by decide)
        · exact ⟨e1, e2, Classical.byContradiction (fun q => e3 (Or.inl q)), e4⟩
    · rw [if_pos e2] at h; exact absurd h (by decide)
  · rw [if_pos e1] at h; exact absurd h (by decide)
theorem mWP_ok (h : (mWP z k x).toInt = 0) : m_st z x ∧ ¬ m_la z x.toNatClampNeg ∧ (mCF z x k).toInt = -6 := by
  unfold mWP at h
  by_cases e1 : m_st z x
  · rw [if_neg (not_not_intro e1)] at h
    by_cases e2 : m_la z x.toNatClampNeg ∨ (mCF z x k).toInt ≠ -6
    · rw [if_pos e2] at h; exact absurd h (by decide)
    · exact ⟨e1, fun q => e2 (Or.inl q), Classical.byContradiction (fun q => e2 (Or.inr q))⟩
  · rw [if_pos e1] at h; exact absurd h (by decide)
theorem sCn_ge (p : Nat → Prop) [DecidablePred p] {q : Nat} (hq : q ≤ 100) : 0 ≤ (sCn p q).toInt := by
  have := cN_le p q
  rw [sCn_nI, nI_toInt (by omega)]
  omega
theorem Rl.lay2 (h : Rl S z t n k m) (hw : (mWL z n k x y).toInt = 0) : Rl (gLay S x y) (mLay z k x y) t n (k + 1) m := by
  have t60 := h.t60
  have k6 := h.k6
  obtain ⟨h1, h2, h3, h4⟩ := mWL_ok hw
  have b := h.stt h1
  have ex : (x - 1).toInt = x.toInt - 1 := by
    have := i_sub (x := x) (y := 1) (by rw [show (1 : Int32).toInt = 1 by decide]; omega) (by rw [show (1 : Int32).toInt = 1 by decide]; omega)
    rw [this, show (1 : Int32).toInt = 1 by decide]
  have e1 := i_nI (x := x) (by omega)
  have e2 := i_nI (x := y) (by omega)
  have c1 := i_cl (x := x) (by omega)
  have c2 := i_cl (x := y) (by omega)
  rw [h.z3, nI_toInt (by omega)] at h4
  rw [e1] at h3
  rw [e1, e2]
  exact h.lay (by omega) (by omega) (by omega) h3
theorem Rl.put2 (h : Rl S z t n k m) (hw : (mWP z k x).toInt = 0) : Rl (gPutL S x 1) (upd z (57 + x.toNatClampNeg) 1) t n k m := by
  have t60 := h.t60
  obtain ⟨h1, h2, h3⟩ := mWP_ok hw
  have b := h.stt h1
  have e1 := i_nI (x := x) (by omega)
  have c1 := i_cl (x := x) (by omega)
  have q := h.put (s := x.toNatClampNeg) (by omega) 1 (Or.inr rfl)
  rw [← e1] at q
  exact q
theorem put_l0 (h : g_la S 0 = 0) (hx : 1 ≤ x.toInt) : g_la (gPutL S x v) 0 = 0 := by
  have c1 := i_cl (x := x) (by omega)
  exact (upd_ne (f := g_la S) (by omega)).trans h
theorem gRoll_la (S : gS) (u : Int32) (n : Nat) : g_la (gRoll S u n) = g_la S := by
  have e1 : g_la (gRoll S u n) = g_la (gRoll2 S u n) := (gNext_fix (gRoll2 S u n)).2.1
  rw [e1]
  exact (gRoll1_fix S u n).2.1
theorem i_lit0 {v : Int32} : v = 0 ↔ v.toInt = 0 := ⟨fun e => by rw [e]; decide, fun e => Int32.toInt_inj.mp (e.trans (by decide))⟩
theorem one_at (hk : Tk f N to j s) (h : OkE S z b) : ((cMv f N S s).1.toInt < 0 ↔ ¬ (mOz z (to (3 * j)) (to (3 * j + 1)) (to (3 * j + 2))).1.toInt = 0) ∧ OkE (cMv f N S s).2 (mOz z (to (3 * j)) (to (3 * j + 1)) (to (3 * j + 2))).2 (b + 1) := by
  obtain ⟨t, n, k, m, h, hr, hb, hl0⟩ := h
  obtain ⟨k1, k2, k3, k4, k5⟩ := hk
  have k5' : (49 ≤ (f s).toInt ∧ (f s).toInt ≤ 54) ∨ (f s).toInt = 112 ∨ (f s).toInt = 106 ∨ (f s).toInt = 99 ∨ (f s).toInt = 108 := k5
  have t60 := h.t60
  have n6 := h.n6
  have k6 := h.k6
  have keep : OkE S z (b + 1) := ⟨t, n, k, m, h, hr, hb.mono (by omega), hl0⟩
  have pi : ∀ (y : Int32) (q : Int), y.toInt = q → (f s = y ↔ (f s).toInt = q) := fun y q hy => ⟨fun e => by rw [e, hy], fun e => Int32.toInt_inj.mp (e.trans hy.symm)⟩
  have p1 := pi 112 112 (by decide)
  have p2 := pi 106 106 (by decide)
  have p3 := pi 99 99 (by decide)
  have p4 := pi 108 108 (by decide)
  unfold mOz
  rw [h.c1, h.c2, h.c3, k1]
  unfold mOne cMv
  rw [h.gtt, h.gnn, h.gmm]
  by_cases c1 : (f s).toInt = 112
  · rw [if_pos c1, if_pos (p1.mpr c1)]
    by_cases hm : m < n
    · rw [if_pos (h.mover.mpr hm), if_neg (by omega)]
      obtain ⟨g1, g2, g3⟩ := h.next hm
      refine ⟨⟨fun q => ?_, fun q => absurd (show (0 : Int32).toInt = 0 by decide) q⟩, t, n, k, _, g1, g2, (hb.mono (by omega)).of (gNext_fix S).2.2.2.1, by rw [(gNext_fix S).2.1]; exact hl0⟩
      have q : (g_mv (gNext S)).toInt < 0 := q
      rw [g1.gm, nI_toInt (by omega)] at q
      omega
    · have mn := h.mn
      rw [if_neg (fun q => hm (h.mover.mp q)), if_pos (by omega)]
      exact ⟨⟨fun _ => show ¬ (-3 : Int32).toInt = 0 by decide, fun _ => show (-3 : Int32).toInt < 0 by decide⟩, keep⟩
  rw [if_neg c1, if_neg (fun q => c1 (p1.mp q))]
  by_cases c2 : (f s).toInt = 106
  · rw [if_pos c2, if_pos (p2.mpr c2)]
    by_cases hn : n = 6
    · rw [if_pos (by rw [h.gn, nI_toInt (by omega)]; omega), if_pos hn]
      exact ⟨⟨fun _ => show ¬ (-4 : Int32).toInt = 0 by decide, fun _ => show (-4 : Int32).toInt < 0 by decide⟩, keep⟩
    · rw [if_neg (by rw [h.gn, nI_toInt (by omega)]; omega), if_neg hn]
      refine ⟨⟨fun q => ?_, fun q => absurd (show (0 : Int32).toInt = 0 by decide) q⟩, t, n + 1, k, m, h.join (by omega), hr, hb.mono (by omega), hl0⟩
      have q : (g_cl S + 1 - 1).toInt < 0 := q
      rw [Int32.add_sub_cancel, h.gn, nI_toInt (by omega)] at q
      omega
  rw [if_neg c2, if_neg (fun q => c2 (p2.mp q))]
  by_cases c3 : (f s).toInt = 99
  · obtain ⟨a1, a2⟩ := k2 c3
    rw [if_pos c3, if_pos (p3.mpr c3), a1, a2, h.whyL]
    by_cases hw : (mWL z n k (tNum f N 62 (s + 1) 0) (tNum f N 62 (tAN f N (N - s) s) 0)).toInt = 0
    · rw [if_pos (i_lit0.mpr hw), if_pos hw]
      refine ⟨⟨fun q => ?_, fun q => absurd (show (0 : Int32).toInt = 0 by decide) q⟩, t, n, k + 1, m, h.lay2 hw, hr, hb.mono (by omega), hl0⟩
      have q2 := sCn_ge (g_up (g_le (gLay S (tNum f N 62 (s + 1) 0) (tNum f N 62 (tAN f N (N - s) s) 0)))) (q := t) (by omega)
      have q3 : (sCn (g_up (g_le (gLay S (tNum f N 62 (s + 1) 0) (tNum f N 62 (tAN f N (N - s) s) 0)))) t).toInt < 0 := q
      omega
    · rw [if_neg (fun q => hw (i_lit0.mp q)), if_neg hw]
      exact ⟨⟨fun _ => hw, fun _ => (mWL_neg _ _ _ _ _).resolve_left hw⟩, keep⟩
  rw [if_neg c3, if_neg (fun q => c3 (p3.mp q))]
  by_cases c4 : (f s).toInt = 108
  · have a1 := k3 c4
    rw [if_pos c4, if_pos (p4.mpr c4), a1, h.whyP]
    by_cases hw : (mWP z k (tNum f N 62 (s + 1) 0)).toInt = 0
    · rw [if_pos (i_lit0.mpr hw), if_pos hw]
      refine ⟨⟨fun q => ?_, fun q => absurd (show (0 : Int32).toInt = 0 by decide) q⟩, t, n, k, m, h.put2 hw, hr, hb.mono (by omega), put_l0 hl0 (by have q9 := h.stt (mWP_ok hw).1; omega)⟩
      have q2 := sCn_ge (g_lan (g_la (gPutL S (tNum f N 62 (s + 1) 0) 1))) (q := t) (by omega)
      have q3 : (sCn (g_lan (g_la (gPutL S (tNum f N 62 (s + 1) 0) 1))) t).toInt < 0 := q
      omega
    · rw [if_neg (fun q => hw (i_lit0.mp q)), if_neg hw]
      exact ⟨⟨fun _ => hw, fun _ => (mWP_neg _ _ _).resolve_left hw⟩, keep⟩
  rw [if_neg c4, if_neg (fun q => c4 (p4.mp q))]
  have hd : dg (f s) := ⟨by omega, by omega⟩
  have es := c_sub (c := f s) (by omega)
  have hu : 1 ≤ (f s - 48).toInt ∧ (f s - 48).toInt ≤ 6 := by omega
  rw [k4 hd, if_neg (not_not_intro hu)]
  unfold mWR
  rw [if_neg (not_not_intro hu), h.z1i]
  have eu := i_nI (x := f s - 48) (by omega)
  have ecl := i_cl (x := f s - 48) (by omega)
  by_cases hm : m < n
  · rw [if_neg (not_not_intro (h.mover.mpr hm)), if_neg (show ¬ (n : Int) = 0 by omega), if_pos (show (0 : Int32).toInt = 0 by decide), eu]
    obtain ⟨g1, g2, g3, g4⟩ := h.roll hm hr (u := (f s - 48).toNatClampNeg) ⟨by omega, by omega⟩
    have g5 := h.tb (u := nI (f s - 48).toNatClampNeg) hm hb
    refine ⟨⟨fun q => ?_, fun q => absurd (show (0 : Int32).toInt = 0 by decide) q⟩, t, n, k, _, g2, g3, g5, by rw [gRoll_la]; exact hl0⟩
    obtain ⟨p, q1, q2⟩ := g2.plt m (by omega)
    have q : (g_pl (gRoll S (nI (f s - 48).toNatClampNeg) n) m).toInt < 0 := q
    rw [q2, nI_toInt (by omega)] at q
    omega
  · have mn := h.mn
    rw [if_pos (fun q => hm (h.mover.mp q)), if_pos (show (n : Int) = 0 by omega), if_neg (show ¬ (-3 : Int32).toInt = 0 by decide)]
    exact ⟨⟨fun _ => show ¬ (-3 : Int32).toInt = 0 by decide, fun _ => show (-3 : Int32).toInt < 0 by decide⟩, keep⟩
theorem cMs_skip : ∀ (r d a m : Nat) (S : gS), (∀ x, a ≤ x → x < a + r → ¬ tMS f x) → cMs f N (d + r) a m S = cMs f N d (a + r) m S
  | 0, d, a, m, S, _ => rfl
  | r + 1, d, a, m, S, h => by
    rw [show d + (r + 1) = (d + r) + 1 from rfl, cMs, if_neg (h a (Nat.le_refl _) (by omega)), cMs_skip r d (a + 1) m S (fun x h1 h2 => h x (by omega) (by omega)), show a + 1 + r = a + (r + 1) by omega]
theorem Ms_lt : ∀ (u j s : Nat), Ms f N to J u j s → j < J
  | 0, _, _, h => h.elim
  | u + 1, j, s, h => by
    obtain ⟨_, _, e, _, _, _, q | ⟨_, _, q⟩⟩ := h
    · omega
    · have := Ms_lt u (j + 1) (e + 1) q
      omega
theorem ms_at : ∀ (u j s b : Nat) (S : gS) (z : Nat → Int32), Ms f N to J u j s → tMS f s → OkE S z b → mPk to (J - j) j z ∧ (cMs f N (N - s) s j S).1 = (mPl to (J - j) j z).1 ∧ OkE (cMs f N (N - s) s j S).2 (mPl to (J - j) j z).2 (b + (J - j))
  | 0, _, _, _, _, _, h, _, _ => h.elim
  | u + 1, j, s, b, S, z, h, ht, hok => by
    have hlt := Ms_lt _ _ _ h
    obtain ⟨h1, h2, e, h3, h4, h5, h6⟩ := h
    obtain ⟨o1, o2⟩ := one_at h2 hok
    have hgz : mGz z := by
      obtain ⟨t, n, k, m, q1, q2, _⟩ := hok
      exact q1.gz q2
    rw [show J - j = (J - (j + 1)) + 1 by omega, mPk, mPl, show N - s = (N - (s + 1)) + 1 by omega, cMs, if_pos ht]
    by_cases hw : (mOz z (to (3 * j)) (to (3 * j + 1)) (to (3 * j + 2))).1.toInt = 0
    · rw [if_pos hw, if_neg (fun q => o1.mp q hw)]
      rcases h6 with ⟨q1, q2⟩ | ⟨q1, q2, q3⟩
      · have sk := cMs_skip (f := f) (N := N) (N - (s + 1)) 0 (s + 1) (j + 1) (cMv f N S s).2 (fun x a1 a2 q => by
          rcases q with q | q
          · omega
          · exact h5 (x - 1) (by omega) (by omega) q)
        rw [Nat.zero_add] at sk
        rw [sk, cMs, show J - (j + 1) = 0 by omega, mPl]
        exact ⟨⟨hgz, fun _ => trivial⟩, rfl, o2.mono (by omega)⟩
      · have sk := cMs_skip (f := f) (N := N) (e - s) (N - (e + 1)) (s + 1) (j + 1) (cMv f N S s).2 (fun x a1 a2 q => by
          rcases q with q | q
          · omega
          · exact h5 (x - 1) (by omega) (by omega) q)
        rw [show N - (e + 1) + (e - s) = N - (s + 1) by omega, show s + 1 + (e - s) = e + 1 by omega] at sk
        rw [sk]
        have ih := ms_at u (j + 1) (e + 1) (b + 1) _ _ q3 (Or.inr q2) o2
        exact ⟨⟨hgz, fun _ => ih.1⟩, ih.2.1, ih.2.2.mono (by omega)⟩
    · rw [if_neg hw, if_pos (o1.mpr hw)]
      exact ⟨⟨hgz, fun q => absurd q hw⟩, rfl, o2.mono (by omega)⟩
end RL
