/-! class and reference: a roll -/
section RF
variable {z f : Nat → Int32} {t n k m c x i j a : Nat} {v w : Int32} {S T : gS}
/-- one more roll -/
abbrev gRo (S : gS) : gS := g_wO S (g_top S) (g_cl S) (g_mv S) (g_ro S + 1) (g_lo S)
theorem Rl.ro (h : Rl S z t n k m) : Rl (gRo S) (upd z 4 (z 4 + 1)) t n k m := by
  refine h.mov (g_pl S) (g_tp S) (g_tl S) (g_lm S) (g_sl S) (g_ro S + 1) _ (fun i hi => upd_ne (by omega)) ?_ ((upd_ne (by omega)).trans h.z5) ((upd_ne (by omega)).trans h.z6) (fun c hc => (upd_ne (by omega)).trans (h.pl c hc)) (fun c hc => (upd_ne (by omega)).trans (h.tp c hc)) (fun c hc => upd_ne (by omega)) (fun c hc => (upd_ne (by omega)).trans (h.tl c hc)) (fun c hc => (upd_ne (by omega)).trans (h.lm c hc)) (fun c hc => (upd_ne (by omega)).trans (h.sl c hc)) (fun c hc hn => ?_) h.plt
  · rw [h.z4]; exact upd_same
  · obtain ⟨o1, o2, _, o4, o5, o6⟩ := h.out c hc hn
    exact ⟨o1, o2, o4, o5, o6⟩
theorem mR1_eq (hm : m < 6) (b : Int32) : mR1 z m b = mAdj (upd z 4 (z 4 + 1)) m b := by
  unfold mAdj
  rw [show upd z 4 (z 4 + 1) (8 + 6 * m + 4) = z (8 + 6 * m + 4) from upd_ne (by omega), show upd z 4 (z 4 + 1) 5 = z 5 from upd_ne (by omega)]
  show upd (upd (upd z (8 + 6 * m + 4) (z (8 + 6 * m + 4) + b)) 5 (z 5 + b)) 4 (z 4 + 1) = upd (upd (upd z 4 (z 4 + 1)) (8 + 6 * m + 4) (z (8 + 6 * m + 4) + b)) 5 (z 5 + b)
  rw [upd_comm (z := z) (i := 4) (j := 8 + 6 * m + 4) (by omega), upd_comm (i := 4) (j := 5) (by omega)]
theorem Rl.psd (h : Rl S z t n k m) (hm : m < n) (u : Int32) (hc : c < n) : mPs z m u c ↔ g_psd S c u := by
  have n6 := h.n6
  have t60 := h.t60
  have em : (g_mv S).toNatClampNeg = m := by rw [h.gm]; exact nI_clamp (by omega)
  obtain ⟨p, p1, p2⟩ := h.plt c (by omega)
  have hb : 0 ≤ (g_pl S c).toInt ∧ (g_pl S c).toInt < t := by rw [p2, nI_toInt (by omega)]; omega
  have hla := h.isLa (g_pl S c)
  show (c ≠ m ∧ (z (8 + 6 * m)).toInt < (z (8 + 6 * c)).toInt ∧ (z (8 + 6 * c)).toInt < (z (8 + 6 * m) + u).toInt ∧ ¬ m_la z (z (8 + 6 * c)).toNatClampNeg) ↔ ((g_pl S (g_mv S).toNatClampNeg).toInt < (g_pl S c).toInt ∧ (g_pl S c).toInt < (g_pl S (g_mv S).toNatClampNeg + u).toInt ∧ ¬ g_isLa S (g_pl S c))
  rw [em, h.pl m (by omega), h.pl c (by omega), hla]
  constructor
  · rintro ⟨_, h2, h3, h4⟩
    exact ⟨h2, h3, fun q => h4 q.2⟩
  · rintro ⟨h2, h3, h4⟩
    refine ⟨fun e => ?_, h2, h3, fun q => h4 ⟨hb, q⟩⟩
    rw [e] at h2
    omega
theorem Rl.roll1 (h : Rl S z t n k m) (hm : m < n) {u : Nat} (hu : 1 ≤ u ∧ u ≤ 6) : mLk n k 6 (mR1 z m (sBits (mPB z n m (nI u)) 6)) (mPB z n m (nI u)) ∧ Rl (gRoll1 S (nI u) n) (mR3 z n k m (nI u)) t n k m := by
  have n6 := h.n6
  have t60 := h.t60
  have h1 := h.ro
  obtain ⟨a, a1, a2, a3⟩ := sBs_bt (mPs z m (nI u)) n n6
  have em : (g_mv S).toNatClampNeg = m := by rw [h.gm]; exact nI_clamp (by omega)
  have hlg := Rl.lg 6 (gRo S) (upd z 4 (z 4 + 1)) a h1 hm a1 (fun i hi hb => ((a3 i hi).mp hb).1) (cN_le _ _)
  have e2 : mR2 z n k m (nI u) = mLg n k m 6 (upd z 4 (z 4 + 1)) (nI a) := by
    show mLf n k 6 (mR1 z m (sBits (sBs (mPs z m (nI u)) n) 6)) (sBs (mPs z m (nI u)) n) = _
    rw [a2, mR1_eq (by omega)]
    exact mLf_adj n6 (by omega) 6 _ a _ a1 rfl hlg.2
  have hk1 : mLk n k 6 (mR1 z m (sBits (mPB z n m (nI u)) 6)) (mPB z n m (nI u)) := by
    show mLk n k 6 (mR1 z m (sBits (sBs (mPs z m (nI u)) n) 6)) (sBs (mPs z m (nI u)) n)
    rw [a2, mR1_eq (by omega)]
    exact hlg.2
  have g1 := gLiftTo_gLs (T := gRo S) (u := nI u) (m := m) h.gm (by omega) n
  have e3 : gLs (gRo S) m (bt a) n = gLiftTo (gRo S) (nI u) n := by
    rw [g1.1]
    exact gLs_congr n (fun i hi => (a3 i (by omega)).trans ⟨fun q => (h.psd hm (nI u) hi).mp q.2, fun q => ⟨hi, (h.psd hm (nI u) hi).mpr q⟩⟩)
  have h2 : Rl (gLiftTo (gRo S) (nI u) n) (mR2 z n k m (nI u)) t n k m := by
    rw [e2, ← e3]
    exact hlg.1
  obtain ⟨p, p1, p2⟩ := h.plt m (by omega)
  have ep : g_pl S m + nI u = nI (p + u) := by rw [p2]; exact nI_add p u
  refine ⟨hk1, ?_⟩
  show Rl (gCome (gLiftTo (gRo S) (nI u) n) (g_mv S).toNatClampNeg (g_pl S (g_mv S).toNatClampNeg + nI u)) (mCome (mR2 z n k m (nI u)) k m (z (8 + 6 * m) + nI u)) t n k m
  rw [em, h.pl m (by omega), ep]
  exact h2.come hm (by omega)
theorem Rl.roll2 (h : Rl S z t n k m) (hm : m < n) (hr : g_rs S m = 0) {u : Nat} (hu : 1 ≤ u ∧ u ≤ 6) : Rl (gRoll2 S (nI u) n) (mR4 z n k m (nI u)) t n k m := by
  have n6 := h.n6
  have t60 := h.t60
  have h3 := (h.roll1 hm hu).2
  have hf := gRoll1_fix S (nI u) n
  have em : (g_mv S).toNatClampNeg = m := by rw [h.gm]; exact nI_clamp (by omega)
  obtain ⟨p, p1, p2⟩ := h.plt m (by omega)
  have ep : g_pl S m + nI u = nI (p + u) := by rw [p2]; exact nI_add p u
  have hl : g_isLa (gRoll1 S (nI u) n) (nI (p + u)) ↔ (z (8 + 6 * m) + nI u).toInt < (z 0).toInt ∧ m_la z (z (8 + 6 * m) + nI u).toNatClampNeg := by
    have ft : g_top (gRoll1 S (nI u) n) = g_top S := by
      have q := congrArg (fun q : Int32 × Int32 × Int32 × Int32 × Int32 => q.1) hf.2.2.2
      exact q
    have e0 : g_isLa (gRoll1 S (nI u) n) (nI (p + u)) ↔ g_isLa S (nI (p + u)) := by
      unfold g_isLa
      rw [ft, hf.2.1]
    rw [e0, h.isLa, h.pl m (by omega), ep, h.z0, nI_toInt (by omega), nI_toInt (by omega)]
    exact ⟨fun q => ⟨q.1.2, q.2⟩, fun q => ⟨⟨by omega, q.1⟩, q.2⟩⟩
  unfold gRoll2 mR4
  rw [em, ep]
  by_cases e : g_isLa (gRoll1 S (nI u) n) (nI (p + u))
  · rw [if_pos e, if_pos (hl.mp e), h3.rs m (by omega)]
    have e1 : g_rs (gRoll1 S (nI u) n) m = 0 := by rw [hf.2.2.1]; exact hr
    have q := h3.rest (upd (g_rs (gRoll1 S (nI u) n)) m (g_rs (gRoll1 S (nI u) n) m + 1)) (g_lo (gRoll1 S (nI u) n)) m (mLays (mR3 z n k m (nI u)) m 2 (g_rs (gRoll1 S (nI u) n) m + 1)) (fun i h2 h7 hc => upd_ne (hc m (by omega))) ((upd_ne (by omega)).trans h3.z2) ((upd_ne (by omega)).trans h3.z7) (Or.inl hm) (w_upd (w := 2) (by decide) h3.rs) (fun c hc hn => (upd_ne (by omega)).trans (h3.out c hc hn).2.2.1) (fun c hc => ?_)
    · have e2 := h3.gm
      obtain ⟨R1, hR1⟩ : ∃ R1, gRoll1 S (nI u) n = R1 := ⟨_, rfl⟩
      rw [hR1] at q e2 ⊢
      rw [← e2] at q
      exact q
    · by_cases ec : c = m
      · subst ec
        rw [upd_same, e1]
        exact Or.inr (by decide)
      · rw [upd_ne ec]
        exact h3.rs01 c hc
  · rw [if_neg e, if_neg (fun q => e (hl.mpr q))]
    exact h3
theorem Rl.roll (h : Rl S z t n k m) (hm : m < n) (hr : g_rs S m = 0) {u : Nat} (hu : 1 ≤ u ∧ u ≤ 6) : mRok z n k m (nI u) ∧ Rl (gRoll S (nI u) n) (mRoll z n k m (nI u)) t n k (mNx (mR4 z n k m (nI u)) n m).2 ∧ g_rs (gRoll S (nI u) n) (mNx (mR4 z n k m (nI u)) n m).2 = 0 ∧ (mNx (mR4 z n k m (nI u)) n m).2 < n := by
  have h4 := h.roll2 hm hr hu
  exact ⟨⟨(h.roll1 hm hu).1, h4.nok hm⟩, h4.next hm⟩
/-- what is asked of a state -/
def Ok (S : gS) (z : Nat → Int32) (t n k m : Nat) : Prop := Rl S z t n k m ∧ g_rs S m = 0
theorem Ok.r (h : Ok S z t n k m) : Rl S z t n k m := h.1
theorem Ok.plo (h : Rl S z t n k m) : mPlo z n := fun c hc => by
  have n6 := h.n6
  have t60 := h.t60
  obtain ⟨p, p1, p2⟩ := h.plt c (by omega)
  rw [h.pl c (by omega), p2, nI_toInt (by omega)]
  omega
theorem Rl.to (h : Rl S z t n k m) (hm : m < n) {u : Nat} (hu : u ≤ 6) : 0 ≤ (z (8 + 6 * m) + nI u).toInt := by
  have n6 := h.n6
  have t60 := h.t60
  obtain ⟨p, p1, p2⟩ := h.plt m (by omega)
  rw [h.pl m (by omega), p2, nI_add, nI_toInt (by omega)]
  omega
theorem Rl.z1i (h : Rl S z t n k m) : (z 1).toInt = (n : Int) := by
  have n6 := h.n6
  rw [h.z1]
  exact nI_toInt (by omega)
theorem Rl.ifr (h : Rl S z t n k m) (hm : m < n) (hr : g_rs S m = 0) {u : Nat} (hu : 1 ≤ u ∧ u ≤ 6) (p : Int32) : gIf S n (nI u) p = mIf z n k m (nI u) p := by
  have n6 := h.n6
  have em : (g_mv S).toNatClampNeg = m := by rw [h.gm]; exact nI_clamp (by omega)
  obtain ⟨-, h2, -, -⟩ := h.roll hm hr hu
  have pi : ∀ (y : Int32), p = y ↔ p.toInt = y.toInt := fun y => ⟨fun e => by rw [e], fun e => Int32.toInt_inj.mp e⟩
  have t1 := h.tops
  have t2 := h2.tops
  unfold gIf mIf mTps
  rw [em, ← t1, ← t2, h2.pl m (by omega), h2.z5, h.z5, h2.z6, h.z6, h2.z2, h2.gm]
  have d0 : (0 : Int32).toInt = 0 := by decide
  have d1 : (1 : Int32).toInt = 1 := by decide
  have d2 : (2 : Int32).toInt = 2 := by decide
  have d3 : (3 : Int32).toInt = 3 := by decide
  have f0 := pi 0
  have f1 := pi 1
  have f2 := pi 2
  have f3 := pi 3
  rw [d0] at f0
  rw [d1] at f1
  rw [d2] at f2
  rw [d3] at f3
  by_cases p0 : p = 0
  · rw [if_pos p0, if_pos (f0.mp p0)]
  rw [if_neg p0, if_neg (fun q => p0 (f0.mpr q))]
  by_cases p1 : p = 1
  · rw [if_pos p1, if_pos (f1.mp p1)]
  rw [if_neg p1, if_neg (fun q => p1 (f1.mpr q))]
  by_cases p2 : p = 2
  · rw [if_pos p2, if_pos (f2.mp p2)]
  rw [if_neg p2, if_neg (fun q => p2 (f2.mpr q))]
  by_cases p3 : p = 3
  · rw [if_pos p3, if_pos (f3.mp p3)]
  rw [if_neg p3, if_neg (fun q => p3 (f3.mpr q))]
theorem sQu_congr {p q : Nat → Prop} [DecidablePred p] [DecidablePred q] : ∀ n, (∀ i, 1 ≤ i → i ≤ n → (p i ↔ q i)) → sQu p n = sQu q n
  | 0, _ => rfl
  | n + 1, h => by
    rw [sQu, sQu, sQu_congr n (fun i h1 h2 => h i h1 (by omega))]
    by_cases e : p (n + 1)
    · rw [if_pos e, if_pos ((h _ (by omega) (by omega)).mp e)]
    · rw [if_neg e, if_neg (fun q => e ((h _ (by omega) (by omega)).mpr q))]
theorem bt_no : ∀ a, a < 64 → ((nI a).toInt = 0 ↔ ∀ i, i < 6 → ¬ bt a i) := fun a ha => by
  constructor
  · intro h i hi
    rw [nI_toInt (by omega)] at h
    have : a = 0 := by omega
    subst this
    exact bt_0 i hi
  · intro h
    refine Classical.byContradiction (fun e => ?_)
    rw [nI_toInt (by omega)] at e
    obtain ⟨c, c1, c2⟩ := bt_ex a ha (by omega)
    exact h c c1 c2
theorem Rl.quiet (h : Rl S z t n k m) (hm : m < n) : sQu (g_qt S n) 6 = sQu (fun i => (mPB z n m (nI i)).toInt = 0) 6 := by
  have n6 := h.n6
  refine sQu_congr 6 (fun i h1 h2 => ?_)
  obtain ⟨a, a1, a2, a3⟩ := sBs_bt (mPs z m (nI i)) n n6
  show sNo (fun c => g_psd S c (nI i)) n = true ↔ (sBs (mPs z m (nI i)) n).toInt = 0
  rw [sNo_iff, a2, bt_no a a1]
  constructor
  · intro q j hj hb
    have := (a3 j hj).mp hb
    exact q j this.1 ((h.psd hm (nI i) this.1).mp this.2)
  · intro q j hj hb
    exact q j (by omega) ((a3 j (by omega)).mpr ⟨hj, (h.psd hm (nI i) hj).mpr hb⟩)
end RF
