/-! texts: a move read, and all of them -/
section RK
variable {f to to' : Nat → Int32} {n s i j e J : Nat} {X Z O b c : Int32}
theorem c_sub (hc : -100 ≤ c.toInt) : (c - 48).toInt = c.toInt - 48 := by
  have r := i_rng c
  have e : (48 : Int32).toInt = 48 := by decide
  rw [i_sub (by omega) (by omega), e]
theorem wMS_99 (h : c.toInt = 99) : wMS c = 3 := by
  have e := c_sub (c := c) (by omega)
  unfold wMS
  rw [if_neg (by omega), if_pos h]
theorem wMS_108 (h : c.toInt = 108) : wMS c = 6 := by
  have e := c_sub (c := c) (by omega)
  unfold wMS
  rw [if_neg (by omega), if_neg (by omega), if_pos h]
theorem wMS_o (h : mStt c) (h1 : ¬ c.toInt = 99) (h2 : ¬ c.toInt = 108) : wMS c = 2 := by
  have h : (49 ≤ c.toInt ∧ c.toInt ≤ 54) ∨ c.toInt = 112 ∨ c.toInt = 106 ∨ c.toInt = 99 ∨ c.toInt = 108 := h
  have e := c_sub (c := c) (by omega)
  unfold wMS
  rw [if_pos (by omega)]
theorem wMS_no (h : ¬ mStt c) (hr : -100 ≤ c.toInt) : wMS c = 0 := by
  have h : ¬ ((49 ≤ c.toInt ∧ c.toInt ≤ 54) ∨ c.toInt = 112 ∨ c.toInt = 106 ∨ c.toInt = 99 ∨ c.toInt = 108) := h
  have e := c_sub (c := c) hr
  unfold wMS
  rw [if_neg (by omega), if_neg (by omega), if_neg (by omega)]
theorem er_num (hX : ∀ c, wB X c = wN c Z O) (h2 : X.toInt ≠ 2 ∧ X.toInt ≠ 7) (hs : s ≤ n) (hg : Gd f s) (hW : tW f s = X) (hd : ¬ (s < n ∧ dg (f s))) : Er f n (nI s) := ⟨s, hs, rfl, hg, fun h => by
  rw [tW, hW, hX]
  unfold wN
  rw [if_neg (fun q => hd ⟨h, q⟩)]
  decide, fun _ => by rw [hW]; exact h2⟩
theorem tAN_at (h62 : (f e).toInt = 62) : ∀ d i, i ≤ e → e < i + d → (∀ x, i ≤ x → x < e → (f x).toInt ≠ 62) → tAN f n d i = e + 1
  | 0, i, h1, h2, _ => absurd h1 (by omega)
  | d + 1, i, h1, h2, h3 => by
    rw [tAN]
    by_cases ei : i = e
    · subst ei
      rw [if_pos h62]
    · rw [if_neg (h3 i (Nat.le_refl _) (by omega)), tAN_at h62 d (i + 1) (by omega) (by omega) (fun x a b => h3 x (by omega) b)]
/-- the row of what is told holds the move that begins at s -/
def Tk (f : Nat → Int32) (n : Nat) (to : Nat → Int32) (j s : Nat) : Prop := to (3 * j) = f s ∧ ((f s).toInt = 99 → to (3 * j + 1) = tNum f n 62 (s + 1) 0 ∧ to (3 * j + 2) = tNum f n 62 (tAN f n (n - s) s) 0) ∧ ((f s).toInt = 108 → to (3 * j + 1) = tNum f n 62 (s + 1) 0) ∧ (dg (f s) → tNum f n 62 s 0 = f s - 48) ∧ mStt (f s)
theorem Tk.keep (h : Tk f n to j s) (he : ∀ i, i < 3 * (j + 1) → to' i = to i) : Tk f n to' j s := by
  obtain ⟨h1, h2, h3, h4, h5⟩ := h
  unfold Tk
  rw [he (3 * j) (by omega), he (3 * j + 1) (by omega), he (3 * j + 2) (by omega)]
  exact ⟨h1, h2, h3, h4, h5⟩
def Rok (f : Nat → Int32) (n s j : Nat) (P : mPp) : Prop := ∃ s', P.1 = (s', -6) ∧ s < s' ∧ s' ≤ n ∧ Gd f s' ∧ (tW f s' = 2 ∨ tW f s' = 7 ∧ ¬ (s' < n ∧ dg (f s'))) ∧ (∀ i, s ≤ i → i < s' → (f i).toInt ≠ 44) ∧ (¬ (s' < n ∧ dg (f s')) → Tk f n P.2.1 j s)
theorem rd_at (hf : tOk f n) (hn : n ≤ 60) (hs : s ≤ n) (hg : Gd f s) (hW : tW f s = 1) (to : Nat → Int32) (j : Nat) : (mRd f n ((s, -6), to, j)).2.2 = j + 1 ∧ (mRd f n ((s, -6), to, j)).1.1 ≤ s + 8 ∧ (∀ i, i < 3 * j → (mRd f n ((s, -6), to, j)).2.1 i = to i) ∧ (Er f n (mRd f n ((s, -6), to, j)).1.2 ∨ Rok f n s j (mRd f n ((s, -6), to, j))) := by
  have up3 : ∀ (v1 : Int32) (i : Nat), i < 3 * j → upd to (3 * j) v1 i = to i := fun v1 i hi => upd_ne (by omega)
  have up2 : ∀ (v1 v2 : Int32) (i : Nat), i < 3 * j → upd (upd to (3 * j) v1) (3 * j + 1) v2 i = to i := fun v1 v2 i hi => (upd_ne (by omega)).trans (upd_ne (by omega))
  have up1 : ∀ (v1 v2 v3 : Int32) (i : Nat), i < 3 * j → upd (upd (upd to (3 * j) v1) (3 * j + 1) v2) (3 * j + 2) v3 i = to i := fun v1 v2 v3 i hi => (upd_ne (by omega)).trans ((upd_ne (by omega)).trans (upd_ne (by omega)))
  by_cases hst : mStt (mLt f n s)
  · have hsn : s < n := Classical.byContradiction (fun q => by
      rw [mLt_out q] at hst
      exact absurd hst (by decide))
    rw [mLt_in hsn] at hst
    have hst' : (49 ≤ (f s).toInt ∧ (f s).toInt ≤ 54) ∨ (f s).toInt = 112 ∨ (f s).toInt = 106 ∨ (f s).toInt = 99 ∨ (f s).toInt = 108 := hst
    have hra : mRa f n ((s, -6), to, j) = (s + 1, -6) := by
      show mW (b2i (mStt (mLt f n s))) (s, -6) = _
      rw [mLt_in hsn]
      exact mW_ok (b2i_T hst)
    have hrl : mRl f n ((s, -6), to, j) = f s := mLt_in hsn
    have hW1 : tW f (s + 1) = wMS (f s) := by rw [tW, hW, wB_1]
    by_cases c99 : (f s).toInt = 99
    · rw [wMS_99 c99] at hW1
      have hg1 : Gd f (s + 1) := hg.ext (fun i h1 h2 => by rw [show i = s by omega, hW1]; decide)
      have e1 : mRd f n ((s, -6), to, j) = ((mNu f n (mRc f n ((s, -6), to, j))).2, mTc f n ((s, -6), to, j), j + 1) := by
        unfold mRd
        rw [if_pos (by rw [hrl]; exact c99)]
      by_cases d1 : s + 1 < n ∧ dg (f (s + 1))
      · obtain ⟨v, s1, r1, r2, r3, r4, r5, r6, r7⟩ := num_ok (f := f) (n := n) (s := s + 1) wB_3 (fun c hc => by rw [wB_4, if_pos hc]) (by decide) (by decide) hf d1.1 hW1 d1.2
        have hg2 : Gd f s1 := hg1.ext (fun i h1 h2 => (r5 i h1 h2).1)
        have hrb : mRb f n ((s, -6), to, j) = (s1, -6) := by
          show (mNu f n (mRa f n ((s, -6), to, j))).2 = _
          rw [hra, r1]
        have hst3 : ¬ dg (f s1) → s1 < n → wB (tW f s1) (f s1) = wA (f s1) := fun hd h => by
          rcases r6 with r6 | ⟨r6, _⟩
          · rw [r6, wB_5]
          · rw [r6, wB_4, if_neg hd]
        by_cases c62 : (mLt f n s1).toInt = 62
        · have hs1n : s1 < n := Classical.byContradiction (fun q => by
            rw [mLt_out q] at c62
            exact absurd c62 (by decide))
          rw [mLt_in hs1n] at c62
          have hnd : ¬ dg (f s1) := fun q => by
            have q : 48 ≤ (f s1).toInt ∧ (f s1).toInt ≤ 57 := q
            omega
          have hrc : mRc f n ((s, -6), to, j) = (s1 + 1, -6) := by
            show mW (b2i ((mLt f n (mRb f n ((s, -6), to, j)).1).toInt = 62)) (mRb f n ((s, -6), to, j)) = _
            rw [hrb]
            exact mW_ok (b2i_T (by show (mLt f n s1).toInt = 62; rw [mLt_in hs1n]; exact c62))
          have hW2 : tW f (s1 + 1) = 6 := by
            rw [tW, hst3 hnd hs1n]
            unfold wA
            rw [if_pos c62]
          have hg3 : Gd f (s1 + 1) := hg2.ext (fun i h1 h2 => by rw [show i = s1 by omega, hW2]; decide)
          by_cases d2 : s1 + 1 < n ∧ dg (f (s1 + 1))
          · obtain ⟨v2, s2, p1, p2, p3, p4, p5, p6, p7⟩ := num_ok (f := f) (n := n) (s := s1 + 1) wB_6 (fun c hc => by rw [wB_7, if_pos hc]) (by decide) (by decide) hf d2.1 hW2 d2.2
            rw [e1, hrc, p1]
            have eT : mTc f n ((s, -6), to, j) = upd (upd (upd to (3 * j) (f s)) (3 * j + 1) v) (3 * j + 2) v2 := by
              show upd (upd (upd to (3 * j) (mRl f n ((s, -6), to, j))) (3 * j + 1) (mNu f n (mRa f n ((s, -6), to, j))).1) (3 * j + 2) (mNu f n (mRc f n ((s, -6), to, j))).1 = _
              rw [hrl, hra, r1, hrc, p1]
            rw [eT]
            refine ⟨rfl, by show s2 ≤ s + 8; omega, fun i hi => up1 _ _ _ i hi, Or.inr ⟨s2, rfl, by omega, p3, hg3.ext (fun i h1 h2 => (p5 i h1 h2).1), p6, fun i h1 h2 => ?_, fun hnd2 => ⟨?_, fun _ => ⟨?_, ?_⟩, fun q => absurd q (by omega), fun q => ?_, hst⟩⟩⟩
            · by_cases i1 : i = s
              · subst i1; omega
              · by_cases i2 : i < s1
                · have := (r5 i (by omega) i2).2
                  have q : 48 ≤ (f i).toInt ∧ (f i).toInt ≤ 57 := this
                  omega
                · by_cases i3 : i = s1
                  · subst i3; omega
                  · have := (p5 i (by omega) h2).2
                    have q : 48 ≤ (f i).toInt ∧ (f i).toInt ≤ 57 := this
                    omega
            · exact (upd_ne (by omega)).trans ((upd_ne (by omega)).trans upd_same)
            · rw [r7 (fun q => hnd q.2)]
              exact (upd_ne (by omega)).trans upd_same
            · rw [tAN_at c62 (n - s) s (by omega) (by omega) (fun x h1 h2 => ?_), p7 hnd2]
              · exact upd_same
              · by_cases i1 : x = s
                · subst i1; omega
                · have := (r5 x (by omega) h2).2
                  have q : 48 ≤ (f x).toInt ∧ (f x).toInt ≤ 57 := this
                  omega
            · have q : 48 ≤ (f s).toInt ∧ (f s).toInt ≤ 57 := q
              omega
          · have nn := num_no (s := s1 + 1) hf (by omega) d2
            rw [e1, hrc, nn]
            exact ⟨rfl, by show s1 + 1 + 1 ≤ s + 8; omega, fun i hi => up1 _ _ _ i hi, Or.inl (er_num wB_6 (by decide) (by omega) hg3 hW2 d2)⟩
        · have hrc : mRc f n ((s, -6), to, j) = (s1 + 1, nI s1) := by
            show mW (b2i ((mLt f n (mRb f n ((s, -6), to, j)).1).toInt = 62)) (mRb f n ((s, -6), to, j)) = _
            rw [hrb]
            exact mW_no (b2i_F c62)
          rw [e1, hrc, num_er (nI_t6 (by omega))]
          refine ⟨rfl, by show s1 + 1 ≤ s + 8; omega, fun i hi => up1 _ _ _ i hi, Or.inl ⟨s1, r3, rfl, hg2, fun h => ?_, fun h => ?_⟩⟩
          · rw [mLt_in h] at c62
            have hw : ∀ c : Int32, ¬ c.toInt = 62 → (wA c).toInt = 0 := fun c hc => by
              unfold wA
              rw [if_neg hc]
              decide
            rw [tW]
            rcases r6 with r6 | ⟨r6, r6b⟩
            · rw [r6, wB_5]; exact hw _ c62
            · rw [r6, wB_4, if_neg (fun q => r6b ⟨h, q⟩)]; exact hw _ c62
          · rcases r6 with r6 | ⟨r6, _⟩
            · rw [r6]; decide
            · rw [r6]; decide
      · have nn := num_no (s := s + 1) hf (by omega) d1
        have hrb : mRb f n ((s, -6), to, j) = (s + 1 + 1, nI (s + 1)) := by
          show (mNu f n (mRa f n ((s, -6), to, j))).2 = _
          rw [hra, nn]
        have hrc : mRc f n ((s, -6), to, j) = (s + 1 + 1, nI (s + 1)) := by
          show mW (b2i ((mLt f n (mRb f n ((s, -6), to, j)).1).toInt = 62)) (mRb f n ((s, -6), to, j)) = _
          rw [hrb]
          exact mW_er (nI_t6 (by omega))
        rw [e1, hrc, num_er (nI_t6 (by omega))]
        exact ⟨rfl, by show s + 1 + 1 ≤ s + 8; omega, fun i hi => up1 _ _ _ i hi, Or.inl (er_num wB_3 (by decide) (by omega) hg1 hW1 d1)⟩
    · by_cases c108 : (f s).toInt = 108
      · rw [wMS_108 c108] at hW1
        have hg1 : Gd f (s + 1) := hg.ext (fun i h1 h2 => by rw [show i = s by omega, hW1]; decide)
        have e1 : mRd f n ((s, -6), to, j) = (mRb f n ((s, -6), to, j), mTb f n ((s, -6), to, j), j + 1) := by
          unfold mRd
          rw [if_neg (by rw [hrl]; exact c99), if_pos (by rw [hrl]; exact c108)]
        by_cases d1 : s + 1 < n ∧ dg (f (s + 1))
        · obtain ⟨v, s1, r1, r2, r3, r4, r5, r6, r7⟩ := num_ok (f := f) (n := n) (s := s + 1) wB_6 (fun c hc => by rw [wB_7, if_pos hc]) (by decide) (by decide) hf d1.1 hW1 d1.2
          have hrb : mRb f n ((s, -6), to, j) = (s1, -6) := by
            show (mNu f n (mRa f n ((s, -6), to, j))).2 = _
            rw [hra, r1]
          have eT : mTb f n ((s, -6), to, j) = upd (upd to (3 * j) (f s)) (3 * j + 1) v := by
            show upd (upd to (3 * j) (mRl f n ((s, -6), to, j))) (3 * j + 1) (mNu f n (mRa f n ((s, -6), to, j))).1 = _
            rw [hrl, hra, r1]
          rw [e1, hrb, eT]
          refine ⟨rfl, by show s1 ≤ s + 8; omega, fun i hi => up2 _ _ i hi, Or.inr ⟨s1, rfl, by omega, r3, hg1.ext (fun i h1 h2 => (r5 i h1 h2).1), r6, fun i h1 h2 => ?_, fun hnd2 => ⟨?_, fun q => absurd q c99, fun _ => ?_, fun q => ?_, hst⟩⟩⟩
          · by_cases i1 : i = s
            · subst i1; omega
            · have := (r5 i (by omega) h2).2
              have q : 48 ≤ (f i).toInt ∧ (f i).toInt ≤ 57 := this
              omega
          · exact (upd_ne (by omega)).trans upd_same
          · rw [r7 hnd2]
            exact upd_same
          · have q : 48 ≤ (f s).toInt ∧ (f s).toInt ≤ 57 := q
            omega
        · have nn := num_no (s := s + 1) hf (by omega) d1
          have hrb : mRb f n ((s, -6), to, j) = (s + 1 + 1, nI (s + 1)) := by
            show (mNu f n (mRa f n ((s, -6), to, j))).2 = _
            rw [hra, nn]
          rw [e1, hrb]
          exact ⟨rfl, by show s + 1 + 1 ≤ s + 8; omega, fun i hi => up2 _ _ i hi, Or.inl (er_num wB_6 (by decide) (by omega) hg1 hW1 d1)⟩
      · rw [wMS_o hst c99 c108] at hW1
        have e1 : mRd f n ((s, -6), to, j) = (mRa f n ((s, -6), to, j), mTa f n ((s, -6), to, j), j + 1) := by
          unfold mRd
          rw [if_neg (by rw [hrl]; exact c99), if_neg (by rw [hrl]; exact c108)]
        have eT : mTa f n ((s, -6), to, j) = upd to (3 * j) (f s) := by
          show upd to (3 * j) (mRl f n ((s, -6), to, j)) = _
          rw [hrl]
        rw [e1, hra, eT]
        refine ⟨rfl, by show s + 1 ≤ s + 8; omega, fun i hi => up3 _ i hi, Or.inr ⟨s + 1, rfl, by omega, by omega, hg.ext (fun i h1 h2 => by rw [show i = s by omega, hW1]; decide), Or.inl hW1, fun i h1 h2 => ?_, fun hnd2 => ⟨upd_same, fun q => absurd q c99, fun q => absurd q c108, fun q => ?_, hst⟩⟩⟩
        · rw [show i = s by omega]
          omega
        · have z0 : (10 : Int32) * 0 + (f s - 48) = f s - 48 := by rw [show (10 : Int32) * 0 = 0 by decide, Int32.zero_add]
          rw [tNum, if_pos ⟨hsn, q⟩, z0, tNum, if_neg hnd2]
  · have hra : mRa f n ((s, -6), to, j) = (s + 1, nI s) := by
      show mW (b2i (mStt (mLt f n s))) (s, -6) = _
      exact mW_no (b2i_F hst)
    have hst' : ¬ ((49 ≤ (mLt f n s).toInt ∧ (mLt f n s).toInt ≤ 54) ∨ (mLt f n s).toInt = 112 ∨ (mLt f n s).toInt = 106 ∨ (mLt f n s).toInt = 99 ∨ (mLt f n s).toInt = 108) := hst
    have e1 : mRd f n ((s, -6), to, j) = (mRa f n ((s, -6), to, j), mTa f n ((s, -6), to, j), j + 1) := by
      unfold mRd
      rw [if_neg (fun q => by have q : (mLt f n s).toInt = 99 := q; omega), if_neg (fun q => by have q : (mLt f n s).toInt = 108 := q; omega)]
    rw [e1, hra]
    refine ⟨rfl, by show s + 1 ≤ s + 8; omega, fun i hi => up3 _ i hi, Or.inl ⟨s, hs, rfl, hg, fun h => ?_, fun _ => by rw [hW]; decide⟩⟩
    rw [tW, hW, wB_1, wMS_no (by rw [mLt_in h] at hst; exact hst) (by have := hf s h; omega)]
    decide
/-- the moves from the place s on are told from j on, J in all -/
def Ms (f : Nat → Int32) (n : Nat) (to : Nat → Int32) (J : Nat) : Nat → Nat → Nat → Prop
  | 0, _, _ => False
  | u + 1, j, s => s < n ∧ Tk f n to j s ∧ ∃ e, s < e ∧ e ≤ n ∧ (∀ i, s ≤ i → i < e → (f i).toInt ≠ 44) ∧ (e = n ∧ J = j + 1 ∨ e < n ∧ (f e).toInt = 44 ∧ Ms f n to J u (j + 1) (e + 1))
theorem ep_at (hf : tOk f n) (hn : n ≤ 60) : ∀ (u s : Nat) (to : Nat → Int32) (j : Nat), 2 * j ≤ s → s ≤ n → 31 ≤ u + j → Gd f s → tW f s = 1 → mEk f n u ((s, -6), to, j) ∧ (mEp f n u ((s, -6), to, j)).1.2 = tFE f n 0 ∧ (mEp f n u ((s, -6), to, j)).2.2 ≤ 31 ∧ (∀ i, i < 3 * j → (mEp f n u ((s, -6), to, j)).2.1 i = to i) ∧ ((mEp f n u ((s, -6), to, j)).1.2.toInt = -6 → Ms f n (mEp f n u ((s, -6), to, j)).2.1 (mEp f n u ((s, -6), to, j)).2.2 u j s)
  | 0, s, to, j, h1, h2, h3, _, _ => absurd h1 (by omega)
  | u + 1, s, to, j, h1, h2, h3, hg, hW => by
    obtain ⟨r1, r2, r3, r4⟩ := rd_at hf hn h2 hg hW to j
    obtain ⟨P, hP⟩ : ∃ P, mRd f n ((s, -6), to, j) = P := ⟨_, rfl⟩
    rw [hP] at r1 r2 r3 r4
    rw [mEp, mEk, hP]
    have k0 : s < 700 ∧ j ≤ 30 ∧ P.1.1 < 900 := ⟨by omega, by omega, by omega⟩
    rcases r4 with r4 | ⟨s', q1, q2, q3, q4, q5, q6, q7⟩
    · have n6 := r4.n6 hn
      rw [if_neg (fun q => n6 q.1)]
      exact ⟨⟨k0.1, k0.2.1, k0.2.2, fun q => absurd q.1 n6⟩, r4.fe.symm, by omega, r3, fun q => absurd q n6⟩
    · have w6 : P.1.2.toInt = -6 := by rw [q1]; exact m6
      have p1 : P.1.1 = s' := by rw [q1]
      by_cases hs' : s' < n
      · rw [if_pos ⟨w6, by rw [p1]; exact hs'⟩]
        have hst : ∀ c : Int32, c = f s' → ¬ dg c ∨ tW f s' = 2 → wB (tW f s') c = wC c := fun c hc hd => by
          rcases q5 with q5 | ⟨q5, q5b⟩
          · rw [q5, wB_2]
          · rw [q5, wB_7, if_neg (fun q => q5b ⟨hs', by rw [← hc]; exact q⟩)]
        have hstw : wB (tW f s') (f s') = wC (f s') := by
          rcases q5 with q5 | ⟨q5, q5b⟩
          · exact hst _ rfl (Or.inr q5)
          · exact hst _ rfl (Or.inl (fun q => q5b ⟨hs', q⟩))
        by_cases c44 : (f s').toInt = 44
        · have hec : mEc f n P = (s' + 1, -6) := by
            show mW (b2i ((mLt f n P.1.1).toInt = 44)) P.1 = _
            rw [q1]
            exact mW_ok (b2i_T (by show (mLt f n s').toInt = 44; rw [mLt_in hs']; exact c44))
          have hW2 : tW f (s' + 1) = 1 := by
            rw [tW, hstw]
            unfold wC
            rw [if_pos c44]
          have ih := ep_at hf hn u (s' + 1) P.2.1 (j + 1) (by omega) (by omega) (by omega) (q4.ext (fun i a b => by rw [show i = s' by omega, hW2]; decide)) hW2
          rw [hec, if_pos m6, show ((s' + 1, (-6 : Int32)), P.2) = ((s' + 1, -6), P.2.1, j + 1) by rw [← r1]]
          obtain ⟨i1, i2, i3, i4, i5⟩ := ih
          refine ⟨⟨k0.1, k0.2.1, k0.2.2, fun _ _ => i1⟩, i2, i3, fun i hi => (i4 i (by omega)).trans (r3 i hi), fun q => ⟨by omega, (q7 (fun q => ?_)).keep i4, s', q2, by omega, q6, Or.inr ⟨hs', c44, i5 q⟩⟩⟩
          have q8 : 48 ≤ (f s').toInt ∧ (f s').toInt ≤ 57 := q.2
          omega
        · have hec : mEc f n P = (s' + 1, nI s') := by
            show mW (b2i ((mLt f n P.1.1).toInt = 44)) P.1 = _
            rw [q1]
            exact mW_no (b2i_F (fun q => by have q : (mLt f n s').toInt = 44 := q; rw [mLt_in hs'] at q; exact c44 q))
          have n6 : ¬ (nI s').toInt = -6 := nI_t6 (by omega)
          have er : Er f n (nI s') := ⟨s', q3, rfl, q4, fun _ => by
            rw [tW, hstw]
            unfold wC
            rw [if_neg c44]
            decide, fun q => absurd hs' (by omega)⟩
          rw [hec, if_neg n6]
          exact ⟨⟨k0.1, k0.2.1, k0.2.2, fun _ q => absurd q n6⟩, er.fe.symm, by show P.2.2 ≤ 31; omega, r3, fun q => absurd q n6⟩
      · have en : s' = n := by omega
        subst en
        rw [if_neg (fun q => hs' (by have q2 := q.2; omega))]
        have hfe : tFE f s' 0 = -6 := by
          rw [tFE_end q4 s' 0 (by omega), if_pos]
          rcases q5 with q5 | ⟨q5, _⟩
          · rw [q5]; exact Or.inl (by decide)
          · rw [q5]; exact Or.inr (by decide)
        refine ⟨⟨k0.1, k0.2.1, k0.2.2, fun q => absurd q.2 (by omega)⟩, ?_, by omega, r3, fun _ => ⟨q2, q7 (fun q => hs' q.1), s', q2, Nat.le_refl _, q6, Or.inl ⟨rfl, r1⟩⟩⟩
        rw [hfe, q1]
theorem es_at (hf : tOk f n) (hn : n ≤ 60) (to : Nat → Int32) : mEk f n 40 ((0, -6), to, 0) ∧ (mEp f n 40 ((0, -6), to, 0)).1.2 = tFE f n 0 ∧ (mEp f n 40 ((0, -6), to, 0)).2.2 ≤ 31 ∧ ((mEp f n 40 ((0, -6), to, 0)).1.2.toInt = -6 → Ms f n (mEp f n 40 ((0, -6), to, 0)).2.1 (mEp f n 40 ((0, -6), to, 0)).2.2 40 0 0) := by
  obtain ⟨h1, h2, h3, _, h5⟩ := ep_at hf hn 40 0 to 0 (by omega) (by omega) (by omega) (fun i hi => absurd hi (by omega)) rfl
  exact ⟨h1, h2, h3, h5⟩
end RK
