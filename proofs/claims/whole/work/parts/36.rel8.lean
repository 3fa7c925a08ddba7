/-! class and reference: one lift -/
section R8
variable {z f : Nat → Int32} {t n k m c x p : Nat} {S T : gS}
/-- one is lifted by the mover m -/
def gLf (T : gS) (m c : Nat) : gS := gCome (g_wLm (g_wTl T (upd (g_tl T) c (g_tl T c + 1))) (upd (g_lm T) m (g_lm T m + 1))) c (g_pl T c + 1)
/-- the same of the reference, each of its sums at once -/
def mLf1 (z : Nat → Int32) (m c : Nat) : Nat → Int32 := upd (mLays (mLays z c 3 (z (8 + 6 * c + 3) + 1)) m 4 (z (8 + 6 * m + 4) + 1)) 5 (z 5 + 1)
theorem Rl.lf1 (h : Rl S z t n k m) (hm : m < n) (hc : c < n) : Rl (g_wLm (g_wTl S (upd (g_tl S) c (g_tl S c + 1))) (upd (g_lm S) m (g_lm S m + 1))) (mLf1 z m c) t n k m := by
  have n6 := h.n6
  unfold mLf1
  rw [h.tl c (by omega), h.lm m (by omega), h.z5]
  have ne : ∀ i (w : Nat), i < 6 → w < 6 → w ≠ 3 → w ≠ 4 → upd (mLays (mLays z c 3 (g_tl S c + 1)) m 4 (g_lm S m + 1)) 5 (sSm (g_tl S) 6 + 1) (8 + 6 * i + w) = z (8 + 6 * i + w) := fun i w hi hw h3 h4 => (upd_ne (by omega)).trans ((w_ne (by decide) hw h4 i).trans (w_ne (by decide) hw h3 i))
  refine h.mov (g_pl S) (g_tp S) (upd (g_tl S) c (g_tl S c + 1)) (upd (g_lm S) m (g_lm S m + 1)) (g_sl S) (g_ro S) _ (fun i hi => (upd_ne (by omega)).trans ((upd_ne (by omega)).trans (upd_ne (by omega)))) ((upd_ne (by omega)).trans ((upd_ne (by omega)).trans ((upd_ne (by omega)).trans h.z4))) ?_ ((upd_ne (by omega)).trans ((upd_ne (by omega)).trans ((upd_ne (by omega)).trans h.z6))) (fun i hi => (ne i 0 hi (by decide) (by decide) (by decide)).trans (h.pl i hi)) (fun i hi => (ne i 1 hi (by decide) (by decide) (by decide)).trans (h.tp i hi)) (fun i hi => ne i 2 hi (by decide) (by decide) (by decide)) (fun i hi => ?_) (fun i hi => ?_) (fun i hi => (ne i 5 hi (by decide) (by decide) (by decide)).trans (h.sl i hi)) (fun i hi h1 => ?_) h.plt
  · rw [sSm_upd (g_tl S) c 1 6 (by omega)]; exact upd_same
  · exact (upd_ne (by omega)).trans ((w_ne (w' := 3) (by decide) (by decide) (by decide) i).trans (w_upd (w := 3) (by decide) h.tl i hi))
  · exact (upd_ne (by omega)).trans (w_upd (w := 4) (by decide) (fun i hi => (w_ne (w' := 4) (by decide) (by decide) (by decide) i).trans (h.lm i hi)) i hi)
  · obtain ⟨o1, o2, _, o4, o5, o6⟩ := h.out i hi h1
    refine ⟨o1, o2, (upd_ne (by omega)).trans o4, (upd_ne (by omega)).trans o5, o6⟩
theorem Rl.lf (h : Rl S z t n k m) (hm : m < n) (hc : c < n) : Rl (gLf S m c) (mCome (mLf1 z m c) k c (z (8 + 6 * c) + 1)) t n k m := by
  have n6 := h.n6
  have t60 := h.t60
  obtain ⟨p, p1, p2⟩ := h.plt c (by omega)
  have h' := (h.lf1 hm hc).come (c := c) (p := p + 1) hc (by omega)
  rw [h.pl c (by omega), p2, nI_1]
  unfold gLf
  rw [p2, nI_1]
  exact h'
end R8
