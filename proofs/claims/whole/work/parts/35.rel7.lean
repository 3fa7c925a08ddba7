/-! class and reference: a climber comes to a step -/
section R7
variable {z f : Nat → Int32} {t n k m c x p : Nat} {S T : gS}
theorem sSm_upd (f : Nat → Int32) (c : Nat) (v : Int32) : ∀ n, c < n → sSm (upd f c (f c + v)) n = sSm f n + v
  | 0, h => absurd h (by omega)
  | n + 1, h => by
    rw [sSm, sSm]
    by_cases e : c = n
    · subst e
      rw [sSm_congr (f := upd f c (f c + v)) (g := f) c (fun i hi => upd_ne (by omega)), upd_same, Int32.add_assoc]
    · rw [sSm_upd f c v n (by omega), show upd f c (f c + v) n = f n from upd_ne (fun a => e a.symm), Int32.add_assoc, Int32.add_assoc, Int32.add_comm v (f n)]
theorem Rl.mov (h : Rl S z t n k m) (pl tp tl lm sl : Nat → Int32) (ro : Int32) (z' : Nat → Int32) (hz : ∀ i, i < 4 ∨ i = 7 ∨ 44 ≤ i → z' i = z i) (h4 : z' 4 = ro) (h5 : z' 5 = sSm tl 6) (h6 : z' 6 = sSm sl 6) (a1 : ∀ c, c < 6 → z' (8 + 6 * c) = pl c) (a2 : ∀ c, c < 6 → z' (8 + 6 * c + 1) = tp c) (a3 : ∀ c, c < 6 → z' (8 + 6 * c + 2) = z (8 + 6 * c + 2)) (a4 : ∀ c, c < 6 → z' (8 + 6 * c + 3) = tl c) (a5 : ∀ c, c < 6 → z' (8 + 6 * c + 4) = lm c) (a6 : ∀ c, c < 6 → z' (8 + 6 * c + 5) = sl c) (ho : ∀ c, c < 6 → n ≤ c → pl c = 0 ∧ tp c = 0 ∧ tl c = 0 ∧ lm c = 0 ∧ sl c = 0) (hp : ∀ c, c < 6 → ∃ p : Nat, p < t ∧ pl c = nI p) : Rl (g_le S, g_la S, pl, tp, g_rs S, tl, lm, sl, g_top S, g_cl S, g_mv S, ro, g_lo S) z' t n k m := by
  have e : ∀ i, i < 4 ∨ i = 7 ∨ 44 ≤ i → z' i = z i := hz
  unfold Rl
  refine ⟨(e _ (by omega)).trans h.z0, h.gt, h.t10, h.t60, (e _ (by omega)).trans h.z1, h.gn, h.n6, (e _ (by omega)).trans h.z2, h.gm, h.mn, (e _ (by omega)).trans h.z3, h.k6, h4, (e _ (by omega)).trans h.z7, h5, h6, a1, a2, fun c hc => (a3 c hc).trans (h.rs c hc), a4, a5, a6, fun c hc h1 => ?_, hp, h.rs01, ⟨fun j hj => ?_, fun i j hi hj hne => ?_, fun s hs hh => h.cp.2.2 s hs (fun j hj => ?_)⟩, fun s hs => (e _ (by omega)).trans (h.la s hs), fun s hs => ?_, fun s h1 hs => (e _ (by omega)).trans (h.lat s h1 hs)⟩
  · obtain ⟨o1, o2, o3, o4, o5⟩ := ho c hc h1
    exact ⟨o1, o2, (h.out c hc h1).2.2.1, o3, o4, o5⟩
  · rw [e _ (by omega), e _ (by omega)]; exact h.cp.1 j hj
  · rw [e _ (by omega), e _ (by omega)]; exact h.cp.2.1 i j hi hj hne
  · have := hh j hj
    rw [e _ (by omega)] at this
    exact this
  · rw [e _ (by omega)]; exact h.la01 s hs
/-- one word of a climber is another -/
theorem w_upd {g : Nat → Int32} {w c0 : Nat} {v : Int32} (hw : w < 6) (hg : ∀ c, c < 6 → z (8 + 6 * c + w) = g c) : ∀ c, c < 6 → mLays z c0 w v (8 + 6 * c + w) = upd g c0 v c := fun c hc => by
  by_cases e : c = c0
  · subst e; exact upd_same.trans upd_same.symm
  · exact (upd_ne (by omega)).trans ((hg c hc).trans (upd_ne e).symm)
theorem w_ne {w w' c0 : Nat} {v : Int32} (hw : w < 6) (hw' : w' < 6) (hne : w' ≠ w) (c : Nat) : mLays z c0 w v (8 + 6 * c + w') = z (8 + 6 * c + w') := upd_ne (by omega)
theorem Rl.come (h : Rl S z t n k m) (hc : c < n) (hp : p < 100) : Rl (gCome S c (nI p)) (mCome z k c (nI p)) t n k m := by
  have n6 := h.n6
  have t60 := h.t60
  have t10 := h.t10
  have ep : (nI p).toInt = (p : Int) := nI_toInt (by omega)
  have epc : (nI p).toNatClampNeg = p := nI_clamp (by omega)
  have ez : (z 0).toInt = (t : Int) := by rw [h.z0]; exact nI_toInt (by omega)
  have hb : g_below S (nI p) ↔ p < t := by unfold g_below; rw [h.gtI, ep]; omega
  have out : ∀ i, i < 6 → n ≤ i → g_pl S i = 0 ∧ g_tp S i = 0 ∧ g_tl S i = 0 ∧ g_lm S i = 0 ∧ g_sl S i = 0 := fun i hi h1 => by
    obtain ⟨o1, o2, _, o4, o5, o6⟩ := h.out i hi h1
    exact ⟨o1, o2, o4, o5, o6⟩
  unfold gCome mCome
  by_cases e : p < t
  · have e' := hb.mpr e
    rw [if_pos e', if_pos e', if_pos e', if_pos (show (nI p).toInt < (z 0).toInt by omega), epc]
    rcases Cp_from t60 h.k6 h.cp (s := p) (by omega) with ⟨c1, c2⟩ | ⟨c1, c2, c3, c4, l, c5, c6⟩
    · have c2' : (g_le S p).toInt = -6 := by rw [c2]; decide
      rw [if_pos c2', if_pos c2', if_pos c1]
      refine h.mov (upd (g_pl S) c (nI p)) (g_tp S) (g_tl S) (g_lm S) (g_sl S) (g_ro S) _ (fun i hi => upd_ne (by omega)) ((upd_ne (by omega)).trans h.z4) ((upd_ne (by omega)).trans h.z5) ((upd_ne (by omega)).trans h.z6) (w_upd (w := 0) (by decide) h.pl) (fun i hi => (w_ne (w' := 1) (by decide) (by decide) (by decide) i).trans (h.tp i hi)) (fun i hi => w_ne (w' := 2) (by decide) (by decide) (by decide) i) (fun i hi => (w_ne (w' := 3) (by decide) (by decide) (by decide) i).trans (h.tl i hi)) (fun i hi => (w_ne (w' := 4) (by decide) (by decide) (by decide) i).trans (h.lm i hi)) (fun i hi => (w_ne (w' := 5) (by decide) (by decide) (by decide) i).trans (h.sl i hi)) (fun i hi h1 => ?_) (fun i hi => ?_)
      · rw [upd_ne (by omega)]; exact out i hi h1
      · by_cases ei : i = c
        · subst ei; exact ⟨p, e, upd_same⟩
        · rw [upd_ne ei]; exact h.plt i hi
    · have c2' : ¬ (g_le S p).toInt = -6 := by
        rw [c6]
        exact fun v => nI_ne6 (by omega) (Int32.toInt_inj.mp (v.trans (by decide)))
      rw [if_neg c2', if_neg c2', if_neg c1, c2]
      refine h.mov (upd (g_pl S) c (g_le S p)) (g_tp S) (g_tl S) (g_lm S) (upd (g_sl S) c (g_sl S c + 1)) (g_ro S) _ (fun i hi => (upd_ne (by omega)).trans ((upd_ne (by omega)).trans (upd_ne (by omega)))) ((upd_ne (by omega)).trans ((upd_ne (by omega)).trans ((upd_ne (by omega)).trans h.z4))) ((upd_ne (by omega)).trans ((upd_ne (by omega)).trans ((upd_ne (by omega)).trans h.z5))) ?_ (fun i hi => (upd_ne (by omega)).trans ((w_ne (w' := 0) (by decide) (by decide) (by decide) i).trans (w_upd (w := 0) (by decide) h.pl i hi))) (fun i hi => (upd_ne (by omega)).trans ((w_ne (w' := 1) (by decide) (by decide) (by decide) i).trans ((w_ne (w' := 1) (by decide) (by decide) (by decide) i).trans (h.tp i hi)))) (fun i hi => (upd_ne (by omega)).trans ((w_ne (w' := 2) (by decide) (by decide) (by decide) i).trans (w_ne (w' := 2) (by decide) (by decide) (by decide) i))) (fun i hi => (upd_ne (by omega)).trans ((w_ne (w' := 3) (by decide) (by decide) (by decide) i).trans ((w_ne (w' := 3) (by decide) (by decide) (by decide) i).trans (h.tl i hi)))) (fun i hi => (upd_ne (by omega)).trans ((w_ne (w' := 4) (by decide) (by decide) (by decide) i).trans ((w_ne (w' := 4) (by decide) (by decide) (by decide) i).trans (h.lm i hi)))) (fun i hi => (upd_ne (by omega)).trans ?_) (fun i hi h1 => ?_) (fun i hi => ?_)
      · rw [sSm_upd (g_sl S) c 1 6 (by omega), ← h.z6]; exact upd_same
      · rw [h.sl c (by omega)]
        exact w_upd (w := 5) (by decide) (fun i hi => (w_ne (w' := 5) (by decide) (by decide) (by decide) i).trans (h.sl i hi)) i hi
      · rw [upd_ne (by omega), upd_ne (by omega)]; exact out i hi h1
      · by_cases ei : i = c
        · subst ei; exact ⟨l, by omega, upd_same.trans c6⟩
        · rw [upd_ne ei]; exact h.plt i hi
  · have e' : ¬ g_below S (nI p) := fun v => e (hb.mp v)
    rw [if_neg e', if_neg e', if_neg e', if_neg (show ¬ (nI p).toInt < (z 0).toInt by omega), h.tp c (by omega)]
    refine h.mov (upd (g_pl S) c 0) (upd (g_tp S) c (g_tp S c + 1)) (g_tl S) (g_lm S) (g_sl S) (g_ro S) _ (fun i hi => (upd_ne (by omega)).trans (upd_ne (by omega))) ((upd_ne (by omega)).trans ((upd_ne (by omega)).trans h.z4)) ((upd_ne (by omega)).trans ((upd_ne (by omega)).trans h.z5)) ((upd_ne (by omega)).trans ((upd_ne (by omega)).trans h.z6)) (w_upd (w := 0) (by decide) (fun i hi => (w_ne (w' := 0) (by decide) (by decide) (by decide) i).trans (h.pl i hi))) (fun i hi => (w_ne (w' := 1) (by decide) (by decide) (by decide) i).trans (w_upd (w := 1) (by decide) h.tp i hi)) (fun i hi => (w_ne (w' := 2) (by decide) (by decide) (by decide) i).trans (w_ne (w' := 2) (by decide) (by decide) (by decide) i)) (fun i hi => (w_ne (w' := 3) (by decide) (by decide) (by decide) i).trans ((w_ne (w' := 3) (by decide) (by decide) (by decide) i).trans (h.tl i hi))) (fun i hi => (w_ne (w' := 4) (by decide) (by decide) (by decide) i).trans ((w_ne (w' := 4) (by decide) (by decide) (by decide) i).trans (h.lm i hi))) (fun i hi => (w_ne (w' := 5) (by decide) (by decide) (by decide) i).trans ((w_ne (w' := 5) (by decide) (by decide) (by decide) i).trans (h.sl i hi))) (fun i hi h1 => ?_) (fun i hi => ?_)
    · rw [upd_ne (by omega), upd_ne (by omega)]; exact out i hi h1
    · by_cases ei : i = c
      · subst ei; exact ⟨0, by omega, upd_same⟩
      · rw [upd_ne ei]; exact h.plt i hi
end R7
