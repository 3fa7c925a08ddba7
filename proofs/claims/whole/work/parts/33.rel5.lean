/-! class and reference: carpets taken, landings removed, the next mover -/
section R5
variable {z f : Nat → Int32} {t n k m c : Nat} {S : gS}
theorem Rl.take (h : Rl S z t n k m) {u j : Nat} (hj : j < k) (hu : u < t) (hz : z (44 + 2 * j) = nI u) : Rl (gTake S (nI u)) (mTake z j k) t n (k - 1) m := by
  have t60 := h.t60
  have k6 := h.k6
  have es : (nI u).toNatClampNeg = u := nI_clamp (by omega)
  have e3 : mTake z j k 3 = nI (k - 1) := (upd_ne (by omega)).trans ((upd_ne (by omega)).trans upd_same)
  have eu : mTake z j k (44 + 2 * j) = z (44 + 2 * (k - 1)) := (upd_ne (by omega)).trans upd_same
  have el : mTake z j k (45 + 2 * j) = z (45 + 2 * (k - 1)) := upd_same (f := upd (upd z 3 (nI (k - 1))) (44 + 2 * j) (z (44 + 2 * (k - 1)))) (i := 45 + 2 * j)
  have e : ∀ i, i ≠ 3 → i ≠ 44 + 2 * j → i ≠ 45 + 2 * j → mTake z j k i = z i := fun i h1 h2 h3 => (upd_ne h3).trans ((upd_ne h2).trans (upd_ne h1))
  have src : ∀ i, i < k - 1 → ∃ r, r < k ∧ r ≠ j ∧ mTake z j k (44 + 2 * i) = z (44 + 2 * r) ∧ mTake z j k (45 + 2 * i) = z (45 + 2 * r) ∧ (r = i ∨ i = j ∧ r = k - 1) := fun i hi => by
    by_cases ei : i = j
    · subst ei; exact ⟨k - 1, by omega, by omega, eu, el, Or.inr ⟨rfl, rfl⟩⟩
    · exact ⟨i, by omega, ei, e _ (by omega) (by omega) (by omega), e _ (by omega) (by omega) (by omega), Or.inl rfl⟩
  show Rl (upd (g_le S) (nI u).toNatClampNeg (-6), g_la S, S.2.2) _ _ _ _ _
  rw [es]
  refine h.car _ _ _ (k - 1) (fun i hi h3 => e i h3 (by omega) (by omega)) e3 (by omega) ⟨fun i hi => ?_, fun a b ha hb hne => ?_, fun s hs hh => ?_⟩ (fun s hs => (e _ (by omega) (by omega) (by omega)).trans (h.la s hs)) (fun s hs => by rw [e _ (by omega) (by omega) (by omega)]; exact h.la01 s hs) (fun s h1 hs => (e _ (by omega) (by omega) (by omega)).trans (h.lat s h1 hs))
  · obtain ⟨r, r1, r2, r3, r4, _⟩ := src i hi
    obtain ⟨a, b, b1, b2, b3, b4, b5⟩ := h.cp.1 r r1
    refine ⟨a, b, r3.trans b1, r4.trans b2, b3, b4, (upd_ne (fun v => ?_)).trans b5⟩
    exact h.cp.2.1 r j r1 hj r2 (by rw [b1, hz, v])
  · obtain ⟨r, r1, r2, r3, r4, r5⟩ := src a ha
    obtain ⟨s, s1, s2, s3, s4, s5⟩ := src b hb
    rw [r3, s3]
    exact h.cp.2.1 r s r1 s1 (by omega)
  · by_cases ev : s = u
    · rw [ev]; exact upd_same
    · rw [upd_ne ev]
      refine h.cp.2.2 s hs (fun i hi => ?_)
      by_cases ei : i = j
      · subst ei
        rw [hz]
        exact fun v => ev (nI_inj (by omega) (by omega) v).symm
      · by_cases ek : i = k - 1
        · subst ek
          have := hh j (by omega)
          rw [eu] at this
          exact this
        · have := hh i (by omega)
          rw [e _ (by omega) (by omega) (by omega)] at this
          exact this
theorem i_or64 : ∀ n, n < 6 → ∀ a, a < 64 → (nI a ||| ((1 : Int32) <<< (nI n &&& 31))) = nI (a ||| 2 ^ n) := by decide
theorem i_or64b : ∀ n, n < 6 → ∀ a, a < 64 → a ||| 2 ^ n < 64 := by decide
theorem sOn_64 (pl : Nat → Int32) (x : Int32) : ∀ n, n ≤ 6 → ∃ a, a < 64 ∧ sOn pl x n = nI a
  | 0, _ => ⟨0, by decide, rfl⟩
  | n + 1, hn => by
    obtain ⟨a, h1, h2⟩ := sOn_64 pl x n (by omega)
    rw [sOn, h2]
    by_cases e : (pl n).toInt = x.toInt
    · rw [if_pos e, i_or64 n (by omega) a h1]
      exact ⟨_, i_or64b n (by omega) a h1, rfl⟩
    · rw [if_neg e]
      exact ⟨a, h1, rfl⟩
theorem sBc_sBits : ∀ a, a < 64 → sBc (nI a) = sBits (nI a) 6 := by decide
theorem Rl.bits (h : Rl S z t n k m) (x : Int32) (s : Nat) : sBc (sOn (g_pl S) x n) = sBits (sOn (m_pl (upd z (57 + s) 0)) x n) 6 := by
  have n6 := h.n6
  have e : sOn (m_pl (upd z (57 + s) 0)) x n = sOn (g_pl S) x n := sOn_congr n (fun c hc => (show m_pl (upd z (57 + s) 0) c = z (8 + 6 * c) from upd_ne (by omega)).trans (h.pl c (by omega)))
  rw [e]
  obtain ⟨a, h1, h2⟩ := sOn_64 (g_pl S) x n n6
  rw [h2]
  exact sBc_sBits a h1
/-- words of the rests and of the losses and the mover may change -/
theorem Rl.rest (h : Rl S z t n k m) (rs' : Nat → Int32) (lo' : Int32) (m' : Nat) (z' : Nat → Int32) (hz : ∀ i, i ≠ 2 → i ≠ 7 → (∀ c, c < 6 → i ≠ 8 + 6 * c + 2) → z' i = z i) (h2 : z' 2 = nI m') (h7 : z' 7 = lo') (hm : m' < n ∨ n = 0 ∧ m' = 0) (hr : ∀ c, c < 6 → z' (8 + 6 * c + 2) = rs' c) (hr0 : ∀ c, c < 6 → n ≤ c → rs' c = 0) (hr01 : ∀ c, c < 6 → rs' c = 0 ∨ rs' c = 1) : Rl (g_wO (g_wRs S rs') (g_top S) (g_cl S) (nI m') (g_ro S) lo') z' t n k m' := by
  have e : ∀ i, i ≠ 2 → i ≠ 7 → (∀ c, c < 6 → i ≠ 8 + 6 * c + 2) → z' i = z i := hz
  have n6 := h.n6
  unfold Rl
  refine ⟨(e _ (by omega) (by omega) (by omega)).trans h.z0, h.gt, h.t10, h.t60, (e _ (by omega) (by omega) (by omega)).trans h.z1, h.gn, n6, h2, rfl, hm, (e _ (by omega) (by omega) (by omega)).trans h.z3, h.k6, (e _ (by omega) (by omega) (by omega)).trans h.z4, h7, (e _ (by omega) (by omega) (by omega)).trans h.z5, (e _ (by omega) (by omega) (by omega)).trans h.z6, fun c hc => (e _ (by omega) (by omega) (by omega)).trans (h.pl c hc), fun c hc => (e _ (by omega) (by omega) (by omega)).trans (h.tp c hc), hr, fun c hc => (e _ (by omega) (by omega) (by omega)).trans (h.tl c hc), fun c hc => (e _ (by omega) (by omega) (by omega)).trans (h.lm c hc), fun c hc => (e _ (by omega) (by omega) (by omega)).trans (h.sl c hc), fun c hc hn => ?_, h.plt, hr01, ⟨fun j hj => ?_, fun i j hi hj hne => ?_, fun s hs hh => h.cp.2.2 s hs (fun j hj => ?_)⟩, fun s hs => (e _ (by omega) (by omega) (by omega)).trans (h.la s hs), fun s hs => ?_, fun s h1 hs => (e _ (by omega) (by omega) (by omega)).trans (h.lat s h1 hs)⟩
  · obtain ⟨o1, o2, o3, o4⟩ := h.out c hc hn
    exact ⟨o1, o2, hr0 c hc hn, o4⟩
  · rw [e _ (by omega) (by omega) (by omega), e _ (by omega) (by omega) (by omega)]; exact h.cp.1 j hj
  · rw [e _ (by omega) (by omega) (by omega), e _ (by omega) (by omega) (by omega)]; exact h.cp.2.1 i j hi hj hne
  · have := hh j hj
    rw [e _ (by omega) (by omega) (by omega)] at this
    exact this
  · rw [e _ (by omega) (by omega) (by omega)]; exact h.la01 s hs
end R5
