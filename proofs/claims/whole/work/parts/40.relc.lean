/-! class and reference: all lifts of a roll -/
section RC
variable {z f : Nat → Int32} {t n k m c x p i j a : Nat} {v w : Int32} {S T : gS}
abbrev bt (a i : Nat) : Prop := ((nI a >>> (nI i &&& 31)) &&& 1).toInt = 1
theorem bt_pop1 : ∀ c, c < 6 → ∀ a, a < 64 → bt a c → a - 2 ^ c < a ∧ nI a - (1 <<< (nI c &&& 31)) = nI (a - 2 ^ c) ∧ sBits (nI a) 6 = sBits (nI (a - 2 ^ c)) 6 + 1 := by decide
theorem bt_pop2 : ∀ c, c < 6 → ∀ i, i < 6 → ∀ a, a < 64 → bt a c → decide (bt (a - 2 ^ c) i) = (!decide (i = c) && decide (bt a i)) := by decide
theorem bt_pop (c : Nat) (hc : c < 6) (a : Nat) (ha : a < 64) (h : bt a c) : a - 2 ^ c < a ∧ nI a - (1 <<< (nI c &&& 31)) = nI (a - 2 ^ c) ∧ sBits (nI a) 6 = sBits (nI (a - 2 ^ c)) 6 + 1 ∧ ∀ i, i < 6 → (bt (a - 2 ^ c) i ↔ i ≠ c ∧ bt a i) := by
  obtain ⟨h1, h2, h3⟩ := bt_pop1 c hc a ha h
  exact ⟨h1, h2, h3, fun i hi => by
    have e := bt_pop2 c hc i hi a ha h
    constructor
    · intro q
      rw [decide_eq_true q] at e
      have e2 := e.symm
      rw [Bool.and_eq_true, Bool.not_eq_true', decide_eq_false_iff_not, decide_eq_true_eq] at e2
      exact e2
    · rintro ⟨q1, q2⟩
      rw [decide_eq_false q1, decide_eq_true q2] at e
      exact of_decide_eq_true e⟩
theorem bt_ex : ∀ a, a < 64 → a ≠ 0 → ∃ c, c < 6 ∧ bt a c := by decide
theorem sHi_no {s : Int32} : ∀ n, n ≤ 6 → (sHi z s n).toInt = -6 → ∀ c, c < n → ((s >>> (nI c &&& 31)) &&& 1).toInt ≠ 1
  | 0, _, _, c, hc => absurd hc (by omega)
  | n + 1, hn, h, c, hc => by
    rw [sHi] at h
    by_cases e : ((s >>> (nI n &&& 31)) &&& 1).toInt = 1 ∧ ((sHi z s n).toInt = -6 ∨ (z (8 + 6 * (sHi z s n).toNatClampNeg)).toInt < (z (8 + 6 * n)).toInt)
    · rw [if_pos e] at h
      exact absurd (Int32.toInt_inj.mp (h.trans (by decide))) (nI_ne6 (by omega))
    · rw [if_neg e] at h
      by_cases ec : c = n
      · subst ec
        exact fun q => e ⟨q, Or.inl h⟩
      · exact sHi_no n (by omega) h c (by omega)
theorem Rl.lg : ∀ (u : Nat) (S : gS) (z : Nat → Int32) (a : Nat), Rl S z t n k m → m < n → a < 64 → (∀ i, i < 6 → bt a i → i < n) → cN (bt a) 6 ≤ u → Rl (gLs S m (bt a) n) (mLg n k m u z (nI a)) t n k m ∧ mLk n k u (mAdj z m (sBits (nI a) 6)) (nI a)
  | 0, S, z, a, h, hm, ha, hb, hc => by
    have e : a = 0 := Classical.byContradiction (fun e => by
      obtain ⟨c, c1, c2⟩ := bt_ex a ha e
      have := cN_lt (p := fun _ => False) (q := bt a) 6 (fun _ _ q => q.elim) ⟨c, c1, c2, id⟩
      omega)
    subst e
    have g0 : gLs S m (bt 0) n = S := by
      have : ∀ j, j ≤ 6 → gLs S m (bt 0) j = S := fun j => by
        induction j with
        | zero => exact fun _ => rfl
        | succ j ih =>
          intro hj
          rw [gLs, ih (by omega), if_neg]
          exact (show ∀ j, j < 6 → ¬ bt 0 j by decide) j (by omega)
      exact this n h.n6
    rw [g0, mLg]
    exact ⟨h, rfl⟩
  | u + 1, S, z, a, h, hm, ha, hb, hc => by
    have n6 := h.n6
    by_cases e : a = 0
    · subst e
      have g0 : gLs S m (bt 0) n = S := by
        have : ∀ j, j ≤ 6 → gLs S m (bt 0) j = S := fun j => by
          induction j with
          | zero => exact fun _ => rfl
          | succ j ih =>
            intro hj
            rw [gLs, ih (by omega), if_neg]
            exact (show ∀ j, j < 6 → ¬ bt 0 j by decide) j (by omega)
        exact this n n6
      rw [g0, mLg, if_pos (show (nI 0).toInt = 0 by decide)]
      exact ⟨h, Or.inl (by decide)⟩
    · have en : ¬ (nI a).toInt = 0 := by rw [nI_toInt (by omega)]; omega
      rw [mLg, if_neg en]
      obtain ⟨c0, c1, c2⟩ := bt_ex a ha e
      have hne : (sHi z (nI a) n).toInt ≠ -6 := fun q => sHi_no n n6 q c0 (hb c0 c1 c2) c2
      rcases sHi_cases z (nI a) n with q | ⟨c, q1, q2, q3⟩
      · exact absurd (by rw [q]; decide) hne
      · obtain ⟨r1, r2, r3, r4⟩ := bt_pop c (by omega) a ha q3
        rw [q2, nI_clamp (by omega), r2]
        have ih := Rl.lg u (gLf S m c) (mUp1 z k m c) (a - 2 ^ c) (h.lf hm q1) hm (by omega) (fun i hi hbi => hb i hi ((r4 i hi).mp hbi).2) (by
          have := cN_lt (p := bt (a - 2 ^ c)) (q := bt a) 6 (fun i hi hbi => ((r4 i hi).mp hbi).2) ⟨c, by omega, q3, fun hbi => ((r4 c (by omega)).mp hbi).1 rfl⟩
          omega)
        refine ⟨?_, Or.inr ⟨?_, ?_⟩⟩
        · have := ih.1
          rw [gLs_congr (q := fun i => i ≠ c ∧ bt a i) n (fun i hi => r4 i (by omega)), gLs_first (p := bt a) q3 n q1] at this
          exact this
        · rw [sHi_adj (by omega) _ _ n n6]
          exact hne
        · rw [sHi_adj (by omega) _ _ n n6, q2, nI_clamp (by omega), r2, mUp_adj (by omega) (by omega), r3, Int32.add_sub_cancel]
          exact ih.2
end RC
