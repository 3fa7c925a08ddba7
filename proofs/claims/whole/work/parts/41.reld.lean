/-! the set of those passed, as bits -/
section RD
variable {z f : Nat → Int32} {t n k m c x i j a : Nat} {v w : Int32} {S T : gS}
theorem bt_or : ∀ n, n < 6 → ∀ i, i < 6 → ∀ a, a < 64 → decide (bt (a ||| 2 ^ n) i) = (decide (i = n) || decide (bt a i)) := by decide
theorem bt_0 : ∀ i, i < 6 → ¬ bt 0 i := by decide
theorem sBs_bt (p : Nat → Prop) [DecidablePred p] : ∀ n, n ≤ 6 → ∃ a, a < 64 ∧ sBs p n = nI a ∧ ∀ i, i < 6 → (bt a i ↔ i < n ∧ p i)
  | 0, _ => ⟨0, by decide, rfl, fun i hi => ⟨fun q => absurd q (bt_0 i hi), fun q => absurd q.1 (by omega)⟩⟩
  | n + 1, hn => by
    obtain ⟨a, h1, h2, h3⟩ := sBs_bt p n (by omega)
    rw [sBs, h2]
    by_cases e : p n
    · rw [if_pos e, i_or64 n (by omega) a h1]
      refine ⟨_, i_or64b n (by omega) a h1, rfl, fun i hi => ?_⟩
      have b := bt_or n (by omega) i hi a h1
      constructor
      · intro q
        rw [decide_eq_true q] at b
        have b2 := b.symm
        rw [Bool.or_eq_true, decide_eq_true_eq, decide_eq_true_eq] at b2
        rcases b2 with b2 | b2
        · subst b2
          exact ⟨by omega, e⟩
        · have := (h3 i hi).mp b2
          exact ⟨by omega, this.2⟩
      · rintro ⟨q1, q2⟩
        have b2 : (decide (i = n) || decide (bt a i)) = true := by
          rw [Bool.or_eq_true, decide_eq_true_eq, decide_eq_true_eq]
          by_cases ei : i = n
          · exact Or.inl ei
          · exact Or.inr ((h3 i hi).mpr ⟨by omega, q2⟩)
        rw [b2] at b
        exact of_decide_eq_true b
    · rw [if_neg e, Int32.or_zero]
      refine ⟨a, h1, rfl, fun i hi => ⟨fun q => ?_, fun q => ?_⟩⟩
      · have := (h3 i hi).mp q
        exact ⟨by omega, this.2⟩
      · refine (h3 i hi).mpr ⟨?_, q.2⟩
        by_cases ei : i = n
        · subst ei; exact absurd q.2 e
        · omega
end RD
