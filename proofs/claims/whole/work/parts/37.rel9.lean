/-! the reference's lifts, each of its sums at once -/
section R9
variable {z f : Nat → Int32} {t n k m c x p i j : Nat} {v w : Int32} {S T : gS}
theorem upd_comm (h : i ≠ j) : upd (upd z i v) j w = upd (upd z j w) i v := by
  funext a
  by_cases e1 : a = i
  · subst e1
    rw [upd_ne h, upd_same, upd_same]
  · by_cases e2 : a = j
    · subst e2
      rw [upd_same, upd_ne e1, upd_same]
    · rw [upd_ne e2, upd_ne e1, upd_ne e1, upd_ne e2]
theorem mCF_upd (hi : i < 44) (x : Int32) : ∀ k, mCF (upd z i v) x k = mCF z x k
  | 0 => rfl
  | k + 1 => by rw [mCF, mCF, mCF_upd hi x k, show upd z i v (44 + 2 * k) = z (44 + 2 * k) from upd_ne (by omega)]
theorem mCome_upd (hi : i < 44) (h0 : i ≠ 0) (h6 : i ≠ 6) (ha : i ≠ 8 + 6 * c) (hb : i ≠ 8 + 6 * c + 1) (hc : i ≠ 8 + 6 * c + 5) (x : Int32) : mCome (upd z i v) k c x = upd (mCome z k c x) i v := by
  unfold mCome
  rw [mCF_upd hi, show upd z i v 0 = z 0 from upd_ne (by omega)]
  by_cases e : x.toInt < (z 0).toInt
  · rw [if_pos e, if_pos e]
    by_cases e2 : (mCF z x k).toInt = -6
    · rw [if_pos e2, if_pos e2]
      exact upd_comm (by omega)
    · rw [if_neg e2, if_neg e2, show upd z i v (45 + 2 * (mCF z x k).toNatClampNeg) = z (45 + 2 * (mCF z x k).toNatClampNeg) from upd_ne (by omega), show upd z i v (8 + 6 * c + 5) = z (8 + 6 * c + 5) from upd_ne (by omega), show upd z i v 6 = z 6 from upd_ne (by omega)]
      show upd (upd (upd (upd z i v) _ _) _ _) _ _ = _
      rw [upd_comm (z := z) (i := i) (by omega), upd_comm (i := i) (by omega), upd_comm (i := i) (by omega)]
  · rw [if_neg e, if_neg e, show upd z i v (8 + 6 * c + 1) = z (8 + 6 * c + 1) from upd_ne (by omega)]
    show upd (upd (upd z i v) _ _) _ _ = _
    rw [upd_comm (z := z) (i := i) (by omega), upd_comm (i := i) (by omega)]
/-- the mover's lifts and the lifts of all are more by b -/
def mAdj (z : Nat → Int32) (m : Nat) (b : Int32) : Nat → Int32 := upd (mLays z m 4 (z (8 + 6 * m + 4) + b)) 5 (z 5 + b)
theorem mAdj_0 : mAdj z m 0 = z := by
  unfold mAdj
  rw [Int32.add_zero, Int32.add_zero, show mLays z m 4 (z (8 + 6 * m + 4)) = z from upd_self]
  exact upd_self
theorem sHi_adj (hm : m < 6) (b s : Int32) : ∀ n, n ≤ 6 → sHi (mAdj z m b) s n = sHi z s n := by
  have e : ∀ c, c < 6 → mAdj z m b (8 + 6 * c) = z (8 + 6 * c) := fun c hc => (upd_ne (by omega)).trans (upd_ne (by omega))
  intro n
  induction n with
  | zero => exact fun _ => rfl
  | succ n ih =>
    intro hn
    rw [sHi, sHi, ih (by omega), e n (by omega)]
    rcases sHi_cases z s n with a | ⟨c, c1, c2, _⟩
    · rw [a]
      have w6 : (-6 : Int32).toInt = -6 := by decide
      by_cases q : ((s >>> (nI n &&& 31)) &&& 1).toInt = 1
      · rw [if_pos ⟨q, Or.inl w6⟩, if_pos ⟨q, Or.inl w6⟩]
      · rw [if_neg (fun y => q y.1), if_neg (fun y => q y.1)]
    · rw [c2, nI_clamp (by omega), e c (by omega)]
theorem sBits_pop : ∀ c, c < 6 → ∀ a, a < 64 → ((nI a >>> (nI c &&& 31)) &&& 1).toInt = 1 → ∃ b, b < a ∧ nI a - (1 <<< (nI c &&& 31)) = nI b ∧ sBits (nI a) 6 = sBits (nI b) 6 + 1 := by
  have key : ∀ c, c < 6 → ∀ a, a < 64 → ((nI a >>> (nI c &&& 31)) &&& 1).toInt = 1 → a - 2 ^ c < a ∧ nI a - (1 <<< (nI c &&& 31)) = nI (a - 2 ^ c) ∧ sBits (nI a) 6 = sBits (nI (a - 2 ^ c)) 6 + 1 := by decide
  exact fun c hc a ha h => ⟨_, key c hc a ha h⟩
end R9
