/-! the reference's lifts in all -/
section RA
variable {z f : Nat → Int32} {t n k m c x p i j : Nat} {v w : Int32} {S T : gS}
theorem upd_upd : upd (upd z i v) i w = upd z i w := by
  funext a
  by_cases e : a = i
  · subst e; rw [upd_same, upd_same]
  · rw [upd_ne e, upd_ne e, upd_ne e]
theorem i_ab (x b : Int32) : x + 1 + (b - 1) = x + b := by
  rw [Int32.add_assoc, Int32.add_comm 1 (b - 1), Int32.sub_add_cancel]
/-- a lift, each of its sums at once -/
abbrev mUp1 (z : Nat → Int32) (k m c : Nat) : Nat → Int32 := mCome (mLf1 z m c) k c (z (8 + 6 * c) + 1)
theorem mUp_adj (hm : m < 6) (hc : c < 6) (b : Int32) : mUp (mAdj z m b) k c = mAdj (mUp1 z k m c) m (b - 1) := by
  have e1 : mAdj z m b (8 + 6 * c + 3) = z (8 + 6 * c + 3) := (upd_ne (by omega)).trans (upd_ne (by omega))
  have e2 : mAdj z m b (8 + 6 * c) = z (8 + 6 * c) := (upd_ne (by omega)).trans (upd_ne (by omega))
  obtain ⟨W, hW⟩ : ∃ W, mCome (mLays z c 3 (z (8 + 6 * c + 3) + 1)) k c (z (8 + 6 * c) + 1) = W := ⟨_, rfl⟩
  have l : mUp (mAdj z m b) k c = upd (upd W (8 + 6 * m + 4) (z (8 + 6 * m + 4) + b)) 5 (z 5 + b) := by
    show mCome (mLays (mAdj z m b) c 3 (mAdj z m b (8 + 6 * c + 3) + 1)) k c (mAdj z m b (8 + 6 * c) + 1) = _
    rw [e1, e2]
    show mCome (upd (upd (upd z (8 + 6 * m + 4) _) 5 _) (8 + 6 * c + 3) _) k c _ = _
    rw [upd_comm (i := 5) (j := 8 + 6 * c + 3) (by omega), upd_comm (i := 8 + 6 * m + 4) (j := 8 + 6 * c + 3) (by omega), mCome_upd (by omega) (by omega) (by omega) (by omega) (by omega) (by omega), mCome_upd (by omega) (by omega) (by omega) (by omega) (by omega) (by omega)]
    exact congrArg (fun q => upd (upd q (8 + 6 * m + 4) (z (8 + 6 * m + 4) + b)) 5 (z 5 + b)) hW
  have r : mUp1 z k m c = upd (upd W (8 + 6 * m + 4) (z (8 + 6 * m + 4) + 1)) 5 (z 5 + 1) := by
    show mCome (upd (upd (mLays z c 3 (z (8 + 6 * c + 3) + 1)) (8 + 6 * m + 4) _) 5 _) k c _ = _
    rw [mCome_upd (by omega) (by omega) (by omega) (by omega) (by omega) (by omega), mCome_upd (by omega) (by omega) (by omega) (by omega) (by omega) (by omega)]
    exact congrArg (fun q => upd (upd q (8 + 6 * m + 4) (z (8 + 6 * m + 4) + 1)) 5 (z 5 + 1)) hW
  rw [l, r]
  unfold mAdj
  rw [show upd (upd W (8 + 6 * m + 4) (z (8 + 6 * m + 4) + 1)) 5 (z 5 + 1) (8 + 6 * m + 4) = z (8 + 6 * m + 4) + 1 from (upd_ne (by omega)).trans upd_same, show upd (upd W (8 + 6 * m + 4) (z (8 + 6 * m + 4) + 1)) 5 (z 5 + 1) 5 = z 5 + 1 from upd_same, i_ab, i_ab]
  show _ = upd (upd (upd (upd W (8 + 6 * m + 4) _) 5 _) (8 + 6 * m + 4) _) 5 _
  rw [upd_comm (z := upd W (8 + 6 * m + 4) (z (8 + 6 * m + 4) + 1)) (i := 5) (j := 8 + 6 * m + 4) (by omega), upd_upd, upd_upd]
def mLg (n k m : Nat) : Nat → (Nat → Int32) → Int32 → Nat → Int32
  | 0, z, _ => z
  | f + 1, z, s => if s.toInt = 0 then z else mLg n k m f (mUp1 z k m (sHi z s n).toNatClampNeg) (s - (1 <<< (sHi z s n &&& 31)))
theorem mLf_adj (hn6 : n ≤ 6) (hm : m < 6) : ∀ (u : Nat) (z : Nat → Int32) (a : Nat) (b : Int32), a < 64 → b = sBits (nI a) 6 → mLk n k u (mAdj z m b) (nI a) → mLf n k u (mAdj z m b) (nI a) = mLg n k m u z (nI a)
  | 0, z, a, b, ha, hb, hk => by
    have e : a = 0 := by
      have : (nI a).toInt = 0 := hk
      rw [nI_toInt (by omega)] at this
      omega
    subst e
    rw [mLf, mLg, hb]
    exact mAdj_0
  | u + 1, z, a, b, ha, hb, hk => by
    rw [mLf, mLg]
    by_cases e : (nI a).toInt = 0
    · rw [if_pos e, if_pos e]
      rw [nI_toInt (by omega)] at e
      have e : a = 0 := by omega
      subst e
      rw [hb]
      exact mAdj_0
    · rw [if_neg e, if_neg e]
      rcases hk with hk | ⟨hk1, hk2⟩
      · exact absurd hk e
      rw [sHi_adj hm b (nI a) n hn6] at hk1 hk2 ⊢
      rcases sHi_cases z (nI a) n with q | ⟨c, c1, c2, c3⟩
      · exact absurd (by rw [q]; decide) hk1
      · rw [c2, nI_clamp (by omega)] at hk2 ⊢
        obtain ⟨r, r1, r2, r3⟩ := sBits_pop c (by omega) a ha c3
        rw [r2, mUp_adj hm (by omega)] at hk2 ⊢
        exact mLf_adj hn6 hm u _ r (b - 1) (by omega) (by rw [hb, r3, Int32.add_sub_cancel]) hk2
end RA
