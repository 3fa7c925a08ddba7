/-! class and reference: the next mover -/
section R6
variable {z f : Nat → Int32} {t n k m c x : Nat} {S T : gS}
theorem gBeh_nI (h : g_cl T = nI n) (hn : n ≤ 6) (hx : x < n) : gBeh T (nI x) = nI ((x + 1) % n) := by
  have e1 : nI x + 1 = nI (x + 1) := nI_1 x
  unfold gBeh
  rw [e1]
  by_cases e : x + 1 < n
  · rw [if_pos (show g_isCl T (nI (x + 1)) from ⟨by rw [nI_toInt (by omega)]; omega, by rw [h, nI_toInt (by omega), nI_toInt (by omega)]; omega⟩), Nat.mod_eq_of_lt e]
  · rw [if_neg (fun v => by have := v.2; rw [h, nI_toInt (by omega), nI_toInt (by omega)] at this; omega), show x + 1 = n by omega, Nat.mod_self]
    rfl
theorem mSk_done (hn6 : n ≤ 6) : ∀ (u : Nat) (z : Nat → Int32) (x : Nat), x < n → (∀ c, c < n → z (8 + 6 * c + 2) = 0 ∨ z (8 + 6 * c + 2) = 1) → cN (fun c => (z (8 + 6 * c + 2)).toInt = 1) n ≤ u → ¬ 0 < ((mSk n u z x).1 (8 + 6 * (mSk n u z x).2 + 2)).toInt
  | 0, z, x, hx, h01, hc => by
    rw [mSk]
    rcases h01 x hx with e | e
    · show ¬ 0 < (z (8 + 6 * x + 2)).toInt
      rw [e]; decide
    · exfalso
      have : 0 < cN (fun c => (z (8 + 6 * c + 2)).toInt = 1) n := by
        have := cN_lt (p := fun _ => False) (q := fun c => (z (8 + 6 * c + 2)).toInt = 1) n (fun _ _ v => v.elim) ⟨x, hx, by rw [e]; decide, id⟩
        omega
      omega
  | u + 1, z, x, hx, h01, hc => by
    rw [mSk]
    rcases h01 x hx with e | e
    · rw [if_neg (by rw [e]; decide)]
      show ¬ 0 < (z (8 + 6 * x + 2)).toInt
      rw [e]; decide
    · rw [if_pos (by rw [e]; decide)]
      have ez : ∀ c, c < n → upd (mLays z x 2 (z (8 + 6 * x + 2) - 1)) 7 (z 7 + 1) (8 + 6 * c + 2) = if c = x then 0 else z (8 + 6 * c + 2) := fun c hc => by
        refine (upd_ne (by omega)).trans ?_
        by_cases ec : c = x
        · subst ec
          rw [if_pos rfl, e]
          exact upd_same.trans (by decide)
        · rw [if_neg ec]
          exact upd_ne (by omega)
      refine mSk_done hn6 u _ _ (Nat.mod_lt _ (by omega)) (fun c hc => ?_) ?_
      · rw [ez c hc]
        by_cases ec : c = x
        · rw [if_pos ec]; exact Or.inl rfl
        · rw [if_neg ec]; exact h01 c hc
      · have := cN_lt (p := fun c => (upd (mLays z x 2 (z (8 + 6 * x + 2) - 1)) 7 (z 7 + 1) (8 + 6 * c + 2)).toInt = 1) (q := fun c => (z (8 + 6 * c + 2)).toInt = 1) n (fun c hc v => ?_) ⟨x, hx, by rw [e]; decide, fun v => ?_⟩
        · omega
        · have v2 : (upd (mLays z x 2 (z (8 + 6 * x + 2) - 1)) 7 (z 7 + 1) (8 + 6 * c + 2)).toInt = 1 := v
          rw [ez c hc] at v2
          by_cases ec : c = x
          · rw [if_pos ec] at v2; exact absurd v2 (by decide)
          · rw [if_neg ec] at v2; exact v2
        · have v2 : (upd (mLays z x 2 (z (8 + 6 * x + 2) - 1)) 7 (z 7 + 1) (8 + 6 * x + 2)).toInt = 1 := v
          rw [ez x hx, if_pos rfl] at v2
          exact absurd v2 (by decide)
theorem Rl.sk : ∀ (u : Nat) (S : gS) (z : Nat → Int32) (x : Nat), Rl S z t n k m → x < n → Rl (gSkF u S (nI x)) (upd (mSk n u z x).1 2 (nI (mSk n u z x).2)) t n k (mSk n u z x).2
  | 0, S, z, x, h, hx => by
    have n6 := h.n6
    exact h.rest (g_rs S) (g_lo S) x (upd z 2 (nI x)) (fun i h2 _ _ => upd_ne h2) upd_same ((upd_ne (by omega)).trans h.z7) (Or.inl hx) (fun c hc => (upd_ne (by omega)).trans (h.rs c hc)) (fun c hc h1 => (h.out c hc h1).2.2.1) h.rs01
  | u + 1, S, z, x, h, hx => by
    have n6 := h.n6
    have ex : (nI x).toNatClampNeg = x := nI_clamp (by omega)
    have hrx := h.rs x (by omega)
    rw [gSkF, mSk, ex, hrx]
    by_cases e : 0 < (g_rs S x).toInt
    · rw [if_pos e, if_pos e, gBeh_nI h.gn n6 hx]
      have e1 : g_rs S x = 1 := by
        rcases h.rs01 x (by omega) with v | v
        · rw [v] at e; exact absurd e (by decide)
        · exact v
      have mn := h.mn
      have h' : Rl (g_wO (g_wRs S (upd (g_rs S) x (g_rs S x - 1))) (g_top S) (g_cl S) (g_mv S) (g_ro S) (g_lo S + 1)) (upd (mLays z x 2 (g_rs S x - 1)) 7 (z 7 + 1)) t n k m := by
        rw [h.gm]
        refine h.rest (upd (g_rs S) x (g_rs S x - 1)) (g_lo S + 1) m _ (fun i h2 h7 hc => (upd_ne h7).trans (upd_ne (hc x (by omega)))) ((upd_ne (by omega)).trans ((upd_ne (by omega)).trans h.z2)) ?_ mn (fun c hc => ?_) (fun c hc h1 => ?_) (fun c hc => ?_)
        · rw [← h.z7]; exact upd_same
        · refine (upd_ne (by omega)).trans ?_
          by_cases ec : c = x
          · subst ec; exact upd_same.trans upd_same.symm
          · exact (upd_ne (by omega)).trans ((h.rs c hc).trans (upd_ne ec).symm)
        · exact (upd_ne (by omega)).trans (h.out c hc h1).2.2.1
        · by_cases ec : c = x
          · subst ec; rw [upd_same, e1]; exact Or.inl (by decide)
          · rw [upd_ne ec]; exact h.rs01 c hc
      exact Rl.sk u _ _ _ h' (Nat.mod_lt _ (by omega))
    · rw [if_neg e, if_neg e]
      exact h.rest (g_rs S) (g_lo S) x (upd z 2 (nI x)) (fun i h2 _ _ => upd_ne h2) upd_same ((upd_ne (by omega)).trans h.z7) (Or.inl hx) (fun c hc => (upd_ne (by omega)).trans (h.rs c hc)) (fun c hc h1 => (h.out c hc h1).2.2.1) h.rs01
theorem mSk_lt (hn0 : 0 < n) : ∀ (u : Nat) (z : Nat → Int32) (x : Nat), x < n → (mSk n u z x).2 < n
  | 0, _, _, hx => hx
  | u + 1, z, x, hx => by
    rw [mSk]
    split
    · exact mSk_lt hn0 u _ _ (Nat.mod_lt _ hn0)
    · exact hx
theorem Rl.nok (h : Rl S z t n k m) (hm : m < n) : mNok z n m := by
  have n6 := h.n6
  refine mSk_done n6 12 z _ (Nat.mod_lt _ (by omega)) (fun c hc => by rw [h.rs c (by omega)]; exact h.rs01 c (by omega)) ?_
  have := cN_le (fun c => (z (8 + 6 * c + 2)).toInt = 1) n
  omega
theorem Rl.next (h : Rl S z t n k m) (hm : m < n) : Rl (gNext S) (mNext z n m) t n k (mNx z n m).2 ∧ g_rs (gNext S) (mNx z n m).2 = 0 ∧ (mNx z n m).2 < n := by
  have n6 := h.n6
  have hk := h.nok hm
  have hlt : (mNx z n m).2 < n := mSk_lt (by omega) 12 z _ (Nat.mod_lt _ (by omega))
  have h' : Rl (gNext S) (mNext z n m) t n k (mNx z n m).2 := by
    unfold gNext
    rw [h.gm, gBeh_nI h.gn n6 hm]
    exact Rl.sk 12 S z _ h (Nat.mod_lt _ (by omega))
  refine ⟨h', ?_, hlt⟩
  have e := h'.rs (mNx z n m).2 (by omega)
  rcases h'.rs01 (mNx z n m).2 (by omega) with v | v
  · exact v
  · rw [v] at e
    have e2 : mNext z n m (8 + 6 * (mNx z n m).2 + 2) = (mNx z n m).1 (8 + 6 * (mNx z n m).2 + 2) := upd_ne (by omega)
    rw [e2] at e
    exact absurd (by rw [e]; decide) hk
end R6
