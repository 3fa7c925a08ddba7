/-! texts: one number read by the reference, and the class's states -/
section RJ
variable {f : Nat → Int32} {n s i j e : Nat} {X Z O b c : Int32}
abbrev dg (c : Int32) : Prop := 48 ≤ c.toInt ∧ c.toInt ≤ 57
theorem wB_1 (c : Int32) : wB 1 c = wMS c := by unfold wB; rw [if_pos rfl]
theorem wB_2 (c : Int32) : wB 2 c = wC c := by unfold wB; rw [if_neg (by decide), if_pos rfl]
theorem wB_3 (c : Int32) : wB 3 c = wN c 5 4 := by unfold wB; rw [if_neg (by decide), if_neg (by decide), if_pos rfl]
theorem wB_4 (c : Int32) : wB 4 c = if 48 ≤ c.toInt ∧ c.toInt ≤ 57 then 5 else wA c := by unfold wB; rw [if_neg (by decide), if_neg (by decide), if_neg (by decide), if_pos rfl]
theorem wB_5 (c : Int32) : wB 5 c = wA c := by unfold wB; rw [if_neg (by decide), if_neg (by decide), if_neg (by decide), if_neg (by decide), if_pos rfl]
theorem wB_6 (c : Int32) : wB 6 c = wN c 2 7 := by unfold wB; rw [if_neg (by decide), if_neg (by decide), if_neg (by decide), if_neg (by decide), if_neg (by decide), if_pos rfl]
theorem wB_7 (c : Int32) : wB 7 c = if 48 ≤ c.toInt ∧ c.toInt ≤ 57 then 2 else wC c := by unfold wB; rw [if_neg (by decide), if_neg (by decide), if_neg (by decide), if_neg (by decide), if_neg (by decide), if_neg (by decide), if_pos rfl]
theorem m6 : (-6 : Int32).toInt = -6 := by decide
theorem mW_ok (hb : ¬ b.toInt = 0) : mW b (s, -6) = (s + 1, -6) := by
  unfold mW
  rw [if_pos m6, if_neg hb]
theorem mW_no (hb : b.toInt = 0) : mW b (s, -6) = (s + 1, nI s) := by
  unfold mW
  rw [if_pos m6, if_pos hb]
theorem mW_er {w : Int32} (hw : ¬ w.toInt = -6) : mW b (s, w) = (s, w) := by
  unfold mW
  rw [if_neg hw]
theorem b2i_T {p : Prop} [Decidable p] (h : p) : ¬ (b2i p).toInt = 0 := by rw [b2i_t h]; decide
theorem b2i_F {p : Prop} [Decidable p] (h : ¬ p) : (b2i p).toInt = 0 := by rw [b2i_f h]; decide
theorem mLt_in (h : s < n) : mLt f n s = f s := if_pos h
theorem mLt_out (h : ¬ s < n) : mLt f n s = -6 := if_neg h
theorem mLt_rng (hf : tOk f n) (s : Nat) : -6 ≤ (mLt f n s).toInt ∧ (mLt f n s).toInt ≤ 126 := by
  by_cases h : s < n
  · rw [mLt_in h]
    have := hf s h
    omega
  · rw [mLt_out h]
    decide
theorem mLt_sub (hf : tOk f n) (s : Nat) : (mLt f n s - 48).toInt = (mLt f n s).toInt - 48 := by
  have r := mLt_rng hf s
  have e : (48 : Int32).toInt = 48 := by decide
  rw [i_sub (by omega) (by omega), e]
theorem mLt_dg (hf : tOk f n) (s : Nat) : (0 ≤ (mLt f n s - 48).toInt ∧ (mLt f n s - 48).toInt ≤ 9) ↔ (s < n ∧ dg (f s)) := by
  rw [mLt_sub hf]
  by_cases h : s < n
  · rw [mLt_in h]
    constructor
    · rintro ⟨h1, h2⟩; exact ⟨h, by omega, by omega⟩
    · rintro ⟨_, h1, h2⟩; omega
  · rw [mLt_out h, m6]
    constructor
    · rintro ⟨h1, h2⟩; omega
    · rintro ⟨h1, _⟩; exact absurd h1 h
theorem mNq_ok (hf : tOk f n) (hd : s < n ∧ dg (f s)) : mNq f n (s, -6) = (s + 1, -6) := by
  show mW (b2i (0 ≤ (mLt f n s - 48).toInt ∧ (mLt f n s - 48).toInt ≤ 9)) (s, -6) = _
  exact mW_ok (b2i_T ((mLt_dg hf s).mpr hd))
theorem mNq_no (hf : tOk f n) (hd : ¬ (s < n ∧ dg (f s))) : mNq f n (s, -6) = (s + 1, nI s) := by
  show mW (b2i (0 ≤ (mLt f n s - 48).toInt ∧ (mLt f n s - 48).toInt ≤ 9)) (s, -6) = _
  exact mW_no (b2i_F (fun q => hd ((mLt_dg hf s).mp q)))
theorem num_no (hf : tOk f n) (hs : s < 1000) (hd : ¬ (s < n ∧ dg (f s))) : (mNu f n (s, -6)).2 = (s + 1, nI s) := by
  have q := mNq_no hf hd
  unfold mNu
  rw [if_neg (fun h => by
    have h1 : (mNq f n (s, -6)).2.toInt = -6 := h.1
    rw [q] at h1
    exact nI_t6 (by omega) h1)]
  exact q
theorem num_er {w : Int32} (hw : ¬ w.toInt = -6) : (mNu f n (s, w)).2 = (s, w) := by
  have q : mNq f n (s, w) = (s, w) := mW_er hw
  unfold mNu
  rw [if_neg (fun h => by
    have h1 : (mNq f n (s, w)).2.toInt = -6 := h.1
    rw [q] at h1
    exact hw h1)]
  exact q
theorem num_ok (hX : ∀ c, wB X c = wN c Z O) (hO : ∀ c, dg c → wB O c = Z) (hZ : Z.toInt ≠ 0) (hO0 : O.toInt ≠ 0) (hf : tOk f n) (hs : s < n) (hW : tW f s = X) (hd : dg (f s)) : ∃ v s', mNu f n (s, -6) = (v, s', -6) ∧ s < s' ∧ s' ≤ n ∧ s' ≤ s + 2 ∧ (∀ i, s ≤ i → i < s' → (tW f (i + 1)).toInt ≠ 0 ∧ dg (f i)) ∧ (tW f s' = Z ∨ tW f s' = O ∧ ¬ (s' < n ∧ dg (f s'))) ∧ (¬ (s' < n ∧ dg (f s')) → tNum f n 62 s 0 = v) := by
  have a1 : mLt f n s = f s := if_pos hs
  have q := mNq_ok hf ⟨hs, hd⟩
  have w1 : tW f (s + 1) = if (f s).toInt = 48 then Z else O := by
    rw [tW, hW, hX]
    unfold wN
    rw [if_pos hd]
  have z0 : (10 : Int32) * 0 + (f s - 48) = f s - 48 := by rw [show (10 : Int32) * 0 = 0 by decide, Int32.zero_add]
  have n1 : tNum f n 62 s 0 = tNum f n 61 (s + 1) (f s - 48) := by
    rw [tNum, if_pos ⟨hs, hd⟩, z0]
  have hsub := mLt_sub hf s
  rw [a1] at hsub
  by_cases two : (f s).toInt ≠ 48 ∧ s + 1 < n ∧ dg (f (s + 1))
  · obtain ⟨t1, t2, t3⟩ := two
    have ht : mNt f n (s, -6) := by
      unfold mNt
      rw [q]
      refine ⟨m6, ?_, (mLt_dg hf (s + 1)).mpr ⟨t2, t3⟩⟩
      show 0 < (mLt f n s - 48).toInt
      rw [a1, hsub]
      omega
    have a2 : mLt f n (s + 1) = f (s + 1) := if_pos t2
    have r : mNu f n (s, -6) = (10 * (f s - 48) + (f (s + 1) - 48), s + 2, -6) := by
      unfold mNu
      rw [if_pos ht, q]
      show (10 * (mLt f n s - 48) + (mLt f n (s + 1) - 48), s + 1 + 1, (-6 : Int32)) = _
      rw [a1, a2]
    rw [if_neg t1] at w1
    have w2 : tW f (s + 2) = Z := by
      show wB (tW f (s + 1)) (f (s + 1)) = Z
      rw [w1]
      exact hO _ t3
    refine ⟨_, s + 2, r, by omega, by omega, Nat.le_refl _, fun i h1 h2 => ?_, Or.inl w2, fun h => ?_⟩
    · by_cases ei : i = s
      · subst ei
        rw [w1]
        exact ⟨hO0, hd⟩
      · have ei : i = s + 1 := by omega
        subst ei
        rw [w2]
        exact ⟨hZ, t3⟩
    · rw [n1, tNum, if_pos ⟨t2, t3⟩, tNum, if_neg h]
  · have ht : ¬ mNt f n (s, -6) := by
      unfold mNt
      rw [q]
      rintro ⟨_, h2, h3⟩
      have h2 : 0 < (mLt f n s - 48).toInt := h2
      rw [a1, hsub] at h2
      have h4 := (mLt_dg hf (s + 1)).mp h3
      exact two ⟨by omega, h4.1, h4.2⟩
    have r : mNu f n (s, -6) = (f s - 48, s + 1, -6) := by
      unfold mNu
      rw [if_neg ht, q]
      show (mLt f n s - 48, s + 1, (-6 : Int32)) = _
      rw [a1]
    refine ⟨_, s + 1, r, by omega, by omega, by omega, fun i h1 h2 => ?_, ?_, fun h => ?_⟩
    · have ei : i = s := by omega
      subst ei
      rw [w1]
      refine ⟨?_, hd⟩
      split
      · exact hZ
      · exact hO0
    · by_cases e8 : (f s).toInt = 48
      · rw [w1, if_pos e8]; exact Or.inl rfl
      · rw [w1, if_neg e8]; exact Or.inr ⟨rfl, fun h => two ⟨e8, h.1, h.2⟩⟩
    · rw [n1, tNum, if_neg h]
/-- the first error: at e -/
def Gd (f : Nat → Int32) (s : Nat) : Prop := ∀ i, i < s → (tW f (i + 1)).toInt ≠ 0
theorem Gd.ext {s' : Nat} (h : Gd f s) (h2 : ∀ i, s ≤ i → i < s' → (tW f (i + 1)).toInt ≠ 0) : Gd f s' := fun i hi => by
  by_cases e : i < s
  · exact h i e
  · exact h2 i (by omega) hi
def Er (f : Nat → Int32) (n : Nat) (w : Int32) : Prop := ∃ e, e ≤ n ∧ w = nI e ∧ Gd f e ∧ (e < n → (tW f (e + 1)).toInt = 0) ∧ (e = n → (tW f e).toInt ≠ 2 ∧ (tW f e).toInt ≠ 7)
theorem tFE_at (hg : Gd f e) (he : e < n) (h0 : (tW f (e + 1)).toInt = 0) : ∀ d i, i + d = n → i ≤ e → tFE f d i = nI e
  | 0, i, h1, h2 => absurd h1 (by omega)
  | d + 1, i, h1, h2 => by
    rw [tFE]
    by_cases ei : i = e
    · subst ei
      rw [if_pos h0]
    · rw [if_neg (hg i (by omega)), tFE_at hg he h0 d (i + 1) (by omega) (by omega)]
theorem tFE_end (hg : Gd f n) : ∀ d i, i + d = n → tFE f d i = if (tW f n).toInt = 2 ∨ (tW f n).toInt = 7 then -6 else nI n
  | 0, i, h1 => by
    have : i = n := by omega
    subst this
    rw [tFE]
  | d + 1, i, h1 => by
    rw [tFE, if_neg (hg i (by omega)), tFE_end hg d (i + 1) (by omega)]
theorem Er.fe {w : Int32} (h : Er f n w) : tFE f n 0 = w := by
  obtain ⟨e, h1, h2, h3, h4, h5⟩ := h
  by_cases he : e < n
  · rw [h2]
    exact tFE_at h3 he (h4 he) n 0 (by omega) (by omega)
  · have en : e = n := by omega
    subst en
    have := h5 rfl
    rw [tFE_end h3 e 0 (by omega), if_neg (fun q => q.elim this.1 this.2), h2]
theorem Er.n6 {w : Int32} (hn : n ≤ 60) (h : Er f n w) : ¬ w.toInt = -6 := by
  obtain ⟨e, h1, h2, _⟩ := h
  rw [h2]
  exact nI_t6 (by omega)
end RJ
