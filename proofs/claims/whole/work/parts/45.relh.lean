/-! the fewest rolls: bits of a long -/
section RH
variable {z f : Nat → Int32} {t n k m c i j a b p : Nat} {v w u : Int32} {S T : gS}
theorem l_sh : ∀ s, s < 64 → (nI s).toInt64.toUInt64 &&& Int64.toUInt64 63 = UInt64.ofNat s := by decide
theorem l_shN : ∀ s, s < 64 → (UInt64.ofNat s).toNat % 64 = s := by decide
theorem l_and1 (y : UInt64) : y.toInt64 &&& 1 ≠ 0 ↔ y.toNat.testBit 0 = true := by
  rw [Nat.testBit_zero, decide_eq_true_eq]
  have e1 : (y &&& 1).toNat = y.toNat % 2 := by
    rw [UInt64.toNat_and]
    exact Nat.and_one_is_mod y.toNat
  constructor
  · intro h
    refine Classical.byContradiction (fun hn => h ?_)
    have e2 : (y &&& 1).toNat = (0 : UInt64).toNat := by
      rw [e1]
      show y.toNat % 2 = 0
      omega
    have e3 : y &&& 1 = 0 := UInt64.toNat_inj.mp e2
    show (y &&& 1).toInt64 = 0
    rw [e3]
    rfl
  · intro h hn
    have e3 : y &&& 1 = 0 := congrArg Int64.toUInt64 (show (y &&& 1).toInt64 = 0 from hn)
    rw [e3] at e1
    have : (0 : UInt64).toNat = 0 := rfl
    omega
theorem lT_bit (r : Int64) {s : Nat} (hs : s < 64) : lT r s ↔ r.toUInt64.toNat.testBit s = true := by
  show (r.toUInt64 >>> ((nI s).toInt64.toUInt64 &&& Int64.toUInt64 63)).toInt64 &&& 1 ≠ 0 ↔ _
  rw [l_sh s hs, l_and1, UInt64.toNat_shiftRight, l_shN s hs, Nat.testBit_shiftRight, Nat.add_zero]
theorem lT_or (a b : Int64) {s : Nat} (hs : s < 64) : lT (a ||| b) s ↔ lT a s ∨ lT b s := by
  rw [lT_bit _ hs, lT_bit _ hs, lT_bit _ hs]
  show (a.toUInt64 ||| b.toUInt64).toNat.testBit s = true ↔ _
  rw [UInt64.toNat_or, Nat.testBit_or, Bool.or_eq_true]
theorem lT_0 {s : Nat} (hs : s < 64) : ¬ lT 0 s := by
  rw [lT_bit _ hs]
  show ¬ (0 : Nat).testBit s = true
  rw [Nat.zero_testBit]
  decide
theorem lB_nat : ∀ s, s < 60 → (lB (nI s)).toUInt64.toNat = 2 ^ s := by decide
theorem lT_B {p s : Nat} (hp : p < 60) (hs : s < 64) : lT (lB (nI p)) s ↔ s = p := by
  rw [lT_bit _ hs, lB_nat p hp, Nat.testBit_two_pow, decide_eq_true_eq]
  omega
theorem l_shT : ∀ t, t < 61 → 10 ≤ t → (nI t - 6).toInt64.toUInt64 &&& Int64.toUInt64 63 = UInt64.ofNat (t - 6) := by decide
theorem lTop_iff (r : Int64) {t : Nat} (ht : 10 ≤ t ∧ t ≤ 60) : lTop r t ↔ ∃ s, t ≤ s + 6 ∧ s < 64 ∧ lT r s := by
  have hlt : r.toUInt64.toNat < 2 ^ 64 := r.toUInt64.toNat_lt
  show (r.toUInt64 >>> ((nI t - 6).toInt64.toUInt64 &&& Int64.toUInt64 63)).toInt64 ≠ 0 ↔ _
  rw [l_shT t (by omega) ht.1]
  obtain ⟨y, hy⟩ : ∃ y, r.toUInt64 >>> UInt64.ofNat (t - 6) = y := ⟨_, rfl⟩
  have hyN : y.toNat = r.toUInt64.toNat >>> (t - 6) := by
    rw [← hy, UInt64.toNat_shiftRight, l_shN _ (by omega)]
  rw [hy]
  constructor
  · intro h
    have hne : y.toNat ≠ 0 := fun e => h (by
      have : y = 0 := UInt64.toNat_inj.mp e
      rw [this]
      rfl)
    obtain ⟨i, hi⟩ := Nat.exists_testBit_of_ne_zero hne
    rw [hyN, Nat.testBit_shiftRight] at hi
    have h64 : t - 6 + i < 64 := by
      refine Classical.byContradiction (fun hn => ?_)
      have hle : (2 : Nat) ^ 64 ≤ 2 ^ (t - 6 + i) := Nat.pow_le_pow_right (by decide) (by omega)
      rw [Nat.testBit_lt_two_pow (Nat.lt_of_lt_of_le hlt hle)] at hi
      exact absurd hi (by decide)
    exact ⟨t - 6 + i, by omega, h64, (lT_bit r h64).mpr hi⟩
  · rintro ⟨s, h1, h2, h3⟩ h
    have hb := (lT_bit r h2).mp h3
    have e : y = 0 := congrArg Int64.toUInt64 h
    have e2 : y.toNat.testBit (s - (t - 6)) = true := by
      rw [hyN, Nat.testBit_shiftRight, show t - 6 + (s - (t - 6)) = s by omega]
      exact hb
    rw [e] at e2
    have : (0 : UInt64).toNat = 0 := rfl
    rw [this, Nat.zero_testBit] at e2
    exact absurd e2 (by decide)
/-- the steps reached by at most so many rolls, from p on, where d says where one comes to -/
def Re (d : Nat → Nat) (t p : Nat) : Nat → Nat → Prop
  | 0, x => x = p
  | c + 1, x => Re d t p c x ∨ ∃ s, s < t ∧ Re d t p c s ∧ ∃ y, s < y ∧ y ≤ s + 6 ∧ y < t ∧ d y = x
variable {d : Nat → Nat}
theorem Re_lt (hp : p < t) (hd : ∀ y, y < t → d y < t) : ∀ c x, Re d t p c x → x < t
  | 0, x, h => by rw [show x = p from h]; exact hp
  | c + 1, x, h => by
    rcases h with h | ⟨s, _, _, y, _, _, h1, h2⟩
    · exact Re_lt hp hd c x h
    · rw [← h2]; exact hd y h1
theorem Re_mono {x : Nat} : ∀ {a b : Nat}, a ≤ b → Re d t p a x → Re d t p b x
  | a, 0, h, hr => by rw [show a = 0 by omega] at hr; exact hr
  | a, b + 1, h, hr => by
    by_cases e : a = b + 1
    · rw [← e]; exact hr
    · exact Or.inl (Re_mono (b := b) (by omega) hr)
theorem Re_fix {c : Nat} (h : ∀ x, Re d t p (c + 1) x → Re d t p c x) : ∀ j x, Re d t p (c + j) x → Re d t p c x
  | 0, x, hr => hr
  | j + 1, x, hr => by
    have hr : Re d t p (c + j) x ∨ ∃ s, s < t ∧ Re d t p (c + j) s ∧ ∃ y, s < y ∧ y ≤ s + 6 ∧ y < t ∧ d y = x := hr
    rcases hr with hr | ⟨s, h1, h2, h3⟩
    · exact Re_fix h j x hr
    · exact h x (Or.inr ⟨s, h1, Re_fix h j s h2, h3⟩)
abbrev Hit (d : Nat → Nat) (t p c : Nat) : Prop := ∃ x, x < t ∧ t ≤ x + 6 ∧ Re d t p c x
/-- the class's bits -/
theorem sRF_iff {D : Nat → Int32} (a : Nat) (hD : ∀ y, y < t → D y = nI (d y) ∧ d y < 60) {x : Nat} (hx : x < 64) : ∀ s, s ≤ t → (lT (sRF D a s) x ↔ ∃ y, a < y ∧ y < s ∧ d y = x)
  | 0, _ => by
    rw [sRF]
    exact ⟨fun q => absurd q (lT_0 hx), fun ⟨y, _, h, _⟩ => absurd h (by omega)⟩
  | s + 1, hs => by
    rw [sRF]
    by_cases e : a < s
    · rw [if_pos e, lT_or _ _ hx, sRF_iff a hD hx s (by omega), (hD s (by omega)).1, lT_B (hD s (by omega)).2 hx]
      constructor
      · rintro (⟨y, h1, h2, h3⟩ | h)
        · exact ⟨y, h1, by omega, h3⟩
        · exact ⟨s, e, by omega, h.symm⟩
      · rintro ⟨y, h1, h2, h3⟩
        by_cases ey : y = s
        · subst ey; exact Or.inr h3.symm
        · exact Or.inl ⟨y, h1, by omega, h3⟩
    · rw [if_neg e]
      exact ⟨fun q => absurd q (lT_0 hx), fun ⟨y, h1, h, _⟩ => absurd h (by omega)⟩
theorem sRM_iff {S : gS} (ht : t ≤ 60) (hD : ∀ y, y < t → gDst S y = nI (d y) ∧ d y < 60) (r : Int64) {x : Nat} (hx : x < 64) : ∀ s, s ≤ t → (lT (sRM S t r s) x ↔ lT r x ∨ ∃ s', s' < s ∧ lT r s' ∧ ∃ y, s' < y ∧ y ≤ s' + 6 ∧ y < t ∧ d y = x)
  | 0, _ => by
    rw [sRM]
    exact ⟨Or.inl, fun q => q.elim id (fun ⟨_, h, _⟩ => absurd h (by omega))⟩
  | s + 1, hs => by
    have ih := sRM_iff ht hD r hx s (by omega)
    rw [sRM]
    by_cases e : lT r s
    · rw [if_pos e, lT_or _ _ hx, ih, sRF_iff s hD hx (min (s + 7) t) (by omega)]
      constructor
      · rintro ((q | ⟨s', h1, h2⟩) | ⟨y, h1, h2, h3⟩)
        · exact Or.inl q
        · exact Or.inr ⟨s', by omega, h2⟩
        · exact Or.inr ⟨s, by omega, e, y, h1, by omega, by omega, h3⟩
      · rintro (q | ⟨s', h1, h2, y, h3, h4, h5, h6⟩)
        · exact Or.inl (Or.inl q)
        · by_cases es : s' = s
          · subst es; exact Or.inr ⟨y, h3, by omega, h6⟩
          · exact Or.inl (Or.inr ⟨s', by omega, h2, y, h3, h4, h5, h6⟩)
    · rw [if_neg e, ih]
      constructor
      · rintro (q | ⟨s', h1, h2⟩)
        · exact Or.inl q
        · exact Or.inr ⟨s', by omega, h2⟩
      · rintro (q | ⟨s', h1, h2, h3⟩)
        · exact Or.inl q
        · by_cases es : s' = s
          · subst es; exact absurd h2 e
          · exact Or.inr ⟨s', by omega, h2, h3⟩
theorem sFew_at {S : gS} {c0 : Nat} (ht : 10 ≤ t ∧ t ≤ 60) (hp : p < t) (hd : ∀ y, y < t → d y < t) (hD : ∀ y, y < t → gDst S y = nI (d y)) (h0 : Hit d t p c0) (h1 : ∀ e, e < c0 → ¬ Hit d t p e) : ∀ (u c : Nat) (r : Int64), (∀ x, x < 64 → (lT r x ↔ Re d t p c x)) → c ≤ c0 → c0 < c + u → sFew S t u (c + 1) r = nI (c0 + 1)
  | 0, c, r, _, h2, h3 => absurd h3 (by omega)
  | u + 1, c, r, hr, h2, h3 => by
    have hT : lTop r t ↔ Hit d t p c := by
      rw [lTop_iff r ht]
      constructor
      · rintro ⟨s, q1, q2, q3⟩
        have q4 := (hr s q2).mp q3
        exact ⟨s, Re_lt hp hd c s q4, q1, q4⟩
      · rintro ⟨s, q1, q2, q3⟩
        exact ⟨s, q2, by omega, (hr s (by omega)).mpr q3⟩
    rw [sFew]
    by_cases e : c = c0
    · subst e
      rw [if_pos (hT.mpr h0)]
    · rw [if_neg (fun q => h1 c (by omega) (hT.mp q))]
      refine sFew_at ht hp hd hD h0 h1 u (c + 1) _ (fun x hx => ?_) (by omega) (by omega)
      rw [sRM_iff ht.2 (fun y hy => ⟨hD y hy, by have := hd y hy; omega⟩) r hx t (Nat.le_refl _), hr x hx]
      constructor
      · rintro (q | ⟨s, q1, q2, q3⟩)
        · exact Or.inl q
        · exact Or.inr ⟨s, q1, (hr s (by omega)).mp q2, q3⟩
      · rintro (q | ⟨s, q1, q2, q3⟩)
        · exact Or.inl q
        · exact Or.inr ⟨s, q1, (hr s (by omega)).mpr q2, q3⟩
theorem sFew_no {S : gS} (ht : 10 ≤ t ∧ t ≤ 60) (hp : p < t) (hd : ∀ y, y < t → d y < t) (hD : ∀ y, y < t → gDst S y = nI (d y)) (h1 : ∀ e, ¬ Hit d t p e) : ∀ (u c : Nat) (r : Int64), (∀ x, x < 64 → (lT r x ↔ Re d t p c x)) → sFew S t u (c + 1) r = -6
  | 0, c, r, _ => rfl
  | u + 1, c, r, hr => by
    have hT : lTop r t → Hit d t p c := by
      rw [lTop_iff r ht]
      rintro ⟨s, q1, q2, q3⟩
      have q4 := (hr s q2).mp q3
      exact ⟨s, Re_lt hp hd c s q4, q1, q4⟩
    rw [sFew, if_neg (fun q => h1 c (hT q))]
    refine sFew_no ht hp hd hD h1 u (c + 1) _ (fun x hx => ?_)
    rw [sRM_iff ht.2 (fun y hy => ⟨hD y hy, by have := hd y hy; omega⟩) r hx t (Nat.le_refl _), hr x hx]
    constructor
    · rintro (q | ⟨s, q1, q2, q3⟩)
      · exact Or.inl q
      · exact Or.inr ⟨s, q1, (hr s (by omega)).mp q2, q3⟩
    · rintro (q | ⟨s, q1, q2, q3⟩)
      · exact Or.inl q
      · exact Or.inr ⟨s, q1, (hr s (by omega)).mpr q2, q3⟩
end RH
