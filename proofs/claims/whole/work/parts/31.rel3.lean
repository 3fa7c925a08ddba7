/-! class and reference: ranks, and why not -/
section R3
variable {z f : Nat → Int32} {t n k m c : Nat} {S : gS}
theorem Rl.gtI (h : Rl S z t n k m) : (g_top S).toInt = (t : Int) := by have := h.t60; rw [h.gt]; exact nI_toInt (by omega)
theorem Rl.up (h : Rl S z t n k m) (x : Int32) : g_isUp S x ↔ (mCF z x k).toInt ≠ -6 := by
  have t60 := h.t60
  have eg := h.gtI
  by_cases e : 0 ≤ x.toInt ∧ x.toInt < t
  · have enI := i_nI e.1
    have ecl := i_cl e.1
    have hc := Cp_from h.t60 h.k6 h.cp (s := x.toNatClampNeg) (by omega)
    rw [← enI] at hc
    constructor
    · intro hu
      rcases hc with ⟨c1, c2⟩ | ⟨c1, _⟩
      · exact absurd (by rw [c2]; decide) hu.2
      · exact c1
    · intro hu
      rcases hc with ⟨c1, c2⟩ | ⟨c1, c2, c3, c4, l, c5, c6⟩
      · exact absurd c1 hu
      · exact ⟨⟨e.1, by omega⟩, fun v => nI_ne6 (by omega) (Int32.toInt_inj.mp ((congrArg Int32.toInt c6.symm).trans (v.trans (by decide))))⟩
  · rw [Cp_out t60 h.cp e]
    constructor
    · exact fun v => absurd ⟨v.1.1, by have := v.1.2; omega⟩ e
    · exact fun v => absurd (by decide) v
theorem Rl.lan (h : Rl S z t n k m) {s : Nat} (hs : s < 60) : m_la z s ↔ (g_la S s).toInt ≠ 0 := by
  have hla := h.la s hs
  unfold m_la
  rcases h.la01 s (by omega) with e | e
  · rw [← hla, e]; decide
  · rw [← hla, e]; decide
theorem Rl.onx (h : Rl S z t n k m) (x : Int32) : sOn (g_pl S) x n = sOn (m_pl z) x n := by
  have n6 := h.n6
  exact sOn_congr n (fun c hc => (h.pl c (by omega)).symm)
theorem Rl.st (h : Rl S z t n k m) (x : Int32) : m_st z x ↔ ¬ g_why1 S x := by
  have e := h.top1
  have eg := h.gtI
  unfold m_st g_why1 g_below
  omega
theorem Rl.stt (h : Rl S z t n k m) {x : Int32} (hx : m_st z x) : 1 ≤ x.toInt ∧ x.toInt < t := by
  have e := h.top1
  obtain ⟨h1, h2⟩ := hx
  omega
theorem Rl.whyL (h : Rl S z t n k m) (x y : Int32) : gWhyL S t n x y = mWL z n k x y := by
  have t60 := h.t60
  have k6 := h.k6
  unfold gWhyL mWL
  by_cases e1 : m_st z x
  · have b := h.stt e1
    have ex : (x - 1).toInt = x.toInt - 1 := by
      have := i_sub (x := x) (y := 1) (by rw [show (1 : Int32).toInt = 1 by decide]; omega) (by rw [show (1 : Int32).toInt = 1 by decide]; omega)
      rw [this, show (1 : Int32).toInt = 1 by decide]
    have ecl := i_cl (x := x) (by omega)
    rw [if_neg ((h.st x).mp e1), if_neg (not_not_intro e1)]
    by_cases e2 : 0 ≤ y.toInt ∧ y.toInt ≤ (x - 1).toInt
    · rw [if_neg (not_not_intro e2), if_neg (show ¬ (y.toInt < 0 ∨ x.toInt ≤ y.toInt) by omega)]
      have hl := h.lan (s := x.toNatClampNeg) (by omega)
      have h3 : g_why3 S t x y ∨ g_why4 S n x ↔ ((mCF z x k).toInt ≠ -6 ∨ 0 < (sCn (m_lo z x) k).toInt ∨ (mCF z y k).toInt ≠ -6 ∨ m_la z x.toNatClampNeg ∨ (sOn (m_pl z) x n).toInt ≠ 0) := by
        unfold g_why3 g_why4
        rw [h.up x, h.up y, h.nlow x (by omega), h.onx, ← hl]
        constructor
        · rintro ((a | a | a) | (a | a))
          · exact Or.inl a
          · exact Or.inr (Or.inr (Or.inl a))
          · exact Or.inr (Or.inl a)
          · exact Or.inr (Or.inr (Or.inr (Or.inl a)))
          · exact Or.inr (Or.inr (Or.inr (Or.inr a)))
        · rintro (a | a | a | a | a)
          · exact Or.inl (Or.inl a)
          · exact Or.inl (Or.inr (Or.inr a))
          · exact Or.inl (Or.inr (Or.inl a))
          · exact Or.inr (Or.inl a)
          · exact Or.inr (Or.inr a)
      have h4 : 6 ≤ (sCn (g_up (g_le S)) t).toInt ↔ (z 3).toInt = 6 := by
        rw [h.ncar, h.z3, nI_toInt (by omega)]
        omega
      by_cases e3 : (mCF z x k).toInt ≠ -6 ∨ 0 < (sCn (m_lo z x) k).toInt ∨ (mCF z y k).toInt ≠ -6 ∨ m_la z x.toNatClampNeg ∨ (sOn (m_pl z) x n).toInt ≠ 0
      · rw [if_pos e3]
        by_cases e4 : g_why3 S t x y
        · rw [if_pos e4]
        · rw [if_neg e4, if_pos ((h3.mpr e3).resolve_left e4)]
      · have e5 := fun v => e3 (h3.mp v)
        rw [if_neg e3, if_neg (fun v => e5 (Or.inl v)), if_neg (fun v => e5 (Or.inr v))]
        by_cases e6 : (z 3).toInt = 6
        · rw [if_pos e6, if_pos (h4.mpr e6)]
        · rw [if_neg e6, if_neg (fun v => e6 (h4.mp v))]
    · rw [if_pos e2, if_pos (show y.toInt < 0 ∨ x.toInt ≤ y.toInt by omega)]
  · rw [if_pos (Classical.not_not.mp (fun v => e1 ((h.st x).mpr v))), if_pos e1]
theorem Rl.whyP (h : Rl S z t n k m) (x : Int32) : gWhyP S x = mWP z k x := by
  have t60 := h.t60
  unfold gWhyP mWP
  by_cases e1 : m_st z x
  · have b := h.stt e1
    have ecl := i_cl (x := x) (by omega)
    have hl := h.lan (s := x.toNatClampNeg) (by omega)
    have hu := h.up x
    rw [if_neg ((h.st x).mp e1), if_neg (not_not_intro e1)]
    by_cases e2 : m_la z x.toNatClampNeg ∨ (mCF z x k).toInt ≠ -6
    · rw [if_pos e2, if_pos (e2.elim (fun v => Or.inl (hl.mp v)) (fun v => Or.inr (hu.mpr v)))]
    · rw [if_neg e2, if_neg (fun v => e2 (v.elim (fun v => Or.inl (hl.mpr v)) (fun v => Or.inr (hu.mp v))))]
  · rw [if_pos (Classical.not_not.mp (fun v => e1 ((h.st x).mpr v))), if_pos e1]
theorem Rl.isLa (h : Rl S z t n k m) (x : Int32) : g_isLa S x ↔ (0 ≤ x.toInt ∧ x.toInt < t) ∧ m_la z x.toNatClampNeg := by
  have t60 := h.t60
  have eg := h.gtI
  constructor
  · intro hx
    have hb : 0 ≤ x.toInt ∧ x.toInt < t := ⟨hx.1.1, by have := hx.1.2; omega⟩
    have ecl := i_cl hb.1
    exact ⟨hb, (h.lan (s := x.toNatClampNeg) (by omega)).mpr hx.2⟩
  · rintro ⟨hb, hx⟩
    have ecl := i_cl hb.1
    exact ⟨⟨hb.1, by omega⟩, (h.lan (s := x.toNatClampNeg) (by omega)).mp hx⟩
theorem cN_lt {p q : Nat → Prop} [DecidablePred p] [DecidablePred q] : ∀ n, (∀ c, c < n → p c → q c) → (∃ c, c < n ∧ q c ∧ ¬ p c) → cN p n < cN q n
  | 0, _, h => by obtain ⟨c, h1, _⟩ := h; omega
  | n + 1, h, hw => by
    have hle : ∀ n, (∀ c, c < n → p c → q c) → cN p n ≤ cN q n := by
      intro n
      induction n with
      | zero => exact fun _ => Nat.le_refl _
      | succ n ih =>
        intro h
        have := ih (fun c hc => h c (by omega))
        rw [cN, cN]
        by_cases e : p n
        · rw [if_pos e, if_pos (h n (by omega) e)]; omega
        · rw [if_neg e]; split <;> omega
    obtain ⟨w, h1, h2, h3⟩ := hw
    rw [cN, cN]
    by_cases e : w = n
    · subst e
      have := hle w (fun c hc => h c (by omega))
      rw [if_neg h3, if_pos h2]; omega
    · have := cN_lt n (fun c hc => h c (by omega)) ⟨w, by omega, h2, h3⟩
      by_cases a : p n
      · rw [if_pos a, if_pos (h n (by omega) a)]; omega
      · rw [if_neg a]; split <;> omega
theorem sFst_no {p : Nat → Prop} [DecidablePred p] : ∀ d i, (∀ c, i ≤ c → c < i + d → ¬ p c) → sFst p d i = -6
  | 0, _, _ => rfl
  | d + 1, i, h => by rw [sFst, if_neg (h i (Nat.le_refl _) (by omega)), sFst_no d (i + 1) (fun c h1 h2 => h c (by omega) (by omega))]
theorem sFst_at {p : Nat → Prop} [DecidablePred p] {c : Nat} (hc : p c) : ∀ d i, i ≤ c → c < i + d → (∀ r, i ≤ r → r < c → ¬ p r) → sFst p d i = nI c
  | 0, i, h1, h2, _ => absurd h1 (by omega)
  | d + 1, i, h1, h2, h3 => by
    rw [sFst]
    by_cases e : i = c
    · subst e
      rw [if_pos hc]
    · rw [if_neg (h3 i (Nat.le_refl _) (by omega)), sFst_at hc d (i + 1) (by omega) (by omega) (fun r a b => h3 r (by omega) b)]
theorem sLst_no {p : Nat → Prop} [DecidablePred p] : ∀ n, (∀ c, c < n → ¬ p c) → sLst p n = -6
  | 0, _ => rfl
  | n + 1, h => by rw [sLst, if_neg (h n (by omega)), sLst_no n (fun c hc => h c (by omega))]
theorem sLst_at {p : Nat → Prop} [DecidablePred p] {c : Nat} (hc : p c) : ∀ n, c < n → (∀ r, c < r → r < n → ¬ p r) → sLst p n = nI c
  | 0, h1, _ => absurd h1 (by omega)
  | n + 1, h1, h3 => by
    rw [sLst]
    by_cases e : n = c
    · subst e
      rw [if_pos hc]
    · rw [if_neg (h3 n (by omega) (by omega)), sLst_at hc n (by omega) (fun r a b => h3 r a (by omega))]
theorem ahd_inj (z : Nat → Int32) {n a b : Nat} (ha : a < n) (hb : b < n) (hn : n ≤ 6) (h : (sCn (m_ahd z a) n).toInt = (sCn (m_ahd z b) n).toInt) : a = b := by
  rw [sCn_nI, sCn_nI] at h
  have l1 := cN_le (m_ahd z a) n
  have l2 := cN_le (m_ahd z b) n
  rw [nI_toInt (by omega), nI_toInt (by omega)] at h
  by_cases e : a = b
  · exact e
  · exfalso
    have tot : ∀ a b, a ≠ b → ¬ m_ahd z b a → m_ahd z a b := fun a b hne hh => by
      unfold m_ahd at hh ⊢
      omega
    have lt : ∀ a b, a < n → b < n → m_ahd z b a → cN (m_ahd z a) n < cN (m_ahd z b) n := fun a b ha hb hh => by
      refine cN_lt n (fun o ho hoa => ?_) ⟨a, ha, hh, ?_⟩
      · unfold m_ahd at hoa hh ⊢
        omega
      · unfold m_ahd
        omega
    by_cases e2 : m_ahd z b a
    · have := lt a b ha hb e2; omega
    · have := lt b a hb ha (tot a b e e2); omega
theorem Rl.rank (h : Rl S z t n k m) (x : Int32) : sFst (fun c => (sCn (g_ahd S (nI c)) n).toInt = x.toInt) n 0 = sLst (fun c => (sCn (m_ahd z c) n).toInt = x.toInt) n := by
  have n6 := h.n6
  have e : ∀ c, c < n → sCn (g_ahd S (nI c)) n = sCn (m_ahd z c) n := fun c hc => by
    rw [sCn_nI, sCn_nI]
    refine congrArg nI (cN_congr n (fun o ho => ?_))
    unfold g_ahd m_ahd
    rw [h.pr c hc, h.pr o ho, nI_toInt (by omega), nI_toInt (by omega)]
    omega
  by_cases hx : ∃ c, c < n ∧ (sCn (m_ahd z c) n).toInt = x.toInt
  · obtain ⟨c, h1, h2⟩ := hx
    rw [sFst_at (c := c) (by rw [e c h1]; exact h2) n 0 (by omega) (by omega) (fun r _ hr hh => ?_), sLst_at (c := c) h2 n h1 (fun r hr hrn hh => ?_)]
    · have := ahd_inj z (a := r) (b := c) hrn h1 n6 (hh.trans h2.symm)
      omega
    · rw [e r (by omega)] at hh
      have := ahd_inj z (a := r) (b := c) (by omega) h1 n6 (hh.trans h2.symm)
      omega
  · rw [sFst_no n 0 (fun c _ hc hh => hx ⟨c, by omega, by rw [e c (by omega)] at hh; exact hh⟩), sLst_no n (fun c hc hh => hx ⟨c, hc, hh⟩)]
end R3
