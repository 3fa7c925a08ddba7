/-! class and reference: top, carpets, landings, climbers -/
section R4
variable {z f : Nat → Int32} {t n k m c : Nat} {S : gS}
theorem i_or0 {a b : Int32} (h : (a ||| b).toInt = 0) : a.toInt = 0 ∧ b.toInt = 0 := by
  have e : a ||| b = 0 := Int32.toInt_inj.mp (h.trans (by decide))
  have e2 : a.toBitVec ||| b.toBitVec = 0#32 := congrArg Int32.toBitVec e
  have e3 := BitVec.or_eq_zero_iff.mp e2
  have ea : a = 0 := Int32.toBitVec_inj.mp e3.1
  have eb : b = 0 := Int32.toBitVec_inj.mp e3.2
  rw [ea, eb]
  decide
theorem i_shl1 : ∀ c, c < 6 → ((1 : Int32) <<< (nI c &&& 31)).toInt ≠ 0 := by
  intro c hc
  match c, hc with
  | 0, _ => decide
  | 1, _ => decide
  | 2, _ => decide
  | 3, _ => decide
  | 4, _ => decide
  | 5, _ => decide
theorem sOn_0 {pl : Nat → Int32} {x : Int32} : ∀ n, n ≤ 6 → (sOn pl x n).toInt = 0 → ∀ c, c < n → pl c ≠ x
  | 0, _, _, c, hc => absurd hc (by omega)
  | n + 1, hn, h, c, hc => by
    rw [sOn] at h
    by_cases e : (pl n).toInt = x.toInt
    · rw [if_pos e] at h
      exact absurd (i_or0 h).2 (i_shl1 n (by omega))
    · rw [if_neg e] at h
      by_cases ec : c = n
      · subst ec
        exact fun v => e (congrArg Int32.toInt v)
      · exact sOn_0 n (by omega) h c (by omega)
theorem sOn_z {pl : Nat → Int32} {x : Int32} : ∀ n, (∀ c, c < n → pl c ≠ x) → sOn pl x n = 0
  | 0, _ => rfl
  | n + 1, h => by rw [sOn, if_neg (fun v => h n (by omega) (Int32.toInt_inj.mp v)), sOn_z n (fun c hc => h c (by omega))]
theorem Rl.fr (h : Rl S z t n k m) {s : Nat} (h1 : t ≤ s) (h2 : s ≤ 60) : m_fr z n k s := by
  have n6 := h.n6
  refine ⟨?_, ?_, ?_⟩
  · rw [← h.onx, sOn_z n (fun c hc v => ?_)]
    · decide
    · obtain ⟨p, e1, e2⟩ := h.plt c (by omega)
      rw [e2] at v
      have := nI_inj (by omega) (by omega) v
      omega
  · unfold m_la
    rw [h.lat s h1 h2]
    decide
  · have t60 := h.t60
    rw [Cp_out t60 h.cp (fun v => by rw [nI_toInt (by omega)] at v; omega)]
    decide
theorem Rl.blk1 (h : Rl S z t n k m) {s : Nat} (hs : s < t) : g_blk S n s ↔ ¬ m_fr z n k s := by
  have t60 := h.t60
  have hl := h.lan (s := s) (by omega)
  have hu := h.up (nI s)
  have ho := h.onx (nI s)
  unfold g_blk m_fr
  rw [ho, hu, ← hl]
  constructor
  · rintro (a | a | a) ⟨b1, b2, b3⟩
    · exact b2 a
    · exact a b3
    · exact a b1
  · intro hh
    by_cases a : m_la z s
    · exact Or.inl a
    · by_cases b : (mCF z (nI s) k).toInt = -6
      · exact Or.inr (Or.inr (fun c => hh ⟨c, a, b⟩))
      · exact Or.inr (Or.inl b)
theorem Rl.blk (h : Rl S z t n k m) (x : Nat) : (∃ s, x ≤ s ∧ s < t ∧ g_blk S n s) ↔ ¬ ∀ s, x ≤ s → s ≤ 60 → m_fr z n k s := by
  have t60 := h.t60
  constructor
  · rintro ⟨s, h1, h2, h3⟩ hh
    exact (h.blk1 h2).mp h3 (hh s h1 (by omega))
  · intro hh
    refine Classical.byContradiction (fun hno => hh (fun s h1 h2 => ?_))
    by_cases e : s < t
    · exact Classical.byContradiction (fun v => hno ⟨s, h1, e, (h.blk1 e).mpr v⟩)
    · exact h.fr (by omega) h2
theorem Rl.setTop (h : Rl S z t n k m) {x : Nat} (hx : 10 ≤ x ∧ x ≤ 60) (hf : ∀ s, x ≤ s → s ≤ 60 → m_fr z n k s) : Rl (g_wO S (nI x) (g_cl S) (g_mv S) (g_ro S) (g_lo S)) (upd z 0 (nI x)) x n k m := by
  have t60 := h.t60
  have n6 := h.n6
  have e : ∀ i, i ≠ 0 → upd z 0 (nI x) i = z i := fun i hi => upd_ne hi
  have hcp := h.cp
  unfold Rl
  refine ⟨upd_same, rfl, hx.1, hx.2, (e _ (by omega)).trans h.z1, h.gn, n6, (e _ (by omega)).trans h.z2, h.gm, h.mn, (e _ (by omega)).trans h.z3, h.k6, (e _ (by omega)).trans h.z4, (e _ (by omega)).trans h.z7, (e _ (by omega)).trans h.z5, (e _ (by omega)).trans h.z6, fun c hc => (e _ (by omega)).trans (h.pl c hc), fun c hc => (e _ (by omega)).trans (h.tp c hc), fun c hc => (e _ (by omega)).trans (h.rs c hc), fun c hc => (e _ (by omega)).trans (h.tl c hc), fun c hc => (e _ (by omega)).trans (h.lm c hc), fun c hc => (e _ (by omega)).trans (h.sl c hc), h.out, fun c hc => ?_, h.rs01, ⟨fun j hj => ?_, fun i j hi hj hne => ?_, fun s hs hh => hcp.2.2 s hs (fun j hj => ?_)⟩, fun s hs => (e _ (by omega)).trans (h.la s hs), fun s hs => ?_, fun s h1 hs => ?_⟩
  · by_cases hcn : c < n
    · obtain ⟨p, e1, e2⟩ := h.plt c hc
      by_cases hp : p < x
      · exact ⟨p, hp, e2⟩
      · have := (hf p (by omega) (by omega)).1
        rw [← h.onx] at this
        exact absurd e2 (sOn_0 n n6 this c hcn)
    · exact ⟨0, by omega, (h.out c hc (by omega)).1⟩
  · obtain ⟨u, l, b1, b2, b3, b4, b5⟩ := hcp.1 j hj
    refine ⟨u, l, (e _ (by omega)).trans b1, (e _ (by omega)).trans b2, b3, ?_, b5⟩
    by_cases hu : u < x
    · exact hu
    · rcases Cp_from t60 h.k6 hcp (s := u) (by omega) with ⟨_, c2⟩ | ⟨c1, _⟩
      · rw [b5] at c2
        exact absurd c2 (nI_ne6 (by omega))
      · exact absurd (hf u (by omega) (by omega)).2.2 c1
  · rw [e _ (by omega), e _ (by omega)]
    exact hcp.2.1 i j hi hj hne
  · have := hh j hj
    rw [e _ (by omega)] at this
    exact this
  · rw [e _ (by omega)]
    exact h.la01 s hs
  · rw [e _ (by omega)]
    rcases h.la01 s hs with e1 | e1
    · exact e1
    · exact absurd (show (z (57 + s)).toInt = 1 by rw [e1]; decide) (hf s h1 hs).2.1
/-- other carpets and landings -/
theorem Rl.car (h : Rl S z t n k m) (le la z' : Nat → Int32) (k' : Nat) (hz : ∀ i, i < 44 → i ≠ 3 → z' i = z i) (h3 : z' 3 = nI k') (hk : k' ≤ 6) (hc : Cp z' le t k') (hl : ∀ s, s < 60 → z' (57 + s) = la s) (hl01 : ∀ s, s ≤ 60 → z' (57 + s) = 0 ∨ z' (57 + s) = 1) (hlt : ∀ s, t ≤ s → s ≤ 60 → z' (57 + s) = 0) : Rl (le, la, S.2.2) z' t n k' m := by
  unfold Rl
  exact ⟨(hz _ (by omega) (by omega)).trans h.z0, h.gt, h.t10, h.t60, (hz _ (by omega) (by omega)).trans h.z1, h.gn, h.n6, (hz _ (by omega) (by omega)).trans h.z2, h.gm, h.mn, h3, hk, (hz _ (by omega) (by omega)).trans h.z4, (hz _ (by omega) (by omega)).trans h.z7, (hz _ (by omega) (by omega)).trans h.z5, (hz _ (by omega) (by omega)).trans h.z6, fun c hc => (hz _ (by omega) (by omega)).trans (h.pl c hc), fun c hc => (hz _ (by omega) (by omega)).trans (h.tp c hc), fun c hc => (hz _ (by omega) (by omega)).trans (h.rs c hc), fun c hc => (hz _ (by omega) (by omega)).trans (h.tl c hc), fun c hc => (hz _ (by omega) (by omega)).trans (h.lm c hc), fun c hc => (hz _ (by omega) (by omega)).trans (h.sl c hc), h.out, h.plt, h.rs01, hc, hl, hl01, hlt⟩
theorem Rl.put (h : Rl S z t n k m) {s : Nat} (hs : s < t) (v : Int32) (hv : v = 0 ∨ v = 1) : Rl (gPutL S (nI s) v) (upd z (57 + s) v) t n k m := by
  have t60 := h.t60
  have k6 := h.k6
  have es : (nI s).toNatClampNeg = s := nI_clamp (by omega)
  have e : ∀ i, i ≠ 57 + s → upd z (57 + s) v i = z i := fun i hi => upd_ne hi
  show Rl (g_le S, upd (g_la S) (nI s).toNatClampNeg v, S.2.2) _ _ _ _ _
  rw [es]
  refine h.car _ _ _ k (fun i hi _ => e i (by omega)) ((e _ (by omega)).trans h.z3) k6 ⟨fun j hj => ?_, fun i j hi hj hne => ?_, fun s' hs' hh => h.cp.2.2 s' hs' (fun j hj => ?_)⟩ (fun s' hs' => ?_) (fun s' hs' => ?_) (fun s' h1 hs' => ?_)
  · rw [e _ (by omega), e _ (by omega)]; exact h.cp.1 j hj
  · rw [e _ (by omega), e _ (by omega)]; exact h.cp.2.1 i j hi hj hne
  · have := hh j hj
    rw [e _ (by omega)] at this
    exact this
  · by_cases e1 : s' = s
    · subst e1; rw [upd_same, upd_same]
    · rw [e _ (by omega), upd_ne e1]; exact h.la s' hs'
  · by_cases e1 : s' = s
    · subst e1; rw [upd_same]; exact hv
    · rw [e _ (by omega)]; exact h.la01 s' hs'
  · rw [e _ (by omega)]; exact h.lat s' h1 hs'
theorem Rl.lay (h : Rl S z t n k m) (hk : k < 6) {u l : Nat} (hu : u < t) (hl : l < u) (hf : (mCF z (nI u) k).toInt = -6) : Rl (gLay S (nI u) (nI l)) (mLay z k (nI u) (nI l)) t n (k + 1) m := by
  have t60 := h.t60
  have es : (nI u).toNatClampNeg = u := nI_clamp (by omega)
  have e3 : mLay z k (nI u) (nI l) 3 = nI (k + 1) := upd_same (f := upd (upd z (44 + 2 * k) (nI u)) (45 + 2 * k) (nI l)) (i := 3)
  have eu : mLay z k (nI u) (nI l) (44 + 2 * k) = nI u := (upd_ne (by omega)).trans ((upd_ne (by omega)).trans upd_same)
  have el : mLay z k (nI u) (nI l) (45 + 2 * k) = nI l := (upd_ne (by omega)).trans upd_same
  have e : ∀ i, i ≠ 3 → i ≠ 44 + 2 * k → i ≠ 45 + 2 * k → mLay z k (nI u) (nI l) i = z i := fun i h1 h2 h3 => (upd_ne h1).trans ((upd_ne h3).trans (upd_ne h2))
  have hno : ∀ j, j < k → z (44 + 2 * j) ≠ nI u := fun j hj v => by
    rcases mCF_cases z (nI u) k with ⟨_, c2⟩ | ⟨i, hi, c1, _⟩
    · exact c2 j hj (congrArg Int32.toInt v)
    · rw [c1] at hf
      exact nI_ne6 (by omega) (Int32.toInt_inj.mp (hf.trans (by decide)))
  show Rl (upd (g_le S) (nI u).toNatClampNeg (nI l), g_la S, S.2.2) _ _ _ _ _
  rw [es]
  refine h.car _ _ _ (k + 1) (fun i hi h3 => e i h3 (by omega) (by omega)) e3 (by omega) ⟨fun j hj => ?_, fun i j hi hj hne => ?_, fun s hs hh => ?_⟩ (fun s hs => (e _ (by omega) (by omega) (by omega)).trans (h.la s hs)) (fun s hs => by rw [e _ (by omega) (by omega) (by omega)]; exact h.la01 s hs) (fun s h1 hs => (e _ (by omega) (by omega) (by omega)).trans (h.lat s h1 hs))
  · by_cases ej : j = k
    · subst ej
      exact ⟨u, l, eu, el, hl, hu, upd_same⟩
    · obtain ⟨a, b, b1, b2, b3, b4, b5⟩ := h.cp.1 j (by omega)
      refine ⟨a, b, (e _ (by omega) (by omega) (by omega)).trans b1, (e _ (by omega) (by omega) (by omega)).trans b2, b3, b4, (upd_ne (fun v => ?_)).trans b5⟩
      exact hno j (by omega) (by rw [b1, v])
  · by_cases ei : i = k
    · subst ei
      rw [eu, e _ (by omega) (by omega) (by omega)]
      exact fun v => hno j (by omega) v.symm
    · by_cases ej : j = k
      · subst ej
        rw [eu, e _ (by omega) (by omega) (by omega)]
        exact hno i (by omega)
      · rw [e _ (by omega) (by omega) (by omega), e _ (by omega) (by omega) (by omega)]
        exact h.cp.2.1 i j (by omega) (by omega) hne
  · have hk' := hh k (by omega)
    rw [eu] at hk'
    have hne : s ≠ u := fun v => hk' (by rw [v])
    rw [upd_ne hne]
    refine h.cp.2.2 s hs (fun j hj => ?_)
    have := hh j (by omega)
    rw [e _ (by omega) (by omega) (by omega)] at this
    exact this
theorem Rl.join (h : Rl S z t n k m) (hn : n < 6) : Rl (gAdd S) (mJoin z n) t (n + 1) k m := by
  have t60 := h.t60
  have k6 := h.k6
  have e1 : mJoin z n 1 = nI (n + 1) := upd_same (f := mZr z n 6) (i := 1)
  have e : ∀ i, i ≠ 1 → (i < 8 ∨ 44 ≤ i) → mJoin z n i = z i := fun i h1 h2 => (upd_ne h1).trans (if_neg (by omega))
  have ec : ∀ c w, c < 6 → w < 6 → mJoin z n (8 + 6 * c + w) = if c = n then 0 else z (8 + 6 * c + w) := fun c w hc hw => by
    refine (upd_ne (by omega)).trans ?_
    unfold mZr
    by_cases ecn : c = n
    · subst ecn; rw [if_pos (by omega), if_pos rfl]
    · rw [if_neg (by omega), if_neg ecn]
  have ho := h.out n hn (Nat.le_refl _)
  have fld : ∀ (w : Nat) (g : Nat → Int32), w < 6 → g n = 0 → (∀ c, c < 6 → z (8 + 6 * c + w) = g c) → ∀ c, c < 6 → mJoin z n (8 + 6 * c + w) = g c := fun w g hw hg hh c hc => by
    rw [ec c w hc hw]
    by_cases ecn : c = n
    · subst ecn; rw [if_pos rfl, hg]
    · rw [if_neg ecn]; exact hh c hc
  have mn := h.mn
  unfold Rl
  refine ⟨(e _ (by omega) (by omega)).trans h.z0, h.gt, h.t10, t60, e1, ?_, hn, (e _ (by omega) (by omega)).trans h.z2, h.gm, ?_, (e _ (by omega) (by omega)).trans h.z3, k6, (e _ (by omega) (by omega)).trans h.z4, (e _ (by omega) (by omega)).trans h.z7, (e _ (by omega) (by omega)).trans h.z5, (e _ (by omega) (by omega)).trans h.z6, fld 0 _ (by decide) ho.1 h.pl, fld 1 _ (by decide) ho.2.1 h.tp, fld 2 _ (by decide) ho.2.2.1 h.rs, fld 3 _ (by decide) ho.2.2.2.1 h.tl, fld 4 _ (by decide) ho.2.2.2.2.1 h.lm, fld 5 _ (by decide) ho.2.2.2.2.2 h.sl, fun c hc h1 => h.out c hc (by omega), h.plt, h.rs01, ⟨fun j hj => ?_, fun i j hi hj hne => ?_, fun s hs hh => h.cp.2.2 s hs (fun j hj => ?_)⟩, fun s hs => (e _ (by omega) (by omega)).trans (h.la s hs), fun s hs => ?_, fun s h1 hs => (e _ (by omega) (by omega)).trans (h.lat s h1 hs)⟩
  · show g_cl S + 1 = _
    rw [h.gn, nI_1]
  · omega
  · rw [e _ (by omega) (by omega), e _ (by omega) (by omega)]; exact h.cp.1 j hj
  · rw [e _ (by omega) (by omega), e _ (by omega) (by omega)]; exact h.cp.2.1 i j hi hj hne
  · have := hh j hj
    rw [e _ (by omega) (by omega)] at this
    exact this
  · rw [e _ (by omega) (by omega)]; exact h.la01 s hs
end R4
