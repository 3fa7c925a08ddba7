/-! class and reference: what is asked for -/
section R2
variable {z f : Nat → Int32} {t n k m c : Nat} {S : gS}
theorem sSm_congr {f g : Nat → Int32} : ∀ n, (∀ c, c < n → f c = g c) → sSm f n = sSm g n
  | 0, _ => rfl
  | n + 1, h => by rw [sSm, sSm, sSm_congr n (fun c hc => h c (by omega)), h n (by omega)]
theorem sSm_ext {f : Nat → Int32} {n : Nat} : ∀ d, (∀ c, n ≤ c → c < n + d → f c = 0) → sSm f (n + d) = sSm f n
  | 0, _ => rfl
  | d + 1, h => by rw [show n + (d + 1) = (n + d) + 1 from rfl, sSm, sSm_ext d (fun c h1 h2 => h c h1 (by omega)), h (n + d) (by omega) (by omega), Int32.add_zero]
theorem sOn_congr {f g : Nat → Int32} {x : Int32} : ∀ n, (∀ c, c < n → f c = g c) → sOn f x n = sOn g x n
  | 0, _ => rfl
  | n + 1, h => by rw [sOn, sOn, sOn_congr n (fun c hc => h c (by omega)), h n (by omega)]
theorem Rl.top1 (h : Rl S z t n k m) : (z 0 - 1).toInt = (t : Int) - 1 := by
  have t10 := h.t10
  have t60 := h.t60
  rw [h.z0, show nI t - 1 = nI (t - 1) from pk_sub (show 1 ≤ t by omega), nI_toInt (by omega)]
  omega
theorem Rl.bl (h : Rl S z t n k m) (x : Int32) : m_bl z x ↔ g_below S x := by
  have e := h.top1
  have t60 := h.t60
  have eg : (g_top S).toInt = (t : Int) := by rw [h.gt]; exact nI_toInt (by omega)
  unfold m_bl g_below
  rw [e, eg]
  omega
theorem Rl.cl (h : Rl S z t n k m) (x : Int32) : m_cl z x ↔ g_isCl S x := by
  have n6 := h.n6
  have eg : (g_cl S).toInt = (n : Int) := by rw [h.gn]; exact nI_toInt (by omega)
  constructor
  · intro hx
    have := m_cl_lt h.z1 n6 hx
    exact ⟨this.1, by omega⟩
  · intro hx
    obtain ⟨h1, h2⟩ := hx
    refine ⟨h1, ?_⟩
    rw [h.z1, show nI n - 1 = nI (n - 1) from pk_sub (show 1 ≤ n by omega), nI_toInt (show n - 1 < 2147483648 by omega)]
    omega
theorem Rl.mover (h : Rl S z t n k m) : g_isCl S (g_mv S) ↔ m < n := by
  have n6 := h.n6
  have mn := h.mn
  unfold g_isCl
  rw [h.gm, h.gn, nI_toInt (by omega), nI_toInt (by omega)]
  omega
theorem Rl.turn (h : Rl S z t n k m) : (if g_isCl S (g_mv S) then g_mv S else -6) = (if (z 1).toInt = 0 then -6 else z 2) := by
  have n6 := h.n6
  have mn := h.mn
  have e1 : (z 1).toInt = (n : Int) := by rw [h.z1]; exact nI_toInt (by omega)
  by_cases e : m < n
  · rw [if_pos (h.mover.mpr e), if_neg (by omega), h.gm, h.z2]
  · rw [if_neg (fun v => e (h.mover.mp v)), if_pos (by omega)]
theorem Rl.on (h : Rl S z t n k m) (x : Int32) : (if g_below S x then sOn (g_pl S) x n else -1) = (if m_bl z x then sOn (m_pl z) x n else -1) := by
  have n6 := h.n6
  by_cases e : m_bl z x
  · rw [if_pos e, if_pos ((h.bl x).mp e)]
    exact sOn_congr n (fun c hc => (h.pl c (by omega)).symm)
  · rw [if_neg e, if_neg (fun v => e ((h.bl x).mpr v))]
theorem Rl.pr (h : Rl S z t n k m) (c : Nat) (hc : c < n) : gPr S (nI c) = mPr z c := by
  have n6 := h.n6
  have e : g_isCl S (nI c) := by
    refine ⟨?_, ?_⟩
    · rw [nI_toInt (by omega)]; omega
    · rw [h.gn, nI_toInt (by omega), nI_toInt (by omega)]; omega
  rw [gPr, if_pos e, nI_clamp (by omega), mPr, h.tp c (by omega), h.pl c (by omega), h.z0, h.gt]
theorem Rl.climber (h : Rl S z t n k m) (x p : Int32) : gPC S x p = mPC z x p := by
  have n6 := h.n6
  unfold gPC mPC
  by_cases e : m_cl z x
  · have b := m_cl_lt h.z1 n6 e
    have b2 := i_cl b.1
    have hx : x.toNatClampNeg < n := by omega
    have hx6 : x.toNatClampNeg < 6 := by omega
    have hpr := h.pr x.toNatClampNeg hx
    rw [← i_nI b.1] at hpr
    rw [if_neg (not_not_intro ((h.cl x).mp e)), if_pos e]
    by_cases p0 : p = 0
    · subst p0; rw [if_pos rfl, if_neg (by decide), if_pos (by decide)]; exact (h.pl _ hx6).symm
    rw [if_neg p0]
    by_cases p1 : p = 1
    · subst p1; rw [if_pos rfl, if_neg (by decide), if_pos (by decide)]; exact (h.tp _ hx6).symm
    rw [if_neg p1]
    by_cases p2 : p = 2
    · subst p2; rw [if_pos rfl, if_neg (by decide), if_pos (by decide)]; exact (h.rs _ hx6).symm
    rw [if_neg p2]
    by_cases p3 : p = 3
    · subst p3; rw [if_pos rfl, if_neg (by decide), if_pos (by decide)]; exact (h.tl _ hx6).symm
    rw [if_neg p3]
    by_cases p4 : p = 4
    · subst p4; rw [if_pos rfl, if_neg (by decide), if_pos (by decide)]; exact (h.lm _ hx6).symm
    rw [if_neg p4]
    by_cases p5 : p = 5
    · subst p5; rw [if_pos rfl, if_neg (by decide), if_pos (by decide)]; exact (h.sl _ hx6).symm
    rw [if_neg p5]
    by_cases p6 : p = 6
    · subst p6; rw [if_pos rfl, if_pos (by decide)]; exact hpr
    rw [if_neg p6, if_neg (fun v => p6 (Int32.toInt_inj.mp (v.trans (by decide))))]
    have ne : ∀ (y : Int32) (v : Int), y.toInt = v → p ≠ y → p.toInt ≠ v := fun y v e1 e2 e3 => e2 (Int32.toInt_inj.mp (e3.trans e1.symm))
    have q0 := ne 0 0 (by decide) p0
    have q1 := ne 1 1 (by decide) p1
    have q2 := ne 2 2 (by decide) p2
    have q3 := ne 3 3 (by decide) p3
    have q4 := ne 4 4 (by decide) p4
    have q5 := ne 5 5 (by decide) p5
    rw [if_neg (by omega)]
  · rw [if_pos (fun v => e ((h.cl x).mpr v)), if_neg e]
theorem Rl.tops (h : Rl S z t n k m) : sSm (g_tp S) 6 = sSm (fun c => z (8 + 6 * c + 1)) n := by
  have n6 := h.n6
  have e1 : sSm (g_tp S) 6 = sSm (g_tp S) n := by
    have := sSm_ext (f := g_tp S) (n := n) (6 - n) (fun c h1 h2 => (h.out c (by omega) h1).2.1)
    rw [show n + (6 - n) = 6 by omega] at this
    exact this
  rw [e1]
  exact sSm_congr n (fun c hc => (h.tp c (by omega)).symm)
theorem Rl.ncar (h : Rl S z t n k m) : sCn (g_up (g_le S)) t = nI k := by
  have e := Cp_cnt (fun v => v.toInt ≠ -6) (fun v => v (by decide)) h.t60 k (g_le S) h.cp
  rw [sCn_nI, show cN (g_up (g_le S)) t = cN (fun s => (g_le S s).toInt ≠ -6) t from cN_congr t (fun _ _ => Iff.rfl), ← e, cN_all k (fun j hj => ?_)]
  obtain ⟨u, l, b1, b2, b3, b4, b5⟩ := h.cp.1 j hj
  have t60 := h.t60
  intro v
  rw [b2, nI_toInt (by omega)] at v
  omega
theorem Rl.nlow (h : Rl S z t n k m) (x : Int32) (hx : x.toInt ≠ -6) : sCn (fun s => (g_le S s).toInt = x.toInt) t = sCn (m_lo z x) k := by
  have e := Cp_cnt (fun v => v.toInt = x.toInt) (fun v => hx (v.symm.trans (by decide))) h.t60 k (g_le S) h.cp
  rw [sCn_nI, sCn_nI, ← e]
theorem Rl.nland (h : Rl S z t n k m) : sCn (g_lan (g_la S)) t = sSm (fun s => z (57 + s)) 61 := by
  have t60 := h.t60
  have e1 : ∀ s, s ≤ 60 → sSm (fun s => z (57 + s)) s = sCn (g_lan (g_la S)) s := by
    intro s
    induction s with
    | zero => exact fun _ => rfl
    | succ s ih =>
      intro hs
      rw [sSm, sCn, ih (by omega)]
      rcases h.la01 s (by omega) with e | e
      · rw [e, if_neg (fun v => v (by rw [← h.la s (by omega), e]; decide)), Int32.add_zero]
      · rw [e, if_pos (fun v => by rw [← h.la s (by omega), e] at v; exact absurd v (by decide))]
  have e2 := sSm_ext (f := fun s => z (57 + s)) (n := t) (61 - t) (fun c h1 h2 => h.lat c h1 (by omega))
  rw [show t + (61 - t) = 61 by omega] at e2
  rw [e2, e1 t t60]
theorem Rl.total (h : Rl S z t n k m) (p : Int32) : gTo S t p = mTo z n p := by
  unfold gTo mTo
  rw [h.gt, h.gn, h.z0, h.z1, h.z3, h.ncar, h.nland, h.z4, h.z5, h.z6, h.tops, h.z7]
theorem Rl.step (h : Rl S z t n k m) (x p : Int32) : gPS S t x p = mPS z k x p := by
  have t60 := h.t60
  have eg : (g_top S).toInt = (t : Int) := by rw [h.gt]; exact nI_toInt (by omega)
  have ez : (z 0).toInt = (t : Int) := by rw [h.z0]; exact nI_toInt (by omega)
  unfold gPS mPS
  by_cases e : m_be z x
  · obtain ⟨e1, e2⟩ := id e
    have ecl := i_cl e1
    have enI := i_nI e1
    have hx60 : x.toNatClampNeg ≤ 60 := by omega
    rw [if_pos e, if_neg (not_not_intro (by unfold g_below; omega))]
    by_cases p0 : p = 0
    · rw [if_pos p0, if_pos p0]
      by_cases e3 : x.toInt < t
      · have hla := h.la x.toNatClampNeg (by omega)
        rcases h.la01 x.toNatClampNeg hx60 with e4 | e4
        · rw [e4]
          exact b2i_f (fun v => v.2 (by rw [← hla, e4]; decide))
        · rw [e4]
          exact b2i_t ⟨⟨e1, by omega⟩, by rw [← hla, e4]; decide⟩
      · rw [h.lat x.toNatClampNeg (by omega) hx60]
        exact b2i_f (fun v => absurd v.1.2 (by omega))
    rw [if_neg p0, if_neg p0]
    by_cases p1 : p = 1
    · rw [if_pos p1, if_pos p1]
      by_cases e3 : x.toInt < t
      · have hc := Cp_from h.t60 h.k6 h.cp (s := x.toNatClampNeg) (by omega)
        rw [← enI] at hc
        rcases hc with ⟨c1, c2⟩ | ⟨c1, c2, c3, c4, l, c5, c6⟩
        · rw [if_pos c1, if_neg (fun v => v.2 (by rw [c2]; decide))]
        · rw [if_neg c1, if_pos ⟨⟨e1, by omega⟩, fun v => nI_ne6 (by omega) (Int32.toInt_inj.mp ((congrArg Int32.toInt c6.symm).trans (v.trans (by decide))))⟩, c2]
      · rw [Cp_out h.t60 h.cp (fun v => e3 v.2), if_neg (show ¬ g_isUp S x from fun v => absurd v.1.2 (by omega)), if_pos (show (-6 : Int32).toInt = -6 by decide)]
    rw [if_neg p1, if_neg p1]
    by_cases p2 : p = 2
    · rw [if_pos p2, if_pos p2]
      exact h.nlow x (by omega)
    rw [if_neg p2, if_neg p2]
  · rw [if_neg e, if_pos (fun v => e (v.elim (fun v => ⟨by omega, by omega⟩) (fun v => ⟨v.1, by have := v.2; omega⟩)))]
end R2
