/-! the law: a roll -/
section IV
variable {S : gS} {T n m : Nat}
/-- what holds of the class's state all the time -/
def Iv (S : gS) (T n m : Nat) : Prop :=
  g_top S = nI T ∧ 10 ≤ T ∧ T ≤ 60 ∧ g_cl S = nI n ∧ n ≤ 6 ∧ g_mv S = nI m ∧ (m < n ∨ n = 0 ∧ m = 0) ∧
  (∀ i, i < 6 → n ≤ i → g_pl S i = 0 ∧ g_tp S i = 0 ∧ g_rs S i = 0 ∧ g_tl S i = 0 ∧ g_lm S i = 0 ∧ g_sl S i = 0) ∧
  (∀ i, i < 6 → ∃ p, p < T ∧ g_pl S i = nI p) ∧ (∀ i, i < 6 → g_rs S i = 0 ∨ g_rs S i = 1) ∧
  (∀ s, s < 60 → g_la S s = 0 ∨ g_la S s = 1) ∧ (∀ s, T ≤ s → s < 60 → g_la S s = 0) ∧
  (∀ s, s < 60 → g_le S s = -6 ∨ ∃ l, l < s ∧ s < T ∧ g_le S s = nI l) ∧ g_rs S m = 0
theorem Iv.gt (h : Iv S T n m) : g_top S = nI T := h.1
theorem Iv.t10 (h : Iv S T n m) : 10 ≤ T := h.2.1
theorem Iv.t60 (h : Iv S T n m) : T ≤ 60 := h.2.2.1
theorem Iv.gc (h : Iv S T n m) : g_cl S = nI n := h.2.2.2.1
theorem Iv.n6 (h : Iv S T n m) : n ≤ 6 := h.2.2.2.2.1
theorem Iv.gm (h : Iv S T n m) : g_mv S = nI m := h.2.2.2.2.2.1
theorem Iv.mn (h : Iv S T n m) : m < n ∨ n = 0 ∧ m = 0 := h.2.2.2.2.2.2.1
theorem Iv.out (h : Iv S T n m) : ∀ i, i < 6 → n ≤ i → g_pl S i = 0 ∧ g_tp S i = 0 ∧ g_rs S i = 0 ∧ g_tl S i = 0 ∧ g_lm S i = 0 ∧ g_sl S i = 0 := h.2.2.2.2.2.2.2.1
theorem Iv.pl (h : Iv S T n m) : ∀ i, i < 6 → ∃ p, p < T ∧ g_pl S i = nI p := h.2.2.2.2.2.2.2.2.1
theorem Iv.rs (h : Iv S T n m) : ∀ i, i < 6 → g_rs S i = 0 ∨ g_rs S i = 1 := h.2.2.2.2.2.2.2.2.2.1
theorem Iv.la (h : Iv S T n m) : ∀ s, s < 60 → g_la S s = 0 ∨ g_la S s = 1 := h.2.2.2.2.2.2.2.2.2.2.1
theorem Iv.lt (h : Iv S T n m) : ∀ s, T ≤ s → s < 60 → g_la S s = 0 := h.2.2.2.2.2.2.2.2.2.2.2.1
theorem Iv.le (h : Iv S T n m) : ∀ s, s < 60 → g_le S s = -6 ∨ ∃ l, l < s ∧ s < T ∧ g_le S s = nI l := h.2.2.2.2.2.2.2.2.2.2.2.2.1
theorem Iv.r0 (h : Iv S T n m) : g_rs S m = 0 := h.2.2.2.2.2.2.2.2.2.2.2.2.2
theorem Iv.gtI (h : Iv S T n m) : (g_top S).toInt = (T : Int) := by have := h.t60; rw [h.gt]; exact nI_toInt (by omega)
theorem Iv.gcI (h : Iv S T n m) : (g_cl S).toInt = (n : Int) := by have := h.n6; rw [h.gc]; exact nI_toInt (by omega)
theorem Iv.m6 (h : Iv S T n m) : m < 6 := by have := h.n6; have := h.mn; omega
theorem Iv.gmI (h : Iv S T n m) : (g_mv S).toInt = (m : Int) := by have := h.m6; rw [h.gm]; exact nI_toInt (by omega)
theorem Iv.gmN (h : Iv S T n m) : (g_mv S).toNatClampNeg = m := by have := h.m6; rw [h.gm]; exact nI_clamp (by omega)
theorem Iv.plN (h : Iv S T n m) {i : Nat} (hi : i < 6) : g_pl S i = nI (g_pl S i).toNatClampNeg ∧ (g_pl S i).toNatClampNeg < T := by
  have := h.t60
  obtain ⟨p, h1, h2⟩ := h.pl i hi
  rw [h2, nI_clamp (by omega)]
  exact ⟨rfl, h1⟩
end IV
section LR
variable {G : xG} {mem m1 : xM} {rd rl rc rt ro w x T m i j n u s k f0 : Nat} {c t d c' t' l ol : Nat → Int32} {S V : gS} {lf v : Int32} {R : Option Value → xM → Prop}
theorem gLs_fix {p : Nat → Prop} [DecidablePred p] : ∀ n, g_le (gLs V m p n) = g_le V ∧ g_la (gLs V m p n) = g_la V ∧ g_rs (gLs V m p n) = g_rs V ∧ (gLs V m p n).2.2.2.2.2.2.2.2 = V.2.2.2.2.2.2.2.2
  | 0 => ⟨rfl, rfl, rfl, rfl⟩
  | n + 1 => by
    rw [gLs]
    by_cases e : p n
    · rw [if_pos e]
      exact gLs_fix n
    · rw [if_neg e]; exact gLs_fix n
theorem gLs_pl {p : Nat → Prop} [DecidablePred p] {k : Nat} (hk : ¬ p k) : ∀ n, g_pl (gLs V m p n) k = g_pl V k
  | 0 => rfl
  | n + 1 => by
    rw [gLs]
    by_cases e : p n
    · rw [if_pos e, gLf_pl (fun z => hk (by rw [z]; exact e)), gLs_pl hk n]
    · rw [if_neg e]; exact gLs_pl hk n
theorem gLs_pull2 {p : Nat → Prop} [DecidablePred p] {k : Nat} (hk : ¬ p k) : ∀ n, gLs (gLf V m k) m p n = gLf (gLs V m p n) m k
  | 0 => rfl
  | n + 1 => by
    rw [gLs, gLs, gLs_pull2 hk n]
    by_cases e : p n
    · rw [if_pos e, if_pos e]
      exact gLf_comm (fun z => hk (by rw [← z]; exact e))
    · rw [if_neg e, if_neg e]
/-- one more may go last -/
theorem gLs_last {p q : Nat → Prop} [DecidablePred p] [DecidablePred q] {k : Nat} (hk : ¬ p k) (hq : q k) (hn : k < n) (h : ∀ i, i < n → (i ≠ k ∧ q i ↔ p i)) : gLf (gLs V m p n) m k = gLs V m q n := by
  rw [← gLs_pull2 hk, ← gLs_first hq n hn]
  exact gLs_congr n (fun i hi => (h i hi).symm)
theorem cN_one {p q : Nat → Prop} [DecidablePred p] [DecidablePred q] {k : Nat} (hk : ¬ p k) (hq : q k) : ∀ n, (∀ i, i < n → (i ≠ k ∧ q i ↔ p i)) → cN q n = cN p n + (if k < n then 1 else 0)
  | 0, _ => rfl
  | n + 1, h => by
    have ih := cN_one hk hq n (fun i hi => h i (by omega))
    have hn := h n (by omega)
    simp only [cN]
    by_cases e : n = k
    · subst e
      rw [if_pos hq, if_neg hk, ih, if_neg (Nat.lt_irrefl _), if_pos (Nat.lt_succ_self _)]
    · by_cases e2 : k < n
      · rw [if_pos e2] at ih
        rw [if_pos (show k < n + 1 by omega)]
        by_cases e3 : p n
        · rw [if_pos e3, if_pos (hn.mpr e3).2, ih]
        · rw [if_neg e3, if_neg (fun z => e3 (hn.mp ⟨e, z⟩)), ih]
      · rw [if_neg e2] at ih
        rw [if_neg (show ¬ k < n + 1 by omega)]
        by_cases e3 : p n
        · rw [if_pos e3, if_pos (hn.mpr e3).2, ih]
        · rw [if_neg e3, if_neg (fun z => e3 (hn.mp ⟨e, z⟩)), ih]
abbrev gRo (S : gS) : gS := g_wO S (g_top S) (g_cl S) (g_mv S) (g_ro S + 1) (g_lo S)
/-- who is lifted before the law looks at climber k on step s -/
abbrev rQ (S : gS) (u s k i : Nat) : Prop := g_psd (gRo S) i (nI u) ∧ (s < (g_pl S i).toNatClampNeg ∨ (g_pl S i).toNatClampNeg = s ∧ i < k)
theorem Rd.of (h : Rd S d) (e : g_le V = g_le S) : Rd V d := by
  unfold Rd
  rw [e]
  exact h
theorem Rct_lf1 (h : Rct S c t m lf v) (hk : k < 6) (hm : m < 6) : Rct (g_wLm (g_wTl S (upd (g_tl S) k (g_tl S k + 1))) (upd (g_lm S) m (g_lm S m + 1))) (upd c (6 * k + 3) (c (6 * k + 3) + 1)) t m (lf + 1) v := by
  have hc : ∀ j i, i < 6 → j < 6 → j ≠ 3 → upd c (6 * k + 3) (c (6 * k + 3) + 1) (6 * i + j) = c (6 * i + j) := fun j i hi hj h2 => upd_ne (by omega)
  refine ⟨fun i hi => (hc 0 i hi (by decide) (by decide)).trans (h.pl i hi), fun i hi => (hc 1 i hi (by decide) (by decide)).trans (h.tp i hi), fun i hi => (hc 2 i hi (by decide) (by decide)).trans (h.rs i hi), fun i hi => ?_, fun i hi => ?_, fun i hi => (hc 5 i hi (by decide) (by decide)).trans (h.sl i hi), h.t0, h.t1, h.t2, h.t3, ?_, h.t5, h.t6⟩
  · show _ = upd (g_tl S) k (g_tl S k + 1) i
    by_cases e : i = k
    · subst e; rw [upd_same, upd_same, h.tl i hi]
    · rw [upd_ne e, upd_ne (by omega), h.tl i hi]
  · show _ = upd (g_lm S) m (g_lm S m + 1) i
    rw [hc 4 i hi (by decide) (by decide)]
    have q := h.lm i hi
    by_cases e : i = m
    · subst e
      rw [if_pos rfl] at q
      rw [upd_same, if_pos rfl, ← Int32.add_assoc, q]
    · rw [if_neg e] at q
      rw [upd_ne e, if_neg e, q]
  · show t 4 + (lf + 1) = sSm (upd (g_tl S) k (g_tl S k + 1)) 6
    rw [sSm_upd _ _ _ 6 hk, ← Int32.add_assoc, h.t4]
theorem Rct_fin (h : Rct S c t m lf 1) (hm : m < 6) : Rct S (upd c (6 * m + 4) (c (6 * m + 4) + lf)) (upd (upd t 3 (t 3 + 1)) 4 (t 4 + lf)) m 0 0 := by
  have hc : ∀ j i, i < 6 → j < 6 → j ≠ 4 → upd c (6 * m + 4) (c (6 * m + 4) + lf) (6 * i + j) = c (6 * i + j) := fun j i hi hj h2 => upd_ne (by omega)
  have ht : ∀ i, i ≠ 3 → i ≠ 4 → upd (upd t 3 (t 3 + 1)) 4 (t 4 + lf) i = t i := fun i h3 h4 => (upd_ne h4).trans (upd_ne h3)
  refine ⟨fun i hi => (hc 0 i hi (by decide) (by decide)).trans (h.pl i hi), fun i hi => (hc 1 i hi (by decide) (by decide)).trans (h.tp i hi), fun i hi => (hc 2 i hi (by decide) (by decide)).trans (h.rs i hi), fun i hi => (hc 3 i hi (by decide) (by decide)).trans (h.tl i hi), fun i hi => ?_, fun i hi => (hc 5 i hi (by decide) (by decide)).trans (h.sl i hi), (ht 0 (by decide) (by decide)).trans h.t0, (ht 1 (by decide) (by decide)).trans h.t1, (ht 2 (by decide) (by decide)).trans h.t2, ?_, ?_, (ht 5 (by decide) (by decide)).trans h.t5, (ht 6 (by decide) (by decide)).trans h.t6⟩
  · have q := h.lm i hi
    have z : (if i = m then (0 : Int32) else 0) = 0 := by split <;> rfl
    rw [z, Int32.add_zero]
    by_cases e : i = m
    · subst e
      rw [if_pos rfl] at q
      rw [upd_same, q]
    · rw [if_neg e, Int32.add_zero] at q
      rw [upd_ne (by omega), q]
  · rw [upd_ne (by decide), upd_same, Int32.add_zero]; exact h.t3
  · rw [upd_same, Int32.add_zero]; exact h.t4
abbrev rLo (rd rl rc rt ro u m f0 s k : Nat) (lf : Int32) : List (Nat × Value) := [(0, .ref rd), (1, .ref rl), (2, .ref rc), (3, .ref rt), (4, .int (nI u)), (5, .int (nI m)), (6, .int (nI f0)), (7, .int lf), (8, .ref ro), (9, .int (nI s)), (10, .int (nI k))]
/-- the law's loop over the climbers on one step -/
theorem y_rollK (n1 : rc ≠ rt) (n2 : rd ≠ rc) (n3 : rd ≠ rt) (n4 : rl ≠ rc) (n5 : rl ≠ rt) (n6 : ro ≠ rc) (n7 : ro ≠ rt) (hI : Iv S T n m) (hmn : m < n) (hd : Rd S d) (hl : Ry S l) (hf : g_pl S m = nI f0) (hf0 : f0 < T) (hu : 1 ≤ u ∧ u ≤ 6) (hs1 : f0 < s) (hs2 : s < f0 + u) (b1 : m1[rd]? = some (g_a 0 61 d)) (b2 : m1[rl]? = some (g_a 0 61 l)) (b3 : m1[ro]? = some (g_a 0 6 ol)) (hol : ∀ i, i < n → ol i = g_pl S i) : ∀ (dd k : Nat) (mem : xM) (c t : Nat → Int32), n = k + dd → La mem rc rt c t → Fr rc rt m1 mem → Rct (gLs (gRo S) m (rQ S u s k) n) c t m (nI (cN (rQ S u s k) n)) 1 → (∀ mem' c' t', La mem' rc rt c' t' → Fr rc rt m1 mem' → Rct (gLs (gRo S) m (rQ S u s n) n) c' t' m (nI (cN (rQ S u s n) n)) 1 → E G kL_roll R 1 6 mem' 137 (x_L (rLo rd rl rc rt ro u m f0 s n (nI (cN (rQ S u s n) n)))) []) → E G kL_roll R 1 6 mem 71 (x_L (rLo rd rl rc rt ro u m f0 s k (nI (cN (rQ S u s k) n)))) [] := by
  have hn6 := hI.n6
  have t60 := hI.t60
  have en : (nI n).toInt = (n : Int) := nI_toInt (by omega)
  have es : (nI s).toInt = (s : Int) := nI_toInt (by omega)
  intro dd
  induction dd with
  | zero =>
    intro k mem c t hk hL hF hR kk
    obtain rfl : n = k := by omega
    obtain ⟨h1, h2⟩ := id hL
    have hfix := gLs_fix (V := gRo S) (m := m) (p := rQ S u s n) n
    have ht1 : t 1 = nI n := hR.t1.trans ((congrArg (fun z => z.2.1) hfix.2.2.2).trans hI.gc)
    refine E_iload dL_roll_71 (by rfl) ?_
    refine E_aload_n dL_roll_73 (by rfl) ?_
    refine E_iconst (v := 1) dL_roll_74 (by decide) ?_
    refine E_rd dL_roll_75 (by assumption) (show (1 : Int32) = nI 1 from rfl) (by omega) (by first | decide | omega) ht1 ?_
    refine E_icmp_ge (n := _) rfl (tgt := 137) dL_roll_76 (by decide) (fun q76 => ?_) (fun q76 => ?_)
    · exact kk _ _ _ hL hF hR
    · exact absurd q76 (by omega)
  | succ dd ih =>
    intro k mem c t hk hL hF hR kk
    obtain ⟨h1, h2⟩ := id hL
    have hfix := gLs_fix (V := gRo S) (m := m) (p := rQ S u s k) n
    have ht1 : t 1 = nI n := hR.t1.trans ((congrArg (fun z => z.2.1) hfix.2.2.2).trans hI.gc)
    have ek : (nI k).toInt = (k : Int) := nI_toInt (by omega)
    have em : (nI m).toInt = (m : Int) := nI_toInt (by omega)
    obtain ⟨pk, pk1⟩ := hI.plN (i := k) (by omega)
    have epk : (nI (g_pl S k).toNatClampNeg).toInt = ((g_pl S k).toNatClampNeg : Int) := nI_toInt (by omega)
    have a3 := hF.get b3 n6 n7
    have a2 := hF.get b2 n4 n5
    have a1 := hF.get b1 n2 n3
    -- nobody is lifted
    have no : ¬ ((g_pl S k).toNatClampNeg = s ∧ g_psd (gRo S) k (nI u)) → E G kL_roll R 1 6 mem 131 (x_L (rLo rd rl rc rt ro u m f0 s k (nI (cN (rQ S u s k) n)))) [] := by
      intro hno
      have hQ : ∀ i, i < n → (rQ S u s k i ↔ rQ S u s (k + 1) i) := fun i hi => by
        constructor
        · rintro ⟨q1, q2 | ⟨q2, q3⟩⟩
          · exact ⟨q1, Or.inl q2⟩
          · exact ⟨q1, Or.inr ⟨q2, by omega⟩⟩
        · rintro ⟨q1, q2 | ⟨q2, q3⟩⟩
          · exact ⟨q1, Or.inl q2⟩
          · refine ⟨q1, Or.inr ⟨q2, ?_⟩⟩
            by_cases e : i = k
            · subst e; exact absurd ⟨q2, q1⟩ hno
            · omega
      have eN : cN (rQ S u s k) n = cN (rQ S u s (k + 1)) n := cN_congr n hQ
      rw [gLs_congr n hQ, eN] at hR
      rw [eN]
      refine E_iinc (d := 1) dL_roll_131 (by rfl) (by decide) (Nat.le_of_ble_eq_true rfl) (by rfl) ?_
      refine E_goto (tgt := 71) dL_roll_134 (by decide) ?_
      exact E_loc (rLo rd rl rc rt ro u m f0 s (k + 1) (nI (cN (rQ S u s (k + 1)) n))) ⟨rfl, rfl, rfl, rfl, rfl, rfl, rfl, rfl, rfl, rfl, x_i (nI_1 k), trivial⟩ (ih (k + 1) mem c t (by omega) hL hF hR kk)
    have hpm : (g_pl (gRo S) (g_mv (gRo S)).toNatClampNeg) = nI f0 := by
      show g_pl S (g_mv S).toNatClampNeg = nI f0
      rw [hI.gmN, hf]
    have efu : (nI f0 + nI u).toInt = (f0 : Int) + u := by rw [nI_add, nI_toInt (by omega)]; omega
    have ef : (nI f0).toInt = (f0 : Int) := nI_toInt (by omega)
    have hpsd : (g_pl S k).toNatClampNeg = s → (l s).toInt = 0 → g_psd (gRo S) k (nI u) := by
      intro e1 e2
      rw [e1] at pk epk
      have hk2 : g_pl (gRo S) k = nI s := pk
      unfold g_psd
      rw [hpm, hk2]
      refine ⟨by omega, by omega, fun z => z.2 ?_⟩
      rw [nI_clamp (by omega)]
      rw [← (hl.2 s (by omega)).1]
      exact e2
    have hpsn : (g_pl S k).toNatClampNeg = s → g_psd (gRo S) k (nI u) → (l s).toInt = 0 := by
      intro e1 e2
      rw [e1] at pk epk
      have hk2 : g_pl (gRo S) k = nI s := pk
      have e3 := e2.2.2
      rw [hk2] at e3
      refine Classical.byContradiction (fun z => e3 ⟨⟨by omega, ?_⟩, ?_⟩)
      · show (nI s).toInt < (g_top S).toInt
        rw [hI.gtI]; omega
      · rw [nI_clamp (by omega)]
        rw [(hl.2 s (by omega)).1] at z
        exact z
    have hno1 : k = m → ¬ ((g_pl S k).toNatClampNeg = s ∧ g_psd (gRo S) k (nI u)) := by
      intro e z
      have z1 := z.1
      rw [e, hf, nI_clamp (by omega)] at z1
      omega
    have hno2 : ¬ (nI (g_pl S k).toNatClampNeg).toInt = (nI s).toInt → ¬ (g_pl S k).toNatClampNeg = s := fun z1 z2 => z1 (by rw [z2])
    obtain ⟨N, hN⟩ : ∃ N, N = cN (rQ S u s k) n := ⟨_, rfl⟩
    rw [← hN]
    rw [← hN] at no
    have gm1 : (gLs (gRo S) m (rQ S u s k) n).2.2.2.2.2.2.2.2.1 = nI T := (congrArg (fun z => z.1) hfix.2.2.2).trans hI.gt
    have hS1 := Rct_lf1 hR (k := k) (by omega) (by omega)
    have hL1 := hL.setc (c' := upd c (6 * k + 3) (c (6 * k + 3) + 1)) n1
    have a1' := x_get_set (c := g_a 0 36 (upd c (6 * k + 3) (c (6 * k + 3) + 1))) a1 (Ne.symm n2)
    refine E_iload dL_roll_71 (by rfl) ?_
    refine E_aload_n dL_roll_73 (by rfl) ?_
    refine E_iconst (v := 1) dL_roll_74 (by decide) ?_
    refine E_rd dL_roll_75 (by assumption) (show (1 : Int32) = nI 1 from rfl) (by omega) (by first | decide | omega) ht1 ?_
    refine E_icmp_ge (n := _) rfl (tgt := 137) dL_roll_76 (by decide) (fun q76 => ?_) (fun q76 => ?_)
    · exact absurd q76 (by omega)
    · refine E_iload dL_roll_79 (by rfl) ?_
      refine E_iload dL_roll_81 (by rfl) ?_
      refine E_icmp_eq (n := _) rfl (tgt := 131) dL_roll_83 (by decide) (fun q83 => ?_) (fun q83 => ?_)
      · exact E_loc (rLo rd rl rc rt ro u m f0 s k (nI N)) ⟨rfl, rfl, rfl, rfl, rfl, rfl, rfl, rfl, rfl, rfl, rfl, trivial⟩ (no (hno1 (by omega)))
      · refine E_aload dL_roll_86 (by rfl) ?_
        refine E_iload dL_roll_88 (by rfl) ?_
        refine E_rd dL_roll_90 (by assumption) rfl (by omega) (by first | decide | omega) ((hol k (by omega)).trans pk) ?_
        refine E_iload dL_roll_91 (by rfl) ?_
        refine E_icmp_ne (n := _) rfl (tgt := 131) dL_roll_93 (by decide) (fun q93 => ?_) (fun q93 => ?_)
        · exact E_loc (rLo rd rl rc rt ro u m f0 s k (nI N)) ⟨rfl, rfl, rfl, rfl, rfl, rfl, rfl, rfl, rfl, rfl, rfl, trivial⟩ (no (fun z => hno2 (by omega) z.1))
        · have es2 : (g_pl S k).toNatClampNeg = s := by omega
          refine E_aload_n dL_roll_96 (by rfl) ?_
          refine E_iload dL_roll_97 (by rfl) ?_
          refine E_rd dL_roll_99 (by assumption) rfl (by omega) (by first | decide | omega) rfl ?_
          refine E_if_ne (tgt := 131) dL_roll_100 (by decide) (fun q100 => ?_) (fun q100 => ?_)
          · exact E_loc (rLo rd rl rc rt ro u m f0 s k (nI N)) ⟨rfl, rfl, rfl, rfl, rfl, rfl, rfl, rfl, rfl, rfl, rfl, trivial⟩ (no (fun z => q100 (hpsn z.1 z.2)))
          · have hps := hpsd es2 q100; have hnk : ¬ rQ S u s k k := fun z => z.2.elim (fun z2 => by omega) (fun z2 => by omega); have hyk : rQ S u s (k + 1) k := ⟨hps, Or.inr ⟨es2, by omega⟩⟩; have hiff : ∀ i, i < n → (i ≠ k ∧ rQ S u s (k + 1) i ↔ rQ S u s k i) := fun i hi => ⟨fun z => ⟨z.2.1, z.2.2.elim Or.inl (fun z2 => Or.inr ⟨z2.1, by have := z2.2; have := z.1; omega⟩)⟩, fun z => ⟨fun e => hnk (e ▸ z), z.1, z.2.elim Or.inl (fun z2 => Or.inr ⟨z2.1, by have := z2.2; omega⟩)⟩⟩; have hone : cN (rQ S u s (k + 1)) n = cN (rQ S u s k) n + 1 := by { have q := cN_one hnk hyk n hiff; rw [if_pos (by omega)] at q; exact q }; have hlast : gCome (g_wLm (g_wTl (gLs (gRo S) m (rQ S u s k) n) (upd (g_tl (gLs (gRo S) m (rQ S u s k) n)) k (g_tl (gLs (gRo S) m (rQ S u s k) n) k + 1))) (upd (g_lm (gLs (gRo S) m (rQ S u s k) n)) m (g_lm (gLs (gRo S) m (rQ S u s k) n) m + 1))) k (nI (s + 1)) = gLs (gRo S) m (rQ S u s (k + 1)) n := by { rw [← gLs_last hnk hyk (by omega) hiff, gLf, gLs_pl hnk n]; have e5 : g_pl (gRo S) k + 1 = nI (s + 1) := by { show g_pl S k + 1 = _; rw [pk, es2]; exact nI_1 s }; rw [e5] }
            refine E_aload_n dL_roll_103 (by rfl) ?_
            refine E_bipush (v := 6) dL_roll_104 (by decide) ?_
            refine E_iload dL_roll_106 (by rfl) ?_
            refine E_imul dL_roll_108 ?_
            refine E_iconst (v := 3) dL_roll_109 (by decide) ?_
            refine E_iadd dL_roll_110 ?_
            refine E_dup2 dL_roll_111 rfl rfl ?_
            refine E_rd dL_roll_112 (by assumption) (ix k 3) (by omega) (by first | decide | omega) rfl ?_
            refine E_iconst (v := 1) dL_roll_113 (by decide) ?_
            refine E_iadd dL_roll_114 ?_
            refine E_wr dL_roll_115 (by assumption) (ix k 3) (by omega) (by first | decide | omega) ?_
            refine E_iinc (d := 1) dL_roll_116 (by rfl) (by decide) (Nat.le_of_ble_eq_true rfl) (by rfl) ?_
            refine E_aload_n dL_roll_119 (by rfl) ?_
            refine E_aload_n dL_roll_120 (by rfl) ?_
            refine E_aload_n dL_roll_121 (by rfl) ?_
            refine E_iload dL_roll_122 (by rfl) ?_
            refine E_iload dL_roll_124 (by rfl) ?_
            refine E_iconst (v := 1) dL_roll_126 (by decide) ?_
            refine E_iadd dL_roll_127 ?_
            refine E_eqi (nI_1 s) ?_
            refine cw_L_roll_128 (by decide) (Nat.le_of_ble_eq_true rfl) (y_come hL1 a1' n1 n2 n3 (hd.of (S := S) (V := g_wLm (g_wTl (gLs (gRo S) m (rQ S u s k) n) (upd (g_tl (gLs (gRo S) m (rQ S u s k) n)) k (g_tl (gLs (gRo S) m (rQ S u s k) n) k + 1))) (upd (g_lm (gLs (gRo S) m (rQ S u s k) n)) m (g_lm (gLs (gRo S) m (rQ S u s k) n) m + 1))) hfix.1) hS1.t0 gm1 t60 (by omega) (by omega)) (fun m128 h128 => ?_)
            obtain ⟨c1, t1, g1, g2, g3⟩ := h128
            refine E_iinc (d := 1) dL_roll_131 (by rfl) (by decide) (Nat.le_of_ble_eq_true rfl) (by rfl) ?_
            refine E_goto (tgt := 71) dL_roll_134 (by decide) ?_
            refine E_loc (rLo rd rl rc rt ro u m f0 s (k + 1) (nI (cN (rQ S u s (k + 1)) n))) ⟨rfl, rfl, rfl, rfl, rfl, rfl, rfl, x_i ?_, rfl, rfl, x_i (nI_1 k), trivial⟩ (ih (k + 1) _ c1 t1 (by omega) g1 (Fr.tr hF (Fr.tr Fr.setc g2)) ?_ kk)
            · rw [hone, ← hN, nI_1]
            · rw [hone, ← hN, ← nI_1]
              have g4 := Rct_come hS1 (w := k) (by omega) g3
              rw [hlast] at g4
              rw [hN]
              exact g4
end LR
