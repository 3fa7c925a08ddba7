/-! the law: what the rolls would bring, whole -/
section AI
variable {G : xG} {mem mm M : xM} {T n m u k r1 r2 : Nat} {c t d l c3 t3 : Nat → Int32} {S : gS} {C : cS} {R : Option Value → xM → Prop} {ce sl : Nat} {best most quiet lf gr : Int32} {x : Nat → Int32}
theorem sBe_pos : ∀ k, k ≤ 5 → 0 ≤ (sBe x k).1.toInt
  | 0, _ => show 0 ≤ (1 : Int32).toInt by decide
  | k + 1, h => by
    have ih := sBe_pos k (by omega)
    rw [sBe]
    split
    · show 0 ≤ (nI (k + 2)).toInt
      rw [nI_toInt (by omega)]
      omega
    · exact ih
theorem y_ah3 (hn6 : n ≤ 6) (hu : 1 ≤ u ∧ u ≤ 6) (hx : x = fun i => sGn S (gRoll S (nI i) n) n) (hb : (u = 1 ∧ best = -1) ∨ (2 ≤ u ∧ best = (sBe x (u - 2)).1 ∧ most = (sBe x (u - 2)).2)) (hq : quiet = sQp (g_qt S n) (u - 1)) (kk : E G kL_ahead R ce sl mem 158 (x_L (aL11 (sBe x (u - 1)).1 (sBe x (u - 1)).2 (sQp (g_qt S n) u) u r1 r2 (nI (cN (rPs S u) n)))) []) : E G kL_ahead R ce sl mem 120 (x_L (aL12 best most quiet u r1 r2 (nI (cN (rPs S u) n)) (sGn S (gRoll S (nI u) n) n))) [] := by
  obtain ⟨gr, hgr⟩ : ∃ gr, gr = sGn S (gRoll S (nI u) n) n := ⟨_, rfl⟩
  have hxu : x u = gr := by rw [hx, hgr]
  have eN := cN_le (rPs S u) n
  obtain ⟨N, hN⟩ : ∃ N, N = cN (rPs S u) n := ⟨_, rfl⟩
  have eNi : (nI N).toInt = (N : Int) := nI_toInt (by omega)
  have hqt : N = 0 ↔ g_qt S n u := by
    rw [hN]
    unfold g_qt
    rw [sNo_iff]
    constructor
    · intro h0 i hi hp
      have := cN_lt (p := fun _ => False) (q := rPs S u) n (fun _ _ v => v.elim) ⟨i, hi, hp, id⟩
      omega
    · intro h
      exact cN_none n (fun i hi => h i hi)
  rw [← hgr, ← hN]
  rw [← hN] at kk
  have hqs : sQp (g_qt S n) u = quiet + (if g_qt S n u then 1 <<< (nI u &&& 31) else 0) := by
    obtain ⟨v, rfl⟩ : ∃ v, u = v + 1 := ⟨u - 1, by omega⟩
    rw [hq]
    rfl
  have hbe : ((u = 1 ∧ best = -1) ∨ most.toInt < gr.toInt) ∧ (sBe x (u - 1)).1 = nI u ∧ (sBe x (u - 1)).2 = gr ∨ (¬ u = 1 ∧ ¬ most.toInt < gr.toInt) ∧ (sBe x (u - 1)).1 = best ∧ (sBe x (u - 1)).2 = most := by
    rcases hb with ⟨e1, e2⟩ | ⟨e1, e2, e3⟩
    · subst e1
      exact Or.inl ⟨Or.inl ⟨rfl, e2⟩, rfl, hxu⟩
    · obtain ⟨v, rfl⟩ : ∃ v, u = v + 2 := ⟨u - 2, by omega⟩
      have e4 : v + 2 - 2 = v := by omega
      rw [e4] at e2 e3
      rw [show v + 2 - 1 = v + 1 by omega, sBe, ← e3, hxu]
      by_cases h : most.toInt < gr.toInt
      · rw [if_pos h]; exact Or.inl ⟨Or.inr h, rfl, rfl⟩
      · rw [if_neg h]; exact Or.inr ⟨⟨by omega, h⟩, e2.symm, e3.symm⟩
  have hneg : best.toInt < 0 ↔ u = 1 := by
    rcases hb with ⟨e1, e2⟩ | ⟨e1, e2, e3⟩
    · rw [e2]; exact ⟨fun _ => e1, fun _ => by decide⟩
    · have := sBe_pos (x := x) (u - 2) (by omega)
      rw [← e2] at this
      exact ⟨fun h => absurd h (by omega), fun h => absurd h (by omega)⟩
  have mid : E G kL_ahead R ce sl mem 138 (x_L (aL12 best most (sQp (g_qt S n) u) u r1 r2 (nI N) gr)) [] := by
    refine E_iload dL_ahead_138 (by rfl) ?_
    refine E_if_lt (tgt := 150) dL_ahead_140 (by decide) (fun q140 => ?_) (fun q140 => ?_)
    · refine E_iload dL_ahead_150 (by rfl) ?_
      refine E_istore dL_ahead_152 (Nat.le_of_ble_eq_true rfl) (by rfl) ?_
      refine E_iload dL_ahead_154 (by rfl) ?_
      refine E_istore dL_ahead_156 (Nat.le_of_ble_eq_true rfl) (by rfl) ?_
      first | exact E_loc (aL11 (sBe x (u - 1)).1 (sBe x (u - 1)).2 (sQp (g_qt S n) u) u r1 r2 (nI N)) ⟨rfl, rfl, rfl, rfl, rfl, x_i (by rcases hbe with ⟨h1, h2, h3⟩ | ⟨h1, h2, h3⟩; exact h2.symm; exact absurd (hneg.mp q140) h1.1), x_i (by rcases hbe with ⟨h1, h2, h3⟩ | ⟨h1, h2, h3⟩; exact h3.symm; exact absurd (hneg.mp q140) h1.1), rfl, rfl, rfl, rfl, rfl, trivial⟩ kk | exact E_loc (aL11 (sBe x (u - 1)).1 (sBe x (u - 1)).2 (sQp (g_qt S n) u) u r1 r2 (nI N)) ⟨rfl, rfl, rfl, rfl, rfl, x_i (by rcases hbe with ⟨h1, h2, h3⟩ | ⟨h1, h2, h3⟩; exact absurd (h1.elim (fun z => hneg.mpr z.1) (fun z => absurd z (by omega))) q140; exact h2.symm), x_i (by rcases hbe with ⟨h1, h2, h3⟩ | ⟨h1, h2, h3⟩; exact absurd (h1.elim (fun z => hneg.mpr z.1) (fun z => absurd z (by omega))) q140; exact h3.symm), rfl, rfl, rfl, rfl, rfl, trivial⟩ kk | exact E_loc (aL11 (sBe x (u - 1)).1 (sBe x (u - 1)).2 (sQp (g_qt S n) u) u r1 r2 (nI N)) ⟨rfl, rfl, rfl, rfl, rfl, x_i (by rcases hbe with ⟨h1, h2, h3⟩ | ⟨h1, h2, h3⟩; exact h2.symm; exact absurd (show most.toInt < gr.toInt by omega) h1.2), x_i (by rcases hbe with ⟨h1, h2, h3⟩ | ⟨h1, h2, h3⟩; exact h3.symm; exact absurd (show most.toInt < gr.toInt by omega) h1.2), rfl, rfl, rfl, rfl, rfl, trivial⟩ kk
    · refine E_iload dL_ahead_143 (by rfl) ?_
      refine E_iload dL_ahead_145 (by rfl) ?_
      refine E_icmp_le (n := _) rfl (tgt := 158) dL_ahead_147 (by decide) (fun q147 => ?_) (fun q147 => ?_)
      · first | exact E_loc (aL11 (sBe x (u - 1)).1 (sBe x (u - 1)).2 (sQp (g_qt S n) u) u r1 r2 (nI N)) ⟨rfl, rfl, rfl, rfl, rfl, x_i (by rcases hbe with ⟨h1, h2, h3⟩ | ⟨h1, h2, h3⟩; exact h2.symm; exact absurd (hneg.mp q140) h1.1), x_i (by rcases hbe with ⟨h1, h2, h3⟩ | ⟨h1, h2, h3⟩; exact h3.symm; exact absurd (hneg.mp q140) h1.1), rfl, rfl, rfl, rfl, rfl, trivial⟩ kk | exact E_loc (aL11 (sBe x (u - 1)).1 (sBe x (u - 1)).2 (sQp (g_qt S n) u) u r1 r2 (nI N)) ⟨rfl, rfl, rfl, rfl, rfl, x_i (by rcases hbe with ⟨h1, h2, h3⟩ | ⟨h1, h2, h3⟩; exact absurd (h1.elim (fun z => hneg.mpr z.1) (fun z => absurd z (by omega))) q140; exact h2.symm), x_i (by rcases hbe with ⟨h1, h2, h3⟩ | ⟨h1, h2, h3⟩; exact absurd (h1.elim (fun z => hneg.mpr z.1) (fun z => absurd z (by omega))) q140; exact h3.symm), rfl, rfl, rfl, rfl, rfl, trivial⟩ kk | exact E_loc (aL11 (sBe x (u - 1)).1 (sBe x (u - 1)).2 (sQp (g_qt S n) u) u r1 r2 (nI N)) ⟨rfl, rfl, rfl, rfl, rfl, x_i (by rcases hbe with ⟨h1, h2, h3⟩ | ⟨h1, h2, h3⟩; exact h2.symm; exact absurd (show most.toInt < gr.toInt by omega) h1.2), x_i (by rcases hbe with ⟨h1, h2, h3⟩ | ⟨h1, h2, h3⟩; exact h3.symm; exact absurd (show most.toInt < gr.toInt by omega) h1.2), rfl, rfl, rfl, rfl, rfl, trivial⟩ kk
      · refine E_iload dL_ahead_150 (by rfl) ?_
        refine E_istore dL_ahead_152 (Nat.le_of_ble_eq_true rfl) (by rfl) ?_
        refine E_iload dL_ahead_154 (by rfl) ?_
        refine E_istore dL_ahead_156 (Nat.le_of_ble_eq_true rfl) (by rfl) ?_
        first | exact E_loc (aL11 (sBe x (u - 1)).1 (sBe x (u - 1)).2 (sQp (g_qt S n) u) u r1 r2 (nI N)) ⟨rfl, rfl, rfl, rfl, rfl, x_i (by rcases hbe with ⟨h1, h2, h3⟩ | ⟨h1, h2, h3⟩; exact h2.symm; exact absurd (hneg.mp q140) h1.1), x_i (by rcases hbe with ⟨h1, h2, h3⟩ | ⟨h1, h2, h3⟩; exact h3.symm; exact absurd (hneg.mp q140) h1.1), rfl, rfl, rfl, rfl, rfl, trivial⟩ kk | exact E_loc (aL11 (sBe x (u - 1)).1 (sBe x (u - 1)).2 (sQp (g_qt S n) u) u r1 r2 (nI N)) ⟨rfl, rfl, rfl, rfl, rfl, x_i (by rcases hbe with ⟨h1, h2, h3⟩ | ⟨h1, h2, h3⟩; exact absurd (h1.elim (fun z => hneg.mpr z.1) (fun z => absurd z (by omega))) q140; exact h2.symm), x_i (by rcases hbe with ⟨h1, h2, h3⟩ | ⟨h1, h2, h3⟩; exact absurd (h1.elim (fun z => hneg.mpr z.1) (fun z => absurd z (by omega))) q140; exact h3.symm), rfl, rfl, rfl, rfl, rfl, trivial⟩ kk | exact E_loc (aL11 (sBe x (u - 1)).1 (sBe x (u - 1)).2 (sQp (g_qt S n) u) u r1 r2 (nI N)) ⟨rfl, rfl, rfl, rfl, rfl, x_i (by rcases hbe with ⟨h1, h2, h3⟩ | ⟨h1, h2, h3⟩; exact h2.symm; exact absurd (show most.toInt < gr.toInt by omega) h1.2), x_i (by rcases hbe with ⟨h1, h2, h3⟩ | ⟨h1, h2, h3⟩; exact h3.symm; exact absurd (show most.toInt < gr.toInt by omega) h1.2), rfl, rfl, rfl, rfl, rfl, trivial⟩ kk
  refine E_iload dL_ahead_120 (by rfl) ?_
  refine E_iload dL_ahead_122 (by rfl) ?_
  refine E_if_ne (tgt := 134) dL_ahead_124 (by decide) (fun q124 => ?_) (fun q124 => ?_)
  · refine E_iconst (v := 0) dL_ahead_134 (by decide) ?_
    refine E_iadd dL_ahead_135 ?_
    refine E_istore dL_ahead_136 (Nat.le_of_ble_eq_true rfl) (by rfl) ?_
    first | exact E_loc (aL12 best most (sQp (g_qt S n) u) u r1 r2 (nI N) gr) ⟨rfl, rfl, rfl, rfl, rfl, rfl, rfl, x_i (by rw [hqs, if_pos (hqt.mp (by omega))]), rfl, rfl, rfl, rfl, rfl, trivial⟩ mid | exact E_loc (aL12 best most (sQp (g_qt S n) u) u r1 r2 (nI N) gr) ⟨rfl, rfl, rfl, rfl, rfl, rfl, rfl, x_i (by rw [hqs, if_neg (fun z => by have := hqt.mpr z; omega)]), rfl, rfl, rfl, rfl, rfl, trivial⟩ mid
  · refine E_iconst (v := 1) dL_ahead_127 (by decide) ?_
    refine E_iload dL_ahead_128 (by rfl) ?_
    refine E_ishl dL_ahead_130 ?_
    refine E_goto (tgt := 135) dL_ahead_131 (by decide) ?_
    refine E_iadd dL_ahead_135 ?_
    refine E_istore dL_ahead_136 (Nat.le_of_ble_eq_true rfl) (by rfl) ?_
    first | exact E_loc (aL12 best most (sQp (g_qt S n) u) u r1 r2 (nI N) gr) ⟨rfl, rfl, rfl, rfl, rfl, rfl, rfl, x_i (by rw [hqs, if_pos (hqt.mp (by omega))]), rfl, rfl, rfl, rfl, rfl, trivial⟩ mid | exact E_loc (aL12 best most (sQp (g_qt S n) u) u r1 r2 (nI N) gr) ⟨rfl, rfl, rfl, rfl, rfl, rfl, rfl, x_i (by rw [hqs, if_neg (fun z => by have := hqt.mpr z; omega)]), rfl, rfl, rfl, rfl, rfl, trivial⟩ mid
theorem Lw.la3 {r1 r2 : Nat} (h : La mem r1 r2 c3 t3) (hs : xS86 mem mm) (h1 : 90 ≤ r1) (h2 : 90 ≤ r2) : La mm r1 r2 c3 t3 := ⟨(hs r1 (by omega)).trans h.1, (hs r2 (by omega)).trans h.2⟩
/-- the class's predictions are what happened to the copies -/
theorem y_ah4 {m' : Nat} (hS : k_gm C = S) (hA : AhM mem C S d l c t) (hI : Iv S T n m) (hI2 : Iv (gRoll S (nI u) n) T n m') (hm : m < n) (hu : 1 ≤ u ∧ u ≤ 6) (h1 : 90 ≤ r1) (h2 : 90 ≤ r2) (hL3 : La mem r1 r2 c3 t3) (hR3 : Rct (gRoll S (nI u) n) c3 t3 m 0 0) (hcs : ce ≤ 18 ∧ sl ≤ 294) (kk : ∀ mm, AhM mm C S d l c t → E G kL_ahead R ce sl mm 12 (x_L (aL8 best most quiet (u + 1))) []) : E G kL_ahead R ce sl mem 158 (x_L (aL11 best most quiet u r1 r2 (nI (cN (rPs S u) n)))) [] := by
  have n6 := hI.n6
  have t60 := hI.t60
  have eu : (nI u).toInt = (u : Int) := nI_toInt (by omega)
  have zi : ∀ (M : xM) (p : Int32), 0 ≤ p.toInt ∧ p.toInt ≤ 4 → AhM M C S d l c t → La M r1 r2 c3 t3 → Pt G kX3_ifRolled [.ref 0, .int (nI u), .int p] M (some (.int (gIf S n (nI u) p))) (fun M' => AhM M' C S d l c t ∧ La M' r1 r2 c3 t3) := by
    intro M p hp hA hL
    obtain ⟨⟨X, q1⟩, q2, q3⟩ := hA
    have q := k_ifRolled_ok (G := G) (n := n) q1 (by show g_la01 (k_gm C); rw [hS]; exact hI.la) (by show (g_top (k_gm C)).toInt ≤ 60; rw [hS, hI.gtI]; omega) (by show g_cl (k_gm C) = nI n; rw [hS]; exact hI.gc) n6 (by show g_isCl (k_gm C) (g_mv (k_gm C)); rw [hS]; exact ⟨by rw [hI.gmI]; omega, by rw [hI.gmI, hI.gcI]; omega⟩) (nI u) p ⟨by omega, hp⟩
    have q' : Dt G kX3_ifRolled [.ref 0, .int (nI u), .int p] M (some (.int (gIf (k_gm C) n (nI u) p))) (gPut M 19 (gRoll (k_gm C) (nI u) n)) := q
    rw [hS] at q'
    have s := xS86.put (T := gRoll S (nI u) n) q1.2.2.2.1 (by decide)
    exact q'.pt ⟨⟨⟨_, cAt_tr q1 _⟩, q2.s86 s, by rw [gPut_len q1.2.2.2.1]; exact q3⟩, Lw.la3 hL s h1 h2⟩
  have e0 : gIf S n (nI u) 0 = c3 (6 * m) := by
    unfold gIf
    rw [if_pos rfl, hI.gmN]
    exact (hR3.pl m (by omega)).symm
  have e1 : gIf S n (nI u) 1 = nI (cN (rPs S u) n) := by
    unfold gIf
    rw [if_neg (by decide), if_pos rfl]
    exact tl_roll hI hm
  have hR := hA.2.1.2.2.2.2.2
  have e2 : gIf S n (nI u) 2 = sSm (fun i => c3 (6 * i + 1)) n - sSm (fun i => c (6 * i + 1)) n := by
    unfold gIf
    rw [if_neg (by decide), if_neg (by decide), if_pos rfl, tops_eq hI2 hR3, tops_eq hI hR]
  have e3 : gIf S n (nI u) 3 = t3 5 - t 5 := by
    unfold gIf
    rw [if_neg (by decide), if_neg (by decide), if_neg (by decide), if_pos rfl, hR3.t5, hR.t5]
  have e4 : gIf S n (nI u) 4 = t3 2 := by
    unfold gIf
    rw [if_neg (by decide), if_neg (by decide), if_neg (by decide), if_neg (by decide), hR3.t2]
  have ht2 : t 2 = nI m := hR.t2.trans hI.gm
  have ht1 : t 1 = nI n := hR.t1.trans hI.gc
  have ht31 : t3 1 = nI n := hR3.t1.trans hI2.gc
  obtain ⟨⟨X0, y0⟩, w0, -⟩ := id hA
  have a0 := y0.1
  refine E_aload_n dL_ahead_158 (by rfl) ?_
  refine E_iload dL_ahead_159 (by rfl) ?_
  refine E_iconst (v := 0) dL_ahead_161 (by decide) ?_
  refine cp_L_ahead_162 (by assumption) (Nat.le_of_ble_eq_true rfl) hcs (zi _ 0 (by decide) hA hL3) (fun m162 h162 => ?_)
  obtain ⟨p1, p2⟩ := h162
  obtain ⟨⟨X1, y1⟩, w1, -⟩ := id p1
  have a1 := y1.1
  obtain ⟨f1, f2⟩ := id p2
  obtain ⟨-, -, ⟨g1, g2⟩, -⟩ := id w1
  refine E_aload dL_ahead_165 (by rfl) ?_
  refine E_bipush (v := 6) dL_ahead_167 (by decide) ?_
  refine E_aload dL_ahead_169 (by rfl) ?_
  refine E_iconst (v := 2) dL_ahead_171 (by decide) ?_
  refine E_rd dL_ahead_172 (by assumption) (show (2 : Int32) = nI 2 from rfl) (by omega) (by first | decide | omega) ht2 ?_
  refine E_imul dL_ahead_173 ?_
  refine E_rd dL_ahead_174 (by assumption) (ix0 m) (by omega) (by first | decide | omega) rfl ?_
  refine E_icmp_ne (n := _) rfl (tgt := 247) dL_ahead_175 (by decide) (fun q175 => ?_) (fun q175 => ?_)
  · exact absurd (congrArg Int32.toInt e0) q175
  · refine E_aload_n dL_ahead_178 (by rfl) ?_
    refine E_iload dL_ahead_179 (by rfl) ?_
    refine E_iconst (v := 1) dL_ahead_181 (by decide) ?_
    refine cp_L_ahead_182 (by assumption) (Nat.le_of_ble_eq_true rfl) hcs (zi _ 1 (by decide) p1 p2) (fun m182 h182 => ?_)
    obtain ⟨p3, p4⟩ := h182
    obtain ⟨⟨X2, y2⟩, w2, -⟩ := id p3
    have a2 := y2.1
    refine E_iload dL_ahead_185 (by rfl) ?_
    refine E_icmp_ne (n := _) rfl (tgt := 247) dL_ahead_187 (by decide) (fun q187 => ?_) (fun q187 => ?_)
    · exact absurd (congrArg Int32.toInt e1) q187
    · refine E_aload_n dL_ahead_190 (by rfl) ?_
      refine E_iload dL_ahead_191 (by rfl) ?_
      refine E_iconst (v := 2) dL_ahead_193 (by decide) ?_
      refine cp_L_ahead_194 (by assumption) (Nat.le_of_ble_eq_true rfl) hcs (zi _ 2 (by decide) p3 p4) (fun m194 h194 => ?_)
      obtain ⟨p5, p6⟩ := h194
      obtain ⟨⟨X3, y3⟩, w3, -⟩ := id p5
      have a3 := y3.1
      refine E_aload dL_ahead_197 (by rfl) ?_
      refine E_aload dL_ahead_199 (by rfl) ?_
      refine cs_L_ahead_201 (Nat.le_of_ble_eq_true rfl) hcs (y_tops p6 n6 ht31) ?_
      refine E_aload_n dL_ahead_204 (by rfl) ?_
      refine E_aload dL_ahead_205 (by rfl) ?_
      refine cs_L_ahead_207 (Nat.le_of_ble_eq_true rfl) hcs (y_tops w3.2.2.1 n6 ht1) ?_
      refine E_isub dL_ahead_210 ?_
      refine E_icmp_ne (n := _) rfl (tgt := 247) dL_ahead_211 (by decide) (fun q211 => ?_) (fun q211 => ?_)
      · exact absurd (congrArg Int32.toInt e2) q211
      · refine E_aload_n dL_ahead_214 (by rfl) ?_
        refine E_iload dL_ahead_215 (by rfl) ?_
        refine E_iconst (v := 3) dL_ahead_217 (by decide) ?_
        refine cp_L_ahead_218 (by assumption) (Nat.le_of_ble_eq_true rfl) hcs (zi _ 3 (by decide) p5 p6) (fun m218 h218 => ?_)
        obtain ⟨p7, p8⟩ := h218
        obtain ⟨⟨X4, y4⟩, w4, -⟩ := id p7
        have a4 := y4.1
        obtain ⟨f3, f4⟩ := id p8
        obtain ⟨-, -, ⟨g3, g4⟩, -⟩ := id w4
        refine E_aload dL_ahead_221 (by rfl) ?_
        refine E_iconst (v := 5) dL_ahead_223 (by decide) ?_
        refine E_rd dL_ahead_224 (by assumption) (show (5 : Int32) = nI 5 from rfl) (by omega) (by first | decide | omega) rfl ?_
        refine E_aload dL_ahead_225 (by rfl) ?_
        refine E_iconst (v := 5) dL_ahead_227 (by decide) ?_
        refine E_rd dL_ahead_228 (by assumption) (show (5 : Int32) = nI 5 from rfl) (by omega) (by first | decide | omega) rfl ?_
        refine E_isub dL_ahead_229 ?_
        refine E_icmp_ne (n := _) rfl (tgt := 247) dL_ahead_230 (by decide) (fun q230 => ?_) (fun q230 => ?_)
        · exact absurd (congrArg Int32.toInt e3) q230
        · refine E_aload_n dL_ahead_233 (by rfl) ?_
          refine E_iload dL_ahead_234 (by rfl) ?_
          refine E_iconst (v := 4) dL_ahead_236 (by decide) ?_
          refine cp_L_ahead_237 (by assumption) (Nat.le_of_ble_eq_true rfl) hcs (zi _ 4 (by decide) p7 p8) (fun m237 h237 => ?_)
          obtain ⟨p9, p10⟩ := h237
          obtain ⟨f5, f6⟩ := id p10
          refine E_aload dL_ahead_240 (by rfl) ?_
          refine E_iconst (v := 2) dL_ahead_242 (by decide) ?_
          refine E_rd dL_ahead_243 (by assumption) (show (2 : Int32) = nI 2 from rfl) (by omega) (by first | decide | omega) rfl ?_
          refine E_icmp_eq (n := _) rfl (tgt := 249) dL_ahead_244 (by decide) (fun q244 => ?_) (fun q244 => ?_)
          · refine E_iinc (d := 1) dL_ahead_249 (by rfl) (by decide) (Nat.le_of_ble_eq_true rfl) (by rfl) ?_
            refine E_goto (tgt := 12) dL_ahead_252 (by decide) ?_
            exact E_loc (aL8 best most quiet (u + 1)) ⟨rfl, rfl, rfl, rfl, rfl, rfl, rfl, rfl, x_i (nI_1 u), trivial⟩ (kk _ p9)
          · exact absurd (congrArg Int32.toInt e4) q244
theorem y_ahead (hC : cAt mem C) (hS : k_gm C = S) (hI : Iv S T n m) (hm : m < n) (hL : Lw mem S d l c t) (h90 : 90 ≤ mem.length) : Pt G kL_ahead [.ref 0, .ref 86, .ref 87, .ref 88, .ref 89] mem (some (.int 1)) (fun mm => AhM mm C S d l c t) := by
  have n6 := hI.n6
  have t60 := hI.t60
  obtain ⟨x, hx⟩ : ∃ x : Nat → Int32, x = fun i => sGn S (gRoll S (nI i) n) n := ⟨_, rfl⟩
  have hla : g_la01 (k_gm C) := by rw [hS]; exact hI.la
  have htp : (g_top (k_gm C)).toInt ≤ 60 := by rw [hS, hI.gtI]; omega
  have hcl : g_cl (k_gm C) = nI n := by rw [hS]; exact hI.gc
  have hmv : g_isCl (k_gm C) (g_mv (k_gm C)) := by rw [hS]; exact ⟨by rw [hI.gmI]; omega, by rw [hI.gmI, hI.gcI]; omega⟩
  refine Ct_of (by decide) (Nat.le_of_ble_eq_true rfl) ?_
  have fin : ∀ mm, AhM mm C S d l c t → E G kL_ahead (fun v' mm => v' = some (.int 1) ∧ AhM mm C S d l c t) 18 294 mm 255 (x_L (aL8 (sBe x 5).1 (sBe x 5).2 (sQp (g_qt S n) 6) 7)) [] := by
    intro mm hA
    obtain ⟨⟨X, q1⟩, q2, q3⟩ := id hA
    have a0 := q1.1
    have zb : Dt G kX3_bestRoll [.ref 0] mm (some (.int (sBe (fun k => sGn (k_gm C) (gRoll (k_gm C) (nI k) n) n) 5).1)) (gPut mm 19 (gRoll (k_gm C) (nI 6) n)) := k_bestRoll_ok (G := G) (C := cTr C X) q1 hla htp hcl n6 hmv
    rw [hS, ← hx] at zb
    have s := xS86.put (T := gRoll S (nI 6) n) q1.2.2.2.1 (by decide)
    have hA2 : AhM (gPut mm 19 (gRoll S (nI 6) n)) C S d l c t := ⟨⟨_, cAt_tr q1 _⟩, q2.s86 s, by rw [gPut_len q1.2.2.2.1]; exact q3⟩
    obtain ⟨⟨X2, r1⟩, -, -⟩ := id hA2
    have a2 := r1.1
    have zq : Dt G kX3_quietRolls [.ref 0] (gPut mm 19 (gRoll S (nI 6) n)) (some (.int (sQu (g_qt (k_gm C) n) 6))) (gPut mm 19 (gRoll S (nI 6) n)) := k_quietRolls_ok (G := G) (C := cTr C X2) r1 htp hcl n6 hmv
    rw [hS, quiet_eq] at zq
    refine E_aload_n dL_ahead_255 (by rfl) ?_
    refine cs_L_ahead_256 (by assumption) (Nat.le_of_ble_eq_true rfl) (by decide) zb ?_
    refine E_iload dL_ahead_259 (by rfl) ?_
    refine E_icmp_ne (n := _) rfl (tgt := 277) dL_ahead_261 (by decide) (fun q261 => ?_) (fun q261 => ?_)
    · exact absurd rfl q261
    · refine E_aload_n dL_ahead_264 (by rfl) ?_
      refine cs_L_ahead_265 (by assumption) (Nat.le_of_ble_eq_true rfl) (by decide) zq ?_
      refine E_iload dL_ahead_268 (by rfl) ?_
      refine E_icmp_ne (n := _) rfl (tgt := 277) dL_ahead_270 (by decide) (fun q270 => ?_) (fun q270 => ?_)
      · exact absurd rfl q270
      · refine E_iconst (v := 1) dL_ahead_273 (by decide) ?_
        refine E_goto (tgt := 278) dL_ahead_274 (by decide) ?_
        refine E_iret dL_ahead_278 rfl (by decide) (by decide) (by decide) ?_
        exact ⟨rfl, hA2⟩
  have loop : ∀ (v u : Nat) (mm : xM) (best most quiet : Int32), 7 = u + v → 1 ≤ u → AhM mm C S d l c t → ((u = 1 ∧ best = -1) ∨ (2 ≤ u ∧ best = (sBe x (u - 2)).1 ∧ most = (sBe x (u - 2)).2)) → quiet = sQp (g_qt S n) (u - 1) → E G kL_ahead (fun v' mm => v' = some (.int 1) ∧ AhM mm C S d l c t) (3 * (u - 1)) (49 * (u - 1)) mm 12 (x_L (aL8 best most quiet u)) [] := by
    intro v
    induction v with
    | zero =>
      intro u mm best most quiet hv hu1 hA hb hq
      obtain rfl : u = 7 := by omega
      rcases hb with ⟨e, _⟩ | ⟨_, e1, e2⟩
      · omega
      · subst e1 e2 hq
        refine E_iload dL_ahead_12 (by rfl) ?_
        refine E_bipush (v := 7) dL_ahead_14 (by decide) ?_
        refine E_icmp_ge (n := 7) (by decide) (tgt := 255) dL_ahead_16 (by decide) (fun q16 => ?_) (fun q16 => ?_)
        · exact fin mm hA
        · exact absurd q16 (by decide)
    | succ v ih =>
      intro u mm best most quiet hv hu1 hA hb hq
      have eu : (nI u).toInt = (u : Int) := nI_toInt (by omega)
      have e7 : (7 : Int32).toInt = 7 := by decide
      obtain ⟨m', hm', hI2⟩ := Iv_roll (u := u) hI hm
      have go : E G kL_ahead (fun v' mm => v' = some (.int 1) ∧ AhM mm C S d l c t) (3 * (u - 1)) (49 * (u - 1)) mm 19 (x_L (aL8 best most quiet u)) [] := by
        refine y_ah1 hA hI hm ⟨hu1, by omega⟩ (by omega) (fun m2 r1 r2 c3 t3 g1 g2 g3 g4 g5 g6 => ?_)
        refine y_ah2 g1 hI hI2 hm g5 g6 (by omega) ?_
        refine y_ah3 n6 ⟨hu1, by omega⟩ hx hb hq ?_
        refine y_ah4 hS g1 hI hI2 hm ⟨hu1, by omega⟩ g2 g3 g5 g6 (by omega) (fun m3 g7 => ?_)
        have q := ih (u + 1) m3 (sBe x (u - 1)).1 (sBe x (u - 1)).2 (sQp (g_qt S n) u) (by omega) (by omega) g7 (Or.inr ⟨by omega, by rw [show u + 1 - 2 = u - 1 by omega], by rw [show u + 1 - 2 = u - 1 by omega]⟩) (by rw [show u + 1 - 1 = u by omega])
        rw [show 3 * (u + 1 - 1) = 3 * (u - 1) + 3 by omega, show 49 * (u + 1 - 1) = 49 * (u - 1) + 49 by omega] at q
        exact q
      refine E_iload dL_ahead_12 (by rfl) ?_
      refine E_bipush (v := 7) dL_ahead_14 (by decide) ?_
      refine E_icmp_ge (n := 7) (by decide) (tgt := 255) dL_ahead_16 (by decide) (fun q16 => ?_) (fun q16 => ?_)
      · exact absurd q16 (by omega)
      · exact go
  refine E_iconst (v := (-1)) dL_ahead_0 (by decide) ?_
  refine E_istore dL_ahead_1 (Nat.le_of_ble_eq_true rfl) (by rfl) ?_
  refine E_iconst (v := 0) dL_ahead_3 (by decide) ?_
  refine E_istore dL_ahead_4 (Nat.le_of_ble_eq_true rfl) (by rfl) ?_
  refine E_iconst (v := 0) dL_ahead_6 (by decide) ?_
  refine E_istore dL_ahead_7 (Nat.le_of_ble_eq_true rfl) (by rfl) ?_
  refine E_iconst (v := 1) dL_ahead_9 (by decide) ?_
  refine E_istore dL_ahead_10 (Nat.le_of_ble_eq_true rfl) (by rfl) ?_
  exact E_loc (aL8 (-1) 0 0 1) ⟨rfl, rfl, rfl, rfl, rfl, rfl, rfl, rfl, rfl, trivial⟩ (loop 6 1 mem (-1) 0 0 (by omega) (by omega) ⟨⟨k_tr C, hC⟩, hL, h90⟩ (Or.inl ⟨rfl, rfl⟩) rfl)
end AI
