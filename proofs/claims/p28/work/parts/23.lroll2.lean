/-! the law: a roll, whole -/
section LS
variable {G : xG} {mem m1 : xM} {rd rl rc rt ro w x T m i j n u s k f0 : Nat} {c t d c' t' l ol : Nat → Int32} {S V : gS} {lf v : Int32} {R : Option Value → xM → Prop}
abbrev rL9 (rd rl rc rt ro u m f0 s : Nat) (lf : Int32) : List (Nat × Value) := [(0, .ref rd), (1, .ref rl), (2, .ref rc), (3, .ref rt), (4, .int (nI u)), (5, .int (nI m)), (6, .int (nI f0)), (7, .int lf), (8, .ref ro), (9, .int (nI s))]
abbrev rL7 (rd rl rc rt u m f0 : Nat) (lf : Int32) : List (Nat × Value) := [(0, .ref rd), (1, .ref rl), (2, .ref rc), (3, .ref rt), (4, .int (nI u)), (5, .int (nI m)), (6, .int (nI f0)), (7, .int lf)]
abbrev rPs (S : gS) (u i : Nat) : Prop := g_psd (gRo S) i (nI u)
theorem i_sub1 (x : Int32) : x - 1 = x + (-1) := by
  rw [Int32.sub_eq_add_neg]
theorem y_rollS (n1 : rc ≠ rt) (n2 : rd ≠ rc) (n3 : rd ≠ rt) (n4 : rl ≠ rc) (n5 : rl ≠ rt) (n6 : ro ≠ rc) (n7 : ro ≠ rt) (hI : Iv S T n m) (hmn : m < n) (hd : Rd S d) (hl : Ry S l) (hf : g_pl S m = nI f0) (hf0 : f0 < T) (hu : 1 ≤ u ∧ u ≤ 6) (b1 : m1[rd]? = some (g_a 0 61 d)) (b2 : m1[rl]? = some (g_a 0 61 l)) (b3 : m1[ro]? = some (g_a 0 6 ol)) (hol : ∀ i, i < n → ol i = g_pl S i) : ∀ (dd s : Nat) (mem : xM) (c t : Nat → Int32), s = f0 + dd → dd < u → La mem rc rt c t → Fr rc rt m1 mem → Rct (gLs (gRo S) m (rQ S u s 0) n) c t m (nI (cN (rQ S u s 0) n)) 1 → (∀ mem' c' t', La mem' rc rt c' t' → Fr rc rt m1 mem' → Rct (gLs (gRo S) m (rPs S u) n) c' t' m (nI (cN (rPs S u) n)) 1 → E G kL_roll R 1 6 mem' 143 (x_L (rL7 rd rl rc rt u m f0 (nI (cN (rPs S u) n)))) []) → E G kL_roll R 1 6 mem 61 (x_L (rL9 rd rl rc rt ro u m f0 s (nI (cN (rQ S u s 0) n)))) [] := by
  have hn6 := hI.n6
  have t60 := hI.t60
  have ef : (nI f0).toInt = (f0 : Int) := nI_toInt (by omega)
  intro dd
  induction dd with
  | zero =>
    intro s mem c t hs hdu hL hF hR kk
    obtain rfl : s = f0 := by omega
    have hQ : ∀ i, i < n → (rQ S u s 0 i ↔ rPs S u i) := fun i hi => by
      constructor
      · exact fun z => z.1
      · intro z
        refine ⟨z, Or.inl ?_⟩
        obtain ⟨pk, pk1⟩ := hI.plN (i := i) (by omega)
        have q : (g_pl S (g_mv S).toNatClampNeg).toInt < (g_pl S i).toInt := z.1
        rw [hI.gmN, hf, pk, nI_toInt (by omega), nI_toInt (by omega)] at q
        omega
    have eN : cN (rQ S u s 0) n = cN (rPs S u) n := cN_congr n hQ
    rw [gLs_congr n hQ, eN] at hR
    rw [eN]
    refine E_iload dL_roll_61 (by rfl) ?_
    refine E_iload dL_roll_63 (by rfl) ?_
    refine E_icmp_le (n := _) rfl (tgt := 143) dL_roll_65 (by decide) (fun q65 => ?_) (fun q65 => ?_)
    · exact E_loc (rL7 rd rl rc rt u m s (nI (cN (rPs S u) n))) ⟨rfl, rfl, rfl, rfl, rfl, rfl, rfl, rfl, trivial⟩ (kk _ _ _ hL hF hR)
    · exact absurd (Int.le_refl _) q65
  | succ dd ih =>
    intro s mem c t hs hdu hL hF hR kk
    have es : (nI s).toInt = (s : Int) := nI_toInt (by omega)
    have rest : ∀ mem' c' t', La mem' rc rt c' t' → Fr rc rt m1 mem' → Rct (gLs (gRo S) m (rQ S u s n) n) c' t' m (nI (cN (rQ S u s n) n)) 1 → E G kL_roll R 1 6 mem' 137 (x_L (rLo rd rl rc rt ro u m f0 s n (nI (cN (rQ S u s n) n)))) [] := by
      intro mem' c' t' g1 g2 g3
      have hQ : ∀ i, i < n → (rQ S u s n i ↔ rQ S u (f0 + dd) 0 i) := fun i hi => by
        constructor
        · rintro ⟨z1, z2 | ⟨z2, z3⟩⟩
          · exact ⟨z1, Or.inl (by omega)⟩
          · exact ⟨z1, Or.inl (by omega)⟩
        · rintro ⟨z1, z2 | ⟨z2, z3⟩⟩
          · by_cases e : (g_pl S i).toNatClampNeg = s
            · exact ⟨z1, Or.inr ⟨e, hi⟩⟩
            · exact ⟨z1, Or.inl (by omega)⟩
          · omega
      have eN : cN (rQ S u s n) n = cN (rQ S u (f0 + dd) 0) n := cN_congr n hQ
      rw [gLs_congr n hQ, eN] at g3
      rw [eN]
      have e1 : nI s + (-1) = nI (f0 + dd) := by
        rw [← i_sub1, show nI s - 1 = nI (s - 1) from pk_sub (show 1 ≤ s by omega)]
        congr 1
        omega
      refine E_iinc (d := (-1)) dL_roll_137 (by rfl) (by decide) (Nat.le_of_ble_eq_true rfl) (by rfl) ?_
      refine E_goto (tgt := 61) dL_roll_140 (by decide) ?_
      exact E_loc (rL9 rd rl rc rt ro u m f0 (f0 + dd) (nI (cN (rQ S u (f0 + dd) 0) n))) ⟨rfl, rfl, rfl, rfl, rfl, rfl, rfl, rfl, rfl, x_i e1, trivial⟩ (ih (f0 + dd) mem' c' t' rfl (by omega) g1 g2 g3 kk)
    refine E_iload dL_roll_61 (by rfl) ?_
    refine E_iload dL_roll_63 (by rfl) ?_
    refine E_icmp_le (n := _) rfl (tgt := 143) dL_roll_65 (by decide) (fun q65 => ?_) (fun q65 => ?_)
    · exact absurd q65 (by omega)
    · refine E_iconst (v := 0) dL_roll_68 (by decide) ?_
      refine E_istore dL_roll_69 (Nat.le_of_ble_eq_true rfl) (by rfl) ?_
      exact E_loc (rLo rd rl rc rt ro u m f0 s 0 (nI (cN (rQ S u s 0) n))) ⟨rfl, rfl, rfl, rfl, rfl, rfl, rfl, rfl, rfl, rfl, rfl, trivial⟩ (y_rollK n1 n2 n3 n4 n5 n6 n7 hI hmn hd hl hf hf0 hu (by omega) (by omega) b1 b2 b3 hol n 0 mem c t (by omega) hL hF hR rest)
theorem x_app_l {i : Nat} {a : va_E} {xs : xM} (h : mem[i]? = some a) : (mem ++ xs)[i]? = some a := by
  rw [List.getElem?_append_left (List.getElem?_eq_some_iff.mp h).1]
  exact h
theorem x_app_n {a : va_E} : (mem ++ [a])[mem.length]? = some a := by
  rw [List.getElem?_append_right (Nat.le_refl _), Nat.sub_self]
  rfl
theorem x_app_s {a b : va_E} : (mem ++ [a]).set mem.length b = mem ++ [b] := by
  rw [List.set_append, if_neg (by omega), Nat.sub_self]
  rfl
theorem x_lt {i : Nat} {a : va_E} (h : mem[i]? = some a) : i < mem.length := (List.getElem?_eq_some_iff.mp h).1
theorem gLs_none {p : Nat → Prop} [DecidablePred p] : ∀ n, (∀ i, i < n → ¬ p i) → gLs V m p n = V
  | 0, _ => rfl
  | n + 1, h => by
    rw [gLs, if_neg (h n (by omega))]
    exact gLs_none n (fun i hi => h i (by omega))
def fOl (c : Nat → Int32) (i : Nat) : Nat → Int32 := fun j => if j < i then c (6 * j) else 0
theorem fOl_step (i : Nat) : upd (fOl c i) i (c (6 * i)) = fOl c (i + 1) := by
  funext j
  show (if j = i then c (6 * i) else if j < i then c (6 * j) else 0) = if j < i + 1 then c (6 * j) else 0
  by_cases h : j = i
  · subst h; rw [if_pos rfl, if_pos (by omega)]
  · rw [if_neg h]
    by_cases h2 : j < i
    · rw [if_pos h2, if_pos (by omega)]
    · rw [if_neg h2, if_neg (by omega)]
theorem Rct.ro1 (h : Rct S c t m 0 0) : Rct (gRo S) c t m 0 1 := by
  refine ⟨h.pl, h.tp, h.rs, h.tl, h.lm, h.sl, h.t0, h.t1, h.t2, ?_, h.t4, h.t5, h.t6⟩
  have q := h.t3
  rw [Int32.add_zero] at q
  show t 3 + 1 = g_ro S + 1
  rw [q]
/-- the law's roll: the class's roll in the law's rows; the answer is the number of those lifted -/
theorem y_roll (n1 : rc ≠ rt) (n2 : rd ≠ rc) (n3 : rd ≠ rt) (n4 : rl ≠ rc) (n5 : rl ≠ rt) (hI : Iv S T n m) (hmn : m < n) (hd : Rd S d) (hl : Ry S l) (hu : 1 ≤ u ∧ u ≤ 6) (hL : La mem rc rt c t) (b1 : mem[rd]? = some (g_a 0 61 d)) (b2 : mem[rl]? = some (g_a 0 61 l)) (hR : Rct S c t m 0 0) : Pt G kL_roll [.ref rd, .ref rl, .ref rc, .ref rt, .int (nI u)] mem (some (.int (nI (cN (rPs S u) n)))) (fun mm => ∃ c' t', La mm rc rt c' t' ∧ Fr rc rt mem mm ∧ Rct (gRoll S (nI u) n) c' t' m 0 0) := by
  have hn6 := hI.n6
  have t60 := hI.t60
  have en : (nI n).toInt = (n : Int) := nI_toInt (by omega)
  obtain ⟨f0, hf0, hf⟩ := hI.pl m (by omega)
  obtain ⟨h1, h2⟩ := id hL
  have ht1 : t 1 = nI n := hR.t1.trans hI.gc
  have ht2 : t 2 = nI m := hR.t2.trans hI.gm
  have hcm : c (6 * m) = nI f0 := (hR.pl m (by omega)).trans hf
  have lc := x_lt h1
  have lt := x_lt h2
  have fix := gRoll1_fix S (nI u) n
  have ft := gLiftTo_gLs (T := gRo S) (u := nI u) (m := m) hI.gm (by omega) n
  have er1 : gRoll1 S (nI u) n = gCome (gLs (gRo S) m (rPs S u) n) m (nI (f0 + u)) := by
    show gCome (gLiftTo (gRo S) (nI u) n) (g_mv S).toNatClampNeg (g_pl S (g_mv S).toNatClampNeg + nI u) = _
    have q : ∀ a, a = m → gCome (gLiftTo (gRo S) (nI u) n) a (g_pl S a + nI u) = gCome (gLs (gRo S) m (rPs S u) n) m (nI (f0 + u)) := by
      intro a e
      subst e
      rw [hf, nI_add, ft.1]
    exact q _ hI.gmN
  have r2e : gRoll2 S (nI u) n = g_wRs (gRoll1 S (nI u) n) (if g_isLa (gRoll1 S (nI u) n) (nI (f0 + u)) then upd (g_rs (gRoll1 S (nI u) n)) m (g_rs (gRoll1 S (nI u) n) m + 1) else g_rs (gRoll1 S (nI u) n)) := by
    have q : ∀ a, a = m → g_wRs (gRoll1 S (nI u) n) (if g_isLa (gRoll1 S (nI u) n) (g_pl S a + nI u) then upd (g_rs (gRoll1 S (nI u) n)) a (g_rs (gRoll1 S (nI u) n) a + 1) else g_rs (gRoll1 S (nI u) n)) = g_wRs (gRoll1 S (nI u) n) (if g_isLa (gRoll1 S (nI u) n) (nI (f0 + u)) then upd (g_rs (gRoll1 S (nI u) n)) m (g_rs (gRoll1 S (nI u) n) m + 1) else g_rs (gRoll1 S (nI u) n)) := by
      intro a e
      subst e
      rw [hf, nI_add]
    exact q _ hI.gmN
  have efu : (nI (f0 + u)).toInt = ((f0 + u : Nat) : Int) := nI_toInt (by omega)
  have gt1 : (g_top (gRoll1 S (nI u) n)).toInt = (T : Int) := by rw [show g_top (gRoll1 S (nI u) n) = g_top S from congrArg (fun z => z.1) fix.2.2.2]; exact hI.gtI
  have r2no : ¬ g_isLa (gRoll1 S (nI u) n) (nI (f0 + u)) → gRoll2 S (nI u) n = gRoll1 S (nI u) n := fun z => by rw [r2e, if_neg z]
  have r2no1 : ¬ f0 + u < T → gRoll2 S (nI u) n = gRoll1 S (nI u) n := fun z => r2no (fun q => by have q1 := q.1.2; omega)
  have r2no2 : f0 + u < T → ¬ (l (f0 + u)).toInt = 1 → gRoll2 S (nI u) n = gRoll1 S (nI u) n := fun z z2 => r2no (fun q => by
    have q1 := q.2
    rw [fix.2.1, nI_clamp (by omega)] at q1
    have q2 := hl.2 (f0 + u) (by omega)
    rcases q2.2 with e | e
    · rw [e] at q1; exact q1 (by decide)
    · rw [q2.1, e] at z2; exact z2 (by decide))
  have r2yes : f0 + u < T → (l (f0 + u)).toInt = 1 → gRoll2 S (nI u) n = g_wRs (gRoll1 S (nI u) n) (upd (g_rs (gRoll1 S (nI u) n)) m (g_rs (gRoll1 S (nI u) n) m + 1)) := fun z z2 => by
    rw [r2e, if_pos]
    refine ⟨⟨by omega, by omega⟩, ?_⟩
    rw [fix.2.1, nI_clamp (by omega), ← (hl.2 (f0 + u) (by omega)).1, z2]
    decide
  have gl2 : g_le (gLs (gRo S) m (rPs S u) n) = g_le S := (gLs_fix n).1
  have gt2 : g_top (gLs (gRo S) m (rPs S u) n) = nI T := (congrArg (fun z => z.1) (gLs_fix (V := gRo S) (m := m) (p := rPs S u) n).2.2.2).trans hI.gt
  refine Ct_of (by decide) (Nat.le_of_ble_eq_true rfl) ?_
  -- behind the lifts
  have fin : ∀ mem' c' t', La mem' rc rt c' t' → Fr rc rt mem mem' → Rct (gRoll2 S (nI u) n) c' t' m 0 0 → E G kL_roll (fun v' mm => v' = some (.int (nI (cN (rPs S u) n))) ∧ ∃ c' t', La mm rc rt c' t' ∧ Fr rc rt mem mm ∧ Rct (gRoll S (nI u) n) c' t' m 0 0) 1 6 mem' 220 (x_L (rL7 rd rl rc rt u m f0 (nI (cN (rPs S u) n)))) [] := by
    intro mem' c' t' g1 g2 g3
    have q1 : g_mv (gRoll2 S (nI u) n) = nI m := (congrArg (fun z => z.2.2.1) fix.2.2.2).trans hI.gm
    have q2 : g_cl (gRoll2 S (nI u) n) = nI n := (congrArg (fun z => z.2.1) fix.2.2.2).trans hI.gc
    have q3 : ∀ i, i < 6 → g_rs (gRoll2 S (nI u) n) i = 0 ∨ g_rs (gRoll2 S (nI u) n) i = 1 := by
      intro i hi
      show (if g_isLa (gRoll1 S (nI u) n) (g_pl S (g_mv S).toNatClampNeg + nI u) then upd (g_rs (gRoll1 S (nI u) n)) (g_mv S).toNatClampNeg (g_rs (gRoll1 S (nI u) n) (g_mv S).toNatClampNeg + 1) else g_rs (gRoll1 S (nI u) n)) i = 0 ∨ (if g_isLa (gRoll1 S (nI u) n) (g_pl S (g_mv S).toNatClampNeg + nI u) then upd (g_rs (gRoll1 S (nI u) n)) (g_mv S).toNatClampNeg (g_rs (gRoll1 S (nI u) n) (g_mv S).toNatClampNeg + 1) else g_rs (gRoll1 S (nI u) n)) i = 1
      rw [fix.2.2.1, hI.gmN]
      split
      · by_cases e : i = m
        · subst e; rw [upd_same, hI.r0]; exact Or.inr (by decide)
        · rw [upd_ne e]; exact hI.rs i hi
      · exact hI.rs i hi
    refine E_aload_n dL_roll_220 (by rfl) ?_
    refine E_aload_n dL_roll_221 (by rfl) ?_
    refine cw_L_roll_222 (by decide) (Nat.le_of_ble_eq_true rfl) (y_next n1 hn6 g1 g3 q1 q2 hmn q3) (fun m222 h222 => ?_)
    obtain ⟨c2, t2, k1, k2, k3⟩ := h222
    refine E_iload dL_roll_225 (by rfl) ?_
    refine E_iret dL_roll_227 rfl rfl (by decide) (by decide) ?_
    exact ⟨rfl, c2, t2, k1, Fr.tr g2 k2, k3⟩
  -- behind the loops
  have tail : ∀ mem' c' t', La mem' rc rt c' t' → Fr rc rt mem mem' → Rct (gLs (gRo S) m (rPs S u) n) c' t' m (nI (cN (rPs S u) n)) 1 → E G kL_roll (fun v' mm => v' = some (.int (nI (cN (rPs S u) n))) ∧ ∃ c' t', La mm rc rt c' t' ∧ Fr rc rt mem mm ∧ Rct (gRoll S (nI u) n) c' t' m 0 0) 1 6 mem' 143 (x_L (rL7 rd rl rc rt u m f0 (nI (cN (rPs S u) n)))) [] := by
    intro mem1 c1 t1 g1 g2 g3
    have hfin := Rct_fin g3 (by omega)
    obtain ⟨N, hN⟩ : ∃ N, N = nI (cN (rPs S u) n) := ⟨_, rfl⟩
    rw [← hN] at g3 hfin fin
    rw [← hN]
    have A1 := g1.setc (c' := upd c1 (6 * m + 4) (c1 (6 * m + 4) + N)) n1
    have A2 := A1.sett (t' := upd t1 3 (t1 3 + 1)) n1
    have A3 := A2.sett (t' := upd (upd t1 3 (t1 3 + 1)) 4 (t1 4 + N)) n1
    have F3 : Fr rc rt mem _ := Fr.tr g2 (Fr.tr (Fr.setc (x := g_a 0 36 (upd c1 (6 * m + 4) (c1 (6 * m + 4) + N)))) (Fr.tr (Fr.sett (x := g_a 0 7 (upd t1 3 (t1 3 + 1)))) (Fr.sett (x := g_a 0 7 (upd (upd t1 3 (t1 3 + 1)) 4 (t1 4 + N))))))
    have D3 := F3.get b1 n2 n3
    obtain ⟨k1, k2⟩ := id g1
    obtain ⟨k3, k4⟩ := id A1
    obtain ⟨k5, k6⟩ := id A2
    have efu : (nI (f0 + u)).toInt = ((f0 + u : Nat) : Int) := nI_toInt (by omega)
    have eT : (nI T).toInt = (T : Int) := nI_toInt (by omega)
    have e0 : t1 4 = upd t1 3 (t1 3 + 1) 4 := (upd_ne (by decide)).symm
    refine E_aload_n dL_roll_143 (by rfl) ?_
    refine E_bipush (v := 6) dL_roll_144 (by decide) ?_
    refine E_iload dL_roll_146 (by rfl) ?_
    refine E_imul dL_roll_148 ?_
    refine E_iconst (v := 4) dL_roll_149 (by decide) ?_
    refine E_iadd dL_roll_150 ?_
    refine E_dup2 dL_roll_151 rfl rfl ?_
    refine E_rd dL_roll_152 (by assumption) (ix m 4) (by omega) (by first | decide | omega) rfl ?_
    refine E_iload dL_roll_153 (by rfl) ?_
    refine E_iadd dL_roll_155 ?_
    refine E_wr dL_roll_156 (by assumption) (ix m 4) (by omega) (by first | decide | omega) ?_
    refine E_aload_n dL_roll_157 (by rfl) ?_
    refine E_iconst (v := 3) dL_roll_158 (by decide) ?_
    refine E_dup2 dL_roll_159 rfl rfl ?_
    refine E_rd dL_roll_160 (by assumption) (show (3 : Int32) = nI 3 from rfl) (by omega) (by first | decide | omega) rfl ?_
    refine E_iconst (v := 1) dL_roll_161 (by decide) ?_
    refine E_iadd dL_roll_162 ?_
    refine E_wr dL_roll_163 (by assumption) (show (3 : Int32) = nI 3 from rfl) (by omega) (by first | decide | omega) ?_
    refine E_aload_n dL_roll_164 (by rfl) ?_
    refine E_iconst (v := 4) dL_roll_165 (by decide) ?_
    refine E_dup2 dL_roll_166 rfl rfl ?_
    refine E_rd dL_roll_167 (by assumption) (show (4 : Int32) = nI 4 from rfl) (by omega) (by first | decide | omega) (upd_ne (by decide)) ?_
    refine E_iload dL_roll_168 (by rfl) ?_
    refine E_iadd dL_roll_170 ?_
    refine E_wr dL_roll_171 (by assumption) (show (4 : Int32) = nI 4 from rfl) (by omega) (by first | decide | omega) ?_
    refine E_aload_n dL_roll_172 (by rfl) ?_
    refine E_aload_n dL_roll_173 (by rfl) ?_
    refine E_aload_n dL_roll_174 (by rfl) ?_
    refine E_iload dL_roll_175 (by rfl) ?_
    refine E_iload dL_roll_177 (by rfl) ?_
    refine E_iload dL_roll_179 (by rfl) ?_
    refine E_iadd dL_roll_181 ?_
    refine E_eqi (nI_add f0 u) ?_
    refine cw_L_roll_182 (by decide) (Nat.le_of_ble_eq_true rfl) (y_come A3 D3 n1 n2 n3 (hd.of gl2) hfin.t0 gt2 t60 (by omega) (by omega)) (fun m182 h182 => ?_)
    obtain ⟨c4, t4, j1, j2, j3⟩ := h182
    have j4 := Rct_come hfin (w := m) (by omega) j3
    rw [← er1] at j4
    have jt : t4 0 = nI T := (j3.2.2.2.2.2 0 (by decide)).trans (hfin.t0.trans gt2)
    have F4 := Fr.tr F3 j2
    have L4 := F4.get b2 n4 n5
    obtain ⟨j5, j6⟩ := id j1
    refine E_iload dL_roll_185 (by rfl) ?_
    refine E_iload dL_roll_187 (by rfl) ?_
    refine E_iadd dL_roll_189 ?_
    refine E_eqi (nI_add f0 u) ?_
    refine E_aload_n dL_roll_190 (by rfl) ?_
    refine E_iconst (v := 0) dL_roll_191 (by decide) ?_
    refine E_rd dL_roll_192 (by assumption) (show (0 : Int32) = nI 0 from rfl) (by omega) (by first | decide | omega) jt ?_
    refine E_icmp_ge (n := _) rfl (tgt := 220) dL_roll_193 (by decide) (fun q193 => ?_) (fun q193 => ?_)
    · have hge : ¬ f0 + u < T := by omega
      first | exact E_loc (rL7 rd rl rc rt u m f0 N) ⟨rfl, rfl, rfl, rfl, rfl, rfl, rfl, rfl, trivial⟩ (fin _ c4 t4 j1 F4 (by rw [r2no1 hge]; exact j4)) | exact E_loc (rL7 rd rl rc rt u m f0 N) ⟨rfl, rfl, rfl, rfl, rfl, rfl, rfl, rfl, trivial⟩ (fin _ c4 t4 j1 F4 (by rw [r2no2 hlt q204]; exact j4)) | exact E_loc (rL7 rd rl rc rt u m f0 N) ⟨rfl, rfl, rfl, rfl, rfl, rfl, rfl, rfl, trivial⟩ (fin _ _ t4 K1 (Fr.tr F4 Fr.setc) (by rw [r2yes hlt q204, ← j4.rs m (by omega)]; exact K2))
    · have hlt : f0 + u < T := by omega
      refine E_aload_n dL_roll_196 (by rfl) ?_
      refine E_iload dL_roll_197 (by rfl) ?_
      refine E_iload dL_roll_199 (by rfl) ?_
      refine E_iadd dL_roll_201 ?_
      refine E_eqi (nI_add f0 u) ?_
      refine E_rd dL_roll_202 (by assumption) rfl (by omega) (by first | decide | omega) rfl ?_
      refine E_iconst (v := 1) dL_roll_203 (by decide) ?_
      refine E_icmp_ne (n := 1) (by decide) (tgt := 220) dL_roll_204 (by decide) (fun q204 => ?_) (fun q204 => ?_)
      · have q204 : ¬ (l (f0 + u)).toInt = 1 := q204
        first | exact E_loc (rL7 rd rl rc rt u m f0 N) ⟨rfl, rfl, rfl, rfl, rfl, rfl, rfl, rfl, trivial⟩ (fin _ c4 t4 j1 F4 (by rw [r2no1 hge]; exact j4)) | exact E_loc (rL7 rd rl rc rt u m f0 N) ⟨rfl, rfl, rfl, rfl, rfl, rfl, rfl, rfl, trivial⟩ (fin _ c4 t4 j1 F4 (by rw [r2no2 hlt q204]; exact j4)) | exact E_loc (rL7 rd rl rc rt u m f0 N) ⟨rfl, rfl, rfl, rfl, rfl, rfl, rfl, rfl, trivial⟩ (fin _ _ t4 K1 (Fr.tr F4 Fr.setc) (by rw [r2yes hlt q204, ← j4.rs m (by omega)]; exact K2))
      · have q204 : (l (f0 + u)).toInt = 1 := q204
        have K1 := j1.setc (c' := upd c4 (6 * m + 2) (c4 (6 * m + 2) + 1)) n1
        have K2 := j4.res (x := m) (by omega) (g_rs (gRoll1 S (nI u) n) m + 1) (g_lo (gRoll1 S (nI u) n)) (fun _ => trivial)
        rw [upd_id j4.t6, ← j4.rs m (by omega)] at K2
        refine E_aload_n dL_roll_207 (by rfl) ?_
        refine E_bipush (v := 6) dL_roll_208 (by decide) ?_
        refine E_iload dL_roll_210 (by rfl) ?_
        refine E_imul dL_roll_212 ?_
        refine E_iconst (v := 2) dL_roll_213 (by decide) ?_
        refine E_iadd dL_roll_214 ?_
        refine E_dup2 dL_roll_215 rfl rfl ?_
        refine E_rd dL_roll_216 (by assumption) (ix m 2) (by omega) (by first | decide | omega) rfl ?_
        refine E_iconst (v := 1) dL_roll_217 (by decide) ?_
        refine E_iadd dL_roll_218 ?_
        refine E_wr dL_roll_219 (by assumption) (ix m 2) (by omega) (by first | decide | omega) ?_
        first | exact E_loc (rL7 rd rl rc rt u m f0 N) ⟨rfl, rfl, rfl, rfl, rfl, rfl, rfl, rfl, trivial⟩ (fin _ c4 t4 j1 F4 (by rw [r2no1 hge]; exact j4)) | exact E_loc (rL7 rd rl rc rt u m f0 N) ⟨rfl, rfl, rfl, rfl, rfl, rfl, rfl, rfl, trivial⟩ (fin _ c4 t4 j1 F4 (by rw [r2no2 hlt q204]; exact j4)) | exact E_loc (rL7 rd rl rc rt u m f0 N) ⟨rfl, rfl, rfl, rfl, rfl, rfl, rfl, rfl, trivial⟩ (fin _ _ t4 K1 (Fr.tr F4 Fr.setc) (by rw [r2yes hlt q204, ← j4.rs m (by omega)]; exact K2))
  have hnoQ : ∀ i, i < n → ¬ rQ S u (f0 + u - 1) 0 i := fun i hi z => by
    obtain ⟨pk, pk1⟩ := hI.plN (i := i) (by omega)
    have q : (g_pl S i).toInt < (g_pl S (g_mv S).toNatClampNeg + nI u).toInt := z.1.2.1
    rw [hI.gmN, hf, nI_add, pk, nI_toInt (by omega), nI_toInt (by omega)] at q
    rcases z.2 with z2 | z2
    · omega
    · omega
  have hz : cN (rQ S u (f0 + u - 1) 0) n = 0 := cN_none n hnoQ
  have hol : ∀ i, i < n → fOl c n i = g_pl S i := fun i hi => by
    unfold fOl
    rw [if_pos hi, hR.pl i (by omega)]
  have lrd := x_lt b1
  have lrl := x_lt b2
  have loop : ∀ di i : Nat, n < i + di → i ≤ n → E G kL_roll (fun v' mm => v' = some (.int (nI (cN (rPs S u) n))) ∧ ∃ c' t', La mm rc rt c' t' ∧ Fr rc rt mem mm ∧ Rct (gRoll S (nI u) n) c' t' m 0 0) 1 6 ((mem ++ [g_a 0 6 (fOl c i)])) 26 (x_L [(0, .ref rd), (1, .ref rl), (2, .ref rc), (3, .ref rt), (4, .int (nI u)), (5, .int (nI m)), (6, .int (nI f0)), (7, .int 0), (8, .ref mem.length), (9, .int (nI i))]) [] := by
    intro di
    induction di with
    | zero => intro i hi1 hi2; exact absurd hi1 (by omega)
    | succ di ihi =>
      intro i hi1 hi2
      have ei : (nI i).toInt = (i : Int) := nI_toInt (by omega)
      have eci : (nI i).toNatClampNeg = i := nI_clamp (by omega)
      have l1 : (mem ++ [g_a 0 6 (fOl c i)])[rc]? = some (g_a 0 36 c) := x_app_l h1
      have l2 : (mem ++ [g_a 0 6 (fOl c i)])[rt]? = some (g_a 0 7 t) := x_app_l h2
      have l3 : (mem ++ [g_a 0 6 (fOl c i)])[mem.length]? = some (g_a 0 6 (fOl c i)) := x_app_n
      refine E_iload dL_roll_26 (by rfl) ?_
      refine E_aload_n dL_roll_28 (by rfl) ?_
      refine E_iconst (v := 1) dL_roll_29 (by decide) ?_
      refine E_rd dL_roll_30 (by assumption) (show (1 : Int32) = nI 1 from rfl) (by omega) (by first | decide | omega) ht1 ?_
      refine E_icmp_ge (n := _) rfl (tgt := 52) dL_roll_31 (by decide) (fun q31 => ?_) (fun q31 => ?_)
      · obtain rfl : i = n := by omega
        refine E_iload dL_roll_52 (by rfl) ?_
        refine E_iload dL_roll_54 (by rfl) ?_
        refine E_iadd dL_roll_56 ?_
        refine E_eqi (nI_add f0 u) ?_
        refine E_iconst (v := 1) dL_roll_57 (by decide) ?_
        refine E_isub dL_roll_58 ?_
        refine E_eqi (show nI (f0 + u) - 1 = nI (f0 + u - 1) from pk_sub (show 1 ≤ f0 + u by omega)) ?_
        refine E_istore dL_roll_59 (Nat.le_of_ble_eq_true rfl) (by rfl) ?_
        exact E_loc (rL9 rd rl rc rt mem.length u m f0 (f0 + u - 1) (nI (cN (rQ S u (f0 + u - 1) 0) i))) ⟨rfl, rfl, rfl, rfl, rfl, rfl, rfl, x_i (by rw [hz]; rfl), rfl, rfl, trivial⟩ (y_rollS (m1 := mem ++ [g_a 0 6 (fOl c i)]) n1 n2 n3 n4 n5 (by omega) (by omega) hI hmn hd hl hf hf0 hu (x_app_l b1) (x_app_l b2) x_app_n hol (u - 1) (f0 + u - 1) _ c t (by omega) (by omega) ⟨l1, l2⟩ Fr.rf (by rw [gLs_none i hnoQ, hz]; exact hR.ro1) (fun mem' c' t' g1 g2 g3 => tail mem' c' t' g1 (Fr.tr Fr.app g2) g3))
      · refine E_aload dL_roll_34 (by rfl) ?_
        refine E_iload dL_roll_36 (by rfl) ?_
        refine E_aload_n dL_roll_38 (by rfl) ?_
        refine E_bipush (v := 6) dL_roll_39 (by decide) ?_
        refine E_iload dL_roll_41 (by rfl) ?_
        refine E_imul dL_roll_43 ?_
        refine E_rd dL_roll_44 (by assumption) (ix0 i) (by omega) (by first | decide | omega) rfl ?_
        refine E_wr dL_roll_45 (by assumption) rfl (by omega) (by first | decide | omega) ?_
        refine E_iinc (d := 1) dL_roll_46 (by rfl) (by decide) (Nat.le_of_ble_eq_true rfl) (by rfl) ?_
        refine E_goto (tgt := 26) dL_roll_49 (by decide) ?_
        refine E_mem (mem' := mem ++ [g_a 0 6 (fOl c (i + 1))]) (by rw [x_app_s, fOl_step]) ?_
        exact E_loc [(0, .ref rd), (1, .ref rl), (2, .ref rc), (3, .ref rt), (4, .int (nI u)), (5, .int (nI m)), (6, .int (nI f0)), (7, .int 0), (8, .ref mem.length), (9, .int (nI (i + 1)))] ⟨rfl, rfl, rfl, rfl, rfl, rfl, rfl, rfl, rfl, x_i (by first | exact nI_1 _ | decide), trivial⟩ (ihi (i + 1) (by omega) (by omega))
  refine E_aload_n dL_roll_0 (by rfl) ?_
  refine E_iconst (v := 2) dL_roll_1 (by decide) ?_
  refine E_rd dL_roll_2 (by assumption) (show (2 : Int32) = nI 2 from rfl) (by omega) (by first | decide | omega) ht2 ?_
  refine E_istore dL_roll_3 (Nat.le_of_ble_eq_true rfl) (by rfl) ?_
  refine E_aload_n dL_roll_5 (by rfl) ?_
  refine E_bipush (v := 6) dL_roll_6 (by decide) ?_
  refine E_iload dL_roll_8 (by rfl) ?_
  refine E_imul dL_roll_10 ?_
  refine E_rd dL_roll_11 (by assumption) (ix0 m) (by omega) (by first | decide | omega) hcm ?_
  refine E_istore dL_roll_12 (Nat.le_of_ble_eq_true rfl) (by rfl) ?_
  refine E_iconst (v := 0) dL_roll_14 (by decide) ?_
  refine E_istore dL_roll_15 (Nat.le_of_ble_eq_true rfl) (by rfl) ?_
  refine E_bipush (v := 6) dL_roll_17 (by decide) ?_
  refine E_newi (N := 6) dL_roll_19 wa_int (by decide) (by decide) (by decide) (by decide) (by decide) ?_
  refine E_astore dL_roll_21 (Nat.le_of_ble_eq_true rfl) (by rfl) ?_
  refine E_iconst (v := 0) dL_roll_23 (by decide) ?_
  refine E_istore dL_roll_24 (Nat.le_of_ble_eq_true rfl) (by rfl) ?_
  refine E_mem (mem' := mem ++ [g_a 0 6 (fOl c 0)]) rfl ?_
  exact E_loc [(0, .ref rd), (1, .ref rl), (2, .ref rc), (3, .ref rt), (4, .int (nI u)), (5, .int (nI m)), (6, .int (nI f0)), (7, .int 0), (8, .ref mem.length), (9, .int (nI 0))] ⟨rfl, rfl, rfl, rfl, rfl, rfl, rfl, rfl, rfl, rfl, trivial⟩ (loop (n + 1) 0 (by omega) (by omega))
end LS
