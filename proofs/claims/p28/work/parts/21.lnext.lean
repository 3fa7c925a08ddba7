/-! the law: the next one is on the move -/
section LN
variable {G : xG} {mem : xM} {rd rc rt w x T m m0 i j n y u : Nat} {c t d c' t' l : Nat → Int32} {S : gS} {lf ro v : Int32} {R : Option Value → xM → Prop}
abbrev g_mvd (S : gS) (y : Nat) : gS := g_wO S (g_top S) (g_cl S) (nI y) (g_ro S) (g_lo S)
theorem gBeh_nx (h : g_cl S = nI n) (hn : n ≤ 6) (hx : x < n) : gBeh S (nI x) = nI ((x + 1) % n) := by
  have e1 : nI x + 1 = nI (x + 1) := nI_1 x
  unfold gBeh
  rw [e1]
  by_cases e : x + 1 < n
  · rw [if_pos (show g_isCl S (nI (x + 1)) from ⟨by rw [nI_toInt (by omega)]; omega, by rw [h, nI_toInt (by omega), nI_toInt (by omega)]; omega⟩), Nat.mod_eq_of_lt e]
  · rw [if_neg (fun v => by have := v.2; rw [h, nI_toInt (by omega), nI_toInt (by omega)] at this; omega), show x + 1 = n by omega, Nat.mod_self]
    rfl
theorem Rct.mvd (h : Rct S c t m0 lf ro) (y : Nat) : Rct (g_mvd S y) c (upd t 2 (nI y)) m0 lf ro :=
  ⟨h.pl, h.tp, h.rs, h.tl, h.lm, h.sl, (upd_ne (by decide)).trans h.t0, (upd_ne (by decide)).trans h.t1, upd_same, by rw [upd_ne (by decide)]; exact h.t3, by rw [upd_ne (by decide)]; exact h.t4, (upd_ne (by decide)).trans h.t5, (upd_ne (by decide)).trans h.t6⟩
abbrev g_lft (S : gS) (x : Nat) : gS := g_wO (g_wRs S (upd (g_rs S) x (g_rs S x - 1))) (g_top S) (g_cl S) (g_mv S) (g_ro S) (g_lo S + 1)
/-- the rows where c x 2 is v, and t 6 is u -/
theorem Rct.res (h : Rct S c t m0 lf ro) (hx : x < 6) (v u : Int32) (hr : g_rs S x = v → True) : Rct (g_wO (g_wRs S (upd (g_rs S) x v)) (g_top S) (g_cl S) (g_mv S) (g_ro S) u) (upd c (6 * x + 2) v) (upd t 6 u) m0 lf ro := by
  have hc : ∀ j i, i < 6 → j < 6 → j ≠ 2 → upd c (6 * x + 2) v (6 * i + j) = c (6 * i + j) := fun j i hi hj h2 => upd_ne (by omega)
  refine ⟨fun i hi => (hc 0 i hi (by decide) (by decide)).trans (h.pl i hi), fun i hi => (hc 1 i hi (by decide) (by decide)).trans (h.tp i hi), fun i hi => ?_, fun i hi => (hc 3 i hi (by decide) (by decide)).trans (h.tl i hi), fun i hi => ?_, fun i hi => (hc 5 i hi (by decide) (by decide)).trans (h.sl i hi), (upd_ne (by decide)).trans h.t0, (upd_ne (by decide)).trans h.t1, (upd_ne (by decide)).trans h.t2, by rw [upd_ne (by decide)]; exact h.t3, by rw [upd_ne (by decide)]; exact h.t4, (upd_ne (by decide)).trans h.t5, upd_same⟩
  · show upd c (6 * x + 2) v (6 * i + 2) = upd (g_rs S) x v i
    by_cases e : i = x
    · subst e; rw [upd_same, upd_same]
    · rw [upd_ne e, upd_ne (by omega), h.rs i hi]
  · rw [hc 4 i hi (by decide) (by decide)]
    exact h.lm i hi
theorem upd_id {f : Nat → Int32} {i : Nat} {v : Int32} (h : f i = v) : upd f i v = f := by
  rw [← h]
  exact upd_self
theorem gSkF_mv (a : Int32) : ∀ (u : Nat) (S : gS) (z : Int32), gSkF u (g_wO S (g_top S) (g_cl S) a (g_ro S) (g_lo S)) z = gSkF u S z
  | 0, S, z => rfl
  | u + 1, S, z => by
    rw [gSkF, gSkF]
    by_cases e : 0 < (g_rs S z.toNatClampNeg).toInt
    · rw [if_pos e, if_pos e]
      exact (gSkF_mv a u (g_wO (g_wRs S (upd (g_rs S) z.toNatClampNeg (g_rs S z.toNatClampNeg - 1))) (g_top S) (g_cl S) (g_mv S) (g_ro S) (g_lo S + 1)) _)
    · rw [if_neg e, if_neg e]
theorem y_next1 (hL : La mem rc rt c t) (ht1 : t 1 = nI n) (ht2 : t 2 = nI y) (hn : n ≤ 6) (hy : y < n) (hxe : x = (y + 1) % n) (kk : E G kL_next R 0 0 (mem.set rt (g_a 0 7 (upd t 2 (nI x)))) 29 (x_L [(0, .ref rc), (1, .ref rt), (2, .int 0)]) []) : E G kL_next R 0 0 mem 2 (x_L [(0, .ref rc), (1, .ref rt), (2, .int 0)]) [] := by
  have eyn : (nI n).toInt = (n : Int) := nI_toInt (by omega)
  have ey1 : (nI y + 1).toInt = (y : Int) + 1 := by rw [show nI y + 1 = nI (y + 1) from nI_1 y, nI_toInt (by omega)]; omega
  obtain ⟨h1, h2⟩ := id hL
  have rest : E G kL_next R 0 0 mem 28 (x_L [(0, .ref rc), (1, .ref rt), (2, .int 0)]) [.int (nI x), .int 2, .ref rt] := by
    refine E_wr dL_next_28 (by assumption) (show (2 : Int32) = nI 2 from rfl) (by omega) (by first | decide | omega) ?_
    exact kk
  refine E_iload_n dL_next_2 (by rfl) ?_
  refine E_if_ne (tgt := 89) dL_next_3 (by decide) (fun q3 => ?_) (fun q3 => ?_)
  · exact absurd rfl q3
  · refine E_aload_n dL_next_6 (by rfl) ?_
    refine E_iconst (v := 2) dL_next_7 (by decide) ?_
    refine E_aload_n dL_next_8 (by rfl) ?_
    refine E_iconst (v := 2) dL_next_9 (by decide) ?_
    refine E_rd dL_next_10 (by assumption) (show (2 : Int32) = nI 2 from rfl) (by omega) (by first | decide | omega) ht2 ?_
    refine E_iconst (v := 1) dL_next_11 (by decide) ?_
    refine E_iadd dL_next_12 ?_
    refine E_aload_n dL_next_13 (by rfl) ?_
    refine E_iconst (v := 1) dL_next_14 (by decide) ?_
    refine E_rd dL_next_15 (by assumption) (show (1 : Int32) = nI 1 from rfl) (by omega) (by first | decide | omega) ht1 ?_
    refine E_icmp_ne (n := _) rfl (tgt := 23) dL_next_16 (by decide) (fun q16 => ?_) (fun q16 => ?_)
    · have ex : x = y + 1 := by rw [hxe]; exact Nat.mod_eq_of_lt (by omega)
      refine E_aload_n dL_next_23 (by rfl) ?_
      refine E_iconst (v := 2) dL_next_24 (by decide) ?_
      refine E_rd dL_next_25 (by assumption) (show (2 : Int32) = nI 2 from rfl) (by omega) (by first | decide | omega) ht2 ?_
      refine E_iconst (v := 1) dL_next_26 (by decide) ?_
      refine E_iadd dL_next_27 ?_
      first | exact E_eqi (by rw [ex]; exact nI_1 y) rest | exact E_eqi (by rw [ex]; rfl) rest
    · have ex : x = 0 := by rw [hxe, show y + 1 = n by omega, Nat.mod_self]
      refine E_iconst (v := 0) dL_next_19 (by decide) ?_
      refine E_goto (tgt := 28) dL_next_20 (by decide) ?_
      first | exact E_eqi (by rw [ex]; exact nI_1 y) rest | exact E_eqi (by rw [ex]; rfl) rest
theorem y_nextA (n1 : rc ≠ rt) (hL : La mem rc rt c t) (hx : x < 6) (ht2 : t 2 = nI x) (hc0 : c (6 * x + 2) = 0) (kR : ∀ mm, La mm rc rt c t → Fr rc rt mem mm → R none mm) : E G kL_next R 0 0 mem 29 (x_L [(0, .ref rc), (1, .ref rt), (2, .int 0)]) [] := by
  obtain ⟨h1, h2⟩ := id hL
  have e1 : upd c (6 * x + 2) (c (6 * x + 2) - 0) = c := by rw [Int32.sub_zero]; exact upd_self
  have e2 : upd t 6 (t 6 + 0) = t := by rw [Int32.add_zero]; exact upd_self
  have hS := hL.setc (c' := upd c (6 * x + 2) (c (6 * x + 2) - 0)) n1
  have hT := hS.sett (t' := upd t 6 (t 6 + 0)) n1
  obtain ⟨s1, s2⟩ := id hS
  refine E_aload_n dL_next_29 (by rfl) ?_
  refine E_bipush (v := 6) dL_next_30 (by decide) ?_
  refine E_aload_n dL_next_32 (by rfl) ?_
  refine E_iconst (v := 2) dL_next_33 (by decide) ?_
  refine E_rd dL_next_34 (by assumption) (show (2 : Int32) = nI 2 from rfl) (by omega) (by first | decide | omega) ht2 ?_
  refine E_imul dL_next_35 ?_
  refine E_iconst (v := 2) dL_next_36 (by decide) ?_
  refine E_iadd dL_next_37 ?_
  refine E_rd dL_next_38 (by assumption) (ix x 2) (by omega) (by first | decide | omega) hc0 ?_
  refine E_if_ne (tgt := 46) dL_next_39 (by decide) (fun q39 => ?_) (fun q39 => ?_)
  · exact absurd rfl q39
  · refine E_iconst (v := 1) dL_next_42 (by decide) ?_
    refine E_goto (tgt := 47) dL_next_43 (by decide) ?_
    refine E_istore_n dL_next_47 (Nat.le_of_ble_eq_true rfl) (by rfl) ?_
    refine E_aload_n dL_next_48 (by rfl) ?_
    refine E_bipush (v := 6) dL_next_49 (by decide) ?_
    refine E_aload_n dL_next_51 (by rfl) ?_
    refine E_iconst (v := 2) dL_next_52 (by decide) ?_
    refine E_rd dL_next_53 (by assumption) (show (2 : Int32) = nI 2 from rfl) (by omega) (by first | decide | omega) ht2 ?_
    refine E_imul dL_next_54 ?_
    refine E_iconst (v := 2) dL_next_55 (by decide) ?_
    refine E_iadd dL_next_56 ?_
    refine E_dup2 dL_next_57 rfl rfl ?_
    refine E_rd dL_next_58 (by assumption) (ix x 2) (by omega) (by first | decide | omega) rfl ?_
    refine E_iload_n dL_next_59 (by rfl) ?_
    refine E_if_eq (tgt := 67) dL_next_60 (by decide) (fun q60 => ?_) (fun q60 => ?_)
    · exact absurd q60 (by decide)
    · refine E_iconst (v := 0) dL_next_63 (by decide) ?_
      refine E_goto (tgt := 68) dL_next_64 (by decide) ?_
      refine E_isub dL_next_68 ?_
      refine E_wr dL_next_69 (by assumption) (ix x 2) (by omega) (by first | decide | omega) ?_
      refine E_aload_n dL_next_70 (by rfl) ?_
      refine E_bipush (v := 6) dL_next_71 (by decide) ?_
      refine E_dup2 dL_next_73 rfl rfl ?_
      refine E_rd dL_next_74 (by assumption) (show (6 : Int32) = nI 6 from rfl) (by omega) (by first | decide | omega) rfl ?_
      refine E_iload_n dL_next_75 (by rfl) ?_
      refine E_if_eq (tgt := 83) dL_next_76 (by decide) (fun q76 => ?_) (fun q76 => ?_)
      · exact absurd q76 (by decide)
      · refine E_iconst (v := 0) dL_next_79 (by decide) ?_
        refine E_goto (tgt := 84) dL_next_80 (by decide) ?_
        refine E_iadd dL_next_84 ?_
        refine E_wr dL_next_85 (by assumption) (show (6 : Int32) = nI 6 from rfl) (by omega) (by first | decide | omega) ?_
        refine E_goto (tgt := 2) dL_next_86 (by decide) ?_
        refine E_iload_n dL_next_2 (by rfl) ?_
        refine E_if_ne (tgt := 89) dL_next_3 (by decide) (fun q3 => ?_) (fun q3 => ?_)
        · refine E_vret dL_next_89 rfl (Nat.zero_le _) (Nat.zero_le _) ?_
          refine kR _ ?_ (Fr.tr Fr.setc Fr.sett)
          rw [e1, e2] at hT
          rw [e1, e2]
          exact hT
        · exact absurd q3 (by decide)
theorem y_nextB (n1 : rc ≠ rt) (hL : La mem rc rt c t) (hx : x < 6) (ht2 : t 2 = nI x) (hc0 : c (6 * x + 2) = 1) (kk : ∀ mm, La mm rc rt (upd c (6 * x + 2) (c (6 * x + 2) - 1)) (upd t 6 (t 6 + 1)) → Fr rc rt mem mm → E G kL_next R 0 0 mm 2 (x_L [(0, .ref rc), (1, .ref rt), (2, .int 0)]) []) : E G kL_next R 0 0 mem 29 (x_L [(0, .ref rc), (1, .ref rt), (2, .int 0)]) [] := by
  obtain ⟨h1, h2⟩ := id hL
  have hS := hL.setc (c' := upd c (6 * x + 2) (c (6 * x + 2) - 1)) n1
  have hT := hS.sett (t' := upd t 6 (t 6 + 1)) n1
  obtain ⟨s1, s2⟩ := id hS
  refine E_aload_n dL_next_29 (by rfl) ?_
  refine E_bipush (v := 6) dL_next_30 (by decide) ?_
  refine E_aload_n dL_next_32 (by rfl) ?_
  refine E_iconst (v := 2) dL_next_33 (by decide) ?_
  refine E_rd dL_next_34 (by assumption) (show (2 : Int32) = nI 2 from rfl) (by omega) (by first | decide | omega) ht2 ?_
  refine E_imul dL_next_35 ?_
  refine E_iconst (v := 2) dL_next_36 (by decide) ?_
  refine E_iadd dL_next_37 ?_
  refine E_rd dL_next_38 (by assumption) (ix x 2) (by omega) (by first | decide | omega) hc0 ?_
  refine E_if_ne (tgt := 46) dL_next_39 (by decide) (fun q39 => ?_) (fun q39 => ?_)
  · refine E_iconst (v := 0) dL_next_46 (by decide) ?_
    refine E_istore_n dL_next_47 (Nat.le_of_ble_eq_true rfl) (by rfl) ?_
    refine E_aload_n dL_next_48 (by rfl) ?_
    refine E_bipush (v := 6) dL_next_49 (by decide) ?_
    refine E_aload_n dL_next_51 (by rfl) ?_
    refine E_iconst (v := 2) dL_next_52 (by decide) ?_
    refine E_rd dL_next_53 (by assumption) (show (2 : Int32) = nI 2 from rfl) (by omega) (by first | decide | omega) ht2 ?_
    refine E_imul dL_next_54 ?_
    refine E_iconst (v := 2) dL_next_55 (by decide) ?_
    refine E_iadd dL_next_56 ?_
    refine E_dup2 dL_next_57 rfl rfl ?_
    refine E_rd dL_next_58 (by assumption) (ix x 2) (by omega) (by first | decide | omega) rfl ?_
    refine E_iload_n dL_next_59 (by rfl) ?_
    refine E_if_eq (tgt := 67) dL_next_60 (by decide) (fun q60 => ?_) (fun q60 => ?_)
    · refine E_iconst (v := 1) dL_next_67 (by decide) ?_
      refine E_isub dL_next_68 ?_
      refine E_wr dL_next_69 (by assumption) (ix x 2) (by omega) (by first | decide | omega) ?_
      refine E_aload_n dL_next_70 (by rfl) ?_
      refine E_bipush (v := 6) dL_next_71 (by decide) ?_
      refine E_dup2 dL_next_73 rfl rfl ?_
      refine E_rd dL_next_74 (by assumption) (show (6 : Int32) = nI 6 from rfl) (by omega) (by first | decide | omega) rfl ?_
      refine E_iload_n dL_next_75 (by rfl) ?_
      refine E_if_eq (tgt := 83) dL_next_76 (by decide) (fun q76 => ?_) (fun q76 => ?_)
      · refine E_iconst (v := 1) dL_next_83 (by decide) ?_
        refine E_iadd dL_next_84 ?_
        refine E_wr dL_next_85 (by assumption) (show (6 : Int32) = nI 6 from rfl) (by omega) (by first | decide | omega) ?_
        refine E_goto (tgt := 2) dL_next_86 (by decide) ?_
        exact E_loc [(0, .ref rc), (1, .ref rt), (2, .int 0)] ⟨rfl, rfl, rfl, trivial⟩ (kk _ hT (Fr.tr Fr.setc Fr.sett))
      · exact absurd rfl q76
    · exact absurd rfl q60
  · exact absurd q39 (by decide)
theorem y_nextL (n1 : rc ≠ rt) (hn : n ≤ 6) : ∀ (u : Nat) (S : gS) (y : Nat) (c t : Nat → Int32) (mem : xM) (R : Option Value → xM → Prop), La mem rc rt c t → Rct S c t m0 lf ro → g_mv S = nI y → g_cl S = nI n → y < n → (∀ i, i < 6 → g_rs S i = 0 ∨ g_rs S i = 1) → cN (fun i => g_rs S i = 1) n ≤ u → (∀ mm c' t', La mm rc rt c' t' → Fr rc rt mem mm → Rct (gSkF u S (nI ((y + 1) % n))) c' t' m0 lf ro → R none mm) → E G kL_next R 0 0 mem 2 (x_L [(0, .ref rc), (1, .ref rt), (2, .int 0)]) [] := by
  intro u
  have caseA : ∀ (u : Nat) (S : gS) (y : Nat) (c t : Nat → Int32) (mem : xM) (R : Option Value → xM → Prop), La mem rc rt c t → Rct S c t m0 lf ro → g_mv S = nI y → g_cl S = nI n → y < n → g_rs S ((y + 1) % n) = 0 → (∀ mm c' t', La mm rc rt c' t' → Fr rc rt mem mm → Rct (gSkF u S (nI ((y + 1) % n))) c' t' m0 lf ro → R none mm) → E G kL_next R 0 0 mem 2 (x_L [(0, .ref rc), (1, .ref rt), (2, .int 0)]) [] := by
    intro u S y c t mem R hL hR hmv hcl hy h0 kR
    have hx : (y + 1) % n < n := Nat.mod_lt _ (by omega)
    refine y_next1 hL (hR.t1.trans hcl) (hR.t2.trans hmv) hn hy rfl ?_
    refine y_nextA n1 (hL.sett n1) (x := (y + 1) % n) (by omega) upd_same ((hR.rs _ (by omega)).trans h0) (fun mm hm hf => ?_)
    refine kR mm _ _ hm (Fr.tr Fr.sett hf) ?_
    have e : gSkF u S (nI ((y + 1) % n)) = g_mvd S ((y + 1) % n) := by
      cases u with
      | zero => rfl
      | succ u => rw [gSkF, nI_clamp (by omega), h0, if_neg (by decide)]
    rw [e]
    exact hR.mvd _
  induction u with
  | zero =>
    intro S y c t mem R hL hR hmv hcl hy hrs hu kR
    have hx : (y + 1) % n < n := Nat.mod_lt _ (by omega)
    refine caseA 0 S y c t mem R hL hR hmv hcl hy ?_ kR
    rcases hrs ((y + 1) % n) (by omega) with e | e
    · exact e
    · have := cN_lt (p := fun _ => False) (q := fun i => g_rs S i = 1) n (fun _ _ v => v.elim) ⟨_, hx, e, id⟩
      omega
  | succ u ih =>
    intro S y c t mem R hL hR hmv hcl hy hrs hu kR
    have hx : (y + 1) % n < n := Nat.mod_lt _ (by omega)
    rcases hrs ((y + 1) % n) (by omega) with e | e
    · exact caseA (u + 1) S y c t mem R hL hR hmv hcl hy e kR
    · obtain ⟨x, hxe⟩ : ∃ x, x = (y + 1) % n := ⟨_, rfl⟩
      rw [← hxe] at hx e kR
      refine y_next1 hL (hR.t1.trans hcl) (hR.t2.trans hmv) hn hy hxe ?_
      have hM := hR.mvd x
      refine y_nextB n1 (hL.sett n1) (x := x) (by omega) upd_same ((hR.rs _ (by omega)).trans e) (fun mm hm hf => ?_)
      have hM2 := hM.res (x := x) (by omega) (g_rs S x - 1) (g_lo S + 1) (fun _ => trivial)
      have ec : c (6 * x + 2) = g_rs S x := hR.rs _ (by omega)
      have et : upd t 2 (nI x) 6 = g_lo S := (upd_ne (by decide)).trans hR.t6
      rw [ec, et] at hm
      refine ih (g_lft (g_mvd S x) x) x _ _ mm R hm hM2 rfl hcl hx (fun i hi => ?_) ?_ (fun m2 c' t' q1 q2 q3 => kR m2 c' t' q1 (Fr.tr (Fr.tr Fr.sett hf) q2) ?_)
      · show upd (g_rs S) x (g_rs S x - 1) i = 0 ∨ upd (g_rs S) x (g_rs S x - 1) i = 1
        by_cases ei : i = x
        · subst ei; rw [upd_same, e]; exact Or.inl (by decide)
        · rw [upd_ne ei]; exact hrs i hi
      · have := cN_lt (p := fun i => g_rs (g_lft (g_mvd S x) x) i = 1) (q := fun i => g_rs S i = 1) n (fun i hi v => ?_) ⟨x, hx, e, fun v => ?_⟩
        · omega
        · have v2 : upd (g_rs S) x (g_rs S x - 1) i = 1 := v
          by_cases ei : i = x
          · subst ei; exact e
          · rw [upd_ne ei] at v2; exact v2
        · have v2 : upd (g_rs S) x (g_rs S x - 1) x = 1 := v
          rw [upd_same, e] at v2
          exact absurd v2 (by decide)
      · rw [gSkF, nI_clamp (by omega), if_pos (by rw [e]; decide), gBeh_nx hcl hn hx]
        have q4 := gSkF_mv (nI x) u (g_wO (g_wRs S (upd (g_rs S) x (g_rs S x - 1))) (g_top S) (g_cl S) (g_mv S) (g_ro S) (g_lo S + 1)) (nI ((x + 1) % n))
        rw [← q4]
        exact q3
theorem y_next (n1 : rc ≠ rt) (hn : n ≤ 6) (hL : La mem rc rt c t) (hR : Rct S c t m0 lf ro) (hmv : g_mv S = nI y) (hcl : g_cl S = nI n) (hy : y < n) (hrs : ∀ i, i < 6 → g_rs S i = 0 ∨ g_rs S i = 1) : Pt G kL_next [.ref rc, .ref rt] mem none (fun mm => ∃ c' t', La mm rc rt c' t' ∧ Fr rc rt mem mm ∧ Rct (gNext S) c' t' m0 lf ro) := by
  refine Ct_of (by decide) (Nat.le_of_ble_eq_true rfl) ?_
  refine E_iconst (v := 0) dL_next_0 (by decide) ?_
  refine E_istore_n dL_next_1 (Nat.le_of_ble_eq_true rfl) (by rfl) ?_
  exact E_loc [(0, .ref rc), (1, .ref rt), (2, .int 0)] ⟨rfl, rfl, rfl, trivial⟩ (y_nextL n1 hn 12 S y c t mem _ hL hR hmv hcl hy hrs (by have := cN_le (fun i => g_rs S i = 1) n; omega) (fun mm c' t' q1 q2 q3 => ⟨rfl, c', t', q1, q2, by unfold gNext; rw [hmv, gBeh_nx hcl hn hy]; exact q3⟩))
end LN
