/-! the law: to come to a step -/
section LC
variable {G : xG} {mem : xM} {rd rc rt w x T m i j n : Nat} {c t d c' t' l : Nat → Int32} {S : gS} {lf ro v : Int32}
/-- what a climber w who comes to x changes in the law's rows -/
def CoC (S : gS) (w : Nat) (x : Int32) (c t c' t' : Nat → Int32) : Prop :=
  c' (6 * w) = gV (g_le S) (g_top S) x ∧ c' (6 * w + 1) = c (6 * w + 1) + gVa (g_top S) x ∧ c' (6 * w + 5) = c (6 * w + 5) + gVb (g_le S) (g_top S) x ∧ (∀ i, i ≠ 6 * w → i ≠ 6 * w + 1 → i ≠ 6 * w + 5 → c' i = c i) ∧ t' 5 = t 5 + gVb (g_le S) (g_top S) x ∧ ∀ i, i ≠ 5 → t' i = t i
theorem Rct_come (h : Rct S c t m lf ro) (hw : w < 6) {x : Int32} (hc : CoC S w x c t c' t') : Rct (gCome S w x) c' t' m lf ro := by
  obtain ⟨h1, h2, h3, h4, h5, h6⟩ := hc
  rw [gCome_nf]
  have hcol : ∀ j i, i < 6 → 1 < j → j < 5 → c' (6 * i + j) = c (6 * i + j) := fun j i hi hj1 hj2 => h4 _ (by omega) (by omega) (by omega)
  refine ⟨fun i hi => ?_, fun i hi => ?_, fun i hi => ?_, fun i hi => ?_, fun i hi => ?_, fun i hi => ?_, ?_, ?_, ?_, ?_, ?_, ?_, ?_⟩
  · show c' (6 * i) = upd (g_pl S) w _ i
    by_cases e : i = w
    · subst e; rw [h1, upd_same]
    · rw [upd_ne e, h4 _ (by omega) (by omega) (by omega), h.pl i hi]
  · show c' (6 * i + 1) = upd (g_tp S) w _ i
    by_cases e : i = w
    · subst e; rw [h2, upd_same, h.tp i hi]
    · rw [upd_ne e, h4 _ (by omega) (by omega) (by omega), h.tp i hi]
  · exact (hcol 2 i hi (by decide) (by decide)).trans (h.rs i hi)
  · exact (hcol 3 i hi (by decide) (by decide)).trans (h.tl i hi)
  · have q := h.lm i hi
    rw [← hcol 4 i hi (by decide) (by decide)] at q
    exact q
  · show c' (6 * i + 5) = upd (g_sl S) w _ i
    by_cases e : i = w
    · subst e; rw [h3, upd_same, h.sl i hi]
    · rw [upd_ne e, h4 _ (by omega) (by omega) (by omega), h.sl i hi]
  · exact (h6 0 (by decide)).trans h.t0
  · exact (h6 1 (by decide)).trans h.t1
  · exact (h6 2 (by decide)).trans h.t2
  · rw [h6 3 (by decide)]; exact h.t3
  · rw [h6 4 (by decide)]; exact h.t4
  · show t' 5 = sSm (upd (g_sl S) w (g_sl S w + _)) 6
    rw [sSm_upd _ _ _ 6 hw, h5, h.t5]
  · exact (h6 6 (by decide)).trans h.t6
theorem Rd.neg (h : Rd S d) {s : Nat} (hs : s < 60) : (d s).toInt < 0 ↔ g_le S s = -6 := by
  rcases h.2 s hs with ⟨h1, h2⟩ | ⟨q, h0, h1, h2⟩
  · rw [h1, h2]; exact ⟨fun _ => rfl, fun _ => by decide⟩
  · rw [h1, h2, nI_toInt (by omega)]
    exact ⟨fun h => absurd h (by omega), fun h => absurd h (nI_ne6 (by omega))⟩
theorem Rd.eq (h : Rd S d) {s : Nat} (hs : s < 60) (hn : ¬ g_le S s = -6) : d s = g_le S s := by
  rcases h.2 s hs with ⟨h1, h2⟩ | ⟨q, h0, h1, h2⟩
  · exact absurd h1 hn
  · rw [h1, h2]
theorem i_6 {v : Int32} : v.toInt = -6 ↔ v = -6 := ⟨fun h => Int32.toInt_inj.mp (h.trans (by decide)), fun h => by rw [h]; decide⟩
/-- the law's climber w comes to step x -/
theorem y_come (hL : La mem rc rt c t) (hd0 : mem[rd]? = some (g_a 0 61 d)) (n1 : rc ≠ rt) (n2 : rd ≠ rc) (n3 : rd ≠ rt) (hd : Rd S d) (ht : t 0 = g_top S) (hT : g_top S = nI T) (hT60 : T ≤ 60) (hw : w < 6) (hx : x < 1000) : Pt G kL_come [.ref rd, .ref rc, .ref rt, .int (nI w), .int (nI x)] mem none (fun mm => ∃ c' t', La mm rc rt c' t' ∧ Fr rc rt mem mm ∧ CoC S w (nI x) c t c' t') := by
  have eT : (nI T).toInt = (T : Int) := nI_toInt (by omega)
  have ex : (nI x).toInt = (x : Int) := nI_toInt (by omega)
  have ecx : (nI x).toNatClampNeg = x := nI_clamp (by omega)
  obtain ⟨h1, h2⟩ := id hL
  have l1 : ∀ c', La (mem.set rc (g_a 0 36 c')) rc rt c' t := fun c' => hL.setc n1
  have hv : x < T → (0 ≤ (nI x).toInt ∧ (nI x).toInt < (g_top S).toInt) := fun q => by rw [hT]; omega
  have hv' : ¬ x < T → ¬ (0 ≤ (nI x).toInt ∧ (nI x).toInt < (g_top S).toInt) := fun q => by rw [hT]; omega
  refine Ct_of (by decide) (Nat.le_of_ble_eq_true rfl) ?_
  refine E_iload dL_come_0 (by rfl) ?_
  refine E_aload_n dL_come_2 (by rfl) ?_
  refine E_iconst (v := 0) dL_come_3 (by decide) ?_
  refine E_rd dL_come_4 (by assumption) (show (0 : Int32) = nI 0 from rfl) (by omega) (by first | decide | omega) (ht.trans hT) ?_
  refine E_icmp_lt (n := _) rfl (tgt := 30) dL_come_5 (by decide) (fun q5 => ?_) (fun q5 => ?_)
  · refine E_aload_n dL_come_30 (by rfl) ?_
    refine E_iload dL_come_31 (by rfl) ?_
    refine E_rd dL_come_33 (by assumption) rfl (by omega) (by first | decide | omega) rfl ?_
    refine E_if_lt (tgt := 69) dL_come_34 (by decide) (fun q34 => ?_) (fun q34 => ?_)
    · refine E_aload_n dL_come_69 (by rfl) ?_
      refine E_bipush (v := 6) dL_come_70 (by decide) ?_
      refine E_iload_n dL_come_72 (by rfl) ?_
      refine E_imul dL_come_73 ?_
      refine E_iload dL_come_74 (by rfl) ?_
      refine E_wr dL_come_76 (by assumption) (ix0 w) (by omega) (by first | decide | omega) ?_
      refine E_vret dL_come_77 rfl (Nat.zero_le _) (Nat.zero_le _) ?_
      refine ⟨rfl, _, _, hL.setc n1, Fr.setc, ?_⟩
      have hb := hv (by omega)
      have hn := i_6.mpr ((hd.neg (s := x) (by omega)).mp q34)
      refine ⟨?_, ?_, ?_, fun i i1 i2 i3 => upd_ne i1, ?_, fun i _ => rfl⟩
      · rw [upd_same, gV, if_pos hb, ecx, if_pos hn]
      · rw [upd_ne (by omega), gVa, if_pos hb, Int32.add_zero]
      · rw [upd_ne (by omega), gVb, if_pos hb, ecx, if_pos hn, Int32.add_zero]
      · rw [gVb, if_pos hb, ecx, if_pos hn, Int32.add_zero]
    · refine E_aload_n dL_come_37 (by rfl) ?_
      refine E_bipush (v := 6) dL_come_38 (by decide) ?_
      refine E_iload_n dL_come_40 (by rfl) ?_
      refine E_imul dL_come_41 ?_
      refine E_iconst (v := 5) dL_come_42 (by decide) ?_
      refine E_iadd dL_come_43 ?_
      refine E_dup2 dL_come_44 rfl rfl ?_
      refine E_rd dL_come_45 (by assumption) (ix w 5) (by omega) (by first | decide | omega) rfl ?_
      refine E_iconst (v := 1) dL_come_46 (by decide) ?_
      refine E_iadd dL_come_47 ?_
      refine E_wr dL_come_48 (by assumption) (ix w 5) (by omega) (by first | decide | omega) ?_
      obtain ⟨k1, k2⟩ := l1 (upd c (6 * w + 5) (c (6 * w + 5) + 1))
      have k0 : (mem.set rc (g_a 0 36 (upd c (6 * w + 5) (c (6 * w + 5) + 1))))[rd]? = some (g_a 0 61 d) := x_get_set hd0 (Ne.symm n2)
      refine E_aload_n dL_come_49 (by rfl) ?_
      refine E_iconst (v := 5) dL_come_50 (by decide) ?_
      refine E_dup2 dL_come_51 rfl rfl ?_
      refine E_rd dL_come_52 (by assumption) (show (5 : Int32) = nI 5 from rfl) (by omega) (by first | decide | omega) rfl ?_
      refine E_iconst (v := 1) dL_come_53 (by decide) ?_
      refine E_iadd dL_come_54 ?_
      refine E_wr dL_come_55 (by assumption) (show (5 : Int32) = nI 5 from rfl) (by omega) (by first | decide | omega) ?_
      have j3 := (l1 (upd c (6 * w + 5) (c (6 * w + 5) + 1))).sett (t' := upd t 5 (t 5 + 1)) n1
      obtain ⟨j1, j2⟩ := id j3
      have j0 := x_get_set (c := g_a 0 7 (upd t 5 (t 5 + 1))) k0 (Ne.symm n3)
      refine E_aload_n dL_come_56 (by rfl) ?_
      refine E_bipush (v := 6) dL_come_57 (by decide) ?_
      refine E_iload_n dL_come_59 (by rfl) ?_
      refine E_imul dL_come_60 ?_
      refine E_aload_n dL_come_61 (by rfl) ?_
      refine E_iload dL_come_62 (by rfl) ?_
      refine E_rd dL_come_64 (by assumption) rfl (by omega) (by first | decide | omega) rfl ?_
      refine E_wr dL_come_65 (by assumption) (ix0 w) (by omega) (by first | decide | omega) ?_
      have k3 := j3.setc (c' := upd (upd c (6 * w + 5) (c (6 * w + 5) + 1)) (6 * w) (d x)) n1
      refine E_goto (tgt := 77) dL_come_66 (by decide) ?_
      refine E_vret dL_come_77 rfl (Nat.zero_le _) (Nat.zero_le _) ?_
      refine ⟨rfl, _, _, k3, Fr.tr Fr.setc (Fr.tr Fr.sett Fr.setc), ?_⟩
      have hb := hv (by omega)
      have hn : ¬ g_le S x = -6 := fun z => q34 ((hd.neg (s := x) (by omega)).mpr z)
      have hn' : ¬ (g_le S x).toInt = -6 := fun z => hn (i_6.mp z)
      refine ⟨?_, ?_, ?_, fun i i1 i2 i3 => ?_, ?_, fun i i1 => upd_ne i1⟩
      · rw [upd_same, gV, if_pos hb, ecx, if_neg hn', hd.eq (by omega) hn]
      · rw [upd_ne (by omega), upd_ne (by omega), gVa, if_pos hb, Int32.add_zero]
      · rw [upd_ne (by omega), upd_same, gVb, if_pos hb, ecx, if_neg hn']
      · rw [upd_ne i1, upd_ne i3]
      · rw [upd_same, gVb, if_pos hb, ecx, if_neg hn']
  · refine E_aload_n dL_come_8 (by rfl) ?_
    refine E_bipush (v := 6) dL_come_9 (by decide) ?_
    refine E_iload_n dL_come_11 (by rfl) ?_
    refine E_imul dL_come_12 ?_
    refine E_iconst (v := 1) dL_come_13 (by decide) ?_
    refine E_iadd dL_come_14 ?_
    refine E_dup2 dL_come_15 rfl rfl ?_
    refine E_rd dL_come_16 (by assumption) (ix w 1) (by omega) (by first | decide | omega) rfl ?_
    refine E_iconst (v := 1) dL_come_17 (by decide) ?_
    refine E_iadd dL_come_18 ?_
    refine E_wr dL_come_19 (by assumption) (ix w 1) (by omega) (by first | decide | omega) ?_
    obtain ⟨k1, k2⟩ := l1 (upd c (6 * w + 1) (c (6 * w + 1) + 1))
    refine E_aload_n dL_come_20 (by rfl) ?_
    refine E_bipush (v := 6) dL_come_21 (by decide) ?_
    refine E_iload_n dL_come_23 (by rfl) ?_
    refine E_imul dL_come_24 ?_
    refine E_iconst (v := 0) dL_come_25 (by decide) ?_
    refine E_wr dL_come_26 (by assumption) (ix0 w) (by omega) (by first | decide | omega) ?_
    have k3 := (l1 (upd c (6 * w + 1) (c (6 * w + 1) + 1))).setc (c' := upd (upd c (6 * w + 1) (c (6 * w + 1) + 1)) (6 * w) 0) n1
    refine E_goto (tgt := 77) dL_come_27 (by decide) ?_
    refine E_vret dL_come_77 rfl (Nat.zero_le _) (Nat.zero_le _) ?_
    refine ⟨rfl, _, _, k3, Fr.tr Fr.setc Fr.setc, ?_⟩
    have hb := hv' (by omega)
    refine ⟨?_, ?_, ?_, fun i i1 i2 i3 => ?_, ?_, fun i _ => rfl⟩
    · rw [upd_same, gV, if_neg hb]
    · rw [upd_ne (by omega), upd_same, gVa, if_neg hb]
    · rw [upd_ne (by omega), upd_ne (by omega), gVb, if_neg hb, Int32.add_zero]
    · rw [upd_ne i1, upd_ne i2]
    · rw [gVb, if_neg hb, Int32.add_zero]
end LC
