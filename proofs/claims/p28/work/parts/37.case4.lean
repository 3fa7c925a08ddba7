/-! the law's cases: lay -/
section C4
variable {G : xG} {mem mm M : xM} {T n m u k x y st lo i q e a : Nat} {S V : gS} {v w nc h kd is isS th en r0 can due : Int32} {d l c t : Nat → Int32} {ce sl : Nat}
abbrev zCan (S : gS) (T n st lo : Nat) : Prop := (0 < st ∧ st < T) ∧ lo < st ∧ ¬ g_why3 S T (nI st) (nI lo) ∧ ¬ g_why4 S n (nI st)
abbrev zY (nc : Int32) (e : Nat) (h : Int32) (st lo : Nat) (isS th en can : Int32) : List (Nat × Value) := [(0, .float 0), (1, .ref 0), (2, .ref 86), (3, .ref 87), (4, .ref 88), (5, .ref 89), (6, .int nc), (7, .int (nI e)), (8, .int h), (10, .int (nI st)), (11, .int isS), (12, .int th), (13, .int en), (15, .int (nI lo)), (16, .int can)]
abbrev zY15 (nc : Int32) (e : Nat) (h : Int32) (st lo : Nat) (isS th en : Int32) : List (Nat × Value) := [(0, .float 0), (1, .ref 0), (2, .ref 86), (3, .ref 87), (4, .ref 88), (5, .ref 89), (6, .int nc), (7, .int (nI e)), (8, .int h), (10, .int (nI st)), (11, .int isS), (12, .int th), (13, .int en), (15, .int (nI lo))]
theorem nc_i (hnc : nc = sCn (g_up (g_le S)) T) (hk6 : cN (g_up (g_le S)) T ≤ 6) : nc.toInt = (cN (g_up (g_le S)) T : Int) := by
  rw [hnc, sCn_nI, nI_toInt (by omega)]
/-- why the class refuses, in the law's order -/
theorem whyL_eq (hI : Iv S T n m) (hnc : nc = sCn (g_up (g_le S)) T) (hst : st ≤ T) (hlo : lo ≤ st) : gWhyL S T n (nI st) (nI lo) = if ¬ (0 < st ∧ st < T) then -1 else if ¬ lo < st then -2 else if ¬ zCan S T n st lo then -3 else if 6 ≤ nc.toInt then -4 else 0 := by
  have t60 := hI.t60
  have es : (nI st).toInt = (st : Int) := nI_toInt (by omega)
  have elo : (nI lo).toInt = (lo : Int) := nI_toInt (by omega)
  have w1 := why1 hI hst
  unfold gWhyL
  by_cases h1 : 0 < st ∧ st < T
  · rw [if_neg (show ¬ g_why1 S (nI st) from fun z => w1.mp z h1), if_neg (show ¬ ¬ (0 < st ∧ st < T) from fun z => z h1)]
    by_cases h2 : lo < st
    · rw [if_neg (show ¬ ((nI lo).toInt < 0 ∨ (nI st).toInt ≤ (nI lo).toInt) by omega), if_neg (show ¬ ¬ lo < st from fun z => z h2)]
      by_cases h3 : g_why3 S T (nI st) (nI lo)
      · rw [if_pos h3, if_pos (show ¬ zCan S T n st lo from fun z => z.2.2.1 h3)]
      · rw [if_neg h3]
        by_cases h4 : g_why4 S n (nI st)
        · rw [if_pos h4, if_pos (show ¬ zCan S T n st lo from fun z => z.2.2.2 h4)]
        · rw [if_neg h4, if_neg (show ¬ ¬ zCan S T n st lo from fun z => z ⟨h1, h2, h3, h4⟩), hnc]
    · rw [if_pos (show (nI lo).toInt < 0 ∨ (nI st).toInt ≤ (nI lo).toInt by omega), if_pos h2]
  · rw [if_pos (w1.mpr h1), if_pos h1]
theorem z_layE (hW : Wd mem S) (hL : Lw mem S d l c t) (hI : Iv S T n m) (hnc : nc = sCn (g_up (g_le S)) T) (hk6 : cN (g_up (g_le S)) T ≤ 6) (hst : st ≤ T) (hlo : lo ≤ st) (hdue : due = if gWhyL S T n (nI st) (nI lo) = 0 then nc + 1 else gWhyL S T n (nI st) (nI lo)) (hcs : ce + 1 ≤ 600000 ∧ sl + 6 ≤ 7302249) (kk : ∀ mm nc', StX mm nc' n → E G kL_law lR (ce + 1) (sl + 6) mm 935 (x_L (zE nc' e 1)) []) : E G kL_law lR ce sl mem 590 (x_L (zY nc e h st lo isS th en (b2i (zCan S T n st lo)))) [.int due] := by
  obtain ⟨b1, b2, hLa, hd, hl, hR⟩ := id hL
  have t60 := hI.t60
  have hcs2 : ce ≤ 600000 ∧ sl ≤ 7302249 := by omega
  have eq := whyL_eq hI hnc hst hlo
  have enc := nc_i hnc hk6
  obtain ⟨v0, a0⟩ := hW.a0
  by_cases hw : gWhyL S T n (nI st) (nI lo) = 0
  · rw [if_pos hw] at hdue
    have hc : zCan S T n st lo ∧ ¬ 6 ≤ nc.toInt := by
      rw [hw] at eq
      by_cases h1 : 0 < st ∧ st < T
      · rw [if_neg (fun z => z h1)] at eq
        by_cases h2 : lo < st
        · rw [if_neg (fun z => z h2)] at eq
          by_cases h3 : zCan S T n st lo
          · rw [if_neg (fun z => z h3)] at eq
            by_cases h4 : 6 ≤ nc.toInt
            · rw [if_pos h4] at eq; exact absurd eq (by decide)
            · exact ⟨h3, h4⟩
          · rw [if_pos h3] at eq; exact absurd eq (by decide)
        · rw [if_pos h2] at eq; exact absurd eq (by decide)
      · rw [if_pos h1] at eq; exact absurd eq (by decide)
    obtain ⟨⟨h1, h2, h3, h4⟩, h6⟩ := id hc
    have hdn : (d st).toInt < 0 := Classical.not_not.mp (fun z => h3 (Or.inl ((up_d hI hd h1.2).mpr z)))
    have hle := (hd.neg (by omega)).mp hdn
    have ct := car_lay hI h1.2 hle h2
    have w1 := w_lay_ok (G := G) hW hI hw
    rw [ct.1, ← hnc] at w1
    subst hdue
    rw [b2i_t hc.1]
    refine E_istore dL_law_590 (Nat.le_of_ble_eq_true rfl) (by rfl) ?_
    refine E_aload_n dL_law_592 (by rfl) ?_
    refine E_iload dL_law_593 (by rfl) ?_
    refine E_iload dL_law_595 (by rfl) ?_
    refine cp_L_law_597 (by assumption) (Nat.le_of_ble_eq_true rfl) hcs2 w1 (fun m597 h597 => ?_)
    obtain ⟨g1, g2⟩ := h597
    have c2 := (g2 86 (by decide)).trans b1
    refine E_iload dL_law_600 (by rfl) ?_
    refine E_icmp_ne (n := _) rfl (tgt := 609) dL_law_602 (by decide) (fun q602 => ?_) (fun q602 => ?_)
    · exact absurd rfl q602
    · refine E_iconst (v := 1) dL_law_605 (by decide) ?_
      refine E_goto (tgt := 610) dL_law_606 (by decide) ?_
      refine E_istore dL_law_610 (Nat.le_of_ble_eq_true rfl) (by rfl) ?_
      refine E_iload dL_law_612 (by rfl) ?_
      refine E_if_eq (tgt := 633) dL_law_614 (by decide) (fun q614 => ?_) (fun q614 => ?_)
      · exact absurd q614 (by decide)
      · refine E_iload dL_law_617 (by rfl) ?_
        refine E_bipush (v := 6) dL_law_619 (by decide) ?_
        refine E_icmp_ge (n := 6) (by decide) (tgt := 633) dL_law_621 (by decide) (fun q621 => ?_) (fun q621 => ?_)
        · exact absurd q621 h6
        · refine E_aload_n dL_law_624 (by rfl) ?_
          refine E_iload dL_law_625 (by rfl) ?_
          refine E_iload dL_law_627 (by rfl) ?_
          refine E_wr dL_law_629 (by assumption) rfl (by omega) (by first | decide | omega) ?_
          refine E_iinc (d := 1) dL_law_630 (by rfl) (by decide) (Nat.le_of_ble_eq_true rfl) (by rfl) ?_
          refine E_goto (tgt := 935) dL_law_633 (by decide) ?_
          refine E_widen (Nat.le_succ ce) (by omega) (E_loc (zE (nc + 1) e 1) ⟨rfl, rfl, rfl, rfl, rfl, rfl, rfl, rfl, rfl, trivial⟩ (kk _ _ ⟨gLay S (nI st) (nI lo), T, m, upd d st (nI lo), l, c, t, g1.fr (rc := 86) (rt := 86) Fr.setc (by decide) (by decide), ?_, hI.lay h1.2 h2, by rw [ct.1, hnc], by omega⟩))
          exact ⟨x_get_same c2, x_get_set ((g2 87 (by decide)).trans b2) (by decide), ⟨x_get_set ((g2 88 (by decide)).trans hLa.1) (by decide), x_get_set ((g2 89 (by decide)).trans hLa.2) (by decide)⟩, hd.lay (by omega) h2, hl, hR⟩
  · rw [if_neg hw] at hdue
    have w1 := w_lay_no (G := G) hW hI hw
    subst hdue
    have hno : zCan S T n st lo → ¬ nc.toInt < 6 := fun hc z => by
      rw [if_neg (fun z => z hc.1), if_neg (fun z => z hc.2.1), if_neg (fun z => z hc), if_neg (by omega)] at eq
      exact hw eq
    generalize gWhyL S T n (nI st) (nI lo) = r at w1
    by_cases hc : zCan S T n st lo
    · rw [b2i_t hc]
      have hno := hno hc
      refine E_istore dL_law_590 (Nat.le_of_ble_eq_true rfl) (by rfl) ?_
      refine E_aload_n dL_law_592 (by rfl) ?_
      refine E_iload dL_law_593 (by rfl) ?_
      refine E_iload dL_law_595 (by rfl) ?_
      refine cp_L_law_597 (by assumption) (Nat.le_of_ble_eq_true rfl) hcs2 w1 (fun m597 h597 => ?_)
      obtain ⟨g1, g2⟩ := h597
      refine E_iload dL_law_600 (by rfl) ?_
      refine E_icmp_ne (n := _) rfl (tgt := 609) dL_law_602 (by decide) (fun q602 => ?_) (fun q602 => ?_)
      · exact absurd rfl q602
      · refine E_iconst (v := 1) dL_law_605 (by decide) ?_
        refine E_goto (tgt := 610) dL_law_606 (by decide) ?_
        refine E_istore dL_law_610 (Nat.le_of_ble_eq_true rfl) (by rfl) ?_
        refine E_iload dL_law_612 (by rfl) ?_
        refine E_if_eq (tgt := 633) dL_law_614 (by decide) (fun q614 => ?_) (fun q614 => ?_)
        · exact absurd q614 (by decide)
        · refine E_iload dL_law_617 (by rfl) ?_
          refine E_bipush (v := 6) dL_law_619 (by decide) ?_
          refine E_icmp_ge (n := 6) (by decide) (tgt := 633) dL_law_621 (by decide) (fun q621 => ?_) (fun q621 => ?_)
          · refine E_goto (tgt := 935) dL_law_633 (by decide) ?_
            refine E_widen (Nat.le_succ ce) (by omega) (E_loc (zE nc e 1) ⟨rfl, rfl, rfl, rfl, rfl, rfl, rfl, rfl, rfl, trivial⟩ (kk _ _ ⟨S, T, m, d, l, c, t, g1, hL.s86 g2, hI, hnc, hk6⟩))
          · exact absurd (by omega) hno
    · rw [b2i_f hc]
      refine E_istore dL_law_590 (Nat.le_of_ble_eq_true rfl) (by rfl) ?_
      refine E_aload_n dL_law_592 (by rfl) ?_
      refine E_iload dL_law_593 (by rfl) ?_
      refine E_iload dL_law_595 (by rfl) ?_
      refine cp_L_law_597 (by assumption) (Nat.le_of_ble_eq_true rfl) hcs2 w1 (fun m597 h597 => ?_)
      obtain ⟨g1, g2⟩ := h597
      refine E_iload dL_law_600 (by rfl) ?_
      refine E_icmp_ne (n := _) rfl (tgt := 609) dL_law_602 (by decide) (fun q602 => ?_) (fun q602 => ?_)
      · exact absurd rfl q602
      · refine E_iconst (v := 1) dL_law_605 (by decide) ?_
        refine E_goto (tgt := 610) dL_law_606 (by decide) ?_
        refine E_istore dL_law_610 (Nat.le_of_ble_eq_true rfl) (by rfl) ?_
        refine E_iload dL_law_612 (by rfl) ?_
        refine E_if_eq (tgt := 633) dL_law_614 (by decide) (fun q614 => ?_) (fun q614 => ?_)
        · refine E_goto (tgt := 935) dL_law_633 (by decide) ?_
          refine E_widen (Nat.le_succ ce) (by omega) (E_loc (zE nc e 1) ⟨rfl, rfl, rfl, rfl, rfl, rfl, rfl, rfl, rfl, trivial⟩ (kk _ _ ⟨S, T, m, d, l, c, t, g1, hL.s86 g2, hI, hnc, hk6⟩))
        · exact absurd rfl q614
theorem z_layD (hW : Wd mem S) (hL : Lw mem S d l c t) (hI : Iv S T n m) (hnc : nc = sCn (g_up (g_le S)) T) (hk6 : cN (g_up (g_le S)) T ≤ 6) (hst : st ≤ T) (hlo : lo ≤ st) (his : isS = b2i (0 < st ∧ st < T)) (hcs : ce + 1 ≤ 600000 ∧ sl + 6 ≤ 7302249) (kk : ∀ mm nc', StX mm nc' n → E G kL_law lR (ce + 1) (sl + 6) mm 935 (x_L (zE nc' e 1)) []) : E G kL_law lR ce sl mem 541 (x_L (zY15 nc e h st lo isS th en)) [.int (b2i (zCan S T n st lo))] := by
  have t60 := hI.t60
  have es : (nI st).toInt = (st : Int) := nI_toInt (by omega)
  have elo : (nI lo).toInt = (lo : Int) := nI_toInt (by omega)
  have eq := whyL_eq hI hnc hst hlo
  have enc := nc_i hnc hk6
  have e6 : (6 : Int32).toInt = 6 := by decide
  have fin : ∀ due, (due = if gWhyL S T n (nI st) (nI lo) = 0 then nc + 1 else gWhyL S T n (nI st) (nI lo)) → E G kL_law lR ce sl mem 590 (x_L (zY nc e h st lo isS th en (b2i (zCan S T n st lo)))) [.int due] := fun due hdue => z_layE hW hL hI hnc hk6 hst hlo hdue hcs kk
  have d1 : ¬ (0 < st ∧ st < T) → (-1 : Int32) = if gWhyL S T n (nI st) (nI lo) = 0 then nc + 1 else gWhyL S T n (nI st) (nI lo) := fun z => by
    rw [if_pos z] at eq
    rw [eq, if_neg (by decide)]
  have d2 : (0 < st ∧ st < T) → ¬ lo < st → (-2 : Int32) = if gWhyL S T n (nI st) (nI lo) = 0 then nc + 1 else gWhyL S T n (nI st) (nI lo) := fun z z2 => by
    rw [if_neg (fun y => y z), if_pos z2] at eq
    rw [eq, if_neg (by decide)]
  have d3 : (0 < st ∧ st < T) → lo < st → ¬ zCan S T n st lo → (-3 : Int32) = if gWhyL S T n (nI st) (nI lo) = 0 then nc + 1 else gWhyL S T n (nI st) (nI lo) := fun z z2 z3 => by
    rw [if_neg (fun y => y z), if_neg (fun y => y z2), if_pos z3] at eq
    rw [eq, if_neg (by decide)]
  have d4 : zCan S T n st lo → 6 ≤ nc.toInt → (-4 : Int32) = if gWhyL S T n (nI st) (nI lo) = 0 then nc + 1 else gWhyL S T n (nI st) (nI lo) := fun z z2 => by
    rw [if_neg (fun y => y z.1), if_neg (fun y => y z.2.1), if_neg (fun y => y z), if_pos z2] at eq
    rw [eq, if_neg (by decide)]
  have d5 : zCan S T n st lo → ¬ 6 ≤ nc.toInt → nc + 1 = if gWhyL S T n (nI st) (nI lo) = 0 then nc + 1 else gWhyL S T n (nI st) (nI lo) := fun z z2 => by
    rw [if_neg (fun y => y z.1), if_neg (fun y => y z.2.1), if_neg (fun y => y z), if_neg z2] at eq
    rw [eq, if_pos rfl]
  subst his
  refine E_istore dL_law_541 (Nat.le_of_ble_eq_true rfl) (by rfl) ?_
  refine E_iload dL_law_543 (by rfl) ?_
  refine E_if_ne (tgt := 552) dL_law_545 (by decide) (fun q545 => ?_) (fun q545 => ?_)
  · rw [b2i_T0] at q545; have q545 := Classical.not_not.mp q545
    refine E_iload dL_law_552 (by rfl) ?_
    refine E_iload dL_law_554 (by rfl) ?_
    refine E_icmp_lt (n := _) rfl (tgt := 564) dL_law_556 (by decide) (fun q556 => ?_) (fun q556 => ?_)
    · refine E_iload dL_law_564 (by rfl) ?_
      refine E_if_ne (tgt := 574) dL_law_566 (by decide) (fun q566 => ?_) (fun q566 => ?_)
      · rw [b2i_T0] at q566; have q566 := Classical.not_not.mp q566
        refine E_iload dL_law_574 (by rfl) ?_
        refine E_bipush (v := 6) dL_law_576 (by decide) ?_
        refine E_icmp_ne (n := 6) (by decide) (tgt := 586) dL_law_578 (by decide) (fun q578 => ?_) (fun q578 => ?_)
        · refine E_iload dL_law_586 (by rfl) ?_
          refine E_iconst (v := 1) dL_law_588 (by decide) ?_
          refine E_iadd dL_law_589 ?_
          first | exact E_loc (zY nc e h st lo _ th en (b2i (zCan S T n st lo))) ⟨rfl, rfl, rfl, rfl, rfl, rfl, rfl, rfl, rfl, rfl, rfl, rfl, rfl, rfl, rfl, trivial⟩ (fin _ (d1 q545)) | exact E_loc (zY nc e h st lo _ th en (b2i (zCan S T n st lo))) ⟨rfl, rfl, rfl, rfl, rfl, rfl, rfl, rfl, rfl, rfl, rfl, rfl, rfl, rfl, rfl, trivial⟩ (fin _ (d2 q545 (by omega))) | exact E_loc (zY nc e h st lo _ th en (b2i (zCan S T n st lo))) ⟨rfl, rfl, rfl, rfl, rfl, rfl, rfl, rfl, rfl, rfl, rfl, rfl, rfl, rfl, rfl, trivial⟩ (fin _ (d3 q545 (by omega) q566)) | exact E_loc (zY nc e h st lo _ th en (b2i (zCan S T n st lo))) ⟨rfl, rfl, rfl, rfl, rfl, rfl, rfl, rfl, rfl, rfl, rfl, rfl, rfl, rfl, rfl, trivial⟩ (fin _ (d4 q566 (by omega))) | exact E_loc (zY nc e h st lo _ th en (b2i (zCan S T n st lo))) ⟨rfl, rfl, rfl, rfl, rfl, rfl, rfl, rfl, rfl, rfl, rfl, rfl, rfl, rfl, rfl, trivial⟩ (fin _ (d5 q566 (by omega)))
        · refine E_bipush (v := (-4)) dL_law_581 (by decide) ?_
          refine E_goto (tgt := 590) dL_law_583 (by decide) ?_
          first | exact E_loc (zY nc e h st lo _ th en (b2i (zCan S T n st lo))) ⟨rfl, rfl, rfl, rfl, rfl, rfl, rfl, rfl, rfl, rfl, rfl, rfl, rfl, rfl, rfl, trivial⟩ (fin _ (d1 q545)) | exact E_loc (zY nc e h st lo _ th en (b2i (zCan S T n st lo))) ⟨rfl, rfl, rfl, rfl, rfl, rfl, rfl, rfl, rfl, rfl, rfl, rfl, rfl, rfl, rfl, trivial⟩ (fin _ (d2 q545 (by omega))) | exact E_loc (zY nc e h st lo _ th en (b2i (zCan S T n st lo))) ⟨rfl, rfl, rfl, rfl, rfl, rfl, rfl, rfl, rfl, rfl, rfl, rfl, rfl, rfl, rfl, trivial⟩ (fin _ (d3 q545 (by omega) q566)) | exact E_loc (zY nc e h st lo _ th en (b2i (zCan S T n st lo))) ⟨rfl, rfl, rfl, rfl, rfl, rfl, rfl, rfl, rfl, rfl, rfl, rfl, rfl, rfl, rfl, trivial⟩ (fin _ (d4 q566 (by omega))) | exact E_loc (zY nc e h st lo _ th en (b2i (zCan S T n st lo))) ⟨rfl, rfl, rfl, rfl, rfl, rfl, rfl, rfl, rfl, rfl, rfl, rfl, rfl, rfl, rfl, trivial⟩ (fin _ (d5 q566 (by omega)))
      · rw [b2i_T0] at q566
        refine E_bipush (v := (-3)) dL_law_569 (by decide) ?_
        refine E_goto (tgt := 590) dL_law_571 (by decide) ?_
        first | exact E_loc (zY nc e h st lo _ th en (b2i (zCan S T n st lo))) ⟨rfl, rfl, rfl, rfl, rfl, rfl, rfl, rfl, rfl, rfl, rfl, rfl, rfl, rfl, rfl, trivial⟩ (fin _ (d1 q545)) | exact E_loc (zY nc e h st lo _ th en (b2i (zCan S T n st lo))) ⟨rfl, rfl, rfl, rfl, rfl, rfl, rfl, rfl, rfl, rfl, rfl, rfl, rfl, rfl, rfl, trivial⟩ (fin _ (d2 q545 (by omega))) | exact E_loc (zY nc e h st lo _ th en (b2i (zCan S T n st lo))) ⟨rfl, rfl, rfl, rfl, rfl, rfl, rfl, rfl, rfl, rfl, rfl, rfl, rfl, rfl, rfl, trivial⟩ (fin _ (d3 q545 (by omega) q566)) | exact E_loc (zY nc e h st lo _ th en (b2i (zCan S T n st lo))) ⟨rfl, rfl, rfl, rfl, rfl, rfl, rfl, rfl, rfl, rfl, rfl, rfl, rfl, rfl, rfl, trivial⟩ (fin _ (d4 q566 (by omega))) | exact E_loc (zY nc e h st lo _ th en (b2i (zCan S T n st lo))) ⟨rfl, rfl, rfl, rfl, rfl, rfl, rfl, rfl, rfl, rfl, rfl, rfl, rfl, rfl, rfl, trivial⟩ (fin _ (d5 q566 (by omega)))
    · refine E_bipush (v := (-2)) dL_law_559 (by decide) ?_
      refine E_goto (tgt := 590) dL_law_561 (by decide) ?_
      first | exact E_loc (zY nc e h st lo _ th en (b2i (zCan S T n st lo))) ⟨rfl, rfl, rfl, rfl, rfl, rfl, rfl, rfl, rfl, rfl, rfl, rfl, rfl, rfl, rfl, trivial⟩ (fin _ (d1 q545)) | exact E_loc (zY nc e h st lo _ th en (b2i (zCan S T n st lo))) ⟨rfl, rfl, rfl, rfl, rfl, rfl, rfl, rfl, rfl, rfl, rfl, rfl, rfl, rfl, rfl, trivial⟩ (fin _ (d2 q545 (by omega))) | exact E_loc (zY nc e h st lo _ th en (b2i (zCan S T n st lo))) ⟨rfl, rfl, rfl, rfl, rfl, rfl, rfl, rfl, rfl, rfl, rfl, rfl, rfl, rfl, rfl, trivial⟩ (fin _ (d3 q545 (by omega) q566)) | exact E_loc (zY nc e h st lo _ th en (b2i (zCan S T n st lo))) ⟨rfl, rfl, rfl, rfl, rfl, rfl, rfl, rfl, rfl, rfl, rfl, rfl, rfl, rfl, rfl, trivial⟩ (fin _ (d4 q566 (by omega))) | exact E_loc (zY nc e h st lo _ th en (b2i (zCan S T n st lo))) ⟨rfl, rfl, rfl, rfl, rfl, rfl, rfl, rfl, rfl, rfl, rfl, rfl, rfl, rfl, rfl, trivial⟩ (fin _ (d5 q566 (by omega)))
  · rw [b2i_T0] at q545
    refine E_iconst (v := (-1)) dL_law_548 (by decide) ?_
    refine E_goto (tgt := 590) dL_law_549 (by decide) ?_
    first | exact E_loc (zY nc e h st lo _ th en (b2i (zCan S T n st lo))) ⟨rfl, rfl, rfl, rfl, rfl, rfl, rfl, rfl, rfl, rfl, rfl, rfl, rfl, rfl, rfl, trivial⟩ (fin _ (d1 q545)) | exact E_loc (zY nc e h st lo _ th en (b2i (zCan S T n st lo))) ⟨rfl, rfl, rfl, rfl, rfl, rfl, rfl, rfl, rfl, rfl, rfl, rfl, rfl, rfl, rfl, trivial⟩ (fin _ (d2 q545 (by omega))) | exact E_loc (zY nc e h st lo _ th en (b2i (zCan S T n st lo))) ⟨rfl, rfl, rfl, rfl, rfl, rfl, rfl, rfl, rfl, rfl, rfl, rfl, rfl, rfl, rfl, trivial⟩ (fin _ (d3 q545 (by omega) q566)) | exact E_loc (zY nc e h st lo _ th en (b2i (zCan S T n st lo))) ⟨rfl, rfl, rfl, rfl, rfl, rfl, rfl, rfl, rfl, rfl, rfl, rfl, rfl, rfl, rfl, trivial⟩ (fin _ (d4 q566 (by omega))) | exact E_loc (zY nc e h st lo _ th en (b2i (zCan S T n st lo))) ⟨rfl, rfl, rfl, rfl, rfl, rfl, rfl, rfl, rfl, rfl, rfl, rfl, rfl, rfl, rfl, trivial⟩ (fin _ (d5 q566 (by omega)))
theorem z_lay (hW : Wd mem S) (hL : Lw mem S d l c t) (hI : Iv S T n m) (hnc : nc = sCn (g_up (g_le S)) T) (hk6 : cN (g_up (g_le S)) T ≤ 6) (hst : st ≤ T) (his : isS = b2i (0 < st ∧ st < T)) (hth : th = sCn (fun i => (c (6 * i)).toInt = (nI st).toInt) n) (hen : en = sCn (fun k => (d k).toInt = (nI st).toInt) 61) (hcs : ce + 1 ≤ 600000 ∧ sl + 6 ≤ 7302249) (kk : ∀ mm nc', StX mm nc' n → E G kL_law lR (ce + 1) (sl + 6) mm 935 (x_L (zE nc' e 1)) []) : E G kL_law lR ce sl mem 479 (x_L (zI nc e h st isS th en)) [] := by
  obtain ⟨b1, b2, hLa, hd, hl, hR⟩ := id hL
  have t60 := hI.t60
  have hcs2 : ce ≤ 600000 ∧ sl ≤ 7302249 := by omega
  have es : (nI st).toInt = (st : Int) := nI_toInt (by omega)
  have ecs : (nI st).toNatClampNeg = st := nI_clamp (by omega)
  obtain ⟨lo, hlo1, hloe⟩ := y_low_nI (v := h >>> (12 &&& 31)) (n := st + 1) (by omega) (by omega)
  have hlo : lo ≤ st := by omega
  have elo : (nI lo).toInt = (lo : Int) := nI_toInt (by omega)
  have lo1 := y_low (G := G) (mem := mem) (h >>> (12 &&& 31)) (nI (st + 1)) (fun z => by have := nI_inj (a := st + 1) (b := 0) (by omega) (by omega) z; omega)
  rw [hloe] at lo1
  have gen := ends_eq hI hd (x := nI st) (by omega)
  have gen0 := sCn_ge0 (p := fun s => (g_le S s).toInt = (nI st).toInt) (n := T) (by omega)
  rw [← hen] at gen
  have gth := there0 hI hR (nI st)
  rw [← hth] at gth
  have hD := z_layD (G := G) (ce := ce) (sl := sl) (e := e) (h := h) (th := th) (en := en) hW hL hI hnc hk6 hst hlo his hcs kk
  have no : ¬ zCan S T n st lo → E G kL_law lR ce sl mem 541 (x_L (zY15 nc e h st lo isS th en)) [.int 0] := fun z => by
    rw [b2i_f z] at hD
    exact hD
  have yes : zCan S T n st lo → E G kL_law lR ce sl mem 541 (x_L (zY15 nc e h st lo isS th en)) [.int 1] := fun z => by
    rw [b2i_t z] at hD
    exact hD
  have c1 : isS.toInt = 0 → ¬ zCan S T n st lo := fun z1 z => by
    rw [his, b2i_T0] at z1
    exact z1 z.1
  have c1' : ¬ isS.toInt = 0 → 0 < st ∧ st < T := fun z1 => by
    rw [his, b2i_T0] at z1
    exact Classical.not_not.mp z1
  have c2 : ¬ lo < st → ¬ zCan S T n st lo := fun z1 z => z1 z.2.1
  have c3 : ¬ (d st).toInt < 0 → ¬ zCan S T n st lo := fun z1 z => z.2.2.1 (Or.inl ((up_d hI hd z.1.2).mpr z1))
  have c4 : ¬ en.toInt = 0 → ¬ zCan S T n st lo := fun z1 z => z.2.2.1 (Or.inr (Or.inr (by rw [gen] at z1; omega)))
  have c5 : ¬ (d lo).toInt < 0 → ¬ zCan S T n st lo := fun z1 z => z.2.2.1 (Or.inr (Or.inl ((up_d hI hd (by have := z.1.2; omega)).mpr z1)))
  have c6 : ¬ (l st).toInt = 0 → ¬ zCan S T n st lo := fun z1 z => z.2.2.2 (Or.inl (by rw [ecs]; exact fun y => z1 ((la_l hI hl z.1.2).mpr (i_z.mp y))))
  have c7 : ¬ th.toInt = 0 → ¬ zCan S T n st lo := fun z1 z => z.2.2.2 (Or.inr (fun y => z1 (gth.mpr y)))
  have c8 : ¬ isS.toInt = 0 → lo < st → (d st).toInt < 0 → en.toInt = 0 → (d lo).toInt < 0 → (l st).toInt = 0 → th.toInt = 0 → zCan S T n st lo := fun z1 z2 z3 z4 z5 z6 z7 => by
    have s1 := c1' z1
    refine ⟨s1, z2, ?_, ?_⟩
    · rintro (y | y | y)
      · exact (up_d hI hd s1.2).mp y z3
      · exact (up_d hI hd (by omega)).mp y z5
      · rw [gen] at z4; omega
    · rintro (y | y)
      · rw [ecs, (la_l hI hl s1.2).mp z6] at y; exact y (by decide)
      · exact y (gth.mp z7)
  refine E_iload dL_law_479 (by rfl) ?_
  refine E_bipush (v := 12) dL_law_481 (by decide) ?_
  refine E_ishr dL_law_483 ?_
  refine E_iload dL_law_484 (by rfl) ?_
  refine E_iconst (v := 1) dL_law_486 (by decide) ?_
  refine E_iadd dL_law_487 ?_
  refine E_eqi (nI_1 st) ?_
  refine cs_L_law_488 (Nat.le_of_ble_eq_true rfl) hcs2 lo1 ?_
  refine E_istore dL_law_491 (Nat.le_of_ble_eq_true rfl) (by rfl) ?_
  refine E_iload dL_law_493 (by rfl) ?_
  refine E_if_eq (tgt := 540) dL_law_495 (by decide) (fun q495 => ?_) (fun q495 => ?_)
  · refine E_iconst (v := 0) dL_law_540 (by decide) ?_
    first | exact E_loc (zY15 nc e h st lo isS th en) ⟨rfl, rfl, rfl, rfl, rfl, rfl, rfl, rfl, rfl, rfl, rfl, rfl, rfl, rfl, trivial⟩ (yes (c8 q495 (by omega) (by omega) q514 (by omega) q528 q533)) | exact E_loc (zY15 nc e h st lo isS th en) ⟨rfl, rfl, rfl, rfl, rfl, rfl, rfl, rfl, rfl, rfl, rfl, rfl, rfl, rfl, trivial⟩ (no (c7 q533)) | exact E_loc (zY15 nc e h st lo isS th en) ⟨rfl, rfl, rfl, rfl, rfl, rfl, rfl, rfl, rfl, rfl, rfl, rfl, rfl, rfl, trivial⟩ (no (c6 q528)) | exact E_loc (zY15 nc e h st lo isS th en) ⟨rfl, rfl, rfl, rfl, rfl, rfl, rfl, rfl, rfl, rfl, rfl, rfl, rfl, rfl, trivial⟩ (no (c5 (by omega))) | exact E_loc (zY15 nc e h st lo isS th en) ⟨rfl, rfl, rfl, rfl, rfl, rfl, rfl, rfl, rfl, rfl, rfl, rfl, rfl, rfl, trivial⟩ (no (c4 q514)) | exact E_loc (zY15 nc e h st lo isS th en) ⟨rfl, rfl, rfl, rfl, rfl, rfl, rfl, rfl, rfl, rfl, rfl, rfl, rfl, rfl, trivial⟩ (no (c3 (by omega))) | exact E_loc (zY15 nc e h st lo isS th en) ⟨rfl, rfl, rfl, rfl, rfl, rfl, rfl, rfl, rfl, rfl, rfl, rfl, rfl, rfl, trivial⟩ (no (c2 (by omega))) | exact E_loc (zY15 nc e h st lo isS th en) ⟨rfl, rfl, rfl, rfl, rfl, rfl, rfl, rfl, rfl, rfl, rfl, rfl, rfl, rfl, trivial⟩ (no (c1 q495))
  · refine E_iload dL_law_498 (by rfl) ?_
    refine E_iload dL_law_500 (by rfl) ?_
    refine E_icmp_ge (n := _) rfl (tgt := 540) dL_law_502 (by decide) (fun q502 => ?_) (fun q502 => ?_)
    · refine E_iconst (v := 0) dL_law_540 (by decide) ?_
      first | exact E_loc (zY15 nc e h st lo isS th en) ⟨rfl, rfl, rfl, rfl, rfl, rfl, rfl, rfl, rfl, rfl, rfl, rfl, rfl, rfl, trivial⟩ (yes (c8 q495 (by omega) (by omega) q514 (by omega) q528 q533)) | exact E_loc (zY15 nc e h st lo isS th en) ⟨rfl, rfl, rfl, rfl, rfl, rfl, rfl, rfl, rfl, rfl, rfl, rfl, rfl, rfl, trivial⟩ (no (c7 q533)) | exact E_loc (zY15 nc e h st lo isS th en) ⟨rfl, rfl, rfl, rfl, rfl, rfl, rfl, rfl, rfl, rfl, rfl, rfl, rfl, rfl, trivial⟩ (no (c6 q528)) | exact E_loc (zY15 nc e h st lo isS th en) ⟨rfl, rfl, rfl, rfl, rfl, rfl, rfl, rfl, rfl, rfl, rfl, rfl, rfl, rfl, trivial⟩ (no (c5 (by omega))) | exact E_loc (zY15 nc e h st lo isS th en) ⟨rfl, rfl, rfl, rfl, rfl, rfl, rfl, rfl, rfl, rfl, rfl, rfl, rfl, rfl, trivial⟩ (no (c4 q514)) | exact E_loc (zY15 nc e h st lo isS th en) ⟨rfl, rfl, rfl, rfl, rfl, rfl, rfl, rfl, rfl, rfl, rfl, rfl, rfl, rfl, trivial⟩ (no (c3 (by omega))) | exact E_loc (zY15 nc e h st lo isS th en) ⟨rfl, rfl, rfl, rfl, rfl, rfl, rfl, rfl, rfl, rfl, rfl, rfl, rfl, rfl, trivial⟩ (no (c2 (by omega))) | exact E_loc (zY15 nc e h st lo isS th en) ⟨rfl, rfl, rfl, rfl, rfl, rfl, rfl, rfl, rfl, rfl, rfl, rfl, rfl, rfl, trivial⟩ (no (c1 q495))
    · refine E_aload_n dL_law_505 (by rfl) ?_
      refine E_iload dL_law_506 (by rfl) ?_
      refine E_rd dL_law_508 (by assumption) rfl (by omega) (by first | decide | omega) rfl ?_
      refine E_if_ge (tgt := 540) dL_law_509 (by decide) (fun q509 => ?_) (fun q509 => ?_)
      · refine E_iconst (v := 0) dL_law_540 (by decide) ?_
        first | exact E_loc (zY15 nc e h st lo isS th en) ⟨rfl, rfl, rfl, rfl, rfl, rfl, rfl, rfl, rfl, rfl, rfl, rfl, rfl, rfl, trivial⟩ (yes (c8 q495 (by omega) (by omega) q514 (by omega) q528 q533)) | exact E_loc (zY15 nc e h st lo isS th en) ⟨rfl, rfl, rfl, rfl, rfl, rfl, rfl, rfl, rfl, rfl, rfl, rfl, rfl, rfl, trivial⟩ (no (c7 q533)) | exact E_loc (zY15 nc e h st lo isS th en) ⟨rfl, rfl, rfl, rfl, rfl, rfl, rfl, rfl, rfl, rfl, rfl, rfl, rfl, rfl, trivial⟩ (no (c6 q528)) | exact E_loc (zY15 nc e h st lo isS th en) ⟨rfl, rfl, rfl, rfl, rfl, rfl, rfl, rfl, rfl, rfl, rfl, rfl, rfl, rfl, trivial⟩ (no (c5 (by omega))) | exact E_loc (zY15 nc e h st lo isS th en) ⟨rfl, rfl, rfl, rfl, rfl, rfl, rfl, rfl, rfl, rfl, rfl, rfl, rfl, rfl, trivial⟩ (no (c4 q514)) | exact E_loc (zY15 nc e h st lo isS th en) ⟨rfl, rfl, rfl, rfl, rfl, rfl, rfl, rfl, rfl, rfl, rfl, rfl, rfl, rfl, trivial⟩ (no (c3 (by omega))) | exact E_loc (zY15 nc e h st lo isS th en) ⟨rfl, rfl, rfl, rfl, rfl, rfl, rfl, rfl, rfl, rfl, rfl, rfl, rfl, rfl, trivial⟩ (no (c2 (by omega))) | exact E_loc (zY15 nc e h st lo isS th en) ⟨rfl, rfl, rfl, rfl, rfl, rfl, rfl, rfl, rfl, rfl, rfl, rfl, rfl, rfl, trivial⟩ (no (c1 q495))
      · refine E_iload dL_law_512 (by rfl) ?_
        refine E_if_ne (tgt := 540) dL_law_514 (by decide) (fun q514 => ?_) (fun q514 => ?_)
        · refine E_iconst (v := 0) dL_law_540 (by decide) ?_
          first | exact E_loc (zY15 nc e h st lo isS th en) ⟨rfl, rfl, rfl, rfl, rfl, rfl, rfl, rfl, rfl, rfl, rfl, rfl, rfl, rfl, trivial⟩ (yes (c8 q495 (by omega) (by omega) q514 (by omega) q528 q533)) | exact E_loc (zY15 nc e h st lo isS th en) ⟨rfl, rfl, rfl, rfl, rfl, rfl, rfl, rfl, rfl, rfl, rfl, rfl, rfl, rfl, trivial⟩ (no (c7 q533)) | exact E_loc (zY15 nc e h st lo isS th en) ⟨rfl, rfl, rfl, rfl, rfl, rfl, rfl, rfl, rfl, rfl, rfl, rfl, rfl, rfl, trivial⟩ (no (c6 q528)) | exact E_loc (zY15 nc e h st lo isS th en) ⟨rfl, rfl, rfl, rfl, rfl, rfl, rfl, rfl, rfl, rfl, rfl, rfl, rfl, rfl, trivial⟩ (no (c5 (by omega))) | exact E_loc (zY15 nc e h st lo isS th en) ⟨rfl, rfl, rfl, rfl, rfl, rfl, rfl, rfl, rfl, rfl, rfl, rfl, rfl, rfl, trivial⟩ (no (c4 q514)) | exact E_loc (zY15 nc e h st lo isS th en) ⟨rfl, rfl, rfl, rfl, rfl, rfl, rfl, rfl, rfl, rfl, rfl, rfl, rfl, rfl, trivial⟩ (no (c3 (by omega))) | exact E_loc (zY15 nc e h st lo isS th en) ⟨rfl, rfl, rfl, rfl, rfl, rfl, rfl, rfl, rfl, rfl, rfl, rfl, rfl, rfl, trivial⟩ (no (c2 (by omega))) | exact E_loc (zY15 nc e h st lo isS th en) ⟨rfl, rfl, rfl, rfl, rfl, rfl, rfl, rfl, rfl, rfl, rfl, rfl, rfl, rfl, trivial⟩ (no (c1 q495))
        · refine E_aload_n dL_law_517 (by rfl) ?_
          refine E_iload dL_law_518 (by rfl) ?_
          refine E_rd dL_law_520 (by assumption) rfl (by omega) (by first | decide | omega) rfl ?_
          refine E_if_ge (tgt := 540) dL_law_521 (by decide) (fun q521 => ?_) (fun q521 => ?_)
          · refine E_iconst (v := 0) dL_law_540 (by decide) ?_
            first | exact E_loc (zY15 nc e h st lo isS th en) ⟨rfl, rfl, rfl, rfl, rfl, rfl, rfl, rfl, rfl, rfl, rfl, rfl, rfl, rfl, trivial⟩ (yes (c8 q495 (by omega) (by omega) q514 (by omega) q528 q533)) | exact E_loc (zY15 nc e h st lo isS th en) ⟨rfl, rfl, rfl, rfl, rfl, rfl, rfl, rfl, rfl, rfl, rfl, rfl, rfl, rfl, trivial⟩ (no (c7 q533)) | exact E_loc (zY15 nc e h st lo isS th en) ⟨rfl, rfl, rfl, rfl, rfl, rfl, rfl, rfl, rfl, rfl, rfl, rfl, rfl, rfl, trivial⟩ (no (c6 q528)) | exact E_loc (zY15 nc e h st lo isS th en) ⟨rfl, rfl, rfl, rfl, rfl, rfl, rfl, rfl, rfl, rfl, rfl, rfl, rfl, rfl, trivial⟩ (no (c5 (by omega))) | exact E_loc (zY15 nc e h st lo isS th en) ⟨rfl, rfl, rfl, rfl, rfl, rfl, rfl, rfl, rfl, rfl, rfl, rfl, rfl, rfl, trivial⟩ (no (c4 q514)) | exact E_loc (zY15 nc e h st lo isS th en) ⟨rfl, rfl, rfl, rfl, rfl, rfl, rfl, rfl, rfl, rfl, rfl, rfl, rfl, rfl, trivial⟩ (no (c3 (by omega))) | exact E_loc (zY15 nc e h st lo isS th en) ⟨rfl, rfl, rfl, rfl, rfl, rfl, rfl, rfl, rfl, rfl, rfl, rfl, rfl, rfl, trivial⟩ (no (c2 (by omega))) | exact E_loc (zY15 nc e h st lo isS th en) ⟨rfl, rfl, rfl, rfl, rfl, rfl, rfl, rfl, rfl, rfl, rfl, rfl, rfl, rfl, trivial⟩ (no (c1 q495))
          · refine E_aload_n dL_law_524 (by rfl) ?_
            refine E_iload dL_law_525 (by rfl) ?_
            refine E_rd dL_law_527 (by assumption) rfl (by omega) (by first | decide | omega) rfl ?_
            refine E_if_ne (tgt := 540) dL_law_528 (by decide) (fun q528 => ?_) (fun q528 => ?_)
            · refine E_iconst (v := 0) dL_law_540 (by decide) ?_
              first | exact E_loc (zY15 nc e h st lo isS th en) ⟨rfl, rfl, rfl, rfl, rfl, rfl, rfl, rfl, rfl, rfl, rfl, rfl, rfl, rfl, trivial⟩ (yes (c8 q495 (by omega) (by omega) q514 (by omega) q528 q533)) | exact E_loc (zY15 nc e h st lo isS th en) ⟨rfl, rfl, rfl, rfl, rfl, rfl, rfl, rfl, rfl, rfl, rfl, rfl, rfl, rfl, trivial⟩ (no (c7 q533)) | exact E_loc (zY15 nc e h st lo isS th en) ⟨rfl, rfl, rfl, rfl, rfl, rfl, rfl, rfl, rfl, rfl, rfl, rfl, rfl, rfl, trivial⟩ (no (c6 q528)) | exact E_loc (zY15 nc e h st lo isS th en) ⟨rfl, rfl, rfl, rfl, rfl, rfl, rfl, rfl, rfl, rfl, rfl, rfl, rfl, rfl, trivial⟩ (no (c5 (by omega))) | exact E_loc (zY15 nc e h st lo isS th en) ⟨rfl, rfl, rfl, rfl, rfl, rfl, rfl, rfl, rfl, rfl, rfl, rfl, rfl, rfl, trivial⟩ (no (c4 q514)) | exact E_loc (zY15 nc e h st lo isS th en) ⟨rfl, rfl, rfl, rfl, rfl, rfl, rfl, rfl, rfl, rfl, rfl, rfl, rfl, rfl, trivial⟩ (no (c3 (by omega))) | exact E_loc (zY15 nc e h st lo isS th en) ⟨rfl, rfl, rfl, rfl, rfl, rfl, rfl, rfl, rfl, rfl, rfl, rfl, rfl, rfl, trivial⟩ (no (c2 (by omega))) | exact E_loc (zY15 nc e h st lo isS th en) ⟨rfl, rfl, rfl, rfl, rfl, rfl, rfl, rfl, rfl, rfl, rfl, rfl, rfl, rfl, trivial⟩ (no (c1 q495))
            · refine E_iload dL_law_531 (by rfl) ?_
              refine E_if_ne (tgt := 540) dL_law_533 (by decide) (fun q533 => ?_) (fun q533 => ?_)
              · refine E_iconst (v := 0) dL_law_540 (by decide) ?_
                first | exact E_loc (zY15 nc e h st lo isS th en) ⟨rfl, rfl, rfl, rfl, rfl, rfl, rfl, rfl, rfl, rfl, rfl, rfl, rfl, rfl, trivial⟩ (yes (c8 q495 (by omega) (by omega) q514 (by omega) q528 q533)) | exact E_loc (zY15 nc e h st lo isS th en) ⟨rfl, rfl, rfl, rfl, rfl, rfl, rfl, rfl, rfl, rfl, rfl, rfl, rfl, rfl, trivial⟩ (no (c7 q533)) | exact E_loc (zY15 nc e h st lo isS th en) ⟨rfl, rfl, rfl, rfl, rfl, rfl, rfl, rfl, rfl, rfl, rfl, rfl, rfl, rfl, trivial⟩ (no (c6 q528)) | exact E_loc (zY15 nc e h st lo isS th en) ⟨rfl, rfl, rfl, rfl, rfl, rfl, rfl, rfl, rfl, rfl, rfl, rfl, rfl, rfl, trivial⟩ (no (c5 (by omega))) | exact E_loc (zY15 nc e h st lo isS th en) ⟨rfl, rfl, rfl, rfl, rfl, rfl, rfl, rfl, rfl, rfl, rfl, rfl, rfl, rfl, trivial⟩ (no (c4 q514)) | exact E_loc (zY15 nc e h st lo isS th en) ⟨rfl, rfl, rfl, rfl, rfl, rfl, rfl, rfl, rfl, rfl, rfl, rfl, rfl, rfl, trivial⟩ (no (c3 (by omega))) | exact E_loc (zY15 nc e h st lo isS th en) ⟨rfl, rfl, rfl, rfl, rfl, rfl, rfl, rfl, rfl, rfl, rfl, rfl, rfl, rfl, trivial⟩ (no (c2 (by omega))) | exact E_loc (zY15 nc e h st lo isS th en) ⟨rfl, rfl, rfl, rfl, rfl, rfl, rfl, rfl, rfl, rfl, rfl, rfl, rfl, rfl, trivial⟩ (no (c1 q495))
              · refine E_iconst (v := 1) dL_law_536 (by decide) ?_
                refine E_goto (tgt := 541) dL_law_537 (by decide) ?_
                first | exact E_loc (zY15 nc e h st lo isS th en) ⟨rfl, rfl, rfl, rfl, rfl, rfl, rfl, rfl, rfl, rfl, rfl, rfl, rfl, rfl, trivial⟩ (yes (c8 q495 (by omega) (by omega) q514 (by omega) q528 q533)) | exact E_loc (zY15 nc e h st lo isS th en) ⟨rfl, rfl, rfl, rfl, rfl, rfl, rfl, rfl, rfl, rfl, rfl, rfl, rfl, rfl, trivial⟩ (no (c7 q533)) | exact E_loc (zY15 nc e h st lo isS th en) ⟨rfl, rfl, rfl, rfl, rfl, rfl, rfl, rfl, rfl, rfl, rfl, rfl, rfl, rfl, trivial⟩ (no (c6 q528)) | exact E_loc (zY15 nc e h st lo isS th en) ⟨rfl, rfl, rfl, rfl, rfl, rfl, rfl, rfl, rfl, rfl, rfl, rfl, rfl, rfl, trivial⟩ (no (c5 (by omega))) | exact E_loc (zY15 nc e h st lo isS th en) ⟨rfl, rfl, rfl, rfl, rfl, rfl, rfl, rfl, rfl, rfl, rfl, rfl, rfl, rfl, trivial⟩ (no (c4 q514)) | exact E_loc (zY15 nc e h st lo isS th en) ⟨rfl, rfl, rfl, rfl, rfl, rfl, rfl, rfl, rfl, rfl, rfl, rfl, rfl, rfl, trivial⟩ (no (c3 (by omega))) | exact E_loc (zY15 nc e h st lo isS th en) ⟨rfl, rfl, rfl, rfl, rfl, rfl, rfl, rfl, rfl, rfl, rfl, rfl, rfl, rfl, trivial⟩ (no (c2 (by omega))) | exact E_loc (zY15 nc e h st lo isS th en) ⟨rfl, rfl, rfl, rfl, rfl, rfl, rfl, rfl, rfl, rfl, rfl, rfl, rfl, rfl, trivial⟩ (no (c1 q495))
end C4
