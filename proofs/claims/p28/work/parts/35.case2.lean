/-! the law's cases: put, remove, lay, setTop -/
section C2
variable {G : xG} {mem mm M : xM} {T n m u k x y st lo i q e : Nat} {S V : gS} {v w nc h kd is isS th en r0 : Int32} {d l c t : Nat → Int32} {ce sl : Nat}
abbrev zI (nc : Int32) (e : Nat) (h : Int32) (st : Nat) (isS th en : Int32) : List (Nat × Value) := [(0, .float 0), (1, .ref 0), (2, .ref 86), (3, .ref 87), (4, .ref 88), (5, .ref 89), (6, .int nc), (7, .int (nI e)), (8, .int h), (10, .int (nI st)), (11, .int isS), (12, .int th), (13, .int en)]
theorem z_put0 (hW : Wd mem S) (hL : Lw mem S d l c t) (hI : Iv S T n m) (hnc : nc = sCn (g_up (g_le S)) T) (hk6 : cN (g_up (g_le S)) T ≤ 6) (hst : st ≤ T) (hi : isS = 0 ∧ r0 = -1 ∨ isS = 1 ∧ r0 = -3) (hr : gWhyP S (nI st) = r0) (hcs : ce + 1 ≤ 600000 ∧ sl + 6 ≤ 7302249) (kk : ∀ mm nc', StX mm nc' n → E G kL_law lR (ce + 1) (sl + 6) mm 935 (x_L (zE nc' e 1)) []) : E G kL_law lR ce sl mem 726 (x_L (zI nc e h st isS th en)) [.int 0] := by
  obtain ⟨b1, b2, hLa, hd, hl, hR⟩ := id hL
  have t60 := hI.t60
  have hcs2 : ce ≤ 600000 ∧ sl ≤ 7302249 := by omega
  obtain ⟨v0, a0⟩ := hW.a0
  have hneg : gWhyP S (nI st) ≠ 0 := by rw [hr]; rcases hi with z | z <;> rw [z.2] <;> decide
  have w1 := w_put_no (G := G) hW hI hneg
  rw [hr] at w1
  have e1 : mem.set 87 (g_a 0 61 (upd l st (l st))) = mem := by rw [upd_self]; exact x_set_self b2
  refine E_istore dL_law_726 (Nat.le_of_ble_eq_true rfl) (by rfl) ?_
  refine E_aload_n dL_law_728 (by rfl) ?_
  refine E_iload dL_law_729 (by rfl) ?_
  refine E_iload dL_law_731 (by rfl) ?_
  refine E_if_eq (tgt := 740) dL_law_733 (by decide) (fun q733 => ?_) (fun q733 => ?_)
  · refine E_aload_n dL_law_740 (by rfl) ?_
    refine E_iload dL_law_741 (by rfl) ?_
    refine E_rd dL_law_743 (by assumption) rfl (by omega) (by first | decide | omega) rfl ?_
    refine E_wr dL_law_744 (by assumption) rfl (by omega) (by first | decide | omega) ?_
    refine E_mem (mem' := mem) e1 ?_
    refine E_aload_n dL_law_745 (by rfl) ?_
    refine E_iload dL_law_746 (by rfl) ?_
    refine cp_L_law_748 (by assumption) (Nat.le_of_ble_eq_true rfl) hcs2 w1 (fun m748 h748 => ?_)
    obtain ⟨g1, g2⟩ := h748
    refine E_iload dL_law_751 (by rfl) ?_
    refine E_if_ne (tgt := 760) dL_law_753 (by decide) (fun q753 => ?_) (fun q753 => ?_)
    · obtain rfl : r0 = -3 := by rcases hi with z | z; exact absurd (by rw [z.1]; decide) q753; exact z.2
      refine E_iload dL_law_760 (by rfl) ?_
      refine E_if_eq (tgt := 772) dL_law_762 (by decide) (fun q762 => ?_) (fun q762 => ?_)
      · refine E_bipush (v := (-3)) dL_law_772 (by decide) ?_
        refine E_icmp_ne (n := (-3)) (by decide) (tgt := 781) dL_law_774 (by decide) (fun q774 => ?_) (fun q774 => ?_)
        · exact absurd rfl q774
        · refine E_iconst (v := 1) dL_law_777 (by decide) ?_
          refine E_goto (tgt := 782) dL_law_778 (by decide) ?_
          refine E_istore dL_law_782 (Nat.le_of_ble_eq_true rfl) (by rfl) ?_
          refine E_goto (tgt := 935) dL_law_784 (by decide) ?_
          refine E_widen (Nat.le_succ ce) (by omega) (E_loc (zE nc e 1) ⟨rfl, rfl, rfl, rfl, rfl, rfl, rfl, rfl, rfl, trivial⟩ (kk _ _ ⟨S, T, m, d, l, c, t, g1, hL.s86 g2, hI, hnc, hk6⟩))
      · exact absurd rfl q762
    · obtain rfl : r0 = -1 := by rcases hi with z | z; exact z.2; rw [z.1] at q753; exact absurd q753 (by decide)
      refine E_iconst (v := (-1)) dL_law_756 (by decide) ?_
      refine E_goto (tgt := 774) dL_law_757 (by decide) ?_
      refine E_icmp_ne (n := (-1)) (by decide) (tgt := 781) dL_law_774 (by decide) (fun q774 => ?_) (fun q774 => ?_)
      · exact absurd rfl q774
      · refine E_iconst (v := 1) dL_law_777 (by decide) ?_
        refine E_goto (tgt := 782) dL_law_778 (by decide) ?_
        refine E_istore dL_law_782 (Nat.le_of_ble_eq_true rfl) (by rfl) ?_
        refine E_goto (tgt := 935) dL_law_784 (by decide) ?_
        refine E_widen (Nat.le_succ ce) (by omega) (E_loc (zE nc e 1) ⟨rfl, rfl, rfl, rfl, rfl, rfl, rfl, rfl, rfl, trivial⟩ (kk _ _ ⟨S, T, m, d, l, c, t, g1, hL.s86 g2, hI, hnc, hk6⟩))
  · exact absurd rfl q733
theorem z_put (hW : Wd mem S) (hL : Lw mem S d l c t) (hI : Iv S T n m) (hnc : nc = sCn (g_up (g_le S)) T) (hk6 : cN (g_up (g_le S)) T ≤ 6) (hst : st ≤ T) (his : isS = b2i (0 < st ∧ st < T)) (hcs : ce + 1 ≤ 600000 ∧ sl + 6 ≤ 7302249) (kk : ∀ mm nc', StX mm nc' n → E G kL_law lR (ce + 1) (sl + 6) mm 935 (x_L (zE nc' e 1)) []) : E G kL_law lR ce sl mem 702 (x_L (zI nc e h st isS th en)) [] := by
  obtain ⟨b1, b2, hLa, hd, hl, hR⟩ := id hL
  have t60 := hI.t60
  have hcs2 : ce ≤ 600000 ∧ sl ≤ 7302249 := by omega
  have hw1 := why1 hI hst
  have ecs : (nI st).toNatClampNeg = st := nI_clamp (by omega)
  by_cases hs : 0 < st ∧ st < T
  · obtain rfl : isS = 1 := his.trans (b2i_t hs)
    have hn1 : ¬ g_why1 S (nI st) := fun z => hw1.mp z hs
    have hu := up_d hI hd hs.2
    have hla := la_l hI hl hs.2
    have no : (¬ (l st).toInt = 0 ∨ ¬ (d st).toInt < 0) → E G kL_law lR ce sl mem 726 (x_L (zI nc e h st 1 th en)) [.int 0] := fun z => z_put0 (r0 := -3) hW hL hI hnc hk6 hst (Or.inr ⟨rfl, rfl⟩) (by
      unfold gWhyP
      rw [if_neg hn1, if_pos, ]
      rcases z with z | z
      · exact Or.inl (by rw [ecs]; exact fun y => z (hla.mpr (i_z.mp y)))
      · exact Or.inr (hu.mpr z)) hcs kk
    have yes : (l st).toInt = 0 → (d st).toInt < 0 → E G kL_law lR ce sl mem 726 (x_L (zI nc e h st 1 th en)) [.int 1] := by
      intro z1 z2
      have hw : gWhyP S (nI st) = 0 := by
        unfold gWhyP
        rw [if_neg hn1, if_neg]
        rintro (y | y)
        · rw [ecs, hla.mp z1] at y; exact y (by decide)
        · exact hu.mp y z2
      have F1 : Fr 87 87 mem (mem.set 87 (g_a 0 61 (upd l st 1))) := Fr.setc
      have hW1 := hW.fr F1 (by decide) (by decide)
      obtain ⟨v0, a0⟩ := hW1.a0
      have b2' : (mem.set 87 (g_a 0 61 (upd l st 1)))[87]? = some (g_a 0 61 (upd l st 1)) := x_get_same b2
      have w1 := w_put_ok (G := G) hW1 hI hw
      have hI2 := hI.putL (v := 1) hs.2 (Or.inr rfl)
      have hl2 := hl.put (st := st) (v := 1) (by omega) (Or.inr rfl)
      rw [← land_eq hI2 hl2] at w1
      refine E_istore dL_law_726 (Nat.le_of_ble_eq_true rfl) (by rfl) ?_
      refine E_aload_n dL_law_728 (by rfl) ?_
      refine E_iload dL_law_729 (by rfl) ?_
      refine E_iload dL_law_731 (by rfl) ?_
      refine E_if_eq (tgt := 740) dL_law_733 (by decide) (fun q733 => ?_) (fun q733 => ?_)
      · exact absurd q733 (by decide)
      · refine E_iconst (v := 1) dL_law_736 (by decide) ?_
        refine E_goto (tgt := 744) dL_law_737 (by decide) ?_
        refine E_wr dL_law_744 (by assumption) rfl (by omega) (by first | decide | omega) ?_
        refine E_aload_n dL_law_745 (by rfl) ?_
        refine E_iload dL_law_746 (by rfl) ?_
        refine cp_L_law_748 (by assumption) (Nat.le_of_ble_eq_true rfl) hcs2 w1 (fun m748 h748 => ?_)
        obtain ⟨g1, g2⟩ := h748
        have c2 := (g2 87 (by decide)).trans b2'
        refine E_iload dL_law_751 (by rfl) ?_
        refine E_if_ne (tgt := 760) dL_law_753 (by decide) (fun q753 => ?_) (fun q753 => ?_)
        · refine E_iload dL_law_760 (by rfl) ?_
          refine E_if_eq (tgt := 772) dL_law_762 (by decide) (fun q762 => ?_) (fun q762 => ?_)
          · exact absurd q762 (by decide)
          · refine E_aload_n dL_law_765 (by rfl) ?_
            refine cs_L_law_766 (Nat.le_of_ble_eq_true rfl) hcs2 (y_sum c2) ?_
            refine E_goto (tgt := 774) dL_law_769 (by decide) ?_
            refine E_icmp_ne (n := _) rfl (tgt := 781) dL_law_774 (by decide) (fun q774 => ?_) (fun q774 => ?_)
            · exact absurd rfl q774
            · refine E_iconst (v := 1) dL_law_777 (by decide) ?_
              refine E_goto (tgt := 782) dL_law_778 (by decide) ?_
              refine E_istore dL_law_782 (Nat.le_of_ble_eq_true rfl) (by rfl) ?_
              refine E_goto (tgt := 935) dL_law_784 (by decide) ?_
              refine E_widen (Nat.le_succ ce) (by omega) (E_loc (zE nc e 1) ⟨rfl, rfl, rfl, rfl, rfl, rfl, rfl, rfl, rfl, trivial⟩ (kk _ _ ⟨gPutL S (nI st) 1, T, m, d, upd l st 1, c, t, g1, ?_, hI2, hnc, hk6⟩))
              exact ⟨(g2 86 (by decide)).trans (x_get_set b1 (by decide)), c2, ⟨(g2 88 (by decide)).trans (x_get_set hLa.1 (by decide)), (g2 89 (by decide)).trans (x_get_set hLa.2 (by decide))⟩, hd, hl2, hR⟩
        · exact absurd q753 (by decide)
    refine E_iload dL_law_702 (by rfl) ?_
    refine E_if_eq (tgt := 725) dL_law_704 (by decide) (fun q704 => ?_) (fun q704 => ?_)
    · exact absurd q704 (by decide)
    · refine E_aload_n dL_law_707 (by rfl) ?_
      refine E_iload dL_law_708 (by rfl) ?_
      refine E_rd dL_law_710 (by assumption) rfl (by omega) (by first | decide | omega) rfl ?_
      refine E_if_ne (tgt := 725) dL_law_711 (by decide) (fun q711 => ?_) (fun q711 => ?_)
      · refine E_iconst (v := 0) dL_law_725 (by decide) ?_
        first | exact E_loc (zI nc e h st 1 th en) ⟨rfl, rfl, rfl, rfl, rfl, rfl, rfl, rfl, rfl, rfl, rfl, rfl, rfl, trivial⟩ (yes (by assumption) (by omega)) | exact E_loc (zI nc e h st 1 th en) ⟨rfl, rfl, rfl, rfl, rfl, rfl, rfl, rfl, rfl, rfl, rfl, rfl, rfl, trivial⟩ (no (Or.inl (by assumption))) | exact E_loc (zI nc e h st 1 th en) ⟨rfl, rfl, rfl, rfl, rfl, rfl, rfl, rfl, rfl, rfl, rfl, rfl, rfl, trivial⟩ (no (Or.inr (by omega)))
      · refine E_aload_n dL_law_714 (by rfl) ?_
        refine E_iload dL_law_715 (by rfl) ?_
        refine E_rd dL_law_717 (by assumption) rfl (by omega) (by first | decide | omega) rfl ?_
        refine E_if_ge (tgt := 725) dL_law_718 (by decide) (fun q718 => ?_) (fun q718 => ?_)
        · refine E_iconst (v := 0) dL_law_725 (by decide) ?_
          first | exact E_loc (zI nc e h st 1 th en) ⟨rfl, rfl, rfl, rfl, rfl, rfl, rfl, rfl, rfl, rfl, rfl, rfl, rfl, trivial⟩ (yes (by assumption) (by omega)) | exact E_loc (zI nc e h st 1 th en) ⟨rfl, rfl, rfl, rfl, rfl, rfl, rfl, rfl, rfl, rfl, rfl, rfl, rfl, trivial⟩ (no (Or.inl (by assumption))) | exact E_loc (zI nc e h st 1 th en) ⟨rfl, rfl, rfl, rfl, rfl, rfl, rfl, rfl, rfl, rfl, rfl, rfl, rfl, trivial⟩ (no (Or.inr (by omega)))
        · refine E_iconst (v := 1) dL_law_721 (by decide) ?_
          refine E_goto (tgt := 726) dL_law_722 (by decide) ?_
          first | exact E_loc (zI nc e h st 1 th en) ⟨rfl, rfl, rfl, rfl, rfl, rfl, rfl, rfl, rfl, rfl, rfl, rfl, rfl, trivial⟩ (yes (by assumption) (by omega)) | exact E_loc (zI nc e h st 1 th en) ⟨rfl, rfl, rfl, rfl, rfl, rfl, rfl, rfl, rfl, rfl, rfl, rfl, rfl, trivial⟩ (no (Or.inl (by assumption))) | exact E_loc (zI nc e h st 1 th en) ⟨rfl, rfl, rfl, rfl, rfl, rfl, rfl, rfl, rfl, rfl, rfl, rfl, rfl, trivial⟩ (no (Or.inr (by omega)))
  · obtain rfl : isS = 0 := his.trans (b2i_f hs)
    have hw : gWhyP S (nI st) = -1 := by unfold gWhyP; rw [if_pos (hw1.mpr hs)]
    refine E_iload dL_law_702 (by rfl) ?_
    refine E_if_eq (tgt := 725) dL_law_704 (by decide) (fun q704 => ?_) (fun q704 => ?_)
    · refine E_iconst (v := 0) dL_law_725 (by decide) ?_
      exact E_loc (zI nc e h st 0 th en) ⟨rfl, rfl, rfl, rfl, rfl, rfl, rfl, rfl, rfl, rfl, rfl, rfl, rfl, trivial⟩ (z_put0 (r0 := -1) hW hL hI hnc hk6 hst (Or.inl ⟨rfl, rfl⟩) hw hcs kk)
    · exact absurd rfl q704
theorem z_remove (hW : Wd mem S) (hL : Lw mem S d l c t) (hI : Iv S T n m) (hnc : nc = sCn (g_up (g_le S)) T) (hk6 : cN (g_up (g_le S)) T ≤ 6) (hst : st ≤ T) (hth : th = sCn (fun i => (c (6 * i)).toInt = (nI st).toInt) n) (hcs : ce + 1 ≤ 600000 ∧ sl + 6 ≤ 7302249) (kk : ∀ mm nc', StX mm nc' n → E G kL_law lR (ce + 1) (sl + 6) mm 935 (x_L (zE nc' e 1)) []) : E G kL_law lR ce sl mem 806 (x_L (zI nc e h st isS th en)) [] := by
  obtain ⟨b1, b2, hLa, hd, hl, hR⟩ := id hL
  have t60 := hI.t60
  have hcs2 : ce ≤ 600000 ∧ sl ≤ 7302249 := by omega
  have hla := la_is hI hl hst
  obtain ⟨v0, a0⟩ := hW.a0
  by_cases hy : g_isLa S (nI st)
  · have h1 := hla.mp hy
    have hlt : st < T := by have := hy.1.2; rw [hI.gtI, nI_toInt (by omega)] at this; omega
    have w1 := w_remove_ok (G := G) hW hI hy
    rw [there_eq hI hR, ← hth] at w1
    have hI2 := hI.putL (v := 0) hlt (Or.inl rfl)
    have hl2 := hl.put (st := st) (v := 0) (by omega) (Or.inl rfl)
    refine E_aload_n dL_law_806 (by rfl) ?_
    refine E_iload dL_law_807 (by rfl) ?_
    refine cp_L_law_809 (by assumption) (Nat.le_of_ble_eq_true rfl) hcs2 w1 (fun m809 h809 => ?_)
    obtain ⟨g1, g2⟩ := h809
    have c2 := (g2 87 (by decide)).trans b2
    refine E_aload_n dL_law_812 (by rfl) ?_
    refine E_iload dL_law_813 (by rfl) ?_
    refine E_rd dL_law_815 (by assumption) rfl (by omega) (by first | decide | omega) rfl ?_
    refine E_iconst (v := 1) dL_law_816 (by decide) ?_
    refine E_icmp_ne (n := 1) (by decide) (tgt := 825) dL_law_817 (by decide) (fun q817 => ?_) (fun q817 => ?_)
    · exact absurd h1 q817
    · refine E_iload dL_law_820 (by rfl) ?_
      refine E_goto (tgt := 826) dL_law_822 (by decide) ?_
      refine E_icmp_ne (n := _) rfl (tgt := 833) dL_law_826 (by decide) (fun q826 => ?_) (fun q826 => ?_)
      · exact absurd rfl q826
      · refine E_iconst (v := 1) dL_law_829 (by decide) ?_
        refine E_goto (tgt := 834) dL_law_830 (by decide) ?_
        refine E_istore dL_law_834 (Nat.le_of_ble_eq_true rfl) (by rfl) ?_
        refine E_aload_n dL_law_836 (by rfl) ?_
        refine E_iload dL_law_837 (by rfl) ?_
        refine E_iconst (v := 0) dL_law_839 (by decide) ?_
        refine E_wr dL_law_840 (by assumption) rfl (by omega) (by first | decide | omega) ?_
        refine E_goto (tgt := 935) dL_law_841 (by decide) ?_
        refine E_widen (Nat.le_succ ce) (by omega) (E_loc (zE nc e 1) ⟨rfl, rfl, rfl, rfl, rfl, rfl, rfl, rfl, rfl, trivial⟩ (kk _ _ ⟨gPutL S (nI st) 0, T, m, d, upd l st 0, c, t, g1.fr (rc := 87) (rt := 87) Fr.setc (by decide) (by decide), ?_, hI2, hnc, hk6⟩))
        exact ⟨x_get_set ((g2 86 (by decide)).trans b1) (by decide), x_get_same c2, ⟨x_get_set ((g2 88 (by decide)).trans hLa.1) (by decide), x_get_set ((g2 89 (by decide)).trans hLa.2) (by decide)⟩, hd, hl2, hR⟩
  · have h1 : ¬ (l st).toInt = 1 := fun z => hy (hla.mpr z)
    have l0 : l st = 0 := by
      by_cases z : st < 60
      · have q := hl.2 st z
        rcases q.2 with r | r
        · rw [q.1, r]
        · rw [q.1, r] at h1; exact absurd (by decide) h1
      · rw [show st = 60 by omega]; exact hl.1
    have w1 := w_remove_no (G := G) hW hI hy
    refine E_aload_n dL_law_806 (by rfl) ?_
    refine E_iload dL_law_807 (by rfl) ?_
    refine cp_L_law_809 (by assumption) (Nat.le_of_ble_eq_true rfl) hcs2 w1 (fun m809 h809 => ?_)
    obtain ⟨g1, g2⟩ := h809
    have c2 := (g2 87 (by decide)).trans b2
    refine E_aload_n dL_law_812 (by rfl) ?_
    refine E_iload dL_law_813 (by rfl) ?_
    refine E_rd dL_law_815 (by assumption) rfl (by omega) (by first | decide | omega) rfl ?_
    refine E_iconst (v := 1) dL_law_816 (by decide) ?_
    refine E_icmp_ne (n := 1) (by decide) (tgt := 825) dL_law_817 (by decide) (fun q817 => ?_) (fun q817 => ?_)
    · refine E_iconst (v := (-1)) dL_law_825 (by decide) ?_
      refine E_icmp_ne (n := (-1)) (by decide) (tgt := 833) dL_law_826 (by decide) (fun q826 => ?_) (fun q826 => ?_)
      · exact absurd rfl q826
      · refine E_iconst (v := 1) dL_law_829 (by decide) ?_
        refine E_goto (tgt := 834) dL_law_830 (by decide) ?_
        refine E_istore dL_law_834 (Nat.le_of_ble_eq_true rfl) (by rfl) ?_
        refine E_aload_n dL_law_836 (by rfl) ?_
        refine E_iload dL_law_837 (by rfl) ?_
        refine E_iconst (v := 0) dL_law_839 (by decide) ?_
        refine E_wr dL_law_840 (by assumption) rfl (by omega) (by first | decide | omega) ?_
        refine E_mem (mem' := m809) (by rw [upd_id l0]; exact x_set_self c2) ?_
        refine E_goto (tgt := 935) dL_law_841 (by decide) ?_
        refine E_widen (Nat.le_succ ce) (by omega) (E_loc (zE nc e 1) ⟨rfl, rfl, rfl, rfl, rfl, rfl, rfl, rfl, rfl, trivial⟩ (kk _ _ ⟨S, T, m, d, l, c, t, g1, hL.s86 g2, hI, hnc, hk6⟩))
    · exact absurd q817 h1
end C2
