/-! the law: its loop, its entry -/
section LP
variable {G : xG} {mem mm M : xM} {T n m u k x y st lo i q e a L : Nat} {S V : gS} {v w nc h kd is isS th en r0 can due : Int32} {d l c t : Nat → Int32} {ce sl : Nat}
abbrev zA (nc : Int32) (e : Nat) (h kd : Int32) (st : Nat) (isS th en : Int32) : List (Nat × Value) := [(0, .float 0), (1, .ref 0), (2, .ref 86), (3, .ref 87), (4, .ref 88), (5, .ref 89), (6, .int nc), (7, .int (nI e)), (8, .int h), (9, .int kd), (10, .int (nI st)), (11, .int isS), (12, .int th), (13, .int en)]
abbrev z11 (nc : Int32) (e : Nat) (h kd : Int32) (st : Nat) (isS : Int32) : List (Nat × Value) := [(0, .float 0), (1, .ref 0), (2, .ref 86), (3, .ref 87), (4, .ref 88), (5, .ref 89), (6, .int nc), (7, .int (nI e)), (8, .int h), (9, .int kd), (10, .int (nI st)), (11, .int isS)]
abbrev z12 (nc : Int32) (e : Nat) (h kd : Int32) (st : Nat) (isS th en : Int32) : List (Nat × Value) := [(0, .float 0), (1, .ref 0), (2, .ref 86), (3, .ref 87), (4, .ref 88), (5, .ref 89), (6, .int nc), (7, .int (nI e)), (8, .int h), (9, .int kd), (10, .int (nI st)), (11, .int isS), (12, .int th), (13, .int en)]
/-- behind a case: all is looked at -/
theorem z_tail (hX : StX mem nc n) (hn : 1 ≤ n) (hcs : ce + 24 ≤ 600000 ∧ sl + 660 ≤ 7302249) (kk : ∀ mm, StX mm nc n → E G kL_law lR (ce + 24) (sl + 660) mm 63 (x_L (zL nc (e + 1))) []) : E G kL_law lR ce sl mem 935 (x_L (zE nc e 1)) [] := by
  obtain ⟨S, T, m, d, l, c, t, ⟨C, hC, hS, h5⟩, hL, hI, hnc, hk6⟩ := hX
  have hm : m < n := by have := hI.mn; omega
  refine E_iload dL_law_935 (by rfl) ?_
  refine E_if_eq (tgt := 976) dL_law_937 (by decide) (fun q937 => ?_) (fun q937 => ?_)
  · exact absurd q937 (by decide)
  · refine E_aload_n dL_law_940 (by rfl) ?_
    refine E_aload_n dL_law_941 (by rfl) ?_
    refine E_aload_n dL_law_942 (by rfl) ?_
    refine E_aload dL_law_943 (by rfl) ?_
    refine E_aload dL_law_945 (by rfl) ?_
    refine E_iload dL_law_947 (by rfl) ?_
    refine cw_L_law_949 (show ce + 6 ≤ 600000 ∧ sl + 366 ≤ 7302249 by omega) (Nat.le_of_ble_eq_true rfl) (y_game hC hS hI hL hnc) (fun m949 h949 => ?_)
    obtain ⟨xs, hxs⟩ := h949
    have hC2 : cAt m949 C := by rw [hxs]; exact cAt_app hC xs
    have hL2 : Lw m949 S d l c t := by rw [hxs]; exact hL.app xs
    refine E_if_eq (tgt := 976) dL_law_952 (by decide) (fun q952 => ?_) (fun q952 => ?_)
    · exact absurd q952 (by decide)
    · refine E_iload dL_law_955 (by rfl) ?_
      refine E_iconst (v := 2) dL_law_957 (by decide) ?_
      refine E_irem dL_law_958 (by decide) ?_
      refine E_iconst (v := 1) dL_law_959 (by decide) ?_
      refine E_icmp_ne (n := 1) (by decide) (tgt := 978) dL_law_960 (by decide) (fun q960 => ?_) (fun q960 => ?_)
      · refine E_iinc (d := 1) dL_law_978 (by rfl) (by decide) (Nat.le_of_ble_eq_true rfl) (by rfl) ?_
        refine E_goto (tgt := 63) dL_law_981 (by decide) ?_
        first | exact E_loc (zL nc (e + 1)) ⟨rfl, rfl, rfl, rfl, rfl, rfl, rfl, x_i (nI_1 e), trivial⟩ (kk _ ⟨S, T, m, d, l, c, t, ⟨cTr C X, g1, hS, h5⟩, g2, hI, hnc, hk6⟩) | exact E_widen (show ce + 6 ≤ ce + 24 by omega) (show sl + 366 ≤ sl + 660 by omega) (E_loc (zL nc (e + 1)) ⟨rfl, rfl, rfl, rfl, rfl, rfl, rfl, x_i (nI_1 e), trivial⟩ (kk _ ⟨S, T, m, d, l, c, t, ⟨C, hC2, hS, h5⟩, hL2, hI, hnc, hk6⟩))
      · refine E_aload_n dL_law_963 (by rfl) ?_
        refine E_aload_n dL_law_964 (by rfl) ?_
        refine E_aload_n dL_law_965 (by rfl) ?_
        refine E_aload dL_law_966 (by rfl) ?_
        refine E_aload dL_law_968 (by rfl) ?_
        refine cw_L_law_970 (show ce + 6 + 18 ≤ 600000 ∧ sl + 366 + 294 ≤ 7302249 by omega) (Nat.le_of_ble_eq_true rfl) (y_ahead hC2 hS hI hm hL2 hL2.le90) (fun m970 h970 => ?_)
        obtain ⟨⟨X, g1⟩, g2, g3⟩ := h970
        refine E_if_ne (tgt := 978) dL_law_973 (by decide) (fun q973 => ?_) (fun q973 => ?_)
        · refine E_iinc (d := 1) dL_law_978 (by rfl) (by decide) (Nat.le_of_ble_eq_true rfl) (by rfl) ?_
          refine E_goto (tgt := 63) dL_law_981 (by decide) ?_
          first | exact E_loc (zL nc (e + 1)) ⟨rfl, rfl, rfl, rfl, rfl, rfl, rfl, x_i (nI_1 e), trivial⟩ (kk _ ⟨S, T, m, d, l, c, t, ⟨cTr C X, g1, hS, h5⟩, g2, hI, hnc, hk6⟩) | exact E_widen (show ce + 6 ≤ ce + 24 by omega) (show sl + 366 ≤ sl + 660 by omega) (E_loc (zL nc (e + 1)) ⟨rfl, rfl, rfl, rfl, rfl, rfl, rfl, x_i (nI_1 e), trivial⟩ (kk _ ⟨S, T, m, d, l, c, t, ⟨C, hC2, hS, h5⟩, hL2, hI, hnc, hk6⟩))
        · exact absurd q973 (by decide)
/-- which case -/
theorem z_disp (hW : Wd mem S) (hL : Lw mem S d l c t) (hI : Iv S T n m) (hnc : nc = sCn (g_up (g_le S)) T) (hk6 : cN (g_up (g_le S)) T ≤ 6) (hst : st ≤ T) (he : e < 70) (hen0 : (e = 0 ∧ n = 0) ∨ (e = 1 ∧ n = 1) ∨ (2 ≤ e ∧ 1 ≤ n)) (his : isS = b2i (0 < st ∧ st < T)) (hth : th = sCn (fun i => (c (6 * i)).toInt = (nI st).toInt) n) (hen : en = sCn (fun k => (d k).toInt = (nI st).toInt) 61) (hcs : ce + 1 ≤ 600000 ∧ sl + 6 ≤ 7302249) (kk : ∀ mm nc' n', StX mm nc' n' → 1 ≤ n' → (e = 0 → n' = 1) → E G kL_law lR (ce + 1) (sl + 6) mm 935 (x_L (zE nc' e 1)) []) : E G kL_law lR ce sl mem 205 (x_L (zA nc e h kd st isS th en)) [] := by
  obtain ⟨b1, b2, ⟨b3, b4⟩, hd, hl, hR⟩ := id hL
  have t60 := hI.t60
  have n6 := hI.n6
  have hcs2 : ce ≤ 600000 ∧ sl ≤ 7302249 := by omega
  have ee : (nI e).toInt = (e : Int) := nI_toInt (by omega)
  have enn : (nI n).toInt = (n : Int) := nI_toInt (by omega)
  have ht1 : t 1 = nI n := hR.t1.trans hI.gc
  have e2 : (2 : Int32).toInt = 2 := by decide
  have e6 : (6 : Int32).toInt = 6 := by decide
  have zJ : n < 6 → E G kL_law lR ce sl mem 228 (x_L (zL nc e)) [] := fun hn => z_join hW hL hI hnc hk6 hn hcs (fun mm hX => kk mm nc (n + 1) hX (by omega) (by omega))
  have others : 2 ≤ e → E G kL_law lR ce sl mem 289 (x_L (zA nc e h kd st isS th en)) [] := by
    intro he2
    have hn1 : 1 ≤ n := by omega
    have hm : m < n := by have := hI.mn; omega
    have k1 : ∀ mm nc', StX mm nc' n → E G kL_law lR (ce + 1) (sl + 6) mm 935 (x_L (zE nc' e 1)) [] := fun mm nc' hX => kk mm nc' n hX hn1 (by omega)
    have d844 : E G kL_law lR ce sl mem 844 (x_L (zA nc e h kd st isS th en)) [] := by
      refine E_iload dL_law_844 (by rfl) ?_
      refine E_bipush (v := 7) dL_law_846 (by decide) ?_
      refine E_icmp_ne (n := 7) (by decide) (tgt := 879) dL_law_848 (by decide) (fun q848 => ?_) (fun q848 => ?_)
      · exact E_loc (zS nc e h st) ⟨rfl, rfl, rfl, rfl, rfl, rfl, rfl, rfl, rfl, rfl, trivial⟩ (z_roll hW hL hI hnc hk6 hm hcs (fun mm => k1 mm nc))
      · exact E_loc (zS nc e h st) ⟨rfl, rfl, rfl, rfl, rfl, rfl, rfl, rfl, rfl, rfl, trivial⟩ (z_pass hW hL hI hnc hk6 hm hcs (fun mm => k1 mm nc))
    have d787 : E G kL_law lR ce sl mem 787 (x_L (zA nc e h kd st isS th en)) [] := by
      refine E_iload dL_law_787 (by rfl) ?_
      refine E_bipush (v := 6) dL_law_789 (by decide) ?_
      refine E_icmp_ne (n := 6) (by decide) (tgt := 844) dL_law_791 (by decide) (fun q791 => ?_) (fun q791 => ?_)
      · exact E_loc (zA nc e h kd st isS th en) ⟨rfl, rfl, rfl, rfl, rfl, rfl, rfl, rfl, rfl, rfl, rfl, rfl, rfl, rfl, trivial⟩ d844
      · refine E_iload dL_law_794 (by rfl) ?_
        refine E_bipush (v := 12) dL_law_796 (by decide) ?_
        refine E_ishr dL_law_798 ?_
        refine E_iconst (v := 2) dL_law_799 (by decide) ?_
        refine cs_L_law_800 (Nat.le_of_ble_eq_true rfl) hcs2 (y_low (h >>> (12 &&& 31)) 2 (by decide)) ?_
        refine E_if_ne (tgt := 844) dL_law_803 (by decide) (fun q803 => ?_) (fun q803 => ?_)
        · exact E_loc (zA nc e h kd st isS th en) ⟨rfl, rfl, rfl, rfl, rfl, rfl, rfl, rfl, rfl, rfl, rfl, rfl, rfl, rfl, trivial⟩ d844
        · exact E_loc (zI nc e h st isS th en) ⟨rfl, rfl, rfl, rfl, rfl, rfl, rfl, rfl, rfl, rfl, rfl, rfl, rfl, trivial⟩ (z_remove hW hL hI hnc hk6 hst hth hcs k1)
    have d690 : E G kL_law lR ce sl mem 690 (x_L (zA nc e h kd st isS th en)) [] := by
      refine E_iload dL_law_690 (by rfl) ?_
      refine E_iconst (v := 4) dL_law_692 (by decide) ?_
      refine E_icmp_eq (n := 4) (by decide) (tgt := 702) dL_law_693 (by decide) (fun q693 => ?_) (fun q693 => ?_)
      · exact E_loc (zI nc e h st isS th en) ⟨rfl, rfl, rfl, rfl, rfl, rfl, rfl, rfl, rfl, rfl, rfl, rfl, rfl, trivial⟩ (z_put hW hL hI hnc hk6 hst his hcs k1)
      · refine E_iload dL_law_696 (by rfl) ?_
        refine E_iconst (v := 5) dL_law_698 (by decide) ?_
        refine E_icmp_ne (n := 5) (by decide) (tgt := 787) dL_law_699 (by decide) (fun q699 => ?_) (fun q699 => ?_)
        · exact E_loc (zA nc e h kd st isS th en) ⟨rfl, rfl, rfl, rfl, rfl, rfl, rfl, rfl, rfl, rfl, rfl, rfl, rfl, rfl, trivial⟩ d787
        · exact E_loc (zI nc e h st isS th en) ⟨rfl, rfl, rfl, rfl, rfl, rfl, rfl, rfl, rfl, rfl, rfl, rfl, rfl, trivial⟩ (z_put hW hL hI hnc hk6 hst his hcs k1)
    have zLay : E G kL_law lR ce sl mem 479 (x_L (zI nc e h st isS th en)) [] := z_lay hW hL hI hnc hk6 hst his hth hen hcs k1
    refine E_iload dL_law_289 (by rfl) ?_
    refine E_iconst (v := 1) dL_law_291 (by decide) ?_
    refine E_icmp_ne (n := 1) (by decide) (tgt := 467) dL_law_292 (by decide) (fun q292 => ?_) (fun q292 => ?_)
    · refine E_iload dL_law_467 (by rfl) ?_
      refine E_iconst (v := 2) dL_law_469 (by decide) ?_
      refine E_icmp_eq (n := 2) (by decide) (tgt := 479) dL_law_470 (by decide) (fun q470 => ?_) (fun q470 => ?_)
      · exact E_loc (zI nc e h st isS th en) ⟨rfl, rfl, rfl, rfl, rfl, rfl, rfl, rfl, rfl, rfl, rfl, rfl, rfl, trivial⟩ zLay
      · refine E_iload dL_law_473 (by rfl) ?_
        refine E_iconst (v := 3) dL_law_475 (by decide) ?_
        refine E_icmp_ne (n := 3) (by decide) (tgt := 636) dL_law_476 (by decide) (fun q476 => ?_) (fun q476 => ?_)
        · refine E_iload dL_law_636 (by rfl) ?_
          refine E_iconst (v := 4) dL_law_638 (by decide) ?_
          refine E_icmp_ne (n := 4) (by decide) (tgt := 690) dL_law_639 (by decide) (fun q639 => ?_) (fun q639 => ?_)
          · exact E_loc (zA nc e h kd st isS th en) ⟨rfl, rfl, rfl, rfl, rfl, rfl, rfl, rfl, rfl, rfl, rfl, rfl, rfl, rfl, trivial⟩ d690
          · refine E_aload_n dL_law_642 (by rfl) ?_
            refine E_iload dL_law_643 (by rfl) ?_
            refine E_rd dL_law_645 (by assumption) rfl (by omega) (by first | decide | omega) rfl ?_
            refine E_if_lt (tgt := 690) dL_law_646 (by decide) (fun q646 => ?_) (fun q646 => ?_)
            · exact E_loc (zA nc e h kd st isS th en) ⟨rfl, rfl, rfl, rfl, rfl, rfl, rfl, rfl, rfl, rfl, rfl, rfl, rfl, rfl, trivial⟩ d690
            · exact E_loc (zS nc e h st) ⟨rfl, rfl, rfl, rfl, rfl, rfl, rfl, rfl, rfl, rfl, trivial⟩ (z_take hW hL hI hnc hk6 hst (by omega) hcs k1)
        · exact E_loc (zI nc e h st isS th en) ⟨rfl, rfl, rfl, rfl, rfl, rfl, rfl, rfl, rfl, rfl, rfl, rfl, rfl, trivial⟩ zLay
    · exact E_loc (zS nc e h st) ⟨rfl, rfl, rfl, rfl, rfl, rfl, rfl, rfl, rfl, rfl, trivial⟩ (z_top hW hL hI hnc hk6 hcs k1)
  have d222 : E G kL_law lR ce sl mem 222 (x_L (zA nc e h kd st isS th en)) [] := by
    refine E_iload dL_law_222 (by rfl) ?_
    refine E_iconst (v := 2) dL_law_224 (by decide) ?_
    refine E_icmp_ge (n := 2) (by decide) (tgt := 289) dL_law_225 (by decide) (fun q225 => ?_) (fun q225 => ?_)
    · exact E_loc (zA nc e h kd st isS th en) ⟨rfl, rfl, rfl, rfl, rfl, rfl, rfl, rfl, rfl, rfl, rfl, rfl, rfl, rfl, trivial⟩ (others (by omega))
    · exact E_loc (zL nc e) ⟨rfl, rfl, rfl, rfl, rfl, rfl, rfl, rfl, trivial⟩ (zJ (by omega))
  refine E_iconst (v := 1) dL_law_205 (by decide) ?_
  refine E_istore dL_law_206 (Nat.le_of_ble_eq_true rfl) (by rfl) ?_
  refine E_iload dL_law_208 (by rfl) ?_
  refine E_if_ne (tgt := 222) dL_law_210 (by decide) (fun q210 => ?_) (fun q210 => ?_)
  · exact E_loc (zA nc e h kd st isS th en) ⟨rfl, rfl, rfl, rfl, rfl, rfl, rfl, rfl, rfl, rfl, rfl, rfl, rfl, rfl, trivial⟩ d222
  · refine E_aload dL_law_213 (by rfl) ?_
    refine E_iconst (v := 1) dL_law_215 (by decide) ?_
    refine E_rd dL_law_216 (by assumption) (show (1 : Int32) = nI 1 from rfl) (by omega) (by first | decide | omega) ht1 ?_
    refine E_bipush (v := 6) dL_law_217 (by decide) ?_
    refine E_icmp_lt (n := 6) (by decide) (tgt := 228) dL_law_219 (by decide) (fun q219 => ?_) (fun q219 => ?_)
    · exact E_loc (zL nc e) ⟨rfl, rfl, rfl, rfl, rfl, rfl, rfl, rfl, trivial⟩ (zJ (by omega))
    · exact E_loc (zA nc e h kd st isS th en) ⟨rfl, rfl, rfl, rfl, rfl, rfl, rfl, rfl, rfl, rfl, rfl, rfl, rfl, rfl, trivial⟩ d222
/-- who stands there, which carpets end there -/
theorem z_count (hL : Lw mem S d l c t) (hI : Iv S T n m) (kk : E G kL_law lR ce sl mem 205 (x_L (zA nc e h kd st isS (sCn (fun i => (c (6 * i)).toInt = (nI st).toInt) n) (sCn (fun k => (d k).toInt = (nI st).toInt) 61))) []) : E G kL_law lR ce sl mem 123 (x_L (z11 nc e h kd st isS)) [] := by
  have n6 := hI.n6
  have en : (nI n).toInt = (n : Int) := nI_toInt (by omega)
  obtain ⟨b1, b2, ⟨b3, b4⟩, hd, hl, hR⟩ := id hL
  have ht1 : t 1 = nI n := hR.t1.trans hI.gc
  have ends : E G kL_law lR ce sl mem 170 (x_L (z12 nc e h kd st isS (sCn (fun i => (c (6 * i)).toInt = (nI st).toInt) n) 0)) [] := by
    have e61 : (61 : Int32).toInt = 61 := by decide
    have loop : ∀ di i : Nat, 61 < i + di → i ≤ 61 → E G kL_law lR ce sl (mem) 173 (x_L [(0, .float 0), (1, .ref 0), (2, .ref 86), (3, .ref 87), (4, .ref 88), (5, .ref 89), (6, .int nc), (7, .int (nI e)), (8, .int h), (9, .int kd), (10, .int (nI st)), (11, .int isS), (12, .int (sCn (fun i => (c (6 * i)).toInt = (nI st).toInt) n)), (13, .int (sCn (fun k => (d k).toInt = (nI st).toInt) i)), (14, .int (nI i))]) [] := by
      intro di
      induction di with
      | zero => intro i hi1 hi2; exact absurd hi1 (by omega)
      | succ di ihi =>
        intro i hi1 hi2
        have ei : (nI i).toInt = (i : Int) := nI_toInt (by omega)
        have eci : (nI i).toNatClampNeg = i := nI_clamp (by omega)
        refine E_iload dL_law_173 (by rfl) ?_
        refine E_bipush (v := 61) dL_law_175 (by decide) ?_
        refine E_icmp_ge (n := 61) (by decide) (tgt := 205) dL_law_177 (by decide) (fun q177 => ?_) (fun q177 => ?_)
        · obtain rfl : i = 61 := by omega
          exact E_loc (zA nc e h kd st isS (sCn (fun i => (c (6 * i)).toInt = (nI st).toInt) n) (sCn (fun k => (d k).toInt = (nI st).toInt) 61)) ⟨rfl, rfl, rfl, rfl, rfl, rfl, rfl, rfl, rfl, rfl, rfl, rfl, rfl, rfl, trivial⟩ kk
        · refine E_iload dL_law_180 (by rfl) ?_
          refine E_aload_n dL_law_182 (by rfl) ?_
          refine E_iload dL_law_183 (by rfl) ?_
          refine E_rd dL_law_185 (by assumption) rfl (by omega) (by first | decide | omega) rfl ?_
          refine E_iload dL_law_186 (by rfl) ?_
          refine E_icmp_ne (n := _) rfl (tgt := 195) dL_law_188 (by decide) (fun q188 => ?_) (fun q188 => ?_)
          · refine E_iconst (v := 0) dL_law_195 (by decide) ?_
            refine E_iadd dL_law_196 ?_
            refine E_istore dL_law_197 (Nat.le_of_ble_eq_true rfl) (by rfl) ?_
            refine E_iinc (d := 1) dL_law_199 (by rfl) (by decide) (Nat.le_of_ble_eq_true rfl) (by rfl) ?_
            refine E_goto (tgt := 173) dL_law_202 (by decide) ?_
            exact E_loc [(0, .float 0), (1, .ref 0), (2, .ref 86), (3, .ref 87), (4, .ref 88), (5, .ref 89), (6, .int nc), (7, .int (nI e)), (8, .int h), (9, .int kd), (10, .int (nI st)), (11, .int isS), (12, .int (sCn (fun i => (c (6 * i)).toInt = (nI st).toInt) n)), (13, .int (sCn (fun k => (d k).toInt = (nI st).toInt) (i + 1))), (14, .int (nI (i + 1)))] ⟨rfl, rfl, rfl, rfl, rfl, rfl, rfl, rfl, rfl, rfl, rfl, rfl, rfl, x_i (by simp only [sCn]; first | rw [if_pos (show (d i).toInt = (nI st).toInt by omega)] | rw [if_neg (show ¬ (d i).toInt = (nI st).toInt by omega), Int32.add_zero]), x_i (by first | exact nI_1 _ | decide), trivial⟩ (ihi (i + 1) (by omega) (by omega))
          · refine E_iconst (v := 1) dL_law_191 (by decide) ?_
            refine E_goto (tgt := 196) dL_law_192 (by decide) ?_
            refine E_iadd dL_law_196 ?_
            refine E_istore dL_law_197 (Nat.le_of_ble_eq_true rfl) (by rfl) ?_
            refine E_iinc (d := 1) dL_law_199 (by rfl) (by decide) (Nat.le_of_ble_eq_true rfl) (by rfl) ?_
            refine E_goto (tgt := 173) dL_law_202 (by decide) ?_
            exact E_loc [(0, .float 0), (1, .ref 0), (2, .ref 86), (3, .ref 87), (4, .ref 88), (5, .ref 89), (6, .int nc), (7, .int (nI e)), (8, .int h), (9, .int kd), (10, .int (nI st)), (11, .int isS), (12, .int (sCn (fun i => (c (6 * i)).toInt = (nI st).toInt) n)), (13, .int (sCn (fun k => (d k).toInt = (nI st).toInt) (i + 1))), (14, .int (nI (i + 1)))] ⟨rfl, rfl, rfl, rfl, rfl, rfl, rfl, rfl, rfl, rfl, rfl, rfl, rfl, x_i (by simp only [sCn]; first | rw [if_pos (show (d i).toInt = (nI st).toInt by omega)] | rw [if_neg (show ¬ (d i).toInt = (nI st).toInt by omega), Int32.add_zero]), x_i (by first | exact nI_1 _ | decide), trivial⟩ (ihi (i + 1) (by omega) (by omega))
    refine E_iconst (v := 0) dL_law_170 (by decide) ?_
    refine E_istore dL_law_171 (Nat.le_of_ble_eq_true rfl) (by rfl) ?_
    exact E_loc [(0, .float 0), (1, .ref 0), (2, .ref 86), (3, .ref 87), (4, .ref 88), (5, .ref 89), (6, .int nc), (7, .int (nI e)), (8, .int h), (9, .int kd), (10, .int (nI st)), (11, .int isS), (12, .int (sCn (fun i => (c (6 * i)).toInt = (nI st).toInt) n)), (13, .int (sCn (fun k => (d k).toInt = (nI st).toInt) 0)), (14, .int (nI 0))] ⟨rfl, rfl, rfl, rfl, rfl, rfl, rfl, rfl, rfl, rfl, rfl, rfl, rfl, rfl, rfl, trivial⟩ (loop (61 + 1) 0 (by omega) (by omega))
  have loop : ∀ di i : Nat, n < i + di → i ≤ n → E G kL_law lR ce sl (mem) 132 (x_L [(0, .float 0), (1, .ref 0), (2, .ref 86), (3, .ref 87), (4, .ref 88), (5, .ref 89), (6, .int nc), (7, .int (nI e)), (8, .int h), (9, .int kd), (10, .int (nI st)), (11, .int isS), (12, .int (sCn (fun i => (c (6 * i)).toInt = (nI st).toInt) i)), (13, .int 0), (14, .int (nI i))]) [] := by
    intro di
    induction di with
    | zero => intro i hi1 hi2; exact absurd hi1 (by omega)
    | succ di ihi =>
      intro i hi1 hi2
      have ei : (nI i).toInt = (i : Int) := nI_toInt (by omega)
      have eci : (nI i).toNatClampNeg = i := nI_clamp (by omega)
      refine E_iload dL_law_132 (by rfl) ?_
      refine E_aload dL_law_134 (by rfl) ?_
      refine E_iconst (v := 1) dL_law_136 (by decide) ?_
      refine E_rd dL_law_137 (by assumption) (show (1 : Int32) = nI 1 from rfl) (by omega) (by first | decide | omega) ht1 ?_
      refine E_icmp_ge (n := _) rfl (tgt := 170) dL_law_138 (by decide) (fun q138 => ?_) (fun q138 => ?_)
      · obtain rfl : i = n := by omega
        exact E_loc (z12 nc e h kd st isS (sCn (fun j => (c (6 * j)).toInt = (nI st).toInt) i) 0) ⟨rfl, rfl, rfl, rfl, rfl, rfl, rfl, rfl, rfl, rfl, rfl, rfl, rfl, rfl, trivial⟩ ends
      · refine E_iload dL_law_141 (by rfl) ?_
        refine E_aload dL_law_143 (by rfl) ?_
        refine E_bipush (v := 6) dL_law_145 (by decide) ?_
        refine E_iload dL_law_147 (by rfl) ?_
        refine E_imul dL_law_149 ?_
        refine E_rd dL_law_150 (by assumption) (ix0 i) (by omega) (by first | decide | omega) rfl ?_
        refine E_iload dL_law_151 (by rfl) ?_
        refine E_icmp_ne (n := _) rfl (tgt := 160) dL_law_153 (by decide) (fun q153 => ?_) (fun q153 => ?_)
        · refine E_iconst (v := 0) dL_law_160 (by decide) ?_
          refine E_iadd dL_law_161 ?_
          refine E_istore dL_law_162 (Nat.le_of_ble_eq_true rfl) (by rfl) ?_
          refine E_iinc (d := 1) dL_law_164 (by rfl) (by decide) (Nat.le_of_ble_eq_true rfl) (by rfl) ?_
          refine E_goto (tgt := 132) dL_law_167 (by decide) ?_
          exact E_loc [(0, .float 0), (1, .ref 0), (2, .ref 86), (3, .ref 87), (4, .ref 88), (5, .ref 89), (6, .int nc), (7, .int (nI e)), (8, .int h), (9, .int kd), (10, .int (nI st)), (11, .int isS), (12, .int (sCn (fun i => (c (6 * i)).toInt = (nI st).toInt) (i + 1))), (13, .int 0), (14, .int (nI (i + 1)))] ⟨rfl, rfl, rfl, rfl, rfl, rfl, rfl, rfl, rfl, rfl, rfl, rfl, x_i (by simp only [sCn]; first | rw [if_pos (show (c (6 * i)).toInt = (nI st).toInt by omega)] | rw [if_neg (show ¬ (c (6 * i)).toInt = (nI st).toInt by omega), Int32.add_zero]), rfl, x_i (by first | exact nI_1 _ | decide), trivial⟩ (ihi (i + 1) (by omega) (by omega))
        · refine E_iconst (v := 1) dL_law_156 (by decide) ?_
          refine E_goto (tgt := 161) dL_law_157 (by decide) ?_
          refine E_iadd dL_law_161 ?_
          refine E_istore dL_law_162 (Nat.le_of_ble_eq_true rfl) (by rfl) ?_
          refine E_iinc (d := 1) dL_law_164 (by rfl) (by decide) (Nat.le_of_ble_eq_true rfl) (by rfl) ?_
          refine E_goto (tgt := 132) dL_law_167 (by decide) ?_
          exact E_loc [(0, .float 0), (1, .ref 0), (2, .ref 86), (3, .ref 87), (4, .ref 88), (5, .ref 89), (6, .int nc), (7, .int (nI e)), (8, .int h), (9, .int kd), (10, .int (nI st)), (11, .int isS), (12, .int (sCn (fun i => (c (6 * i)).toInt = (nI st).toInt) (i + 1))), (13, .int 0), (14, .int (nI (i + 1)))] ⟨rfl, rfl, rfl, rfl, rfl, rfl, rfl, rfl, rfl, rfl, rfl, rfl, x_i (by simp only [sCn]; first | rw [if_pos (show (c (6 * i)).toInt = (nI st).toInt by omega)] | rw [if_neg (show ¬ (c (6 * i)).toInt = (nI st).toInt by omega), Int32.add_zero]), rfl, x_i (by first | exact nI_1 _ | decide), trivial⟩ (ihi (i + 1) (by omega) (by omega))
  refine E_iconst (v := 0) dL_law_123 (by decide) ?_
  refine E_istore dL_law_124 (Nat.le_of_ble_eq_true rfl) (by rfl) ?_
  refine E_iconst (v := 0) dL_law_126 (by decide) ?_
  refine E_istore dL_law_127 (Nat.le_of_ble_eq_true rfl) (by rfl) ?_
  refine E_iconst (v := 0) dL_law_129 (by decide) ?_
  refine E_istore dL_law_130 (Nat.le_of_ble_eq_true rfl) (by rfl) ?_
  exact E_loc [(0, .float 0), (1, .ref 0), (2, .ref 86), (3, .ref 87), (4, .ref 88), (5, .ref 89), (6, .int nc), (7, .int (nI e)), (8, .int h), (9, .int kd), (10, .int (nI st)), (11, .int isS), (12, .int (sCn (fun i => (c (6 * i)).toInt = (nI st).toInt) 0)), (13, .int 0), (14, .int (nI 0))] ⟨rfl, rfl, rfl, rfl, rfl, rfl, rfl, rfl, rfl, rfl, rfl, rfl, rfl, rfl, rfl, trivial⟩ (loop (n + 1) 0 (by omega) (by omega))
/-- a round of the law -/
theorem z_round (hGL : G.2.2.2.2.2.1 = L) (hL260 : L ≤ 260) (hX : StX mem nc n) (he : e < 70) (hen0 : (e = 0 ∧ n = 0) ∨ (e = 1 ∧ n = 1) ∨ (2 ≤ e ∧ 1 ≤ n)) (hcs : ce + 25 ≤ 600000 ∧ sl + 666 ≤ 7302249) (kk : ∀ mm nc' n', StX mm nc' n' → 1 ≤ n' → (e = 0 → n' = 1) → E G kL_law lR (ce + 25) (sl + 666) mm 63 (x_L (zL nc' (e + 1))) []) : E G kL_law lR ce sl mem 63 (x_L (zL nc e)) [] := by
  obtain ⟨S, T, m, d, l, c, t, hW, hL, hI, hnc, hk6⟩ := hX
  obtain ⟨b1, b2, ⟨b3, b4⟩, hd, hl, hR⟩ := id hL
  have t60 := hI.t60
  have hcs2 : ce ≤ 600000 ∧ sl ≤ 7302249 := by omega
  have ee : (nI e).toInt = (e : Int) := nI_toInt (by omega)
  have eT : (nI T).toInt = (T : Int) := nI_toInt (by omega)
  have e70 : (70 : Int32).toInt = 70 := by decide
  have ht0 : t 0 = nI T := hR.t0.trans hI.gt
  obtain ⟨h, hh⟩ : ∃ h, h = sCell G e := ⟨_, rfl⟩
  have w1 := y_cell (G := G) (mem := mem) (e := e) hGL hL260 (by omega)
  rw [← hh] at w1
  obtain ⟨kd, hkd⟩ : ∃ kd, kd = sLow h 20 := ⟨_, rfl⟩
  have w2 := y_low (G := G) (mem := mem) h 20 (by decide)
  rw [← hkd] at w2
  obtain ⟨st, hst1, hste⟩ := y_low_nI (v := h >>> (5 &&& 31)) (n := T + 1) (by omega) (by omega)
  have w3 := y_low (G := G) (mem := mem) (h >>> (5 &&& 31)) (nI (T + 1)) (fun z => by have := nI_inj (a := T + 1) (b := 0) (by omega) (by omega) z; omega)
  rw [hste] at w3
  have est : (nI st).toInt = (st : Int) := nI_toInt (by omega)
  have hst : st ≤ T := by omega
  have go : ∀ isS, isS = b2i (0 < st ∧ st < T) → E G kL_law lR ce sl mem 123 (x_L (z11 nc e h kd st isS)) [] := fun isS his =>
    z_count hL hI (z_disp hW hL hI hnc hk6 hst he hen0 his rfl rfl (by omega) (fun mm nc' n' hX h1 h0 => z_tail hX h1 (by omega) (fun m2 hX2 => kk m2 nc' n' hX2 h1 h0)))
  refine E_iload dL_law_63 (by rfl) ?_
  refine E_bipush (v := 70) dL_law_65 (by decide) ?_
  refine E_icmp_ge (n := 70) (by decide) (tgt := 984) dL_law_67 (by decide) (fun q67 => ?_) (fun q67 => ?_)
  · exact absurd q67 (by omega)
  · refine E_sload_n dL_law_70 (by rfl) ?_
    refine E_iload dL_law_71 (by rfl) ?_
    refine cs_L_law_73 (Nat.le_of_ble_eq_true rfl) hcs2 w1 ?_
    refine E_istore dL_law_76 (Nat.le_of_ble_eq_true rfl) (by rfl) ?_
    refine E_iload dL_law_78 (by rfl) ?_
    refine E_bipush (v := 20) dL_law_80 (by decide) ?_
    refine cs_L_law_82 (Nat.le_of_ble_eq_true rfl) hcs2 w2 ?_
    refine E_istore dL_law_85 (Nat.le_of_ble_eq_true rfl) (by rfl) ?_
    refine E_iload dL_law_87 (by rfl) ?_
    refine E_iconst (v := 5) dL_law_89 (by decide) ?_
    refine E_ishr dL_law_90 ?_
    refine E_aload dL_law_91 (by rfl) ?_
    refine E_iconst (v := 0) dL_law_93 (by decide) ?_
    refine E_rd dL_law_94 (by assumption) (show (0 : Int32) = nI 0 from rfl) (by omega) (by first | decide | omega) ht0 ?_
    refine E_iconst (v := 1) dL_law_95 (by decide) ?_
    refine E_iadd dL_law_96 ?_
    refine E_eqi (nI_1 T) ?_
    refine cs_L_law_97 (Nat.le_of_ble_eq_true rfl) hcs2 w3 ?_
    refine E_istore dL_law_100 (Nat.le_of_ble_eq_true rfl) (by rfl) ?_
    refine E_iload dL_law_102 (by rfl) ?_
    refine E_if_le (tgt := 120) dL_law_104 (by decide) (fun q104 => ?_) (fun q104 => ?_)
    · refine E_iconst (v := 0) dL_law_120 (by decide) ?_
      refine E_istore dL_law_121 (Nat.le_of_ble_eq_true rfl) (by rfl) ?_
      first | exact E_loc (z11 nc e h kd st 1) ⟨rfl, rfl, rfl, rfl, rfl, rfl, rfl, rfl, rfl, rfl, rfl, rfl, trivial⟩ (go 1 (b2i_t (by omega)).symm) | exact E_loc (z11 nc e h kd st 0) ⟨rfl, rfl, rfl, rfl, rfl, rfl, rfl, rfl, rfl, rfl, rfl, rfl, trivial⟩ (go 0 (b2i_f (by omega)).symm)
    · refine E_iload dL_law_107 (by rfl) ?_
      refine E_aload dL_law_109 (by rfl) ?_
      refine E_iconst (v := 0) dL_law_111 (by decide) ?_
      refine E_rd dL_law_112 (by assumption) (show (0 : Int32) = nI 0 from rfl) (by omega) (by first | decide | omega) ht0 ?_
      refine E_icmp_ge (n := _) rfl (tgt := 120) dL_law_113 (by decide) (fun q113 => ?_) (fun q113 => ?_)
      · refine E_iconst (v := 0) dL_law_120 (by decide) ?_
        refine E_istore dL_law_121 (Nat.le_of_ble_eq_true rfl) (by rfl) ?_
        first | exact E_loc (z11 nc e h kd st 1) ⟨rfl, rfl, rfl, rfl, rfl, rfl, rfl, rfl, rfl, rfl, rfl, rfl, trivial⟩ (go 1 (b2i_t (by omega)).symm) | exact E_loc (z11 nc e h kd st 0) ⟨rfl, rfl, rfl, rfl, rfl, rfl, rfl, rfl, rfl, rfl, rfl, rfl, trivial⟩ (go 0 (b2i_f (by omega)).symm)
      · refine E_iconst (v := 1) dL_law_116 (by decide) ?_
        refine E_goto (tgt := 121) dL_law_117 (by decide) ?_
        refine E_istore dL_law_121 (Nat.le_of_ble_eq_true rfl) (by rfl) ?_
        first | exact E_loc (z11 nc e h kd st 1) ⟨rfl, rfl, rfl, rfl, rfl, rfl, rfl, rfl, rfl, rfl, rfl, rfl, trivial⟩ (go 1 (b2i_t (by omega)).symm) | exact E_loc (z11 nc e h kd st 0) ⟨rfl, rfl, rfl, rfl, rfl, rfl, rfl, rfl, rfl, rfl, rfl, rfl, trivial⟩ (go 0 (b2i_f (by omega)).symm)
theorem z_loop (hGL : G.2.2.2.2.2.1 = L) (hL260 : L ≤ 260) : ∀ (u e : Nat) (mem : xM) (nc : Int32) (n : Nat), 70 = e + u → StX mem nc n → ((e = 0 ∧ n = 0) ∨ (e = 1 ∧ n = 1) ∨ (2 ≤ e ∧ 1 ≤ n)) → E G kL_law lR (90 + 25 * e) (1762 + 666 * e) mem 63 (x_L (zL nc e)) [] := by
  intro u
  induction u with
  | zero =>
    intro e mem nc n hu hX hen
    obtain rfl : e = 70 := by omega
    refine E_iload dL_law_63 (by rfl) ?_
    refine E_bipush (v := 70) dL_law_65 (by decide) ?_
    refine E_icmp_ge (n := 70) (by decide) (tgt := 984) dL_law_67 (by decide) (fun q67 => ?_) (fun q67 => ?_)
    · refine E_iconst (v := 1) dL_law_984 (by decide) ?_
      refine E_iret dL_law_985 rfl (by decide) (show 90 + 25 * 70 ≤ 600000 ∧ 1762 + 666 * 70 ≤ 7302249 by omega).1 (show 90 + 25 * 70 ≤ 600000 ∧ 1762 + 666 * 70 ≤ 7302249 by omega).2 ?_
      rfl
    · exact absurd q67 (by decide)
  | succ u ih =>
    intro e mem nc n hu hX hen
    refine z_round hGL hL260 hX (by omega) hen (by omega) (fun mm nc' n' hX' h1 h0 => ?_)
    have q := ih (e + 1) mm nc' n' (by omega) hX' (by omega)
    rw [show 90 + 25 * (e + 1) = 90 + 25 * e + 25 by omega, show 1762 + 666 * (e + 1) = 1762 + 666 * e + 666 by omega] at q
    exact q
end LP
