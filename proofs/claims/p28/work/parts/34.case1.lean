/-! the law's cases: join, pass, roll, take -/
section C1
variable {G : xG} {mem mm M : xM} {T n m u k x y st lo i q e : Nat} {S V : gS} {v w nc h kd is : Int32} {d l c t : Nat → Int32} {ce sl : Nat}
abbrev zL (nc : Int32) (e : Nat) : List (Nat × Value) := [(0, .float 0), (1, .ref 0), (2, .ref 86), (3, .ref 87), (4, .ref 88), (5, .ref 89), (6, .int nc), (7, .int (nI e))]
abbrev zE (nc : Int32) (e : Nat) (is : Int32) : List (Nat × Value) := [(0, .float 0), (1, .ref 0), (2, .ref 86), (3, .ref 87), (4, .ref 88), (5, .ref 89), (6, .int nc), (7, .int (nI e)), (14, .int is)]
abbrev zS (nc : Int32) (e : Nat) (h : Int32) (st : Nat) : List (Nat × Value) := [(0, .float 0), (1, .ref 0), (2, .ref 86), (3, .ref 87), (4, .ref 88), (5, .ref 89), (6, .int nc), (7, .int (nI e)), (8, .int h), (10, .int (nI st))]
theorem z_join (hW : Wd mem S) (hL : Lw mem S d l c t) (hI : Iv S T n m) (hnc : nc = sCn (g_up (g_le S)) T) (hk6 : cN (g_up (g_le S)) T ≤ 6) (hn : n < 6) (hcs : ce + 1 ≤ 600000 ∧ sl + 6 ≤ 7302249) (kk : ∀ mm, StX mm nc (n + 1) → E G kL_law lR (ce + 1) (sl + 6) mm 935 (x_L (zE nc e 1)) []) : E G kL_law lR ce sl mem 228 (x_L (zL nc e)) [] := by
  obtain ⟨b1, b2, ⟨b3, b4⟩, hd, hl, hR⟩ := id hL
  have ht1 : t 1 = nI n := hR.t1.trans hI.gc
  have hcs2 : ce ≤ 600000 ∧ sl ≤ 7302249 := by omega
  have ho := hI.out n hn (Nat.le_refl _)
  have hlm := hR.lm n hn
  have zz : (if n = 0 then (0 : Int32) else 0) = 0 := by split <;> rfl
  rw [zz, Int32.add_zero] at hlm
  have hz : ∀ i, i < 6 → c (6 * n + i) = 0 := fun i hi => by
    match i, hi with
    | 0, _ => exact (hR.pl n hn).trans ho.1
    | 1, _ => exact (hR.tp n hn).trans ho.2.1
    | 2, _ => exact (hR.rs n hn).trans ho.2.2.1
    | 3, _ => exact (hR.tl n hn).trans ho.2.2.2.1
    | 4, _ => exact hlm.trans ho.2.2.2.2.1
    | 5, _ => exact (hR.sl n hn).trans ho.2.2.2.2.2
  have F1 : Fr 88 89 mem (mem.set 89 (g_a 0 7 (upd t 1 (nI n + 1)))) := Fr.sett
  have hW1 := hW.fr F1 (by decide) (by decide)
  obtain ⟨v0, a0⟩ := hW1.a0
  have b4' : (mem.set 89 (g_a 0 7 (upd t 1 (nI n + 1))))[89]? = some (g_a 0 7 (upd t 1 (nI n + 1))) := x_get_same b4
  have hLm : Lw (mem.set 89 (g_a 0 7 (upd t 1 (nI n + 1)))) (gAdd S) d l c (upd t 1 (nI n + 1)) := by
    refine ⟨x_get_set b1 (by decide), x_get_set b2 (by decide), ⟨x_get_set b3 (by decide), b4'⟩, hd, hl, hR.pl, hR.tp, hR.rs, hR.tl, hR.lm, hR.sl, (upd_ne (by decide)).trans hR.t0, ?_, (upd_ne (by decide)).trans hR.t2, ?_, ?_, (upd_ne (by decide)).trans hR.t5, (upd_ne (by decide)).trans hR.t6⟩
    · rw [upd_same]; exact congrArg (fun z => z + 1) hI.gc.symm
    · rw [upd_ne (by decide)]; exact hR.t3
    · rw [upd_ne (by decide)]; exact hR.t4
  have e6 : (6 : Int32).toInt = 6 := by decide
  have loop : ∀ di i : Nat, 6 < i + di → i ≤ 6 → E G kL_law lR ce sl (mem) 231 (x_L [(0, .float 0), (1, .ref 0), (2, .ref 86), (3, .ref 87), (4, .ref 88), (5, .ref 89), (6, .int nc), (7, .int (nI e)), (15, .int (nI i))]) [] := by
    intro di
    induction di with
    | zero => intro i hi1 hi2; exact absurd hi1 (by omega)
    | succ di ihi =>
      intro i hi1 hi2
      have ei : (nI i).toInt = (i : Int) := nI_toInt (by omega)
      have eci : (nI i).toNatClampNeg = i := nI_clamp (by omega)
      refine E_iload dL_law_231 (by rfl) ?_
      refine E_bipush (v := 6) dL_law_233 (by decide) ?_
      refine E_icmp_ge (n := 6) (by decide) (tgt := 258) dL_law_235 (by decide) (fun q235 => ?_) (fun q235 => ?_)
      · refine E_aload dL_law_258 (by rfl) ?_
        refine E_iconst (v := 1) dL_law_260 (by decide) ?_
        refine E_dup2 dL_law_261 rfl rfl ?_
        refine E_rd dL_law_262 (by assumption) (show (1 : Int32) = nI 1 from rfl) (by omega) (by first | decide | omega) ht1 ?_
        refine E_iconst (v := 1) dL_law_263 (by decide) ?_
        refine E_iadd dL_law_264 ?_
        refine E_wr dL_law_265 (by assumption) (show (1 : Int32) = nI 1 from rfl) (by omega) (by first | decide | omega) ?_
        refine E_aload_n dL_law_266 (by rfl) ?_
        refine cp_L_law_267 (by assumption) (Nat.le_of_ble_eq_true rfl) hcs2 (w_join hW1 hI hn) (fun m267 h267 => ?_)
        obtain ⟨g1, g2⟩ := h267
        have b5 := (g2 89 (by decide)).trans b4'
        refine E_aload dL_law_270 (by rfl) ?_
        refine E_iconst (v := 1) dL_law_272 (by decide) ?_
        refine E_rd dL_law_273 (by assumption) (show (1 : Int32) = nI 1 from rfl) (by omega) (by first | decide | omega) upd_same ?_
        refine E_iconst (v := 1) dL_law_274 (by decide) ?_
        refine E_isub dL_law_275 ?_
        refine E_icmp_ne (n := _) rfl (tgt := 283) dL_law_276 (by decide) (fun q276 => ?_) (fun q276 => ?_)
        · exact absurd (by rw [Int32.add_sub_cancel]) q276
        · refine E_iconst (v := 1) dL_law_279 (by decide) ?_
          refine E_goto (tgt := 284) dL_law_280 (by decide) ?_
          refine E_istore dL_law_284 (Nat.le_of_ble_eq_true rfl) (by rfl) ?_
          refine E_goto (tgt := 935) dL_law_286 (by decide) ?_
          refine E_widen (Nat.le_succ ce) (by omega) (E_loc (zE nc e 1) ⟨rfl, rfl, rfl, rfl, rfl, rfl, rfl, rfl, rfl, trivial⟩ (kk _ ⟨gAdd S, T, m, d, l, c, upd t 1 (nI n + 1), g1, hLm.s86 g2, hI.join hn, hnc, hk6⟩))
      · refine E_aload dL_law_238 (by rfl) ?_
        refine E_bipush (v := 6) dL_law_240 (by decide) ?_
        refine E_aload dL_law_242 (by rfl) ?_
        refine E_iconst (v := 1) dL_law_244 (by decide) ?_
        refine E_rd dL_law_245 (by assumption) (show (1 : Int32) = nI 1 from rfl) (by omega) (by first | decide | omega) ht1 ?_
        refine E_imul dL_law_246 ?_
        refine E_iload dL_law_247 (by rfl) ?_
        refine E_iadd dL_law_249 ?_
        refine E_iconst (v := 0) dL_law_250 (by decide) ?_
        refine E_wr dL_law_251 (by assumption) (ix n i) (by omega) (by first | decide | omega) ?_
        refine E_iinc (d := 1) dL_law_252 (by rfl) (by decide) (Nat.le_of_ble_eq_true rfl) (by rfl) ?_
        refine E_goto (tgt := 231) dL_law_255 (by decide) ?_
        refine E_mem (mem' := mem) (by rw [upd_id (hz i (by omega))]; exact x_set_self b3) ?_
        exact E_loc [(0, .float 0), (1, .ref 0), (2, .ref 86), (3, .ref 87), (4, .ref 88), (5, .ref 89), (6, .int nc), (7, .int (nI e)), (15, .int (nI (i + 1)))] ⟨rfl, rfl, rfl, rfl, rfl, rfl, rfl, rfl, x_i (by first | exact nI_1 _ | decide), trivial⟩ (ihi (i + 1) (by omega) (by omega))
  refine E_iconst (v := 0) dL_law_228 (by decide) ?_
  refine E_istore dL_law_229 (Nat.le_of_ble_eq_true rfl) (by rfl) ?_
  exact E_loc [(0, .float 0), (1, .ref 0), (2, .ref 86), (3, .ref 87), (4, .ref 88), (5, .ref 89), (6, .int nc), (7, .int (nI e)), (15, .int (nI 0))] ⟨rfl, rfl, rfl, rfl, rfl, rfl, rfl, rfl, rfl, trivial⟩ (loop (6 + 1) 0 (by omega) (by omega))
theorem z_pass (hW : Wd mem S) (hL : Lw mem S d l c t) (hI : Iv S T n m) (hnc : nc = sCn (g_up (g_le S)) T) (hk6 : cN (g_up (g_le S)) T ≤ 6) (hm : m < n) (hcs : ce + 1 ≤ 600000 ∧ sl + 6 ≤ 7302249) (kk : ∀ mm, StX mm nc n → E G kL_law lR (ce + 1) (sl + 6) mm 935 (x_L (zE nc e 1)) []) : E G kL_law lR ce sl mem 851 (x_L (zS nc e h st)) [] := by
  obtain ⟨b1, b2, hLa, hd, hl, hR⟩ := id hL
  have hcs2 : ce ≤ 600000 ∧ sl ≤ 7302249 := by omega
  have fx := gNext_fix S
  refine E_aload dL_law_851 (by rfl) ?_
  refine E_aload dL_law_853 (by rfl) ?_
  refine cw_L_law_855 hcs2 (Nat.le_of_ble_eq_true rfl) (y_next (by decide) hI.n6 hLa hR hI.gm hI.gc hm hI.rs) (fun m855 h855 => ?_)
  obtain ⟨c1, t1, g1, g2, g3⟩ := h855
  have hW1 := hW.fr g2 (by decide) (by decide)
  obtain ⟨v0, a0⟩ := hW1.a0
  obtain ⟨m', hm', hI2, hp⟩ := w_pass (G := G) hW1 hI hm
  refine E_aload_n dL_law_858 (by rfl) ?_
  refine cp_L_law_859 (by assumption) (Nat.le_of_ble_eq_true rfl) hcs2 hp (fun m859 h859 => ?_)
  obtain ⟨j1, j2⟩ := h859
  have k1 := (j2 89 (by decide)).trans g1.2
  refine E_aload dL_law_862 (by rfl) ?_
  refine E_iconst (v := 2) dL_law_864 (by decide) ?_
  refine E_rd dL_law_865 (by assumption) (show (2 : Int32) = nI 2 from rfl) (by omega) (by first | decide | omega) (g3.t2.trans hI2.gm) ?_
  refine E_icmp_ne (n := _) rfl (tgt := 873) dL_law_866 (by decide) (fun q866 => ?_) (fun q866 => ?_)
  · exact absurd rfl q866
  · refine E_iconst (v := 1) dL_law_869 (by decide) ?_
    refine E_goto (tgt := 874) dL_law_870 (by decide) ?_
    refine E_istore dL_law_874 (Nat.le_of_ble_eq_true rfl) (by rfl) ?_
    refine E_goto (tgt := 935) dL_law_876 (by decide) ?_
    refine E_widen (Nat.le_succ ce) (by omega) (E_loc (zE nc e 1) ⟨rfl, rfl, rfl, rfl, rfl, rfl, rfl, rfl, rfl, trivial⟩ (kk _ ⟨gNext S, T, m', d, l, c1, t1, j1, ?_, hI2, by rw [fx.1]; exact hnc, by rw [fx.1]; exact hk6⟩))
    exact ⟨(j2 86 (by decide)).trans (g2.get b1 (by decide) (by decide)), (j2 87 (by decide)).trans (g2.get b2 (by decide) (by decide)), ⟨(j2 88 (by decide)).trans g1.1, k1⟩, hd.of fx.1, by unfold Ry; rw [fx.2.1]; exact hl, g3⟩
theorem z_roll (hW : Wd mem S) (hL : Lw mem S d l c t) (hI : Iv S T n m) (hnc : nc = sCn (g_up (g_le S)) T) (hk6 : cN (g_up (g_le S)) T ≤ 6) (hm : m < n) (hcs : ce + 1 ≤ 600000 ∧ sl + 6 ≤ 7302249) (kk : ∀ mm, StX mm nc n → E G kL_law lR (ce + 1) (sl + 6) mm 935 (x_L (zE nc e 1)) []) : E G kL_law lR ce sl mem 879 (x_L (zS nc e h st)) [] := by
  obtain ⟨b1, b2, hLa, hd, hl, hR⟩ := id hL
  have n6 := hI.n6
  have hcs2 : ce ≤ 600000 ∧ sl ≤ 7302249 := by omega
  obtain ⟨r, hr, hre⟩ := y_low_nI (v := h >>> (12 &&& 31)) (n := 6) (by decide) (by decide)
  have lo := y_low (G := G) (mem := mem) (h >>> (12 &&& 31)) 6 (by decide)
  rw [show (6 : Int32) = nI 6 from rfl, hre] at lo
  have hu : 1 ≤ 1 + r ∧ 1 + r ≤ 6 := by omega
  have fx := gRoll_fix S (nI (1 + r)) n
  obtain ⟨m', hm', hI2⟩ := Iv_roll (u := 1 + r) hI hm
  have ht2 : t 2 = nI m := hR.t2.trans hI.gm
  have b4 := hLa.2
  refine E_iconst (v := 1) dL_law_879 (by decide) ?_
  refine E_iload dL_law_880 (by rfl) ?_
  refine E_bipush (v := 12) dL_law_882 (by decide) ?_
  refine E_ishr dL_law_884 ?_
  refine E_bipush (v := 6) dL_law_885 (by decide) ?_
  refine cs_L_law_887 (Nat.le_of_ble_eq_true rfl) hcs2 lo ?_
  refine E_iadd dL_law_890 ?_
  refine E_eqi (show (1 : Int32) + nI r = nI (1 + r) from nI_add 1 r) ?_
  refine E_istore dL_law_891 (Nat.le_of_ble_eq_true rfl) (by rfl) ?_
  refine E_aload dL_law_893 (by rfl) ?_
  refine E_iconst (v := 2) dL_law_895 (by decide) ?_
  refine E_rd dL_law_896 (by assumption) (show (2 : Int32) = nI 2 from rfl) (by omega) (by first | decide | omega) ht2 ?_
  refine E_istore dL_law_897 (Nat.le_of_ble_eq_true rfl) (by rfl) ?_
  refine E_aload_n dL_law_899 (by rfl) ?_
  refine E_aload_n dL_law_900 (by rfl) ?_
  refine E_aload dL_law_901 (by rfl) ?_
  refine E_aload dL_law_903 (by rfl) ?_
  refine E_iload dL_law_905 (by rfl) ?_
  refine cw_L_law_907 hcs (Nat.le_of_ble_eq_true rfl) (y_roll (by decide) (by decide) (by decide) (by decide) (by decide) hI hm hd hl hu hLa b1 b2 (hR.any m)) (fun m907 h907 => ?_)
  obtain ⟨c1, t1, g1, g2, g3⟩ := h907
  have hW1 := hW.fr g2 (by decide) (by decide)
  obtain ⟨v0, a0⟩ := hW1.a0
  refine E_pop dL_law_910 rfl ?_
  refine E_aload_n dL_law_911 (by rfl) ?_
  refine E_iload dL_law_912 (by rfl) ?_
  refine cp_L_law_914 (by assumption) (Nat.le_of_ble_eq_true rfl) (show ce + 1 ≤ 600000 ∧ sl + 6 ≤ 7302249 by omega) (w_roll hW1 hI hm hu) (fun m914 h914 => ?_)
  obtain ⟨j1, j2⟩ := h914
  have k1 := (j2 88 (by decide)).trans g1.1
  refine E_aload dL_law_917 (by rfl) ?_
  refine E_bipush (v := 6) dL_law_919 (by decide) ?_
  refine E_iload dL_law_921 (by rfl) ?_
  refine E_imul dL_law_923 ?_
  refine E_rd dL_law_924 (by assumption) (ix0 m) (by omega) (by first | decide | omega) (g3.pl m (by omega)) ?_
  refine E_icmp_ne (n := _) rfl (tgt := 932) dL_law_925 (by decide) (fun q925 => ?_) (fun q925 => ?_)
  · exact absurd rfl q925
  · refine E_iconst (v := 1) dL_law_928 (by decide) ?_
    refine E_goto (tgt := 933) dL_law_929 (by decide) ?_
    refine E_istore dL_law_933 (Nat.le_of_ble_eq_true rfl) (by rfl) ?_
    refine E_loc (zE nc e 1) ⟨rfl, rfl, rfl, rfl, rfl, rfl, rfl, rfl, rfl, trivial⟩ (kk _ ⟨gRoll S (nI (1 + r)) n, T, m', d, l, c1, t1, j1, ?_, hI2, by rw [fx.1]; exact hnc, by rw [fx.1]; exact hk6⟩)
    exact ⟨(j2 86 (by decide)).trans (g2.get b1 (by decide) (by decide)), (j2 87 (by decide)).trans (g2.get b2 (by decide) (by decide)), ⟨k1, (j2 89 (by decide)).trans g1.2⟩, hd.of fx.1, by unfold Ry; rw [fx.2.1]; exact hl, g3.any 0⟩
theorem z_take (hW : Wd mem S) (hL : Lw mem S d l c t) (hI : Iv S T n m) (hnc : nc = sCn (g_up (g_le S)) T) (hk6 : cN (g_up (g_le S)) T ≤ 6) (hst : st ≤ T) (hdn : ¬ (d st).toInt < 0) (hcs : ce + 1 ≤ 600000 ∧ sl + 6 ≤ 7302249) (kk : ∀ mm nc', StX mm nc' n → E G kL_law lR (ce + 1) (sl + 6) mm 935 (x_L (zE nc' e 1)) []) : E G kL_law lR ce sl mem 649 (x_L (zS nc e h st)) [] := by
  obtain ⟨b1, b2, hLa, hd, hl, hR⟩ := id hL
  have t60 := hI.t60
  have hcs2 : ce ≤ 600000 ∧ sl ≤ 7302249 := by omega
  have hlt : st < T := by
    by_cases z : st < T
    · exact z
    · exact absurd (by rw [hd.out hI (s := st) (by omega) (by omega)]; decide) hdn
  have hup := (up_d hI hd hlt).mpr hdn
  have hne : ¬ g_le S st = -6 := fun z => hdn ((hd.neg (by omega)).mpr z)
  have hde := hd.eq (by omega) hne
  have ecs : (nI st).toNatClampNeg = st := nI_clamp (by omega)
  have w1 := w_take_ok (G := G) hW hI hup (by rw [ecs, ← hde]; omega)
  rw [ecs, ← hde] at w1
  have hI2 := hI.take hlt
  have hd2 := hd.take (st := st) (by omega)
  have ct := car_take hI hlt hne
  obtain ⟨v0, a0⟩ := hW.a0
  have hnu : ¬ g_isUp (gTake S (nI st)) (nI st) := fun z => (up_d hI2 hd2 hlt).mp z (by rw [upd_same]; decide)
  refine E_aload_n dL_law_649 (by rfl) ?_
  refine E_iload dL_law_650 (by rfl) ?_
  refine cp_L_law_652 (by assumption) (Nat.le_of_ble_eq_true rfl) hcs2 w1 (fun m652 h652 => ?_)
  obtain ⟨g1, g2⟩ := h652
  have c1 := (g2 86 (by decide)).trans b1
  obtain ⟨v1, a1⟩ := g1.a0
  refine E_aload_n dL_law_655 (by rfl) ?_
  refine E_iload dL_law_656 (by rfl) ?_
  refine E_rd dL_law_658 (by assumption) rfl (by omega) (by first | decide | omega) rfl ?_
  refine E_icmp_ne (n := _) rfl (tgt := 676) dL_law_659 (by decide) (fun q659 => ?_) (fun q659 => ?_)
  · exact absurd rfl q659
  · refine E_aload_n dL_law_662 (by rfl) ?_
    refine E_iload dL_law_663 (by rfl) ?_
    refine cp_L_law_665 (by assumption) (Nat.le_of_ble_eq_true rfl) hcs2 (w_take_no g1 hI2 hnu) (fun m665 h665 => ?_)
    obtain ⟨g3, g4⟩ := h665
    have c2 := (g4 86 (by decide)).trans c1
    refine E_iconst (v := (-1)) dL_law_668 (by decide) ?_
    refine E_icmp_ne (n := (-1)) (by decide) (tgt := 676) dL_law_669 (by decide) (fun q669 => ?_) (fun q669 => ?_)
    · exact absurd rfl q669
    · refine E_iconst (v := 1) dL_law_672 (by decide) ?_
      refine E_goto (tgt := 677) dL_law_673 (by decide) ?_
      refine E_istore dL_law_677 (Nat.le_of_ble_eq_true rfl) (by rfl) ?_
      refine E_aload_n dL_law_679 (by rfl) ?_
      refine E_iload dL_law_680 (by rfl) ?_
      refine E_iconst (v := (-1)) dL_law_682 (by decide) ?_
      refine E_wr dL_law_683 (by assumption) rfl (by omega) (by first | decide | omega) ?_
      refine E_iinc (d := (-1)) dL_law_684 (by rfl) (by decide) (Nat.le_of_ble_eq_true rfl) (by rfl) ?_
      refine E_goto (tgt := 935) dL_law_687 (by decide) ?_
      refine E_widen (Nat.le_succ ce) (by omega) (E_loc (zE (nc + (-1)) e 1) ⟨rfl, rfl, rfl, rfl, rfl, rfl, rfl, rfl, rfl, trivial⟩ (kk _ _ ⟨gTake S (nI st), T, m, upd d st (-1), l, c, t, g3.fr (rc := 86) (rt := 86) Fr.setc (by decide) (by decide), ?_, hI2, by rw [ct.1, hnc], by omega⟩))
      exact ⟨x_get_same c2, x_get_set ((g4 87 (by decide)).trans ((g2 87 (by decide)).trans b2)) (by decide), ⟨x_get_set ((g4 88 (by decide)).trans ((g2 88 (by decide)).trans hLa.1)) (by decide), x_get_set ((g4 89 (by decide)).trans ((g2 89 (by decide)).trans hLa.2)) (by decide)⟩, hd2, hl, hR⟩
end C1
